section
-- ===== PART A: goes FIRST, ahead of the names: the tables' words, and 'selects' of the private methods out of them =====
/-- a private method of a class that the tables say can be made, by its rows of tables_1 -/
def lw_okq (q : MethodName × Nat) : Prop := (q.1.cls ≠ "java/lang/invoke/MethodHandle" ∧ q.1.cls ≠ "java/lang/invoke/VarHandle") ∧ Cond.instantiable q.1.cls q.2 ∈ tables_1 ∧ Cond.privateMethod q.1 ∈ tables_1 ∧ Cond.instanceMethod q.1 ∈ tables_1
theorem lw_p0 : lw_okq (⟨"StatueChancery", "requirePedestal", "(I)V"⟩, 13) := ⟨⟨by decide +kernel, by decide +kernel⟩, List.mem_of_getElem? (i := 43) (by decide +kernel), List.mem_of_getElem? (i := 41) (by decide +kernel), List.mem_of_getElem? (i := 42) (by decide +kernel)⟩
theorem lw_p1 : lw_okq (⟨"java/lang/Throwable", "fillInStackTrace", "(I)Ljava/lang/Throwable;"⟩, 6) := ⟨⟨by decide +kernel, by decide +kernel⟩, List.mem_of_getElem? (i := 94) (by decide +kernel), List.mem_of_getElem? (i := 92) (by decide +kernel), List.mem_of_getElem? (i := 93) (by decide +kernel)⟩
theorem lw_p2 : lw_okq (⟨"StatueChancery$Realm", "writArgumentFault", "(III)C"⟩, 8) := ⟨⟨by decide +kernel, by decide +kernel⟩, List.mem_of_getElem? (i := 288) (by decide +kernel), List.mem_of_getElem? (i := 286) (by decide +kernel), List.mem_of_getElem? (i := 287) (by decide +kernel)⟩
theorem lw_p3 : lw_okq (⟨"StatueChancery$Realm", "letNightPass", "()I"⟩, 8) := ⟨⟨by decide +kernel, by decide +kernel⟩, List.mem_of_getElem? (i := 288) (by decide +kernel), List.mem_of_getElem? (i := 340) (by decide +kernel), List.mem_of_getElem? (i := 341) (by decide +kernel)⟩
theorem lw_p4 : lw_okq (⟨"StatueChancery$Realm", "closeWithoutFine", "(I)V"⟩, 8) := ⟨⟨by decide +kernel, by decide +kernel⟩, List.mem_of_getElem? (i := 288) (by decide +kernel), List.mem_of_getElem? (i := 344) (by decide +kernel), List.mem_of_getElem? (i := 345) (by decide +kernel)⟩
theorem lw_p5 : lw_okq (⟨"StatueChancery$Writs", "dropCause", "(I)V"⟩, 8) := ⟨⟨by decide +kernel, by decide +kernel⟩, List.mem_of_getElem? (i := 358) (by decide +kernel), List.mem_of_getElem? (i := 356) (by decide +kernel), List.mem_of_getElem? (i := 357) (by decide +kernel)⟩
theorem lw_p6 : lw_okq (⟨"StatueChancery$Realm", "moveStatues", "()I"⟩, 8) := ⟨⟨by decide +kernel, by decide +kernel⟩, List.mem_of_getElem? (i := 288) (by decide +kernel), List.mem_of_getElem? (i := 361) (by decide +kernel), List.mem_of_getElem? (i := 362) (by decide +kernel)⟩
theorem lw_p7 : lw_okq (⟨"StatueChancery", "requireStatue", "(I)V"⟩, 13) := ⟨⟨by decide +kernel, by decide +kernel⟩, List.mem_of_getElem? (i := 43) (by decide +kernel), List.mem_of_getElem? (i := 395) (by decide +kernel), List.mem_of_getElem? (i := 396) (by decide +kernel)⟩
theorem lw_p8 : lw_okq (⟨"StatueChancery$Docket", "sort", "(LStatueChancery$Writs;)V"⟩, 2) := ⟨⟨by decide +kernel, by decide +kernel⟩, List.mem_of_getElem? (i := 424) (by decide +kernel), List.mem_of_getElem? (i := 422) (by decide +kernel), List.mem_of_getElem? (i := 423) (by decide +kernel)⟩
theorem lw_p9 : lw_okq (⟨"StatueChancery$Till", "fewestWith", "([III)I"⟩, 2) := ⟨⟨by decide +kernel, by decide +kernel⟩, List.mem_of_getElem? (i := 444) (by decide +kernel), List.mem_of_getElem? (i := 442) (by decide +kernel), List.mem_of_getElem? (i := 443) (by decide +kernel)⟩
theorem lw_p10 : lw_okq (⟨"StatueChancery$Realm", "dismissAll", "(I)V"⟩, 8) := ⟨⟨by decide +kernel, by decide +kernel⟩, List.mem_of_getElem? (i := 288) (by decide +kernel), List.mem_of_getElem? (i := 503) (by decide +kernel), List.mem_of_getElem? (i := 504) (by decide +kernel)⟩
theorem lw_p11 : lw_okq (⟨"StatueChancery$Till", "mostOnABestWay", "([III)I"⟩, 2) := ⟨⟨by decide +kernel, by decide +kernel⟩, List.mem_of_getElem? (i := 444) (by decide +kernel), List.mem_of_getElem? (i := 901) (by decide +kernel), List.mem_of_getElem? (i := 902) (by decide +kernel)⟩
theorem lw_p12 : lw_okq (⟨"StatueChancery$Script", "readCommand", "()Z"⟩, 6) := ⟨⟨by decide +kernel, by decide +kernel⟩, List.mem_of_getElem? (i := 731) (by decide +kernel), List.mem_of_getElem? (i := 1223) (by decide +kernel), List.mem_of_getElem? (i := 1224) (by decide +kernel)⟩
theorem lw_p13 : lw_okq (⟨"StatueChancery$Script", "likeliestCommand", "()LStatueChancery$Command;"⟩, 6) := ⟨⟨by decide +kernel, by decide +kernel⟩, List.mem_of_getElem? (i := 731) (by decide +kernel), List.mem_of_getElem? (i := 1227) (by decide +kernel), List.mem_of_getElem? (i := 1228) (by decide +kernel)⟩
theorem lw_p14 : lw_okq (⟨"StatueChancery$Script", "commonLength", "(Ljava/lang/String;)I"⟩, 6) := ⟨⟨by decide +kernel, by decide +kernel⟩, List.mem_of_getElem? (i := 731) (by decide +kernel), List.mem_of_getElem? (i := 1235) (by decide +kernel), List.mem_of_getElem? (i := 1236) (by decide +kernel)⟩
theorem lw_p15 : lw_okq (⟨"StatueChancery$Script", "signAt", "(I)C"⟩, 6) := ⟨⟨by decide +kernel, by decide +kernel⟩, List.mem_of_getElem? (i := 731) (by decide +kernel), List.mem_of_getElem? (i := 1241) (by decide +kernel), List.mem_of_getElem? (i := 1242) (by decide +kernel)⟩
def lw_privs_1 : List (MethodName × Nat) := [(⟨"StatueChancery", "requirePedestal", "(I)V"⟩, 13), (⟨"java/lang/Throwable", "fillInStackTrace", "(I)Ljava/lang/Throwable;"⟩, 6), (⟨"StatueChancery$Realm", "writArgumentFault", "(III)C"⟩, 8), (⟨"StatueChancery$Realm", "letNightPass", "()I"⟩, 8), (⟨"StatueChancery$Realm", "closeWithoutFine", "(I)V"⟩, 8), (⟨"StatueChancery$Writs", "dropCause", "(I)V"⟩, 8), (⟨"StatueChancery$Realm", "moveStatues", "()I"⟩, 8), (⟨"StatueChancery", "requireStatue", "(I)V"⟩, 13), (⟨"StatueChancery$Docket", "sort", "(LStatueChancery$Writs;)V"⟩, 2), (⟨"StatueChancery$Till", "fewestWith", "([III)I"⟩, 2), (⟨"StatueChancery$Realm", "dismissAll", "(I)V"⟩, 8), (⟨"StatueChancery$Till", "mostOnABestWay", "([III)I"⟩, 2), (⟨"StatueChancery$Script", "readCommand", "()Z"⟩, 6), (⟨"StatueChancery$Script", "likeliestCommand", "()LStatueChancery$Command;"⟩, 6), (⟨"StatueChancery$Script", "commonLength", "(Ljava/lang/String;)I"⟩, 6), (⟨"StatueChancery$Script", "signAt", "(I)C"⟩, 6)]
theorem lw_r1 : ∀ q ∈ lw_privs_1, lw_okq q := List.forall_mem_cons.mpr ⟨lw_p0, List.forall_mem_cons.mpr ⟨lw_p1, List.forall_mem_cons.mpr ⟨lw_p2, List.forall_mem_cons.mpr ⟨lw_p3, List.forall_mem_cons.mpr ⟨lw_p4, List.forall_mem_cons.mpr ⟨lw_p5, List.forall_mem_cons.mpr ⟨lw_p6, List.forall_mem_cons.mpr ⟨lw_p7, List.forall_mem_cons.mpr ⟨lw_p8, List.forall_mem_cons.mpr ⟨lw_p9, List.forall_mem_cons.mpr ⟨lw_p10, List.forall_mem_cons.mpr ⟨lw_p11, List.forall_mem_cons.mpr ⟨lw_p12, List.forall_mem_cons.mpr ⟨lw_p13, List.forall_mem_cons.mpr ⟨lw_p14, List.forall_mem_cons.mpr ⟨lw_p15, fun _ h => absurd h List.not_mem_nil⟩⟩⟩⟩⟩⟩⟩⟩⟩⟩⟩⟩⟩⟩⟩⟩
theorem lw_p16 : lw_okq (⟨"StatueChancery$Script", "readForm", "(Ljava/lang/String;)Z"⟩, 6) := ⟨⟨by decide +kernel, by decide +kernel⟩, List.mem_of_getElem? (i := 731) (by decide +kernel), List.mem_of_getElem? (i := 1255) (by decide +kernel), List.mem_of_getElem? (i := 1256) (by decide +kernel)⟩
theorem lw_p17 : lw_okq (⟨"StatueChancery$Script", "readPart", "(C)Z"⟩, 6) := ⟨⟨by decide +kernel, by decide +kernel⟩, List.mem_of_getElem? (i := 731) (by decide +kernel), List.mem_of_getElem? (i := 1259) (by decide +kernel), List.mem_of_getElem? (i := 1260) (by decide +kernel)⟩
theorem lw_p18 : lw_okq (⟨"StatueChancery$Script", "readNumber", "(I)Z"⟩, 6) := ⟨⟨by decide +kernel, by decide +kernel⟩, List.mem_of_getElem? (i := 731) (by decide +kernel), List.mem_of_getElem? (i := 1263) (by decide +kernel), List.mem_of_getElem? (i := 1264) (by decide +kernel)⟩
theorem lw_p19 : lw_okq (⟨"StatueChancery$Script", "readSign", "(C)Z"⟩, 6) := ⟨⟨by decide +kernel, by decide +kernel⟩, List.mem_of_getElem? (i := 731) (by decide +kernel), List.mem_of_getElem? (i := 1268) (by decide +kernel), List.mem_of_getElem? (i := 1269) (by decide +kernel)⟩
theorem lw_p20 : lw_okq (⟨"StatueChancery", "faultOf", "(LStatueChancery$Command;IIII)C"⟩, 13) := ⟨⟨by decide +kernel, by decide +kernel⟩, List.mem_of_getElem? (i := 43) (by decide +kernel), List.mem_of_getElem? (i := 1328) (by decide +kernel), List.mem_of_getElem? (i := 1329) (by decide +kernel)⟩
theorem lw_p21 : lw_okq (⟨"StatueChancery", "carryOut", "(LStatueChancery$Command;IIII)V"⟩, 13) := ⟨⟨by decide +kernel, by decide +kernel⟩, List.mem_of_getElem? (i := 43) (by decide +kernel), List.mem_of_getElem? (i := 1343) (by decide +kernel), List.mem_of_getElem? (i := 1344) (by decide +kernel)⟩
theorem lw_p22 : lw_okq (⟨"StatueChancery$Docket", "giveUpSmallest", "(I)I"⟩, 2) := ⟨⟨by decide +kernel, by decide +kernel⟩, List.mem_of_getElem? (i := 424) (by decide +kernel), List.mem_of_getElem? (i := 1390) (by decide +kernel), List.mem_of_getElem? (i := 1391) (by decide +kernel)⟩
theorem lw_p23 : lw_okq (⟨"StatueChancery", "positionOf", "(I)I"⟩, 13) := ⟨⟨by decide +kernel, by decide +kernel⟩, List.mem_of_getElem? (i := 43) (by decide +kernel), List.mem_of_getElem? (i := 1419) (by decide +kernel), List.mem_of_getElem? (i := 1420) (by decide +kernel)⟩
theorem lw_p24 : lw_okq (⟨"StatueChancery$Leaps", "doubleLeaps", "(I)V"⟩, 2) := ⟨⟨by decide +kernel, by decide +kernel⟩, List.mem_of_getElem? (i := 691) (by decide +kernel), List.mem_of_getElem? (i := 1479) (by decide +kernel), List.mem_of_getElem? (i := 1480) (by decide +kernel)⟩
theorem lw_p25 : lw_okq (⟨"StatueChancery$Till", "markReachable", "([I)V"⟩, 2) := ⟨⟨by decide +kernel, by decide +kernel⟩, List.mem_of_getElem? (i := 444) (by decide +kernel), List.mem_of_getElem? (i := 1525) (by decide +kernel), List.mem_of_getElem? (i := 1526) (by decide +kernel)⟩
theorem lw_p26 : lw_okq (⟨"StatueChancery$Docket", "valueOfSet", "(LStatueChancery$Writs;II)I"⟩, 2) := ⟨⟨by decide +kernel, by decide +kernel⟩, List.mem_of_getElem? (i := 424) (by decide +kernel), List.mem_of_getElem? (i := 1540) (by decide +kernel), List.mem_of_getElem? (i := 1541) (by decide +kernel)⟩
theorem lw_p27 : lw_okq (⟨"StatueChancery", "arrowsAgree", "()Z"⟩, 13) := ⟨⟨by decide +kernel, by decide +kernel⟩, List.mem_of_getElem? (i := 43) (by decide +kernel), List.mem_of_getElem? (i := 1568) (by decide +kernel), List.mem_of_getElem? (i := 1569) (by decide +kernel)⟩
theorem lw_p28 : lw_okq (⟨"StatueChancery", "docketsAgree", "()Z"⟩, 13) := ⟨⟨by decide +kernel, by decide +kernel⟩, List.mem_of_getElem? (i := 43) (by decide +kernel), List.mem_of_getElem? (i := 1572) (by decide +kernel), List.mem_of_getElem? (i := 1573) (by decide +kernel)⟩
theorem lw_p29 : lw_okq (⟨"StatueChancery", "blocksAgree", "()Z"⟩, 13) := ⟨⟨by decide +kernel, by decide +kernel⟩, List.mem_of_getElem? (i := 43) (by decide +kernel), List.mem_of_getElem? (i := 1576) (by decide +kernel), List.mem_of_getElem? (i := 1577) (by decide +kernel)⟩
def lw_privs_2 : List (MethodName × Nat) := [(⟨"StatueChancery$Script", "readForm", "(Ljava/lang/String;)Z"⟩, 6), (⟨"StatueChancery$Script", "readPart", "(C)Z"⟩, 6), (⟨"StatueChancery$Script", "readNumber", "(I)Z"⟩, 6), (⟨"StatueChancery$Script", "readSign", "(C)Z"⟩, 6), (⟨"StatueChancery", "faultOf", "(LStatueChancery$Command;IIII)C"⟩, 13), (⟨"StatueChancery", "carryOut", "(LStatueChancery$Command;IIII)V"⟩, 13), (⟨"StatueChancery$Docket", "giveUpSmallest", "(I)I"⟩, 2), (⟨"StatueChancery", "positionOf", "(I)I"⟩, 13), (⟨"StatueChancery$Leaps", "doubleLeaps", "(I)V"⟩, 2), (⟨"StatueChancery$Till", "markReachable", "([I)V"⟩, 2), (⟨"StatueChancery$Docket", "valueOfSet", "(LStatueChancery$Writs;II)I"⟩, 2), (⟨"StatueChancery", "arrowsAgree", "()Z"⟩, 13), (⟨"StatueChancery", "docketsAgree", "()Z"⟩, 13), (⟨"StatueChancery", "blocksAgree", "()Z"⟩, 13)]
theorem lw_r2 : ∀ q ∈ lw_privs_2, lw_okq q := List.forall_mem_cons.mpr ⟨lw_p16, List.forall_mem_cons.mpr ⟨lw_p17, List.forall_mem_cons.mpr ⟨lw_p18, List.forall_mem_cons.mpr ⟨lw_p19, List.forall_mem_cons.mpr ⟨lw_p20, List.forall_mem_cons.mpr ⟨lw_p21, List.forall_mem_cons.mpr ⟨lw_p22, List.forall_mem_cons.mpr ⟨lw_p23, List.forall_mem_cons.mpr ⟨lw_p24, List.forall_mem_cons.mpr ⟨lw_p25, List.forall_mem_cons.mpr ⟨lw_p26, List.forall_mem_cons.mpr ⟨lw_p27, List.forall_mem_cons.mpr ⟨lw_p28, List.forall_mem_cons.mpr ⟨lw_p29, fun _ h => absurd h List.not_mem_nil⟩⟩⟩⟩⟩⟩⟩⟩⟩⟩⟩⟩⟩⟩
def lw_privs : List (MethodName × Nat) := lw_privs_1 ++ (lw_privs_2)
def lw_tbl : List Cond := k2_sels lw_privs ++ tables_1
theorem lw_privs_ok : ∀ q ∈ lw_privs, lw_okq q := by
  show ∀ q ∈ lw_privs_1 ++ (lw_privs_2), lw_okq q
  exact List.forall_mem_append.mpr ⟨lw_r1, lw_r2⟩
-- ===== end of PART A; then your names; then what follows =====
/-! ===== BEGIN words of one list among another's, by their places ===== -/
theorem goodIn_r {big : List Cond} (ws : List Cond) (ps : List Nat) (hp : ws = ps.filterMap (fun i => big[i]?)) (h : ws.all goodWord = true) : GoodIn big ws := by
  intro w hw
  have h1 := List.all_eq_true.mp h w hw
  rw [hp] at hw
  obtain ⟨i, -, hi⟩ := List.mem_filterMap.mp hw
  have hm : w ∈ big := by first | exact List.mem_of_getElem? hi | exact List.getElem?_mem hi
  exact ⟨hm, good_of_word h1⟩
theorem goodIn_app {big a b : List Cond} (ha : GoodIn big a) (hb : GoodIn big b) : GoodIn big (a ++ b) := fun w h => (List.mem_append.mp h).elim (ha w) (hb w)
theorem goodIn_ca {big a b : List Cond} {c : Cond} (ha : GoodIn big (c :: a)) (hb : GoodIn big b) : GoodIn big (c :: (a ++ b)) := fun w h => (List.mem_cons.mp h).elim (fun e => ha w (List.mem_cons.mpr (Or.inl e))) (fun h => (List.mem_append.mp h).elim (fun h => ha w (List.mem_cons.mpr (Or.inr h))) (hb w))
theorem goodIn_sub {big ws : List Cond} (hm : ∀ w ∈ ws, w ∈ big) (h : ws.all goodWord = true) : GoodIn big ws := fun w hw => ⟨hm w hw, good_of_word (List.all_eq_true.mp h w hw)⟩
/-! ===== END ===== -/


/-! ===== BEGIN exceptions that leave a method, and their catching by the caller (launches without stack traces) ===== -/
section VXA
/-! The laws vx_back, vx_callV, vx_callS, vx_callSW, vx_throw0, vx_throwS follow proofs of the library, with one case more: JvmDerived/Free/Laws.lean (Back.of_free), Shelf42/LK1.lean (callV, callS), Shelf/KitTraced.lean (throwNew0V, throwNewS). -/
/-- where a method has thrown q: the class by its name, the cell, what was written, the world -/
def vx_T (XC : String → State → State → Prop) (st : State) (q : Addr) (t : State) (mc ms : Nat) (free : Addr → Prop) : Prop :=
  ∃ (E : String) (ce : Cell) (L : List Loc), XC E st t ∧ t.heap[q]? = some ce ∧ ce.vm = .none ∧ st.vm.findClass E = some ce.cls ∧ st.WarmedH t.vm ∧ st.sameButNew ({ t with vm := st.vm } : State) L mc ms ∧ ∀ z ∈ L, free z.base
def vx_Q (Qc : Array Value → State → Outcome → State → Prop) (XC : String → State → State → Prop) (mc ms : Nat) (free : Addr → Prop) : Array Value → State → Outcome → State → Prop := fun a st o t =>
  (Qc a st o t ∧ ∃ L, FrameEnd st o t L mc ms ∧ ∀ q ∈ L, free q.base) ∨ ∃ q, o = .threw q ∧ vx_T XC st q t mc ms free
/-- a callee that returns or throws -/
def vx_Met (l : Launch) (y : MethodName) (ws : List Cond) (rm : Room) (Pc : Array Value → State → Prop) (Qc : Array Value → State → Outcome → State → Prop) (XC : String → State → State → Prop) (mc ms : Nat) (free : Addr → Prop) : Prop :=
  MetFree l y (headSpec ws rm) Pc (fun _ _ _ _ _ => True) (vx_Q Qc XC mc ms free)
def vx_Post (XC : String → State → State → Prop) (mc ms : Nat) (free : Addr → Prop) : Pt → Array Value → Addr → Pt → Prop := fun A a q B =>
  ∃ (g : JFrame) (mk : MethodId) (t : State) (L : List Loc) (E : String) (ce : Cell), B.U.heap = t.heap ∧ B.U.vm = t.vm ∧ XC E (A.U.calling g mk a) t ∧ t.heap[q]? = some ce ∧ ce.vm = .none ∧ A.U.vm.findClass E = some ce.cls ∧ B.locs = A.locs ++ L ∧ (∀ z ∈ L, free z.base) ∧ B.cells = A.cells + mc ∧ B.slots = A.slots + ms
def vx_Back (l : Launch) (R : Room) (p : Program) (e : Env) (below : List Frame) (s : State) (sargs : Array Value) (y : MethodName) (len W9 : Nat)
    (Pre : Pt → Array Value → Prop) (Post : Pt → Array Value → Option Value → Pt → Prop) (PostX : Pt → Array Value → Addr → Pt → Prop) : Prop :=
  ∀ (m : MethodId) (meth : Method) (c : Code) (A : Pt) (g : JFrame) (ig : Instr) (mk : MethodId) (a : Array Value),
    Stand p l e R s m sargs below meth c A.U A.locs A.cells A.slots → g.method = m → g.locals.size = c.maxLocals → decode c.code g.pc = .ok (ig, len) →
    2 * g.monitorRoom + (g.stack.map fun v => v.category).sum ≤ W9 → A.U.methodNamed? y = some mk → Pre A a →
    (∃ (v : Option Value) (B : Pt), Stand p l e R s m sargs below meth c B.U B.locs B.cells B.slots ∧ Post A a v B ∧
      Steps p.tables e below (doInvoke e (A.U.setTop g) [] mk a).1 (B.U.setTop { g with pc := g.pc + len, stack := v.toList ++ g.stack })) ∨
    (∃ (q : Addr) (B : Pt), Stand p l e R s m sargs below meth c B.U B.locs B.cells B.slots ∧ PostX A a q B ∧
      Steps p.tables e below (doInvoke e (A.U.setTop g) [] mk a).1 ((B.U.setTop g).pushFrame (.throwing q)))
section Payer
variable {l : Launch} {R : Room} {p : Program} {e : Env} {below : List Frame} {s : State} {sargs : Array Value} {y : MethodName} {len W9 : Nat}
theorem vx_back {ws : List Cond} {rm : Room} {Pc : Array Value → State → Prop} {Qc : Array Value → State → Outcome → State → Prop} {XC : String → State → State → Prop} {mc ms : Nat} {free : Addr → Prop} {bytes : ByteArray} {maxL : Nat} {ret : Option FieldType}
    (hM : vx_Met l y ws rm Pc Qc XC mc ms free) (hblind : FrameBlind Pc) (hrc : rm.cells = mc) (hrs : rm.slots = ms)
    (hframes : rm.frames + 1 ≤ R.frames) (hlocals : W9 + (maxL + 11) + rm.locals ≤ R.locals)
    (hws : ∀ w ∈ ws, ∀ a' U, s.WarmedH U.vm → w.before a' U = true) (hcode : Cond.code y bytes maxL ret ∈ ws) (hinit : ∀ a' U, s.WarmedH U.vm → (Cond.initialized y.cls).before a' U = true) :
    vx_Back l R p e below s sargs y len W9 (PreOf R mc ms Pc) (PostOf Qc mc ms free) (vx_Post XC mc ms free) := by
  intro m meth c A g ig mk a X hg hsize hdg hW hn hp
  have h1 : (headSpec ws rm).pre.before a A.U = true := atoms_intro fun w hw => hws w hw _ _ X.warmed
  have h2 : (Cond.code y bytes maxL ret).before a A.U = true := hws _ hcode _ _ X.warmed
  have h3 : (Cond.initialized y.cls).before a A.U = true := hinit _ _ X.warmed
  have h4 : A.cells + (headSpec ws rm).room.cells ≤ R.cells := by rw [show (headSpec ws rm).room.cells = mc from hrc]; exact hp.1
  have h5 : A.slots + (headSpec ws rm).room.slots ≤ R.slots := by rw [show (headSpec ws rm).room.slots = ms from hrs]; exact hp.2.1
  have hPc : Pc a (A.U.calling g mk a) := hblind _ _ _ _ hp.2.2
  obtain ⟨U, Ls, c0, s0⟩ := A
  dsimp only [Pt.U, Pt.locs, Pt.cells, Pt.slots] at h1 h2 h3 h4 h5 X hn hPc ⊢
  obtain ⟨methY, cY, hmY, hcY, -, hlY, -, -, -, -⟩ := Cond.code_spec hn h2
  obtain ⟨kY, hkY, -⟩ := className_of_methodNamed hn
  have hinitY : kY.init = .initialized := Cond.initialized_spec (findClass_of_methodNamed hn) hkY h3
  have h : At U g.method c below := by rw [hg]; exact X.here
  have hlocals9 : W9 + (maxL + 11) + (headSpec ws rm).room.locals ≤ R.locals := hlocals
  have happ : (headSpec ws rm).appliesLoose y e.platform (U.calling g mk a) = true :=
    Spec.appliesLoose_calling (g := g) h hdg hn hkY hinitY
      (X.room_calling (g := g) (R' := (headSpec ws rm).room) hsize hmY hcY hframes (by rw [hlY]; omega) h4 h5) h1
  obtain ⟨mid, hmid⟩ := h.above
  have hfr : (U.setTop g).frames = (.java g :: mid) ++ below := by rw [State.frames_setTop' g h.top, hmid]; rfl
  obtain ⟨o, s₂, hsteps, -, hend, hq⟩ := Steps.callFree hM p X.admits X.cas X.clock (acts := []) hfr happ hPc trivial
  have hq' : vx_Q Qc XC mc ms free a (U.calling g mk a) o s₂ := hq
  rw [State.frames_setTop' g h.top] at hend
  obtain ⟨g₀, hg0⟩ := Option.isSome_iff_exists.mp h.top
  obtain ⟨r, hr⟩ := State.topJava?_eq_some.mp hg0
  have hr' : (({ U with heap := s₂.heap, slotsUsed := s₂.slotsUsed } : State).setVm s₂.vm).frames = .java g₀ :: r := hr
  rcases hq' with ⟨hqc, L, hfe, hL⟩ | ⟨q, rfl, E, ce, L, hx, hce, hcv, hcl, hW₂, hsm, hL⟩
  · obtain ⟨⟨v, rfl⟩, hW₂, e2, q2, q3, q4, q5, q6⟩ := id hfe
    have e3 : s₂ = ({ (U.calling g mk a).setFrames s₂.frames with heap := s₂.heap, slotsUsed := s₂.slotsUsed } : State).setVm s₂.vm := by
      have : s₂ = ({ s₂ with vm := (U.calling g mk a).vm } : State).setVm s₂.vm := rfl
      rw [e2] at this
      exact this
    obtain ⟨c₂, i₂, len₂, hc₂, hd₂, hf₂⟩ := hend
    have hW' : U.WarmedH s₂.vm := hW₂
    have hcc : c₂ = c := by
      have h1 : s₂.code? g.method = U.code? g.method := by
        rw [State.code?_eq, State.code?_eq, hW'.alike.method?]
      exact Option.some.inj (hc₂.symm.trans (h1.trans h.code))
    subst hcc
    have hlen : len₂ = len := by rw [hdg] at hd₂; cases hd₂; rfl
    subst hlen
    have hs₂ : s₂ = (({ U with heap := s₂.heap, slotsUsed := s₂.slotsUsed } : State).setVm s₂.vm).setTop { g with pc := g.pc + len₂, stack := v.toList ++ g.stack } := by
      refine e3.trans ?_
      rw [hf₂, State.calling_eq h.top, State.setFrames_setFrames, State.setTop_of_frames _ hr', hr]
      rfl
    have hsame : U.sameButNew ({ U with heap := s₂.heap, slotsUsed := s₂.slotsUsed } : State) L mc ms := by
      refine ⟨?_, q2, q3, q4, q5, q6⟩
      obtain ⟨t, ht, -⟩ := State.frames_cons hr
      show ({ U with heap := s₂.heap, slotsUsed := s₂.slotsUsed } : State) = { U.setFrames U.frames with heap := s₂.heap, slotsUsed := s₂.slotsUsed }
      rw [State.setFrames_self ht]
    subst hg
    refine Or.inl ⟨v, ⟨(({ U with heap := s₂.heap, slotsUsed := s₂.slotsUsed } : State).setVm s₂.vm), Ls ++ L, c0 + mc, s0 + ms⟩,
      ⟨X.admits, X.cas, X.clock, X.frames, X.room, X.hears, X.method, X.code, (X.here.setHeapUsed s₂.heap s₂.slotsUsed).setVm hW'.alike, X.tail, State.WarmedH.trans X.warmed hW', X.limits, X.bytes, X.same.trans (hsame.setVm s.vm)⟩,
      ⟨g, mk, s₂, L, rfl, rfl, hqc, rfl, hL, rfl, rfl⟩, ?_⟩
    show Steps p.tables e below _ ((({ U with heap := s₂.heap, slotsUsed := s₂.slotsUsed } : State).setVm s₂.vm).setTop { g with pc := g.pc + len₂, stack := v.toList ++ g.stack })
    rw [← hs₂]
    exact hsteps
  · obtain ⟨e2, q2, q3, q4, q5, q6⟩ := id hsm
    have e3 : s₂ = ({ (U.calling g mk a).setFrames s₂.frames with heap := s₂.heap, slotsUsed := s₂.slotsUsed } : State).setVm s₂.vm := by
      have : s₂ = ({ s₂ with vm := (U.calling g mk a).vm } : State).setVm s₂.vm := rfl
      rw [e2] at this
      exact this
    have hf₂ : s₂.frames = .throwing q :: .java g :: U.frames.tail := hend
    have hW' : U.WarmedH s₂.vm := hW₂
    have hs₂ : s₂ = ((({ U with heap := s₂.heap, slotsUsed := s₂.slotsUsed } : State).setVm s₂.vm).setTop g).pushFrame (.throwing q) := by
      refine e3.trans ?_
      rw [hf₂, State.calling_eq h.top, State.setFrames_setFrames, State.pushFrame, State.frames_setTop _ hr', State.setTop_of_frames _ hr', State.setFrames_setFrames, hr]
      rfl
    have hsame : U.sameButNew ({ U with heap := s₂.heap, slotsUsed := s₂.slotsUsed } : State) L mc ms := by
      refine ⟨?_, q2, q3, q4, q5, q6⟩
      obtain ⟨t, ht, -⟩ := State.frames_cons hr
      show ({ U with heap := s₂.heap, slotsUsed := s₂.slotsUsed } : State) = { U.setFrames U.frames with heap := s₂.heap, slotsUsed := s₂.slotsUsed }
      rw [State.setFrames_self ht]
    subst hg
    refine Or.inr ⟨q, ⟨(({ U with heap := s₂.heap, slotsUsed := s₂.slotsUsed } : State).setVm s₂.vm), Ls ++ L, c0 + mc, s0 + ms⟩,
      ⟨X.admits, X.cas, X.clock, X.frames, X.room, X.hears, X.method, X.code, (X.here.setHeapUsed s₂.heap s₂.slotsUsed).setVm hW'.alike, X.tail, State.WarmedH.trans X.warmed hW', X.limits, X.bytes, X.same.trans (hsame.setVm s.vm)⟩,
      ⟨g, mk, s₂, L, E, ce, rfl, rfl, hx, hce, hcv, hcl, rfl, hL, rfl, rfl⟩, ?_⟩
    show Steps p.tables e below _ (((({ U with heap := s₂.heap, slotsUsed := s₂.slotsUsed } : State).setVm s₂.vm).setTop g).pushFrame (.throwing q))
    rw [← hs₂]
    exact hsteps
end Payer
section Calls
variable {p : Program} {l : Launch} {e : Env} {R : Room} {s : State} {m : MethodId} {args : Array Value} {below : List Frame} {meth : Method} {c : Code} {T : State} {locs : List Loc} {cells slots : Nat}
theorem vx_callV (X : Stand p l e R s m args below meth c T locs cells slots) (hexec : p.tables.exec = Jvm.exec) {own C : String} {index : Nat} {y : MethodName} {bytes : ByteArray} {maxL : Nat} {ret : Option FieldType}
    (hown : s.vm.findClass own = some m.cls) (hlink : (Cond.methodLink own index y).before args s = true) (hinst : (Cond.instanceMethod y).before args s = true) (hsel : (Cond.selects C y y).before args s = true)
    (hcode : (Cond.code y bytes maxL ret).before args s = true) (hy : y.cls ≠ "java/lang/invoke/MethodHandle" ∧ y.cls ≠ "java/lang/invoke/VarHandle")
    {W9 : Nat} {Pre : Pt → Array Value → Prop} {Post : Pt → Array Value → Option Value → Pt → Prop} {PostX : Pt → Array Value → Addr → Pt → Prop} (hK : vx_Back l R p e below s args y 3 W9 Pre Post PostX)
    {b : Addr} {cellB : Cell} (hcell : T.heap[b]? = some cellB) (hobj : cellB.vm.isStatics = false) (hcls : s.vm.findClass C = some cellB.cls)
    {g : JFrame} (hg : g.method = m) (hsize : g.locals.size = c.maxLocals) {argsL rest : List Value} (hlen : ∀ sig, parseMethodDescriptor y.desc = some sig → argsL.length = sig.parameters.length)
    (hstack : g.stack = argsL.reverse ++ .ref b :: rest) (hW : 2 * g.monitorRoom + (rest.map fun v => v.category).sum ≤ W9) (hdg : decode c.code g.pc = .ok (.invokevirtual index, 3))
    (hpre : ∀ vm₁, s.WarmedH vm₁ → Pre ⟨T.setVm vm₁, locs, cells, slots⟩ (Value.ref b :: argsL).toArray) :
    (∃ (v : Option Value) (vm₁ : Vm) (B : Pt), s.WarmedH vm₁ ∧ Stand p l e R s m args below meth c B.U B.locs B.cells B.slots ∧ Post ⟨T.setVm vm₁, locs, cells, slots⟩ (Value.ref b :: argsL).toArray v B ∧
      ∀ target, Steps p.tables e below (B.U.setTop { g with pc := g.pc + 3, stack := v.toList ++ rest }) target → Steps p.tables e below (T.setTop g) target) ∨
    (∃ (q : Addr) (vm₁ : Vm) (B : Pt), s.WarmedH vm₁ ∧ Stand p l e R s m args below meth c B.U B.locs B.cells B.slots ∧ PostX ⟨T.setVm vm₁, locs, cells, slots⟩ (Value.ref b :: argsL).toArray q B ∧
      Steps p.tables e below (T.setTop g) ((B.U.setTop { g with stack := rest }).pushFrame (.throwing q))) := by
  obtain ⟨mk, methM, hnamed, hmethM, hstM, habM⟩ := Cond.instanceMethod_spec hinst
  obtain ⟨methM', cM, hmethM', -, -, -, -, -, -, hsigM⟩ := Cond.code_spec hnamed hcode
  cases hmethM.symm.trans hmethM'
  obtain ⟨c2, r2, m2, q1, q2, q3, q4, kP, hkP, hkPi⟩ := Cond.selects_spec hsel
  cases hcls.symm.trans q1
  cases (State.methodFound?_of_named hnamed hy).symm.trans q2
  cases hnamed.symm.trans q3
  have hselP : selectMethod e.platform s.vm cellB.cls mk = .method mk := by rw [Launch.admits_selectMethod X.admits]; exact q4
  obtain ⟨vm₁, X₁, hstep₁⟩ := X.invokevirtual hexec hown hlink hnamed hmethM hstM hkP hkPi hy (a := b) (cell := cellB) hcell
    (fun z h => by rw [h] at hobj; cases hobj) hselP hmethM habM hkP hkPi (g := g) hg (argsL := argsL) (rest := rest) (hlen _ hsigM) hstack hdg
  rcases hK m meth c ⟨T.setVm vm₁, locs, cells, slots⟩ { g with stack := rest } (.invokevirtual index) mk (Value.ref b :: argsL).toArray X₁ hg hsize hdg hW (X₁.named hnamed) (hpre vm₁ X₁.warmed) with ⟨v, B, X', hpost, hsteps⟩ | ⟨q, B, X', hpost, hsteps⟩
  · exact Or.inl ⟨v, vm₁, B, X₁.warmed, X', hpost, fun target h => hstep₁ _ fun acts => by rw [doInvoke_state]; exact hsteps.trans h⟩
  · exact Or.inr ⟨q, vm₁, B, X₁.warmed, X', hpost, hstep₁ _ fun acts => by rw [doInvoke_state]; exact hsteps⟩
theorem vx_callS (X : Stand p l e R s m args below meth c T locs cells slots) (hexec : p.tables.exec = Jvm.exec) {own : String} {index : Nat} {y : MethodName} {bytes : ByteArray} {maxL : Nat} {ret : Option FieldType}
    (hown : s.vm.findClass own = some m.cls) (hlink : (Cond.methodLink own index y).before args s = true) (hstat : (Cond.static y).before args s = true) (hinit : (Cond.initialized y.cls).before args s = true)
    (hcode : (Cond.code y bytes maxL ret).before args s = true) (hy : y.cls ≠ "java/lang/invoke/MethodHandle" ∧ y.cls ≠ "java/lang/invoke/VarHandle")
    {W9 : Nat} {Pre : Pt → Array Value → Prop} {Post : Pt → Array Value → Option Value → Pt → Prop} {PostX : Pt → Array Value → Addr → Pt → Prop} (hK : vx_Back l R p e below s args y 3 W9 Pre Post PostX)
    {g : JFrame} (hg : g.method = m) (hsize : g.locals.size = c.maxLocals) {argsL rest : List Value} (hlen : ∀ sig, parseMethodDescriptor y.desc = some sig → argsL.length = sig.parameters.length)
    (hstack : g.stack = argsL.reverse ++ rest) (hW : 2 * g.monitorRoom + (rest.map fun v => v.category).sum ≤ W9) (hdg : decode c.code g.pc = .ok (.invokestatic index, 3))
    (hpre : ∀ vm₁, s.WarmedH vm₁ → Pre ⟨T.setVm vm₁, locs, cells, slots⟩ argsL.toArray) :
    (∃ (v : Option Value) (vm₁ : Vm) (B : Pt), s.WarmedH vm₁ ∧ Stand p l e R s m args below meth c B.U B.locs B.cells B.slots ∧ Post ⟨T.setVm vm₁, locs, cells, slots⟩ argsL.toArray v B ∧
      ∀ target, Steps p.tables e below (B.U.setTop { g with pc := g.pc + 3, stack := v.toList ++ rest }) target → Steps p.tables e below (T.setTop g) target) ∨
    (∃ (q : Addr) (vm₁ : Vm) (B : Pt), s.WarmedH vm₁ ∧ Stand p l e R s m args below meth c B.U B.locs B.cells B.slots ∧ PostX ⟨T.setVm vm₁, locs, cells, slots⟩ argsL.toArray q B ∧
      Steps p.tables e below (T.setTop g) ((B.U.setTop { g with stack := rest }).pushFrame (.throwing q))) := by
  obtain ⟨mk, hnamed⟩ := Cond.code_named hcode
  obtain ⟨methM, cM, hmethM, -, -, -, -, -, -, hsigM⟩ := Cond.code_spec hnamed hcode
  have hstatic : methM.isStatic = true := Cond.static_spec hnamed hmethM hstat
  obtain ⟨kP, hkP, -⟩ := className_of_methodNamed hnamed
  have hinitP : kP.init = .initialized := Cond.initialized_spec (findClass_of_methodNamed hnamed) hkP hinit
  obtain ⟨vm₁, X₁, hstep₁⟩ := X.invokestatic hexec hown hlink hnamed hmethM hstatic hkP hinitP hy (g := g) hg (argsL := argsL) (rest := rest) (hlen _ hsigM) hstack hdg
  rcases hK m meth c ⟨T.setVm vm₁, locs, cells, slots⟩ { g with stack := rest } (.invokestatic index) mk argsL.toArray X₁ hg hsize hdg hW (X₁.named hnamed) (hpre vm₁ X₁.warmed) with ⟨v, B, X', hpost, hsteps⟩ | ⟨q, B, X', hpost, hsteps⟩
  · exact Or.inl ⟨v, vm₁, B, X₁.warmed, X', hpost, fun target h => hstep₁ _ fun acts => by rw [doInvoke_state]; exact hsteps.trans h⟩
  · exact Or.inr ⟨q, vm₁, B, X₁.warmed, X', hpost, hstep₁ _ fun acts => by rw [doInvoke_state]; exact hsteps⟩
end Calls
theorem vx_cls {s : State} {T : State} {vm₁ : Vm} {E : String} {k : ClassId} (hW : s.WarmedH vm₁) (h : (T.setVm vm₁).vm.findClass E = some k) : s.vm.findClass E = some k := by
  have h1 : vm₁.findClass E = some k := h
  rw [hW.alike.findClass] at h1
  exact h1
/-- the method's frame g, with q thrown over it -/
def vx_W (p : Program) (l : Launch) (e : Env) (R : Room) (s : State) (m : MethodId) (args : Array Value) (below : List Frame) (meth : Method) (c : Code) (H : Heap) (locs : List Loc) (cells slots : Nat) (Q : State → Prop) (g : JFrame) (q : Addr) : Prop :=
  ∀ T : State, T.heap = H → Stand p l e R s m args below meth c T locs cells slots → ∃ t, Steps p.tables e below ((T.setTop g).pushFrame (.throwing q)) t ∧ Q t
def vx_Run (p : Program) (l : Launch) (e : Env) (R : Room) (s : State) (m : MethodId) (args : Array Value) (below : List Frame) (meth : Method) (c : Code) (H : Heap) (locs : List Loc) (cells slots mc ms : Nat) (g : JFrame) (rest : List Value) (Qa : State → Outcome → State → Prop) (XC : String → State → State → Prop) (free : Addr → Prop) : Prop :=
  ∀ T : State, T.heap = H → Stand p l e R s m args below meth c T locs cells slots →
    (∃ (v : Option Value) (st₀ t T' : State) (L : List Loc), st₀.heap = H ∧ Stand p l e R s m args below meth c T' (locs ++ L) (cells + mc) (slots + ms) ∧ (∀ q ∈ L, free q.base) ∧ T'.heap = t.heap ∧ T'.vm = t.vm ∧ Qa st₀ (.returned v) t ∧
      Goes p e below T g T' { g with pc := g.pc + 3, stack := v.toList ++ rest }) ∨
    (∃ (q : Addr) (st₀ t T' : State) (L : List Loc) (E : String) (ce : Cell), st₀.heap = H ∧ Stand p l e R s m args below meth c T' (locs ++ L) (cells + mc) (slots + ms) ∧ (∀ z ∈ L, free z.base) ∧ T'.heap = t.heap ∧ T'.vm = t.vm ∧ XC E st₀ t ∧ t.heap[q]? = some ce ∧ ce.vm = .none ∧ s.vm.findClass E = some ce.cls ∧
      Steps p.tables e below (T.setTop g) ((T'.setTop { g with stack := rest }).pushFrame (.throwing q)))
def vx_X {S : Type} (px : S → Prop) (B : String → S → State → Prop) (A : Nat → Prop) : String → State → State → Prop := fun E st t => ∃ u : S, px u ∧ B E u t ∧ va_F A st t
section Runs
variable {p : Program} {l : Launch} {e : Env} {R : Room} {s : State} {m : MethodId} {args : Array Value} {below : List Frame} {meth : Method} {c : Code} {H : Heap} {locs : List Loc} {cells slots : Nat}
variable {y : MethodName} {bytes cc : ByteArray} {maxL nL mc ms n index : Nat} {ret : Option FieldType} {ws : List Cond} {rm : Room} {Pc : Array Value → State → Prop} {Qc : Array Value → State → Outcome → State → Prop} {XC : String → State → State → Prop} {free : Addr → Prop} {Ts : List Cond} {own C : String} {b : Addr} {As rest : List Value} {g : JFrame}
theorem vx_callBack (cb : CallB R s args own index y bytes maxL ret ws rm mc ms n) (hM : vx_Met l y ws rm Pc Qc XC mc ms free) (hbl : FrameBlind Pc) : vx_Back l R p e below s args y 3 8 (PreOf R mc ms Pc) (PostOf Qc mc ms free) (vx_Post XC mc ms free) := by
  obtain ⟨hrc, hrs, hfr, hlo, hws, hcw, -, hini, -⟩ := cb
  exact vx_back (bytes := bytes) (maxL := maxL) (ret := ret) hM hbl hrc hrs hfr hlo hws hcw (fun a' U hW => word_at hW (Or.inl (by first | rfl | simp [Cond.onTables, Cond.keeps, Cond.steady])) hini)
theorem vx_runV (S : CallFix p m c cc nL s args Ts own) (hM : vx_Met l y ws rm Pc Qc XC mc ms free) (cw : CallW R s args own C index y bytes maxL ret ws rm mc ms n) (hp : PreV s H C b Pc As)
    (hg : g.method = m) (hn : As.length = n) (hsize : g.locals.size = nL) (hstack : g.stack = As.reverse ++ .ref b :: rest) (hW : 2 * g.monitorRoom + (rest.map fun v => v.category).sum ≤ 8) (hdg : decode cc g.pc = .ok (.invokevirtual index, 3)) (hf : cells + mc ≤ R.cells ∧ slots + ms ≤ R.slots) :
    vx_Run p l e R s m args below meth c H locs cells slots mc ms g rest (Qc (Value.ref b :: As).toArray) XC free := by
  have hK : vx_Back l R p e below s args y 3 8 (PreOf R mc ms Pc) (PostOf Qc mc ms free) (vx_Post XC mc ms free) := vx_callBack cw.1 hM hp.1
  obtain ⟨⟨-, -, -, -, -, -, hcode, -, hy, hlen, hl⟩, hin, hse⟩ := cw
  obtain ⟨hx, hb, hml, ho, -⟩ := S
  obtain ⟨-, ⟨cellB, hcB, hoB, hclB⟩, hPc⟩ := hp
  intro T hT X
  rcases vx_callV X hx (C := C) (bytes := bytes) (maxL := maxL) (ret := ret) ho hl hin hse hcode hy hK (by rw [hT]; exact hcB) hoB hclB hg (hsize.trans hml.symm) (argsL := As) (rest := rest) (fun sig h => hn.trans (hlen sig h)) hstack hW (by rw [hb]; exact hdg)
    (fun vm₁ hW₁ => ⟨hf.1, hf.2, hPc (T.setVm vm₁) hT hW₁⟩) with ⟨v, vm₁, ⟨U', l2, c2, s2⟩, hW₁, X', ⟨g', mk, t, L, e1, e2, hq, h1, hL, h2, h3⟩, st⟩ | ⟨q, vm₁, ⟨U', l2, c2, s2⟩, hW₁, X', ⟨g', mk, t, L, E, ce, e1, e2, hq, hce, hcv, hcl, h1, hL, h2, h3⟩, st⟩
  · dsimp only [Pt.U, Pt.locs, Pt.cells, Pt.slots] at X' e1 e2 h1 h2 h3 st
    subst h1; subst h2; subst h3
    exact Or.inl ⟨v, (T.setVm vm₁).calling g' mk (Value.ref b :: As).toArray, t, U', L, hT, X', hL, e1, e2, hq, st⟩
  · dsimp only [Pt.U, Pt.locs, Pt.cells, Pt.slots] at X' e1 e2 h1 h2 h3 st hcl
    subst h1; subst h2; subst h3
    exact Or.inr ⟨q, (T.setVm vm₁).calling g' mk (Value.ref b :: As).toArray, t, U', L, E, ce, hT, X', hL, e1, e2, hq, hce, hcv, vx_cls hW₁ hcl, st⟩
theorem vx_runS (S : CallFix p m c cc nL s args Ts own) (hM : vx_Met l y ws rm Pc Qc XC mc ms free) (cw : CallB R s args own index y bytes maxL ret ws rm mc ms n ∧ (Cond.static y).before args s = true) (hp : PreS s H Pc As)
    (hg : g.method = m) (hn : As.length = n) (hsize : g.locals.size = nL) (hstack : g.stack = As.reverse ++ rest) (hW : 2 * g.monitorRoom + (rest.map fun v => v.category).sum ≤ 8) (hdg : decode cc g.pc = .ok (.invokestatic index, 3)) (hf : cells + mc ≤ R.cells ∧ slots + ms ≤ R.slots) :
    vx_Run p l e R s m args below meth c H locs cells slots mc ms g rest (Qc As.toArray) XC free := by
  have hK : vx_Back l R p e below s args y 3 8 (PreOf R mc ms Pc) (PostOf Qc mc ms free) (vx_Post XC mc ms free) := vx_callBack cw.1 hM hp.1
  obtain ⟨⟨-, -, -, -, -, -, hcode, hini, hy, hlen, hl⟩, hstt⟩ := cw
  obtain ⟨hx, hb, hml, ho, -⟩ := S
  intro T hT X
  rcases vx_callS X hx (bytes := bytes) (maxL := maxL) (ret := ret) ho hl hstt hini hcode hy hK hg (hsize.trans hml.symm) (argsL := As) (rest := rest) (fun sig h => hn.trans (hlen sig h)) hstack hW (by rw [hb]; exact hdg)
    (fun vm₁ hW₁ => ⟨hf.1, hf.2, hp.2 (T.setVm vm₁) hT hW₁⟩) with ⟨v, vm₁, ⟨U', l2, c2, s2⟩, hW₁, X', ⟨g', mk, t, L, e1, e2, hq, h1, hL, h2, h3⟩, st⟩ | ⟨q, vm₁, ⟨U', l2, c2, s2⟩, hW₁, X', ⟨g', mk, t, L, E, ce, e1, e2, hq, hce, hcv, hcl, h1, hL, h2, h3⟩, st⟩
  · dsimp only [Pt.U, Pt.locs, Pt.cells, Pt.slots] at X' e1 e2 h1 h2 h3 st
    subst h1; subst h2; subst h3
    exact Or.inl ⟨v, (T.setVm vm₁).calling g' mk As.toArray, t, U', L, hT, X', hL, e1, e2, hq, st⟩
  · dsimp only [Pt.U, Pt.locs, Pt.cells, Pt.slots] at X' e1 e2 h1 h2 h3 st hcl
    subst h1; subst h2; subst h3
    exact Or.inr ⟨q, (T.setVm vm₁).calling g' mk As.toArray, t, U', L, E, ce, hT, X', hL, e1, e2, hq, hce, hcv, vx_cls hW₁ hcl, st⟩
end Runs
section Rows
variable {p : Program} {l : Launch} {e : Env} {R : Room} {s : State} {m : MethodId} {args : Array Value} {below : List Frame} {meth : Method} {c : Code} {H : Heap} {locs : List Loc} {cells slots : Nat} {Q : State → Prop}
variable {mc ms : Nat} {free : Addr → Prop} {A0 A1 : Nat → Prop} {H0 : Heap} {a : Array Value} {pc : Nat} {ls : Array Slot} {st0 rest : List Value}
theorem vx_keep {st₀ t T' : State} {L : List Loc} (h0 : st₀.heap = H) (e1 : T'.heap = t.heap) (hS : va_S A0 H0 H locs) (hA : ∀ q, q < H.size → A1 q → A0 q) (hf : ∀ q, free q → A0 q) (hL : ∀ q ∈ L, free q.base) (hF : va_F A1 st₀ t) :
    H.size ≤ T'.heap.size ∧ (∀ q : Nat, q < H.size → ¬ A1 q → T'.heap[q]? = H[q]?) ∧ va_S A0 H0 T'.heap (locs ++ L) := by
  obtain ⟨hz, hk⟩ := hF
  rw [h0] at hz hk
  exact ⟨by rw [e1]; exact hz, fun q h1 h2 => by rw [e1]; exact hk q h1 h2,
    ⟨Nat.le_trans hS.1 (by rw [e1]; exact hz), fun q h1 h2 => by rw [e1, hk q (Nat.lt_of_lt_of_le h1 hS.1) (fun z => h2 (hA q (Nat.lt_of_lt_of_le h1 hS.1) z))]; exact hS.2.1 q h1 h2, fun q hq => by
      rcases List.mem_append.mp hq with h | h
      · exact hS.2.2 q h
      · exact hf _ (hL q h)⟩⟩
theorem vx_calli {S SX : Type} {post : Int32 → S → Prop} {px : SX → Prop} {B : S → State → Prop} {BX : String → SX → State → Prop} {AX : Nat → Prop} (hr : vx_Run p l e R s m args below meth c H locs cells slots mc ms (F0 m pc ls st0) rest (va_Qi post B A1 a) (vx_X px BX AX) free) (hS : va_S A0 H0 H locs) (hA : ∀ q, q < H.size → A1 q → A0 q) (hf : ∀ q, free q → A0 q) (hAX : ∀ q, q < H.size → AX q → A0 q)
    (kx : ∀ (E : String) (ce : Cell) (q9 : Addr) (u : SX) (t : State) (H1 : Heap) (locs1 : List Loc), t.heap = H1 → s.vm.Alike t.vm → px u → BX E u t → H.size ≤ H1.size → (∀ q : Nat, q < H.size → ¬ AX q → H1[q]? = H[q]?) → va_S A0 H0 H1 locs1 → H1[q9]? = some ce → ce.vm = .none → s.vm.findClass E = some ce.cls → vx_W p l e R s m args below meth c H1 locs1 (cells + mc) (slots + ms) Q (F0 m pc ls rest) q9)
    (kk : ∀ (r : Int32) (u : S) (t : State) (H1 : Heap) (locs1 : List Loc), t.heap = H1 → s.vm.Alike t.vm → post r u → B u t → H.size ≤ H1.size → (∀ q : Nat, q < H.size → ¬ A1 q → H1[q]? = H[q]?) → va_S A0 H0 H1 locs1 → W p l e R s m args below meth c H1 locs1 (cells + mc) (slots + ms) Q (F0 m (pc + 3) ls (.int r :: rest))) : W p l e R s m args below meth c H locs cells slots Q (F0 m pc ls st0) := by
  intro T hT X
  rcases hr T hT X with ⟨v, st₀, t, T', L, h0, X', hL, e1, e2, ⟨⟨r, u, hv, hp, hb⟩, hF⟩, st⟩ | ⟨q, st₀, t, T', L, E, ce, h0, X', hL, e1, e2, ⟨u, hp, hb, hF⟩, hce, hcv, hcl, st⟩
  · cases hv
    obtain ⟨k1, k2, k3⟩ := vx_keep h0 e1 hS hA hf hL hF
    obtain ⟨t2, a1, b1⟩ := kk r u t T'.heap (locs ++ L) e1.symm (by rw [← e2]; exact X'.warmed.alike) hp hb k1 k2 k3 T' rfl X'
    exact ⟨t2, st t2 a1, b1⟩
  · obtain ⟨k1, k2, k3⟩ := vx_keep h0 e1 hS hAX hf hL hF
    obtain ⟨t2, a1, b1⟩ := kx E ce q u t T'.heap (locs ++ L) e1.symm (by rw [← e2]; exact X'.warmed.alike) hp hb k1 k2 k3 (by rw [e1]; exact hce) hcv hcl T' rfl X'
    exact ⟨t2, st.trans a1, b1⟩
theorem vx_calll {S SX : Type} {post : Int64 → S → Prop} {px : SX → Prop} {B : S → State → Prop} {BX : String → SX → State → Prop} {AX : Nat → Prop} (hr : vx_Run p l e R s m args below meth c H locs cells slots mc ms (F0 m pc ls st0) rest (va_Ql post B A1 a) (vx_X px BX AX) free) (hS : va_S A0 H0 H locs) (hA : ∀ q, q < H.size → A1 q → A0 q) (hf : ∀ q, free q → A0 q) (hAX : ∀ q, q < H.size → AX q → A0 q)
    (kx : ∀ (E : String) (ce : Cell) (q9 : Addr) (u : SX) (t : State) (H1 : Heap) (locs1 : List Loc), t.heap = H1 → s.vm.Alike t.vm → px u → BX E u t → H.size ≤ H1.size → (∀ q : Nat, q < H.size → ¬ AX q → H1[q]? = H[q]?) → va_S A0 H0 H1 locs1 → H1[q9]? = some ce → ce.vm = .none → s.vm.findClass E = some ce.cls → vx_W p l e R s m args below meth c H1 locs1 (cells + mc) (slots + ms) Q (F0 m pc ls rest) q9)
    (kk : ∀ (r : Int64) (u : S) (t : State) (H1 : Heap) (locs1 : List Loc), t.heap = H1 → s.vm.Alike t.vm → post r u → B u t → H.size ≤ H1.size → (∀ q : Nat, q < H.size → ¬ A1 q → H1[q]? = H[q]?) → va_S A0 H0 H1 locs1 → W p l e R s m args below meth c H1 locs1 (cells + mc) (slots + ms) Q (F0 m (pc + 3) ls (.long r :: rest))) : W p l e R s m args below meth c H locs cells slots Q (F0 m pc ls st0) := by
  intro T hT X
  rcases hr T hT X with ⟨v, st₀, t, T', L, h0, X', hL, e1, e2, ⟨⟨r, u, hv, hp, hb⟩, hF⟩, st⟩ | ⟨q, st₀, t, T', L, E, ce, h0, X', hL, e1, e2, ⟨u, hp, hb, hF⟩, hce, hcv, hcl, st⟩
  · cases hv
    obtain ⟨k1, k2, k3⟩ := vx_keep h0 e1 hS hA hf hL hF
    obtain ⟨t2, a1, b1⟩ := kk r u t T'.heap (locs ++ L) e1.symm (by rw [← e2]; exact X'.warmed.alike) hp hb k1 k2 k3 T' rfl X'
    exact ⟨t2, st t2 a1, b1⟩
  · obtain ⟨k1, k2, k3⟩ := vx_keep h0 e1 hS hAX hf hL hF
    obtain ⟨t2, a1, b1⟩ := kx E ce q u t T'.heap (locs ++ L) e1.symm (by rw [← e2]; exact X'.warmed.alike) hp hb k1 k2 k3 (by rw [e1]; exact hce) hcv hcl T' rfl X'
    exact ⟨t2, st.trans a1, b1⟩
theorem vx_callf {S SX : Type} {post : UInt32 → S → Prop} {px : SX → Prop} {B : S → State → Prop} {BX : String → SX → State → Prop} {AX : Nat → Prop} (hr : vx_Run p l e R s m args below meth c H locs cells slots mc ms (F0 m pc ls st0) rest (va_Qf post B A1 a) (vx_X px BX AX) free) (hS : va_S A0 H0 H locs) (hA : ∀ q, q < H.size → A1 q → A0 q) (hf : ∀ q, free q → A0 q) (hAX : ∀ q, q < H.size → AX q → A0 q)
    (kx : ∀ (E : String) (ce : Cell) (q9 : Addr) (u : SX) (t : State) (H1 : Heap) (locs1 : List Loc), t.heap = H1 → s.vm.Alike t.vm → px u → BX E u t → H.size ≤ H1.size → (∀ q : Nat, q < H.size → ¬ AX q → H1[q]? = H[q]?) → va_S A0 H0 H1 locs1 → H1[q9]? = some ce → ce.vm = .none → s.vm.findClass E = some ce.cls → vx_W p l e R s m args below meth c H1 locs1 (cells + mc) (slots + ms) Q (F0 m pc ls rest) q9)
    (kk : ∀ (r : UInt32) (u : S) (t : State) (H1 : Heap) (locs1 : List Loc), t.heap = H1 → s.vm.Alike t.vm → post r u → B u t → H.size ≤ H1.size → (∀ q : Nat, q < H.size → ¬ A1 q → H1[q]? = H[q]?) → va_S A0 H0 H1 locs1 → W p l e R s m args below meth c H1 locs1 (cells + mc) (slots + ms) Q (F0 m (pc + 3) ls (.float r :: rest))) : W p l e R s m args below meth c H locs cells slots Q (F0 m pc ls st0) := by
  intro T hT X
  rcases hr T hT X with ⟨v, st₀, t, T', L, h0, X', hL, e1, e2, ⟨⟨r, u, hv, hp, hb⟩, hF⟩, st⟩ | ⟨q, st₀, t, T', L, E, ce, h0, X', hL, e1, e2, ⟨u, hp, hb, hF⟩, hce, hcv, hcl, st⟩
  · cases hv
    obtain ⟨k1, k2, k3⟩ := vx_keep h0 e1 hS hA hf hL hF
    obtain ⟨t2, a1, b1⟩ := kk r u t T'.heap (locs ++ L) e1.symm (by rw [← e2]; exact X'.warmed.alike) hp hb k1 k2 k3 T' rfl X'
    exact ⟨t2, st t2 a1, b1⟩
  · obtain ⟨k1, k2, k3⟩ := vx_keep h0 e1 hS hAX hf hL hF
    obtain ⟨t2, a1, b1⟩ := kx E ce q u t T'.heap (locs ++ L) e1.symm (by rw [← e2]; exact X'.warmed.alike) hp hb k1 k2 k3 (by rw [e1]; exact hce) hcv hcl T' rfl X'
    exact ⟨t2, st.trans a1, b1⟩
theorem vx_calld {S SX : Type} {post : UInt64 → S → Prop} {px : SX → Prop} {B : S → State → Prop} {BX : String → SX → State → Prop} {AX : Nat → Prop} (hr : vx_Run p l e R s m args below meth c H locs cells slots mc ms (F0 m pc ls st0) rest (va_Qd post B A1 a) (vx_X px BX AX) free) (hS : va_S A0 H0 H locs) (hA : ∀ q, q < H.size → A1 q → A0 q) (hf : ∀ q, free q → A0 q) (hAX : ∀ q, q < H.size → AX q → A0 q)
    (kx : ∀ (E : String) (ce : Cell) (q9 : Addr) (u : SX) (t : State) (H1 : Heap) (locs1 : List Loc), t.heap = H1 → s.vm.Alike t.vm → px u → BX E u t → H.size ≤ H1.size → (∀ q : Nat, q < H.size → ¬ AX q → H1[q]? = H[q]?) → va_S A0 H0 H1 locs1 → H1[q9]? = some ce → ce.vm = .none → s.vm.findClass E = some ce.cls → vx_W p l e R s m args below meth c H1 locs1 (cells + mc) (slots + ms) Q (F0 m pc ls rest) q9)
    (kk : ∀ (r : UInt64) (u : S) (t : State) (H1 : Heap) (locs1 : List Loc), t.heap = H1 → s.vm.Alike t.vm → post r u → B u t → H.size ≤ H1.size → (∀ q : Nat, q < H.size → ¬ A1 q → H1[q]? = H[q]?) → va_S A0 H0 H1 locs1 → W p l e R s m args below meth c H1 locs1 (cells + mc) (slots + ms) Q (F0 m (pc + 3) ls (.double r :: rest))) : W p l e R s m args below meth c H locs cells slots Q (F0 m pc ls st0) := by
  intro T hT X
  rcases hr T hT X with ⟨v, st₀, t, T', L, h0, X', hL, e1, e2, ⟨⟨r, u, hv, hp, hb⟩, hF⟩, st⟩ | ⟨q, st₀, t, T', L, E, ce, h0, X', hL, e1, e2, ⟨u, hp, hb, hF⟩, hce, hcv, hcl, st⟩
  · cases hv
    obtain ⟨k1, k2, k3⟩ := vx_keep h0 e1 hS hA hf hL hF
    obtain ⟨t2, a1, b1⟩ := kk r u t T'.heap (locs ++ L) e1.symm (by rw [← e2]; exact X'.warmed.alike) hp hb k1 k2 k3 T' rfl X'
    exact ⟨t2, st t2 a1, b1⟩
  · obtain ⟨k1, k2, k3⟩ := vx_keep h0 e1 hS hAX hf hL hF
    obtain ⟨t2, a1, b1⟩ := kx E ce q u t T'.heap (locs ++ L) e1.symm (by rw [← e2]; exact X'.warmed.alike) hp hb k1 k2 k3 (by rw [e1]; exact hce) hcv hcl T' rfl X'
    exact ⟨t2, st.trans a1, b1⟩
theorem vx_callv {S SX : Type} {post : S → Prop} {px : SX → Prop} {B : S → State → Prop} {BX : String → SX → State → Prop} {AX : Nat → Prop} (hr : vx_Run p l e R s m args below meth c H locs cells slots mc ms (F0 m pc ls st0) rest (va_Qv post B A1 a) (vx_X px BX AX) free) (hS : va_S A0 H0 H locs) (hA : ∀ q, q < H.size → A1 q → A0 q) (hf : ∀ q, free q → A0 q) (hAX : ∀ q, q < H.size → AX q → A0 q)
    (kx : ∀ (E : String) (ce : Cell) (q9 : Addr) (u : SX) (t : State) (H1 : Heap) (locs1 : List Loc), t.heap = H1 → s.vm.Alike t.vm → px u → BX E u t → H.size ≤ H1.size → (∀ q : Nat, q < H.size → ¬ AX q → H1[q]? = H[q]?) → va_S A0 H0 H1 locs1 → H1[q9]? = some ce → ce.vm = .none → s.vm.findClass E = some ce.cls → vx_W p l e R s m args below meth c H1 locs1 (cells + mc) (slots + ms) Q (F0 m pc ls rest) q9)
    (kk : ∀ (u : S) (t : State) (H1 : Heap) (locs1 : List Loc), t.heap = H1 → s.vm.Alike t.vm → post u → B u t → H.size ≤ H1.size → (∀ q : Nat, q < H.size → ¬ A1 q → H1[q]? = H[q]?) → va_S A0 H0 H1 locs1 → W p l e R s m args below meth c H1 locs1 (cells + mc) (slots + ms) Q (F0 m (pc + 3) ls (rest))) : W p l e R s m args below meth c H locs cells slots Q (F0 m pc ls st0) := by
  intro T hT X
  rcases hr T hT X with ⟨v, st₀, t, T', L, h0, X', hL, e1, e2, ⟨⟨u, hv, hp, hb⟩, hF⟩, st⟩ | ⟨q, st₀, t, T', L, E, ce, h0, X', hL, e1, e2, ⟨u, hp, hb, hF⟩, hce, hcv, hcl, st⟩
  · cases hv
    obtain ⟨k1, k2, k3⟩ := vx_keep h0 e1 hS hA hf hL hF
    obtain ⟨t2, a1, b1⟩ := kk u t T'.heap (locs ++ L) e1.symm (by rw [← e2]; exact X'.warmed.alike) hp hb k1 k2 k3 T' rfl X'
    exact ⟨t2, st t2 a1, b1⟩
  · obtain ⟨k1, k2, k3⟩ := vx_keep h0 e1 hS hAX hf hL hF
    obtain ⟨t2, a1, b1⟩ := kx E ce q u t T'.heap (locs ++ L) e1.symm (by rw [← e2]; exact X'.warmed.alike) hp hb k1 k2 k3 (by rw [e1]; exact hce) hcv hcl T' rfl X'
    exact ⟨t2, st.trans a1, b1⟩
/-- caught by the row x of this method's table; the rows ahead don't take it -/
theorem vx_catch {own name : String} {E : String} {ce : Cell} {q : Addr} (hown : s.vm.findClass own = some m.cls) (pre : List ExceptionTableEntry) (x : ExceptionTableEntry) (suf : List ExceptionTableEntry) (hsplit : c.exceptionTable.toList = pre ++ x :: suf)
    (hpass : ∀ z ∈ pre, covers z pc = false ∨ (z.catchType ≠ 0 ∧ ∃ nm : String, (Cond.classLink own z.catchType nm).before args s = true ∧ va_Nc E nm s)) (hx : covers x pc = true) (h0 : x.catchType ≠ 0)
    (hlink : (Cond.classLink own x.catchType name).before args s = true) (hcast : (Cond.castable E name).before args s = true) (hcell : H[q]? = some ce) (hv : ce.vm = .none) (hcl : s.vm.findClass E = some ce.cls)
    (kk : W p l e R s m args below meth c H locs cells slots Q (F0 m x.handlerPc ls [.ref q])) : vx_W p l e R s m args below meth c H locs cells slots Q (F0 m pc ls rest) q := by
  intro T hT X
  have hpl : e.platform.magicAccessors = ({} : Platform).magicAccessors := by rw [X.admits.platform]
  obtain ⟨c3, c4, hc3, hc4, hasg⟩ := Cond.castable_spec hcast
  cases Option.some.inj (hc3.symm.trans hcl)
  obtain ⟨c5, hc5, hcl5⟩ := Cond.classLink_spec hown hlink e.platform hpl
  cases Option.some.inj (hc4.symm.trans hc5)
  obtain ⟨vm', X', st⟩ := X.thenCaughtThrough q (g := F0 m pc ls rest) rfl (Steps.refl _) (by rw [hT]; exact hcell) (by rw [hv]; rfl) (by obtain ⟨k9, h9, -⟩ := Vm.findClass_spec hcl; exact ⟨k9, h9⟩) pre x suf hsplit
    (fun z hz => by
      rcases hpass z hz with h | ⟨hz0, nm, hl1, hn1⟩
      · exact Or.inl h
      · obtain ⟨c6, hc6, hcl6⟩ := Cond.classLink_spec hown hl1 e.platform hpl
        obtain ⟨a8, b8, h1, h2, h3⟩ := hn1
        cases Option.some.inj (h1.symm.trans hcl)
        cases Option.some.inj (h2.symm.trans hc6)
        exact Or.inr ⟨hz0, _, hcl6, h3⟩) hx (Or.inr ⟨h0, c4, hcl5, hasg⟩)
  obtain ⟨t, a1, b1⟩ := kk (T.setVm vm') hT X'
  exact ⟨t, st.trans a1, b1⟩
end Rows
section Ends
variable {p : Program} {l : Launch} {e : Env} {R : Room} {s : State} {m : MethodId} {args : Array Value} {below : List Frame} {meth : Method} {c : Code} {H : Heap} {locs : List Loc} {cells slots : Nat} {Q : State → Prop}
variable {mc ms : Nat} {free : Addr → Prop} {A0 A1 : Nat → Prop} {H0 : Heap} {a : Array Value} {ls : Array Slot} {st0 rest : List Value}
variable {Qc : Array Value → State → Outcome → State → Prop} {XC : String → State → State → Prop}
/-- what a body that may throw owes at its end -/
def vx_MQ (below : List Frame) (Qc : Array Value → State → Outcome → State → Prop) (XC : String → State → State → Prop) (a : Array Value) (s : State) (mc ms : Nat) (free : Addr → Prop) : State → Prop := fun t =>
  ∃ o, t.status = .running ∧ Ended t below o ∧ vx_Q Qc XC mc ms free a s o t
theorem vx_ret {g : JFrame} {mc ms : Nat} (k : W p l e R s m args below meth c H locs cells slots (MQ below Qc args s mc ms free) g) : W p l e R s m args below meth c H locs cells slots (vx_MQ below Qc XC args s mc ms free) g := by
  intro T hT X
  obtain ⟨t, a1, o, b1, b2, b3, b4⟩ := k T hT X
  exact ⟨t, a1, o, b1, b2, Or.inl ⟨b3, b4⟩⟩
/-- not caught here: it goes on to the caller -/
theorem vx_widen {g : JFrame} {q : Addr} {k n : Nat} (h1 : cells ≤ k) (h2 : slots ≤ n) (kk : vx_W p l e R s m args below meth c H locs k n Q g q) : vx_W p l e R s m args below meth c H locs cells slots Q g q := fun T hT X => kk T hT (stand_widen X h1 h2)
theorem vx_out {pc : Nat} {E : String} {ce : Cell} {q : Addr} {mc ms : Nat} (hout : ∀ x ∈ c.exceptionTable.toList, covers x pc = false) (hlocks : meth.locks = false) (hcell : H[q]? = some ce) (hv : ce.vm = .none) (hcl : s.vm.findClass E = some ce.cls)
    (hx : ∀ t : State, t.heap = H → s.vm.Alike t.vm → XC E s t) (hf : ∀ z ∈ locs, free z.base) (hc : cells ≤ mc) (hs : slots ≤ ms) :
    vx_W p l e R s m args below meth c H locs cells slots (vx_MQ below Qc XC args s mc ms free) (F0 m pc ls rest) q := by
  intro T hT X
  obtain ⟨st1, hrun, hend, hW, hsm⟩ := X.leaveThrown q (g := F0 m pc ls rest) rfl rfl rfl hout hlocks
  have hcell9 : (T.setFrames (.throwing q :: below)).heap[q]? = some ce := by
    show T.heap[q]? = some ce
    rw [hT]; exact hcell
  exact ⟨_, st1, .threw q, hrun, hend, Or.inr ⟨q, rfl, E, ce, locs, hx _ hT hW.alike, hcell9, hv, hcl, hW, hsm.mono hc hs, hf⟩⟩
theorem vx_frame {U : State} {k n : Nat} (h : s.sameButNew ({ U with vm := s.vm } : State) locs k n) : s.heap.size ≤ U.heap.size ∧ ∀ q : Nat, q < s.heap.size → (∀ z ∈ locs, z.base ≠ q) → U.heap[q]? = s.heap[q]? := by
  obtain ⟨-, h2, -, -, -, h6⟩ := h
  refine ⟨h2, fun q hq hz => ?_⟩
  obtain ⟨c9, e1, e2, e3, e4⟩ := h6 q _ (Array.getElem?_eq_getElem hq)
  have hs : c9.slots = (s.heap[q]).slots := Array.ext_getElem? fun i => e4 i fun hm => hz _ hm rfl
  have h9 : c9 = s.heap[q] := by
    rw [hs] at e2
    exact e2
  have e5 : U.heap[q]? = some c9 := e1
  rw [e5, h9, Array.getElem?_eq_getElem hq]
/-- the words of a throw but the four that speak of the heap -/
def vx_no (w : Cond) : Bool := decide (w ≠ .isRef (.static Bundle.tN "UNASSIGNED_STACK" Bundle.steD)) && decide (w ≠ .isRef (.static Bundle.tN "SUPPRESSED_SENTINEL" Bundle.listD)) && decide (w ≠ .laysStatic Bundle.tN "UNASSIGNED_STACK" Bundle.steD) && decide (w ≠ .laysStatic Bundle.tN "SUPPRESSED_SENTINEL" Bundle.listD)
def vx_at0 (own : String) (ic : Nat) (X : String) (names : List String) : List Cond := (Bundle.ownAtoms0 own ic X names).filter vx_no
def vx_atS (own : String) (ic : Nat) (X : String) (names : List String) : List Cond := (Bundle.ownAtoms own ic X names).filter vx_no
/-- a word that the tables alone decide, or a good one -/
def vx_ot (w : Cond) : Bool := w.onTables || goodWord w
theorem vx_ot_at {args a' : Array Value} {s U : State} {w : Cond} (hW : s.WarmedH U.vm) (hvm : s.vm = U.vm) (hg : vx_ot w = true) (h : w.before args s = true) : w.before a' U = true := by
  simp only [vx_ot, Bool.or_eq_true] at hg
  rcases hg with hg | hg
  · exact va_tabs hg hvm h
  · exact word_at hW (good_of_word hg) h
/-- a list's words: the good ones out of the method's own list, the others by premises of their own -/
theorem vx_hat {args : Array Value} {s : State} {L B : List Cond} (h1 : ∀ w ∈ L.filter goodWord, w.before args s = true) (h2 : ∀ w ∈ L.filter (fun w => !goodWord w), w ∈ B) (h3 : ∀ w ∈ B, w.before args s = true) : ∀ w ∈ L, w.before args s = true := by
  intro w hw
  by_cases g : goodWord w = true
  · exact h1 w (List.mem_filter.mpr ⟨hw, g⟩)
  · refine h3 w (h2 w (List.mem_filter.mpr ⟨hw, ?_⟩))
    show (!goodWord w) = true
    cases hgw : goodWord w
    · rfl
    · exact absurd hgw g
theorem vx_c {args : Array Value} {s : State} {w : Cond} {B : List Cond} (h : w.before args s = true) (t : ∀ w ∈ B, w.before args s = true) : ∀ w' ∈ w :: B, w'.before args s = true := fun w' h' => (List.mem_cons.mp h').elim (fun e => by rw [e]; exact h) (t w')
theorem vx_n {args : Array Value} {s : State} : ∀ w ∈ ([] : List Cond), w.before args s = true := fun _ h => nomatch h
theorem vx_own {args : Array Value} {s : State} {L : List Cond} (h1 : ∀ w ∈ L.filter vx_no, w.before args s = true)
    (hU : (Cond.isRef (.static Bundle.tN "UNASSIGNED_STACK" Bundle.steD)).before args s = true) (hN : (Cond.isRef (.static Bundle.tN "SUPPRESSED_SENTINEL" Bundle.listD)).before args s = true)
    (lU : (Cond.laysStatic Bundle.tN "UNASSIGNED_STACK" Bundle.steD).before args s = true) (lN : (Cond.laysStatic Bundle.tN "SUPPRESSED_SENTINEL" Bundle.listD).before args s = true) : ∀ w ∈ L, w.before args s = true := by
  intro w hw
  by_cases e1 : w = .isRef (.static Bundle.tN "UNASSIGNED_STACK" Bundle.steD)
  · rw [e1]; exact hU
  · by_cases e2 : w = .isRef (.static Bundle.tN "SUPPRESSED_SENTINEL" Bundle.listD)
    · rw [e2]; exact hN
    · by_cases e3 : w = .laysStatic Bundle.tN "UNASSIGNED_STACK" Bundle.steD
      · rw [e3]; exact lU
      · by_cases e4 : w = .laysStatic Bundle.tN "SUPPRESSED_SENTINEL" Bundle.listD
        · rw [e4]; exact lN
        · exact h1 w (List.mem_filter.mpr ⟨hw, by unfold vx_no; rw [decide_eq_true e1, decide_eq_true e2, decide_eq_true e3, decide_eq_true e4]; rfl⟩)
/-- where a static field lies, its class's statics cell in H -/
def vx_L (C n d : String) (A : Nat → Prop) (U : State) (H : Heap) : Prop := ∃ (c : ClassId) (k : Class) (i : Nat) (f : Field) (a : Nat) (cell : Cell), U.vm.findClass C = some c ∧ U.fieldFound? C n d = some (c, k, i, f) ∧ f.isStatic = true ∧ k.statics = some a ∧ H[a]? = some cell ∧ cell.vm.isStatics = true ∧ cell.cls = c ∧ f.slot < cell.slots.size ∧ k.staticTypes[f.slot]? = some f.type ∧ ¬ A a
theorem vx_L.moved {C n d : String} {A : Nat → Prop} {u U : State} {H : Heap} (hvm : u.vm.Alike U.vm) (h : vx_L C n d A u H) : vx_L C n d A U H := by
  obtain ⟨c, k, i, f, a, cell, h1, h2, h3, h4, h5, h6, h7, h8, h9, h10⟩ := h
  obtain ⟨k', hi', he⟩ := State.fieldFound?_setVm hvm h2
  exact ⟨c, k', i, f, a, cell, by rw [hvm.findClass]; exact h1, hi', h3, by rw [he]; exact h4, h5, h6, h7, h8, by rw [he]; exact h9, h10⟩
theorem vx_L.kept {C n d : String} {A : Nat → Prop} {U : State} {H H1 : Heap} (h : vx_L C n d A U H) (hq : ∀ a : Nat, a < H.size → ¬ A a → H1[a]? = H[a]?) : vx_L C n d A U H1 := by
  obtain ⟨c, k, i, f, a, cell, h1, h2, h3, h4, h5, h6, h7, h8, h9, h10⟩ := h
  exact ⟨c, k, i, f, a, cell, h1, h2, h3, h4, by rw [hq a (Array.getElem?_eq_some_iff.mp h5).1 h10]; exact h5, h6, h7, h8, h9, h10⟩
theorem vx_L.narrow {C n d : String} {A B : Nat → Prop} {U : State} {H : Heap} (h : vx_L C n d A U H) (hAB : ∀ q, B q → A q) : vx_L C n d B U H := by
  obtain ⟨c, k, i, f, a, cell, h1, h2, h3, h4, h5, h6, h7, h8, h9, h10⟩ := h
  exact ⟨c, k, i, f, a, cell, h1, h2, h3, h4, h5, h6, h7, h8, h9, fun z => h10 (hAB _ z)⟩
theorem vx_L.word {C n d : String} {A : Nat → Prop} {s : State} {args : Array Value} (h : vx_L C n d A s s.heap) : (Cond.laysStatic C n d).before args s = true := by
  obtain ⟨c, k, i, f, a, cell, h1, h2, h3, h4, h5, h6, h7, h8, h9, -⟩ := h
  show (Cond.laysStatic C n d).holds args s none s [] = true
  exact Cond.laysStatic_of h1 h2 h3 h4 h5 h6 h7 h8 h9
/-- .. and what it holds: null or some reference -/
def vx_Zq (C n d : String) (A : Nat → Prop) (U : State) (H : Heap) : Prop := va_Zq C n d A U H ∧ vx_L C n d A U H
theorem vx_Zq.moved {C n d : String} {A : Nat → Prop} {u U : State} {H : Heap} (hvm : u.vm.Alike U.vm) (h : vx_Zq C n d A u H) : vx_Zq C n d A U H := ⟨va_Zq.moved hvm h.1, vx_L.moved hvm h.2⟩
theorem vx_Zq.kept {C n d : String} {A : Nat → Prop} {U : State} {H H1 : Heap} (h : vx_Zq C n d A U H) (hq : ∀ a : Nat, a < H.size → ¬ A a → H1[a]? = H[a]?) : vx_Zq C n d A U H1 := ⟨va_Zq.kept h.1 hq, vx_L.kept h.2 hq⟩
theorem vx_Zq.narrow {C n d : String} {A B : Nat → Prop} {U : State} {H : Heap} (h : vx_Zq C n d A U H) (hAB : ∀ q, B q → A q) : vx_Zq C n d B U H := ⟨va_Zq.narrow h.1 hAB, vx_L.narrow h.2 hAB⟩
theorem vx_Zqof {args : Array Value} {s : State} {C n d : String} {A : Nat → Prop} (hl : (Cond.laysStatic C n d).before args s = true) (hini : (Cond.initialized C).before args s = true) (h : (Cond.isRef (.static C n d)).before args s = true) (hA : ∀ a : Nat, a < s.heap.size → ¬ A a) : vx_Zq C n d A s s.heap := by
  refine ⟨va_Zqof hl hini h hA, ?_⟩
  obtain ⟨c, k, i, f, a, cell, h1, h2, h3, h4, h5, h6, h7, h8, h9⟩ := Cond.laysStatic_spec hl
  exact ⟨c, k, i, f, a, cell, h1, h2, h3, h4, h5, h6, h7, h8, h9, hA a (Array.getElem?_eq_some_iff.mp h5).1⟩
theorem vx_isRef {C n d : String} {v : Value} {A : Nat → Prop} {s : State} {args : Array Value} (h : va_Z C n d v A s s.heap) (hv : v.isRef = true) : (Cond.isRef (.static C n d)).before args s = true := by
  obtain ⟨cf, kf, fi, f, a, cell, h1, h2, h3, h4, h5, h6, h7, -⟩ := h
  have he : (Term.static C n d).eval args s none [] s = some v := by
    simp [Term.eval, State.fieldNamed?, h1, h2, h4, h5, h6, h7]
  simp only [Cond.before, Cond.holds, Cond.value, he]
  cases v <;> simp_all [Value.isRef]
theorem vx_isRefq {C n d : String} {A : Nat → Prop} {s : State} {args : Array Value} (h : va_Zq C n d A s s.heap) : (Cond.isRef (.static C n d)).before args s = true := by
  rcases h with h | ⟨t, h⟩
  · exact vx_isRef h rfl
  · exact vx_isRef h rfl
/-- the same frame, seen from here: as if the method were called anew in this heap -/
theorem vx_rebase {T : State} (X : Stand p l e R s m args below meth c T locs cells slots) {R' : Room} (hf : R'.frames ≤ R.frames) (hl : R'.locals ≤ R.locals) (hc : cells + R'.cells ≤ R.cells) (hs : slots + R'.slots ≤ R.slots) :
    Stand p l e R' ((T.setVm s.vm).setFrames (.invoking m args :: below)) m args below meth c T [] 0 0 := by
  have htop : (T.setVm s.vm).topJava?.isSome := X.here.top
  have hF : ((T.setVm s.vm).setFrames (.invoking m args :: below)).frames = .invoking m args :: below := State.frames_setFrames _ (State.cur_lt_of_top htop)
  obtain ⟨g₀, hg0⟩ := Option.isSome_iff_exists.mp htop
  obtain ⟨r, hr⟩ := State.topJava?_eq_some.mp hg0
  have hl9 : e.platform.stackLimits (T.setVm s.vm).me = e.platform.stackLimits s.me := X.limits
  have hb9 : (T.setVm s.vm).me.stackBytes = s.me.stackBytes := X.bytes
  refine ⟨X.admits, X.cas, X.clock, hF, ?_, X.hears, X.method, X.code, X.here, X.tail, X.warmed, ?_, ?_, ?_⟩
  · have h := X.room
    have hU : ((T.setVm s.vm).setFrames (.invoking m args :: below)).localsInUse = s.localsInUse := by
      rw [State.localsInUse_invoking hF (meth := meth) (c := c) X.method X.code, State.localsInUse_invoking X.frames X.method X.code]
    simp only [State.hasRoom, Bool.and_eq_true, decide_eq_true_eq] at h ⊢
    obtain ⟨⟨⟨⟨h1, h2, h3, h4, h5, h6⟩, h7⟩, h8⟩, h9⟩ := h
    rw [X.frames, List.length_cons] at h2 h3
    have q1 := X.heapSize
    have q2 := X.used
    simp only [hF, hU, List.length_cons, State.stackLimits_setFrames, State.stackBytes_setFrames, hl9, hb9]
    refine ⟨⟨⟨⟨by omega, by omega, by omega, by omega, by omega, h6⟩, ?_⟩, ?_⟩, X.book⟩
    · show T.heap.size + R'.cells ≤ e.platform.maxCells
      omega
    · show T.slotsUsed + R'.slots ≤ e.platform.maxSlots
      omega
  · rw [State.stackLimits_setFrames]; rfl
  · rw [State.stackBytes_setFrames]; rfl
  · refine ⟨?_, Nat.le_refl _, Nat.le_refl _, ?_, ?_, fun a c9 h9 => ⟨c9, h9, rfl, rfl, fun _ _ => rfl⟩⟩
    · obtain ⟨t, ht, -⟩ := State.frames_cons hr
      show T.setVm s.vm = { ((T.setVm s.vm).setFrames (.invoking m args :: below)).setFrames (T.setVm s.vm).frames with heap := T.heap, slotsUsed := T.slotsUsed }
      rw [State.setFrames_setFrames, State.setFrames_self ht]
      rfl
    · show T.slotsUsed = T.slotsUsed + ((T.heap.toList.drop T.heap.size).map (·.slots.size)).sum
      rw [List.drop_eq_nil_of_le (Nat.le_of_eq Array.length_toList)]
      rfl
    · show ((T.heap.toList.drop T.heap.size).map (·.slots.size)).sum ≤ 0
      rw [List.drop_eq_nil_of_le (Nat.le_of_eq Array.length_toList)]
      exact Nat.le_refl _
/-- 'throw new E()': new; dup; invokespecial; athrow -/
theorem vx_throw0 {cc : ByteArray} {pc : Nat} (hexec : p.tables.exec = Jvm.exec) (hb : c.code = cc) (hl : l.stackTraces = false) {own cls : String} {names : List String} {ik ic mc ms : Nat} {A : Nat → Prop}
    (hown : s.vm.findClass own = some m.cls) (hcls : Bundle.fit cls = true) (hnames : ∀ n ∈ names, Bundle.fit n = true)
    (hk : (Cond.classLink own ik cls).before args s = true) (hini : (Cond.initialized cls).before args s = true) (hat : ∀ w ∈ vx_at0 own ic cls names, w.before args s = true)
    (hgood : ∀ w ∈ Cond.classLink own ik cls :: Cond.initialized cls :: vx_at0 own ic cls names, vx_ot w = true)
    (hU : vx_Zq Bundle.tN "UNASSIGNED_STACK" Bundle.steD A s s.heap) (hN : vx_Zq Bundle.tN "SUPPRESSED_SENTINEL" Bundle.listD A s s.heap) (hS : va_S A s.heap H locs) (hsize : ls.size = c.maxLocals)
    (d0 : decode cc pc = .ok (.new ik, 3)) (d3 : decode cc (pc + 3) = .ok (.dup, 1)) (d4 : decode cc (pc + 4) = .ok (.invokespecial ic, 3)) (d7 : decode cc (pc + 7) = .ok (.athrow, 1))
    (hout : ∀ x ∈ c.exceptionTable.toList, covers x (pc + 7) = false)
    (hRframes : names.length + 3 < R.frames) (hRlocals : (rest.map fun v => v.category).sum + (13 * (names.length + 1) + 42) ≤ R.locals) (hRcells : cells + 1 ≤ R.cells) (hRslots : slots + 6 ≤ R.slots) (hlocks : meth.locks = false)
    (hx : ∀ t : State, s.vm.Alike t.vm → H.size ≤ t.heap.size → (∀ q : Nat, q < H.size → t.heap[q]? = H[q]?) → XC cls s t)
    (hf : ∀ z ∈ locs, free z.base) (hc : cells + 1 ≤ mc) (hs : slots + 6 ≤ ms) :
    W p l e R s m args below meth c H locs cells slots (vx_MQ below Qc XC args s mc ms free) (F0 m pc ls rest) := by
  intro T hT X
  have htr : e.platform.stackTraces = false := (show e.platform.stackTraces = l.stackTraces by rw [X.admits.platform]).trans hl
  have Y := vx_rebase X (R' := { frames := R.frames, locals := R.locals, cells := 1, slots := 6 }) (Nat.le_refl _) (Nat.le_refl _) hRcells hRslots
  obtain ⟨s', hA⟩ : ∃ z, z = (T.setVm s.vm).setFrames (.invoking m args :: below) := ⟨_, rfl⟩
  rw [← hA] at Y
  have hvm : s'.vm = s.vm := by rw [hA]; rfl
  have hhp : s'.heap = H := by rw [hA]; exact hT
  have hW0 : s.WarmedH s'.vm := by rw [hvm]; exact State.WarmedH.refl s
  have hat' : ∀ w ∈ vx_at0 own ic cls names, w.before args s' = true := fun w hw => vx_ot_at hW0 hvm.symm (hgood w (List.mem_cons_of_mem _ (List.mem_cons_of_mem _ hw))) (hat w hw)
  have hk' : (Cond.classLink own ik cls).before args s' = true := vx_ot_at hW0 hvm.symm (hgood _ List.mem_cons_self) hk
  have hini' : (Cond.initialized cls).before args s' = true := vx_ot_at hW0 hvm.symm (hgood _ (List.mem_cons_of_mem _ List.mem_cons_self)) hini
  have hU' : vx_Zq Bundle.tN "UNASSIGNED_STACK" Bundle.steD A s' s'.heap := by rw [hhp]; exact vx_Zq.moved hW0.alike (hU.kept hS.2.1)
  have hN' : vx_Zq Bundle.tN "SUPPRESSED_SENTINEL" Bundle.listD A s' s'.heap := by rw [hhp]; exact vx_Zq.moved hW0.alike (hN.kept hS.2.1)
  have h : ∀ w ∈ Bundle.ownAtoms0 own ic cls names, w.before args s' = true := vx_own hat' (vx_isRefq hU'.1) (vx_isRefq hN'.1) hU'.2.word hN'.2.word
  have hown' : s'.vm.findClass own = some m.cls := by rw [hvm]; exact hown
  have hins : (Cond.instantiable cls 6).before args s' = true := h _ (by simp [Bundle.ownAtoms0])
  obtain ⟨vm₁, cX, kX, hfX, hkX, -, -, X₁, st1⟩ := Y.newCold hexec (own := own) (C := cls) (index := ik) (n := 6) hown' hk' hins hini'
    (g := F0 m pc ls rest) rfl (by rw [hb]; exact d0) (Nat.le_refl _) (Nat.le_refl _)
  generalize hT1 : (T.setVm vm₁).pushCell { cls := cX, slots := kX.instanceTypes.map defaultValue, vm := .none } = T1 at X₁ st1
  have hcat : (Value.ref T.heap.size).category = 1 := rfl
  have hcellA : T1.heap[T.heap.size]? = some (freshCell cX kX) := by rw [← hT1]; exact State.heap_pushCell_size _ _
  have d3' : decode c.code (pc + 3) = .ok (.dup, 1) := by rw [hb]; exact d3
  obtain ⟨U, hsteps, hrun, hend, hW, hsame, ce, hce, hO⟩ := X₁.ctorThrow0 hexec htr (own := own) (cls := cls) (names := names) (ic := ic) hown' hcls hnames h (fun x hx => nomatch hx) hfX hkX hcellA (by rw [hhp, hT]; exact Nat.le_refl _)
    (g := { method := m, pc := pc + 4, locals := ls, stack := .ref T.heap.size :: .ref T.heap.size :: rest, locked := none }) rfl hsize rfl rfl (rest := rest) rfl
    (by rw [hb]; exact d4) (by rw [hb]; exact d7) hout hRframes (by simp only [List.map_cons, List.sum_cons, hcat]; omega) hlocks
  obtain ⟨f1, f2⟩ := vx_frame hsame
  rw [hhp] at f1 f2
  have hWs : s.WarmedH U.vm := State.WarmedH.trans hW0 hW
  have hcl : s.vm.findClass cls = some ce.cls := by
    have h9 := hO.cls
    rw [hvm] at h9
    exact h9
  have hall : s.sameButNew ({ U with vm := s.vm } : State) locs mc ms := by
    subst hA
    obtain ⟨e1, e2⟩ := hsame
    rw [State.setFrames_setFrames] at e1
    have h2 : (T.setVm s.vm).sameButNew ({ U with vm := s.vm } : State) [] (0 + 1) (0 + 6) := ⟨e1, e2⟩
    have h3 := X.same.trans h2
    rw [List.append_nil] at h3
    exact h3.mono hc hs
  refine ⟨U, ?_, .threw T.heap.size, hrun, hend, Or.inr ⟨T.heap.size, rfl, cls, ce, locs, hx U hWs.alike f1 (fun q hq => f2 q hq (fun z hz => nomatch hz)), hce, hO.vm, hcl, hWs, hall, hf⟩⟩
  refine st1 _ ?_
  show Steps p.tables e below (T1.setTop { method := m, pc := pc + 3, locals := ls, stack := .ref T.heap.size :: rest, locked := none }) _
  jvm_step X₁.here [X₁.here.top, hexec, d3', Value.category]
  exact hsteps
/-- 'throw new E("text")': new; dup; ldc; invokespecial; athrow -/
theorem vx_throwS {cc : ByteArray} {pc : Nat} (hexec : p.tables.exec = Jvm.exec) (hb : c.code = cc) (hl : l.stackTraces = false) {own cls text : String} {names : List String} {ik is ic mc ms sa : Nat} {A : Nat → Prop}
    (hown : s.vm.findClass own = some m.cls) (hcls : Bundle.fit cls = true) (hnames : ∀ n ∈ names, Bundle.fit n = true)
    (hk : (Cond.classLink own ik cls).before args s = true) (hini : (Cond.initialized cls).before args s = true) (hstr : vk_R own is text sa s) (hat : ∀ w ∈ vx_atS own ic cls names, w.before args s = true)
    (hgood : ∀ w ∈ Cond.classLink own ik cls :: Cond.initialized cls :: vx_atS own ic cls names, vx_ot w = true)
    (hU : vx_Zq Bundle.tN "UNASSIGNED_STACK" Bundle.steD A s s.heap) (hN : vx_Zq Bundle.tN "SUPPRESSED_SENTINEL" Bundle.listD A s s.heap) (hS : va_S A s.heap H locs) (hsize : ls.size = c.maxLocals)
    (d0 : decode cc pc = .ok (.new ik, 3)) (d3 : decode cc (pc + 3) = .ok (.dup, 1)) (d4 : decode cc (pc + 4) = .ok (.ldc is, 2)) (d6 : decode cc (pc + 6) = .ok (.invokespecial ic, 3)) (d9 : decode cc (pc + 9) = .ok (.athrow, 1))
    (hout : ∀ x ∈ c.exceptionTable.toList, covers x (pc + 9) = false)
    (hRframes : names.length + 3 < R.frames) (hRlocals : (rest.map fun v => v.category).sum + (13 * (names.length + 1) + 43) ≤ R.locals) (hRcells : cells + 1 ≤ R.cells) (hRslots : slots + 6 ≤ R.slots) (hlocks : meth.locks = false)
    (hx : ∀ t : State, s.vm.Alike t.vm → H.size ≤ t.heap.size → (∀ q : Nat, q < H.size → t.heap[q]? = H[q]?) → XC cls s t)
    (hf : ∀ z ∈ locs, free z.base) (hc : cells + 1 ≤ mc) (hs : slots + 6 ≤ ms) :
    W p l e R s m args below meth c H locs cells slots (vx_MQ below Qc XC args s mc ms free) (F0 m pc ls rest) := by
  intro T hT X
  have htr : e.platform.stackTraces = false := (show e.platform.stackTraces = l.stackTraces by rw [X.admits.platform]).trans hl
  have Y := vx_rebase X (R' := { frames := R.frames, locals := R.locals, cells := 1, slots := 6 }) (Nat.le_refl _) (Nat.le_refl _) hRcells hRslots
  obtain ⟨s', hA⟩ : ∃ z, z = (T.setVm s.vm).setFrames (.invoking m args :: below) := ⟨_, rfl⟩
  rw [← hA] at Y
  have hvm : s'.vm = s.vm := by rw [hA]; rfl
  have hhp : s'.heap = H := by rw [hA]; exact hT
  have hW0 : s.WarmedH s'.vm := by rw [hvm]; exact State.WarmedH.refl s
  have hat' : ∀ w ∈ vx_atS own ic cls names, w.before args s' = true := fun w hw => vx_ot_at hW0 hvm.symm (hgood w (List.mem_cons_of_mem _ (List.mem_cons_of_mem _ hw))) (hat w hw)
  have hk' : (Cond.classLink own ik cls).before args s' = true := vx_ot_at hW0 hvm.symm (hgood _ List.mem_cons_self) hk
  have hini' : (Cond.initialized cls).before args s' = true := vx_ot_at hW0 hvm.symm (hgood _ (List.mem_cons_of_mem _ List.mem_cons_self)) hini
  have hU' : vx_Zq Bundle.tN "UNASSIGNED_STACK" Bundle.steD A s' s'.heap := by rw [hhp]; exact vx_Zq.moved hW0.alike (hU.kept hS.2.1)
  have hN' : vx_Zq Bundle.tN "SUPPRESSED_SENTINEL" Bundle.listD A s' s'.heap := by rw [hhp]; exact vx_Zq.moved hW0.alike (hN.kept hS.2.1)
  have h : ∀ w ∈ Bundle.ownAtoms own ic cls names, w.before args s' = true := vx_own hat' (vx_isRefq hU'.1) (vx_isRefq hN'.1) hU'.2.word hN'.2.word
  have hown' : s'.vm.findClass own = some m.cls := by rw [hvm]; exact hown
  have hins : (Cond.instantiable cls 6).before args s' = true := h _ (by simp [Bundle.ownAtoms])
  obtain ⟨vm₁, cX, kX, hfX, hkX, -, -, X₁, st1⟩ := Y.newCold hexec (own := own) (C := cls) (index := ik) (n := 6) hown' hk' hins hini'
    (g := F0 m pc ls rest) rfl (by rw [hb]; exact d0) (Nat.le_refl _) (Nat.le_refl _)
  generalize hT1 : (T.setVm vm₁).pushCell { cls := cX, slots := kX.instanceTypes.map defaultValue, vm := .none } = T1 at X₁ st1
  have hcat : (Value.ref T.heap.size).category = 1 := rfl
  have hcellA : T1.heap[T.heap.size]? = some (freshCell cX kX) := by rw [← hT1]; exact State.heap_pushCell_size _ _
  have d3' : decode c.code (pc + 3) = .ok (.dup, 1) := by rw [hb]; exact d3
  have d4' : decode c.code (pc + 4) = .ok (.ldc is, 2) := by rw [hb]; exact d4
  have hstr' : vk_R own is text sa s' := vk_R.warm hW0 hstr
  obtain ⟨U, hsteps, hrun, hend, hW, hsame, ce, hce, hO⟩ := X₁.ctorThrowS hexec htr (own := own) (cls := cls) (names := names) (ic := ic) hown' hcls hnames h (fun x hx => nomatch hx) hfX hkX hcellA (by rw [hhp, hT]; exact Nat.le_refl _) (msg := .ref sa) rfl
    (g := { method := m, pc := pc + 6, locals := ls, stack := .ref sa :: .ref T.heap.size :: .ref T.heap.size :: rest, locked := none }) rfl hsize rfl rfl (rest := rest) rfl
    (by rw [hb]; exact d6) (by rw [hb]; exact d9) hout hRframes (by simp only [List.map_cons, List.sum_cons, hcat]; omega) hlocks
  obtain ⟨f1, f2⟩ := vx_frame hsame
  rw [hhp] at f1 f2
  have hWs : s.WarmedH U.vm := State.WarmedH.trans hW0 hW
  have hcl : s.vm.findClass cls = some ce.cls := by
    have h9 := hO.cls
    rw [hvm] at h9
    exact h9
  have hall : s.sameButNew ({ U with vm := s.vm } : State) locs mc ms := by
    subst hA
    obtain ⟨e1, e2⟩ := hsame
    rw [State.setFrames_setFrames] at e1
    have h2 : (T.setVm s.vm).sameButNew ({ U with vm := s.vm } : State) [] (0 + 1) (0 + 6) := ⟨e1, e2⟩
    have h3 := X.same.trans h2
    rw [List.append_nil] at h3
    exact h3.mono hc hs
  refine ⟨U, ?_, .threw T.heap.size, hrun, hend, Or.inr ⟨T.heap.size, rfl, cls, ce, locs, hx U hWs.alike f1 (fun q hq => f2 q hq (fun z hz => nomatch hz)), hce, hO.vm, hcl, hWs, hall, hf⟩⟩
  refine st1 _ ?_
  show Steps p.tables e below (T1.setTop { method := m, pc := pc + 3, locals := ls, stack := .ref T.heap.size :: rest, locked := none }) _
  jvm_step X₁.here [X₁.here.top, hexec, d3', Value.category]
  exact X₁.ldcString hexec (own := own) (text := text) (index := is) (a := sa) hown' hstr'.1 hstr'.2
    (g := { method := m, pc := pc + 4, locals := ls, stack := .ref T.heap.size :: .ref T.heap.size :: rest, locked := none }) rfl d4' _ hsteps
/-- 'throw new E("text")', the text by a wide index -/
theorem vx_throwSW {cc : ByteArray} {pc : Nat} (hexec : p.tables.exec = Jvm.exec) (hb : c.code = cc) (hl : l.stackTraces = false) {own cls text : String} {names : List String} {ik is ic mc ms sa : Nat} {A : Nat → Prop}
    (hown : s.vm.findClass own = some m.cls) (hcls : Bundle.fit cls = true) (hnames : ∀ n ∈ names, Bundle.fit n = true)
    (hk : (Cond.classLink own ik cls).before args s = true) (hini : (Cond.initialized cls).before args s = true) (hstr : vk_R own is text sa s) (hat : ∀ w ∈ vx_atS own ic cls names, w.before args s = true)
    (hgood : ∀ w ∈ Cond.classLink own ik cls :: Cond.initialized cls :: vx_atS own ic cls names, vx_ot w = true)
    (hU : vx_Zq Bundle.tN "UNASSIGNED_STACK" Bundle.steD A s s.heap) (hN : vx_Zq Bundle.tN "SUPPRESSED_SENTINEL" Bundle.listD A s s.heap) (hS : va_S A s.heap H locs) (hsize : ls.size = c.maxLocals)
    (d0 : decode cc pc = .ok (.new ik, 3)) (d3 : decode cc (pc + 3) = .ok (.dup, 1)) (d4 : decode cc (pc + 4) = .ok (.ldc_w is, 3)) (d7 : decode cc (pc + 7) = .ok (.invokespecial ic, 3)) (d10 : decode cc (pc + 10) = .ok (.athrow, 1))
    (hout : ∀ x ∈ c.exceptionTable.toList, covers x (pc + 10) = false)
    (hRframes : names.length + 3 < R.frames) (hRlocals : (rest.map fun v => v.category).sum + (13 * (names.length + 1) + 43) ≤ R.locals) (hRcells : cells + 1 ≤ R.cells) (hRslots : slots + 6 ≤ R.slots) (hlocks : meth.locks = false)
    (hx : ∀ t : State, s.vm.Alike t.vm → H.size ≤ t.heap.size → (∀ q : Nat, q < H.size → t.heap[q]? = H[q]?) → XC cls s t)
    (hf : ∀ z ∈ locs, free z.base) (hc : cells + 1 ≤ mc) (hs : slots + 6 ≤ ms) :
    W p l e R s m args below meth c H locs cells slots (vx_MQ below Qc XC args s mc ms free) (F0 m pc ls rest) := by
  intro T hT X
  have htr : e.platform.stackTraces = false := (show e.platform.stackTraces = l.stackTraces by rw [X.admits.platform]).trans hl
  have Y := vx_rebase X (R' := { frames := R.frames, locals := R.locals, cells := 1, slots := 6 }) (Nat.le_refl _) (Nat.le_refl _) hRcells hRslots
  obtain ⟨s', hA⟩ : ∃ z, z = (T.setVm s.vm).setFrames (.invoking m args :: below) := ⟨_, rfl⟩
  rw [← hA] at Y
  have hvm : s'.vm = s.vm := by rw [hA]; rfl
  have hhp : s'.heap = H := by rw [hA]; exact hT
  have hW0 : s.WarmedH s'.vm := by rw [hvm]; exact State.WarmedH.refl s
  have hat' : ∀ w ∈ vx_atS own ic cls names, w.before args s' = true := fun w hw => vx_ot_at hW0 hvm.symm (hgood w (List.mem_cons_of_mem _ (List.mem_cons_of_mem _ hw))) (hat w hw)
  have hk' : (Cond.classLink own ik cls).before args s' = true := vx_ot_at hW0 hvm.symm (hgood _ List.mem_cons_self) hk
  have hini' : (Cond.initialized cls).before args s' = true := vx_ot_at hW0 hvm.symm (hgood _ (List.mem_cons_of_mem _ List.mem_cons_self)) hini
  have hU' : vx_Zq Bundle.tN "UNASSIGNED_STACK" Bundle.steD A s' s'.heap := by rw [hhp]; exact vx_Zq.moved hW0.alike (hU.kept hS.2.1)
  have hN' : vx_Zq Bundle.tN "SUPPRESSED_SENTINEL" Bundle.listD A s' s'.heap := by rw [hhp]; exact vx_Zq.moved hW0.alike (hN.kept hS.2.1)
  have h : ∀ w ∈ Bundle.ownAtoms own ic cls names, w.before args s' = true := vx_own hat' (vx_isRefq hU'.1) (vx_isRefq hN'.1) hU'.2.word hN'.2.word
  have hown' : s'.vm.findClass own = some m.cls := by rw [hvm]; exact hown
  have hins : (Cond.instantiable cls 6).before args s' = true := h _ (by simp [Bundle.ownAtoms])
  obtain ⟨vm₁, cX, kX, hfX, hkX, -, -, X₁, st1⟩ := Y.newCold hexec (own := own) (C := cls) (index := ik) (n := 6) hown' hk' hins hini'
    (g := F0 m pc ls rest) rfl (by rw [hb]; exact d0) (Nat.le_refl _) (Nat.le_refl _)
  generalize hT1 : (T.setVm vm₁).pushCell { cls := cX, slots := kX.instanceTypes.map defaultValue, vm := .none } = T1 at X₁ st1
  have hcat : (Value.ref T.heap.size).category = 1 := rfl
  have hcellA : T1.heap[T.heap.size]? = some (freshCell cX kX) := by rw [← hT1]; exact State.heap_pushCell_size _ _
  have d3' : decode c.code (pc + 3) = .ok (.dup, 1) := by rw [hb]; exact d3
  have d4' : decode c.code (pc + 4) = .ok (.ldc_w is, 3) := by rw [hb]; exact d4
  have hstr' : vk_R own is text sa s' := vk_R.warm hW0 hstr
  obtain ⟨U, hsteps, hrun, hend, hW, hsame, ce, hce, hO⟩ := X₁.ctorThrowS hexec htr (own := own) (cls := cls) (names := names) (ic := ic) hown' hcls hnames h (fun x hx => nomatch hx) hfX hkX hcellA (by rw [hhp, hT]; exact Nat.le_refl _) (msg := .ref sa) rfl
    (g := { method := m, pc := pc + 7, locals := ls, stack := .ref sa :: .ref T.heap.size :: .ref T.heap.size :: rest, locked := none }) rfl hsize rfl rfl (rest := rest) rfl
    (by rw [hb]; exact d7) (by rw [hb]; exact d10) hout hRframes (by simp only [List.map_cons, List.sum_cons, hcat]; omega) hlocks
  obtain ⟨f1, f2⟩ := vx_frame hsame
  rw [hhp] at f1 f2
  have hWs : s.WarmedH U.vm := State.WarmedH.trans hW0 hW
  have hcl : s.vm.findClass cls = some ce.cls := by
    have h9 := hO.cls
    rw [hvm] at h9
    exact h9
  have hall : s.sameButNew ({ U with vm := s.vm } : State) locs mc ms := by
    subst hA
    obtain ⟨e1, e2⟩ := hsame
    rw [State.setFrames_setFrames] at e1
    have h2 : (T.setVm s.vm).sameButNew ({ U with vm := s.vm } : State) [] (0 + 1) (0 + 6) := ⟨e1, e2⟩
    have h3 := X.same.trans h2
    rw [List.append_nil] at h3
    exact h3.mono hc hs
  refine ⟨U, ?_, .threw T.heap.size, hrun, hend, Or.inr ⟨T.heap.size, rfl, cls, ce, locs, hx U hWs.alike f1 (fun q hq => f2 q hq (fun z hz => nomatch hz)), hce, hO.vm, hcl, hWs, hall, hf⟩⟩
  refine st1 _ ?_
  show Steps p.tables e below (T1.setTop { method := m, pc := pc + 3, locals := ls, stack := .ref T.heap.size :: rest, locked := none }) _
  jvm_step X₁.here [X₁.here.top, hexec, d3', Value.category]
  exact X₁.ldcStringW hexec (own := own) (text := text) (index := is) (a := sa) hown' hstr'.1 hstr'.2
    (g := { method := m, pc := pc + 4, locals := ls, stack := .ref T.heap.size :: .ref T.heap.size :: rest, locked := none }) rfl d4' _ hsteps
end Ends
section Bodies
variable {l : Launch}
theorem vx_ofW {y : MethodName} {ws ws' : List Cond} {rm : Room} {Pc : Array Value → State → Prop} {Qc : Array Value → State → Outcome → State → Prop} {XC : String → State → State → Prop} {mc ms : Nat} {free : Addr → Prop} {cc : ByteArray} {maxL : Nat} {ret : Option FieldType}
    (hy : plainName y.cls = true) (hw : ws = Cond.code y cc maxL ret :: ws')
    (body : ∀ p e s m args below meth c s₁, BodyLoose p l y (headSpec ws rm) cc maxL ret e s m args below meth c s₁ → c.maxLocals = maxL → (∀ x ∈ c.exceptionTable.toList, False) → Pc args s →
      W p l e (headSpec ws rm).room s m args below meth c s.heap [] 0 0 (vx_MQ below Qc XC args s mc ms free) (entryFrame m args maxL)) : vx_Met l y ws rm Pc Qc XC mc ms free := by
  refine MetFree.of_bodyS (code := cc) (maxLocals := maxL) (ret := ret) hy ?_ ?_
  · intro args s m h hn
    obtain ⟨meth, c, h1, h2, h3, h4, h5, h6, -, -⟩ := Cond.code_spec hn (atoms_spec (ws := ws) h _ (by rw [hw]; exact List.mem_cons_self))
    exact ⟨meth, c, h1, h2, h3, h4, h5, h6⟩
  · intro p e s m args below meth c s₁ B hml hP _
    have hh0 : s₁.heap = s.heap := by rw [B.state]; rfl
    have ht : ∀ x ∈ c.exceptionTable.toList, False := by
      obtain ⟨meth9, c9, h1, h2, -, -, -, -, h7, -⟩ := Cond.code_spec B.named (atoms_spec (ws := ws) B.pre _ (by rw [hw]; exact List.mem_cons_self))
      cases Option.some.inj (h1.symm.trans B.method)
      cases Option.some.inj (h2.symm.trans (Stand.of_body B).code)
      intro x hx
      rw [Array.isEmpty_iff.mp h7] at hx
      cases hx
    obtain ⟨t, a1, o, b1, b2, b3⟩ := body p e s m args below meth c s₁ B hml ht hP s₁ hh0 (Stand.of_body B)
    exact ⟨t, o, a1, b1, b2, b3⟩
/-- the table of a body with handlers -/
theorem vx_table {p : Program} {x y : MethodName} {S : Spec} {cc bytes : ByteArray} {maxL maxL' : Nat} {ret ret' : Option FieldType} {e : Env} {s s₁ : State} {m : MethodId} {args : Array Value} {below : List Frame} {meth : Method} {c : Code} {hh : List (Nat × Nat × Nat × Nat)}
    (B : BodyLoose p l y S cc maxL ret e s m args below meth c s₁) (h : (Cond.codeWith y bytes maxL' ret' hh).before args s = true) : c.exceptionTable.toList = tableOf hh := by
  obtain ⟨m9, meth9, c9, hn9, h1, h2, -, -, h6, -⟩ := Cond.codeWith_spec h
  cases Option.some.inj (hn9.symm.trans B.named)
  cases Option.some.inj (h1.symm.trans B.method)
  cases Option.some.inj (h2.symm.trans (Stand.of_body B).code)
  rw [← h6, table_eq]
end Bodies
end VXA
/-! ===== END ===== -/
/-! ===== BEGIN a static call of a method with an exception table ===== -/
section VXS
variable {p : Program} {l : Launch} {e : Env} {R : Room} {s : State} {m : MethodId} {args : Array Value} {below : List Frame} {meth : Method} {c : Code} {T : State} {H : Heap} {locs : List Loc} {cells slots : Nat}
abbrev vx_CSW (R : Room) (s : State) (args : Array Value) (own : String) (index : Nat) (y : MethodName) (bytes : ByteArray) (maxL : Nat) (ret : Option FieldType) (hh : List (Nat × Nat × Nat × Nat)) (ws : List Cond) (rm : Room) (mc ms n : Nat) : Prop :=
  (rm.cells = mc ∧ rm.slots = ms ∧ rm.frames + 1 ≤ R.frames ∧ 8 + (maxL + 11) + rm.locals ≤ R.locals ∧ (∀ w ∈ ws, ∀ (a' : Array Value) (U : State), s.WarmedH U.vm → w.before a' U = true) ∧ Cond.codeWith y bytes maxL ret hh ∈ ws) ∧
  (Cond.codeWith y bytes maxL ret hh).before args s = true ∧ (Cond.initialized y.cls).before args s = true ∧ (y.cls ≠ "java/lang/invoke/MethodHandle" ∧ y.cls ≠ "java/lang/invoke/VarHandle") ∧
  (∀ sig, parseMethodDescriptor y.desc = some sig → n = sig.parameters.length) ∧ (Cond.methodLink own index y).before args s = true ∧ (Cond.static y).before args s = true
theorem vx_cwSW {own : String} {index maxL mc ms : Nat} {y : MethodName} {bytes : ByteArray} {ret : Option FieldType} {hh : List (Nat × Nat × Nat × Nat)} {Ts ws ws' : List Cond} {rm : Room} (n : Nat) (ht : ∀ w ∈ Ts, w.before args s = true) (hT : GoodIn Ts (va_wsS own index y ws)) (hw : ws = Cond.codeWith y bytes maxL ret hh :: ws') (hrc : rm.cells = mc) (hrs : rm.slots = ms)
    (hd : y.cls ≠ "java/lang/invoke/MethodHandle" ∧ y.cls ≠ "java/lang/invoke/VarHandle" ∧ (parseMethodDescriptor y.desc).map (fun d => d.parameters.length) = some n) (hR : rm.frames + 1 ≤ R.frames ∧ 8 + (maxL + 11) + rm.locals ≤ R.locals) :
    vx_CSW R s args own index y bytes maxL ret hh ws rm mc ms n := by
  have ok : ∀ w ∈ va_wsS own index y ws, w.before args s = true := fun w h => ht w (hT w h).1
  have hG : GoodIn Ts ws := fun w h => hT w (by unfold va_wsS; exact List.mem_append_right _ h)
  have hc : Cond.codeWith y bytes maxL ret hh ∈ ws := by rw [hw]; exact List.mem_cons_self
  refine ⟨⟨hrc, hrs, hR.1, hR.2, pay_in ht hG, hc⟩, ht _ (hG _ hc).1, ok _ (by simp [va_wsS]), ⟨hd.1, hd.2.1⟩, fun sig h => ?_, ok _ (by simp [va_wsS]), ok _ (by simp [va_wsS])⟩
  have h2 := hd.2.2
  rw [h] at h2
  exact (Option.some.inj h2).symm
theorem vx_callSW (X : Stand p l e R s m args below meth c T locs cells slots) (hexec : p.tables.exec = Jvm.exec) {own : String} {index : Nat} {y : MethodName} {bytes : ByteArray} {maxL : Nat} {ret : Option FieldType} {hh : List (Nat × Nat × Nat × Nat)}
    (hown : s.vm.findClass own = some m.cls) (hlink : (Cond.methodLink own index y).before args s = true) (hstat : (Cond.static y).before args s = true) (hinit : (Cond.initialized y.cls).before args s = true)
    (hcode : (Cond.codeWith y bytes maxL ret hh).before args s = true) (hy : y.cls ≠ "java/lang/invoke/MethodHandle" ∧ y.cls ≠ "java/lang/invoke/VarHandle")
    {W9 : Nat} {Pre : Pt → Array Value → Prop} {Post : Pt → Array Value → Option Value → Pt → Prop} (hK : Back l R p e below s args y 3 W9 Pre Post)
    {g : JFrame} (hg : g.method = m) (hsize : g.locals.size = c.maxLocals) {argsL rest : List Value} (hlen : ∀ sig, parseMethodDescriptor y.desc = some sig → argsL.length = sig.parameters.length)
    (hstack : g.stack = argsL.reverse ++ rest) (hW : 2 * g.monitorRoom + (rest.map fun v => v.category).sum ≤ W9) (hdg : decode c.code g.pc = .ok (.invokestatic index, 3))
    (hpre : ∀ vm₁, s.WarmedH vm₁ → Pre ⟨T.setVm vm₁, locs, cells, slots⟩ argsL.toArray) :
    ∃ (v : Option Value) (vm₁ : Vm) (B : Pt), s.WarmedH vm₁ ∧ Stand p l e R s m args below meth c B.U B.locs B.cells B.slots ∧ Post ⟨T.setVm vm₁, locs, cells, slots⟩ argsL.toArray v B ∧
      ∀ target, Steps p.tables e below (B.U.setTop { g with pc := g.pc + 3, stack := v.toList ++ rest }) target → Steps p.tables e below (T.setTop g) target := by
  obtain ⟨mk, methM, cM, hnamed, hmethM, -, -, -, -, -, -, hsigM⟩ := Cond.codeWith_spec hcode
  have hstatic : methM.isStatic = true := Cond.static_spec hnamed hmethM hstat
  obtain ⟨kP, hkP, -⟩ := className_of_methodNamed hnamed
  have hinitP : kP.init = .initialized := Cond.initialized_spec (findClass_of_methodNamed hnamed) hkP hinit
  obtain ⟨vm₁, X₁, hstep₁⟩ := X.invokestatic hexec hown hlink hnamed hmethM hstatic hkP hinitP hy (g := g) hg (argsL := argsL) (rest := rest) (hlen _ hsigM) hstack hdg
  obtain ⟨v, B, X', hpost, hsteps⟩ := hK m meth c ⟨T.setVm vm₁, locs, cells, slots⟩ { g with stack := rest } (.invokestatic index) mk argsL.toArray X₁ hg hsize hdg hW (X₁.named hnamed) (hpre vm₁ X₁.warmed)
  exact ⟨v, vm₁, B, X₁.warmed, X', hpost, fun target h => hstep₁ _ fun acts => by rw [doInvoke_state]; exact hsteps.trans h⟩
theorem vx_runSW {y : MethodName} {bytes cc : ByteArray} {maxL nL mc ms n index : Nat} {ret : Option FieldType} {hh : List (Nat × Nat × Nat × Nat)} {ws : List Cond} {rm : Room} {Pc : Array Value → State → Prop} {Qc : Array Value → State → Outcome → State → Prop} {free : Addr → Prop} {Ts : List Cond} {own : String} {As rest : List Value} {g : JFrame}
    (S : CallFix p m c cc nL s args Ts own) (hM : Met l y ws rm Pc Qc mc ms free) (cw : vx_CSW R s args own index y bytes maxL ret hh ws rm mc ms n) (hp : PreS s H Pc As)
    (hg : g.method = m) (hn : As.length = n) (hsize : g.locals.size = nL) (hstack : g.stack = As.reverse ++ rest) (hW : 2 * g.monitorRoom + (rest.map fun v => v.category).sum ≤ 8) (hdg : decode cc g.pc = .ok (.invokestatic index, 3)) (hf : cells + mc ≤ R.cells ∧ slots + ms ≤ R.slots) :
    va_Run p l e R s m args below meth c H locs cells slots mc ms g rest (Qc As.toArray) (free) := by
  obtain ⟨⟨hrc, hrs, hfr, hlo, hws, hcw⟩, hcode, hini, hy, hlen, hl, hstt⟩ := cw
  have hK : Back l R p e below s args y 3 8 (PreOf R mc ms Pc) (PostOf Qc mc ms free) := va_backW (hh := hh) (bytes := bytes) (maxL := maxL) (ret := ret) hM hp.1 hrc hrs hfr hlo hws hcw (fun a' U hW => word_at hW (Or.inl (by first | rfl | simp [Cond.onTables, Cond.keeps, Cond.steady])) hini)
  obtain ⟨hx, hb, hml, ho, -⟩ := S
  intro T hT X
  obtain ⟨v, vm₁, ⟨U', l2, c2, s2⟩, hW₁, X', ⟨g', mk, t, L, e1, e2, hq, h1, hL, h2, h3⟩, st⟩ := vx_callSW X hx (hh := hh) (bytes := bytes) (maxL := maxL) (ret := ret) ho hl hstt hini hcode hy hK hg (hsize.trans hml.symm) (argsL := As) (rest := rest) (fun sig h => hn.trans (hlen sig h)) hstack hW (by rw [hb]; exact hdg)
    (fun vm₁ hW₁ => ⟨hf.1, hf.2, hp.2 (T.setVm vm₁) hT hW₁⟩)
  dsimp only [Pt.U, Pt.locs, Pt.cells, Pt.slots] at X' e1 e2 h1 h2 h3 st
  subst h1; subst h2; subst h3
  exact ⟨v, (T.setVm vm₁).calling g' mk As.toArray, t, U', L, hT, X', hL, e1, e2, hq, st⟩
/-- not caught here, past rows that name other classes: it goes on to the caller -/
theorem vx_outP {p : Program} {l : Launch} {e : Env} {R : Room} {s : State} {m : MethodId} {args : Array Value} {below : List Frame} {meth : Method} {c : Code} {H : Heap} {locs : List Loc} {cells slots : Nat} {free : Addr → Prop} {ls : Array Slot} {rest : List Value} {Qc : Array Value → State → Outcome → State → Prop} {XC : String → State → State → Prop}
    {pc : Nat} {own E : String} {ce : Cell} {q : Addr} {mc ms : Nat} (hown : s.vm.findClass own = some m.cls) (hlocks : meth.locks = false)
    (hpass : ∀ z ∈ c.exceptionTable.toList, covers z pc = false ∨ (z.catchType ≠ 0 ∧ ∃ nm : String, (Cond.classLink own z.catchType nm).before args s = true ∧ va_Nc E nm s)) (hcell : H[q]? = some ce) (hv : ce.vm = .none) (hcl : s.vm.findClass E = some ce.cls)
    (hx : ∀ t : State, t.heap = H → s.vm.Alike t.vm → XC E s t) (hf : ∀ z ∈ locs, free z.base) (hc : cells ≤ mc) (hs : slots ≤ ms) :
    vx_W p l e R s m args below meth c H locs cells slots (vx_MQ below Qc XC args s mc ms free) (F0 m pc ls rest) q := by
  intro T hT X
  have hpl : e.platform.magicAccessors = ({} : Platform).magicAccessors := by rw [X.admits.platform]
  obtain ⟨vm', hW', X', st⟩ := X.outThrough hlocks q (g := F0 m pc ls rest) rfl rfl rfl (cell := ce) (by rw [hT]; exact hcell) (by rw [hv]; rfl)
    (by obtain ⟨k9, h9, -⟩ := Vm.findClass_spec hcl; exact ⟨k9, h9⟩) (fun z hz => by
      rcases hpass z hz with h | ⟨hz0, nm, hl1, hn1⟩
      · exact Or.inl h
      · obtain ⟨c6, hc6, hcl6⟩ := Cond.classLink_spec hown hl1 e.platform hpl
        obtain ⟨a8, b8, h1, h2, h3⟩ := hn1
        cases Option.some.inj (h1.symm.trans hcl)
        cases Option.some.inj (h2.symm.trans hc6)
        exact Or.inr ⟨hz0, _, hcl6, h3⟩)
  obtain ⟨g₀, hfr⟩ := X'.frames_eq
  have hcell9 : ((T.setVm vm').setFrames (.throwing q :: below)).heap[q]? = some ce := by
    show T.heap[q]? = some ce
    rw [hT]; exact hcell
  have hend : Ended ((T.setVm vm').setFrames (.throwing q :: below)) below (.threw q) := State.frames_setFrames _ (State.cur_lt_of_frames hfr)
  refine ⟨(T.setVm vm').setFrames (.throwing q :: below), ?_, .threw q, X'.here.running, hend, Or.inr ⟨q, rfl, E, ce, locs, hx _ hT (X'.ends _).1.alike, hcell9, hv, hcl, (X'.ends _).1, (X'.ends _).2.mono hc hs, hf⟩⟩
  rw [X.pushThrowing_eq]
  exact st
/-- a thing of a world lies in the heap -/
theorem vx_lt {D : va_G} {cl : List vw_C} {ws : va_W} {H1 : Heap} (h : va_P D cl ws H1) {k : Nat} {q : Nat × va_E} (hk : ws[k]? = some q) : q.1 < H1.size := (h k q hk).lt
end VXS
/-! ===== END ===== -/
end
section
/-! THE ABSTRACT MACHINE: the state is a tuple of maps (ints, references, longs, doubles, kinds), cells are numbers; a program is a list of tables. -/
/-- ints (also boolean, char, byte), references (0 is null), longs, doubles, kinds (kind, length), next number, slots used -/
abbrev qq_S : Type := (Nat → Nat → Int32) × (Nat → Nat → Nat) × (Nat → Nat → Int64) × (Nat → Nat → UInt64) × (Nat → Nat × Nat) × Nat × Nat
def rd_I (σ : qq_S) (a k : Nat) : Int32 := σ.1 a k
def rd_R (σ : qq_S) (a k : Nat) : Nat := σ.2.1 a k
def rd_L (σ : qq_S) (a k : Nat) : Int64 := σ.2.2.1 a k
def rd_D (σ : qq_S) (a k : Nat) : UInt64 := σ.2.2.2.1 a k
def kd_S (σ : qq_S) (a : Nat) : Nat × Nat := σ.2.2.2.2.1 a
def sz_S (σ : qq_S) : Nat := σ.2.2.2.2.2.1
def su_S (σ : qq_S) : Nat := σ.2.2.2.2.2.2
def up_2 {α : Type} (f : Nat → Nat → α) (a k : Nat) (v : α) : Nat → Nat → α := fun b j => if b = a ∧ j = k then v else f b j
def ze_2 {α : Type} (f : Nat → Nat → α) (a n : Nat) (v : α) : Nat → Nat → α := fun b j => if a ≤ b ∧ b < a + n then v else f b j
def wr_I (σ : qq_S) (a k : Nat) (v : Int32) : qq_S := (up_2 σ.1 a k v, σ.2)
def wr_R (σ : qq_S) (a k : Nat) (v : Nat) : qq_S := (σ.1, up_2 σ.2.1 a k v, σ.2.2)
def wr_L (σ : qq_S) (a k : Nat) (v : Int64) : qq_S := (σ.1, σ.2.1, up_2 σ.2.2.1 a k v, σ.2.2.2)
def wr_D (σ : qq_S) (a k : Nat) (v : UInt64) : qq_S := (σ.1, σ.2.1, σ.2.2.1, up_2 σ.2.2.2.1 a k v, σ.2.2.2.2)
/-- n new cells of one kind, of s slots in all, their maps at their defaults -/
def nw_S (σ : qq_S) (n : Nat) (kd : Nat × Nat) (s : Nat) : qq_S := (ze_2 σ.1 (sz_S σ) n 0, ze_2 σ.2.1 (sz_S σ) n 0, ze_2 σ.2.2.1 (sz_S σ) n 0, ze_2 σ.2.2.2.1 (sz_S σ) n 0, (fun b => if sz_S σ ≤ b ∧ b < sz_S σ + n then kd else kd_S σ b), sz_S σ + n, su_S σ + s)
/-- the rows of a two-dimensional array: the outer's places hold the cells behind it -/
def gr_S (σ : qq_S) (a n : Nat) : qq_S := (σ.1, (fun b j => if b = a ∧ j < n then a + 1 + j else σ.2.1 b j), σ.2.2)
/-- an array copied into another one -/
def cp_S (σ : qq_S) (a sp b dp n : Nat) : qq_S := ((fun c j => if c = b ∧ dp ≤ j ∧ j < dp + n then σ.1 a (sp + (j - dp)) else σ.1 c j), σ.2)
/-- a copy of a byte array -/
def cl_S (σ : qq_S) (a : Nat) : qq_S := cp_S (nw_S σ 1 (102, (kd_S σ a).2) (kd_S σ a).2) a 0 (sz_S σ) 0 (kd_S σ a).2
noncomputable def qq_if {α : Type} (P : Prop) (x y : α) : α := @ite α P (Classical.propDecidable P) x y
theorem qq_if_t {α : Type} {P : Prop} {x y : α} (h : P) : qq_if P x y = x := @if_pos P (Classical.propDecidable P) h α x y
theorem qq_if_f {α : Type} {P : Prop} {x y : α} (h : ¬ P) : qq_if P x y = y := @if_neg P (Classical.propDecidable P) h α x y
theorem qq_if_some {α : Type} {P : Prop} {x y : α} (h : qq_if P (some x) none = some y) : P ∧ x = y := by
  by_cases hP : P
  · rw [qq_if_t hP] at h; exact ⟨hP, Option.some.inj h⟩
  · rw [qq_if_f hP] at h; cases h
/-- a slot's value by its type -/
def qq_val (σ : qq_S) (ty : FieldType) (a k : Nat) : Value := match ty with
  | .long => .long (rd_L σ a k)
  | .double => .double (rd_D σ a k)
  | .object _ => .ref (rd_R σ a k)
  | .array _ => .ref (rd_R σ a k)
  | .float => .float 0
  | _ => .int (rd_I σ a k)
noncomputable def qq_put (σ : qq_S) (ty : FieldType) (a k : Nat) (v : Value) : Option qq_S := match ty with
  | .long => (match v with | .long x => some (wr_L σ a k x) | _ => none)
  | .double => (match v with | .double x => some (wr_D σ a k x) | _ => none)
  | .object _ => (match v with | .ref x => some (wr_R σ a k x) | _ => none)
  | .array _ => (match v with | .ref x => some (wr_R σ a k x) | _ => none)
  | .float => none
  | .int => (match v with | .int x => some (wr_I σ a k x) | _ => none)
  | ty => (match v with | .int x => qq_if (narrow ty (.int x) = .int x ∧ fits ty (.int x) = true) (some (wr_I σ a k x)) none | _ => none)
/-- a pushed constant -/
def qq_cst : Instr → Option Value
  | .iconst n => some (.int (Int32.ofInt n))
  | .bipush n => some (.int (Int8.ofInt n).toInt32)
  | .sipush n => some (.int (Int16.ofInt n).toInt32)
  | .lconst n => some (.long (Int64.ofNat n))
  | .aconst_null => some (.ref 0)
  | .fconst n => if n = 0 then some (.float FP.fconst0) else none
  | .dconst n => if n = 0 then some (.double FP.dconst0) else none
  | _ => none
noncomputable def qq_un : Instr → Value → Option Value
  | .ineg, .int x => some (.int (-x))
  | .i2l, .int x => some (.long x.toInt64)
  | .l2i, .long x => some (.int x.toInt32)
  | .i2b, .int x => some (.int x.toInt8.toInt32)
  | .i2c, .int x => some (.int (x.toUInt32 % 65536).toInt32)
  | .i2d, .int x => some (.double (FP.i2d x))
  | .i2f, .int x => some (.float (FP.i2f x))
  | .f2d, .float x => qq_if (vf_n64 (FP.f2d x)) (some (.double (FP.f2d x))) none
  | _, _ => none
/-- the second operand (on top) comes first -/
noncomputable def qq_bin : Instr → Value → Value → Option Value
  | .iadd, .int y, .int x => some (.int (x + y))
  | .isub, .int y, .int x => some (.int (x - y))
  | .imul, .int y, .int x => some (.int (x * y))
  | .idiv, .int y, .int x => qq_if (¬ y = 0) (some (.int (x / y))) none
  | .irem, .int y, .int x => qq_if (¬ y = 0) (some (.int (x - x / y * y))) none
  | .iand, .int y, .int x => some (.int (x &&& y))
  | .ior, .int y, .int x => some (.int (x ||| y))
  | .ixor, .int y, .int x => some (.int (x ^^^ y))
  | .ishl, .int y, .int x => some (.int (x <<< (y &&& 31)))
  | .ishr, .int y, .int x => some (.int (x >>> (y &&& 31)))
  | .iushr, .int y, .int x => some (.int (x.toUInt32 >>> (y.toUInt32 &&& Int32.toUInt32 31)).toInt32)
  | .ladd, .long y, .long x => some (.long (x + y))
  | .lsub, .long y, .long x => some (.long (x - y))
  | .land, .long y, .long x => some (.long (x &&& y))
  | .lor, .long y, .long x => some (.long (x ||| y))
  | .lshl, .int y, .long x => some (.long (x <<< (y.toInt64 &&& 63)))
  | .lshr, .int y, .long x => some (.long (x >>> (y.toInt64 &&& 63)))
  | .lcmp, .long y, .long x => some (.int (lg_cmp x y))
  | .ddiv, .double y, .double x => qq_if (vf_n64 (FP.ddiv x y)) (some (.double (FP.ddiv x y))) none
  | .fdiv, .float y, .float x => qq_if (vf_n32 (FP.fdiv x y)) (some (.float (FP.fdiv x y))) none
  | .dcmp op, .double y, .double x => some (.int (Op.cmpValue (FP.dcmp x y) op))
  | .fcmp op, .float y, .float x => some (.int (Op.cmpValue (FP.fcmp x y) op))
  | _, _, _ => none
def qq_shf : Instr → List Value → Option (List Value)
  | .pop, v :: st => if v.category = 1 then some st else none
  | .dup, v :: st => if v.category = 1 then some (v :: v :: st) else none
  | .dup_x1, v :: w :: st => if v.category = 1 ∧ w.category = 1 then some (v :: w :: v :: st) else none
  | .dup2, v :: w :: st => if v.category = 1 ∧ w.category = 1 then some (v :: w :: v :: w :: st) else none
  | _, _ => none
/-- loads and stores: the place and the type's code -/
def qq_ldi : Instr → Option (Nat × Nat)
  | .iload_n k => some (k.val, 0)
  | .iload k => some (k, 0)
  | .lload_n k => some (k.val, 1)
  | .lload k => some (k, 1)
  | .fload_n k => some (k.val, 2)
  | .fload k => some (k, 2)
  | .dload_n k => some (k.val, 3)
  | .dload k => some (k, 3)
  | .aload_n k => some (k.val, 4)
  | .aload k => some (k, 4)
  | _ => none
def qq_sti : Instr → Option (Nat × Nat)
  | .istore_n k => some (k.val, 0)
  | .istore k => some (k, 0)
  | .lstore_n k => some (k.val, 1)
  | .lstore k => some (k, 1)
  | .fstore_n k => some (k.val, 2)
  | .fstore k => some (k, 2)
  | .dstore_n k => some (k.val, 3)
  | .dstore k => some (k, 3)
  | .astore_n k => some (k.val, 4)
  | .astore k => some (k, 4)
  | _ => none
def qq_tc : Value → Nat
  | .int _ => 0
  | .long _ => 1
  | .float _ => 2
  | .double _ => 3
  | .ref _ => 4
  | _ => 9
/-- the locals behind a store: a long or double takes two places; one that stood across is gone -/
def qq_set (ls : List (Option Value)) (i : Nat) (v : Value) : List (Option Value) :=
  let l1 := if v.category = 2 then ls.set (i + 1) none else ls
  let l2 := match i with
    | 0 => l1
    | h + 1 => (match l1[h]? with | some (some w) => if w.category = 2 then l1.set h none else l1 | _ => l1)
  l2.set i (some v)
def qq_c0 : ClassFile.Cond → Int32 → Bool
  | .eq, x => decide (x = 0)
  | .ne, x => decide (¬ x = 0)
  | .lt, x => decide (x < 0)
  | .ge, x => decide (0 ≤ x)
  | .gt, x => decide (0 < x)
  | .le, x => decide (x ≤ 0)
def qq_c2 : ClassFile.Cond → Int32 → Int32 → Bool
  | .eq, x, y => decide (x = y)
  | .ne, x, y => decide (¬ x = y)
  | .lt, x, y => decide (x < y)
  | .ge, x, y => decide (y ≤ x)
  | .gt, x, y => decide (y < x)
  | .le, x, y => decide (x ≤ y)
/-- a branch: taken or not, and the stack behind -/
def qq_br : Instr → List Value → Option (Bool × List Value)
  | .ifCond c _, .int x :: st => some (qq_c0 c x, st)
  | .if_icmp c _, .int y :: .int x :: st => some (qq_c2 c x y, st)
  | .goto _, st => some (true, st)
  | .ifnull _, .ref a :: st => if a = 2 then none else some (decide (a = 0), st)
  | .ifnonnull _, .ref a :: st => if a = 2 then none else some (decide (¬ a = 0), st)
  | _, _ => none
/-- which of the table's targets (0: default) a switch takes -/
def qq_sw : Instr → Int32 → Option Nat
  | .tableswitch _ lo hi _, x => some (if x.toInt < lo ∨ hi < x.toInt then 0 else (x.toInt - lo).toNat + 1)
  | .lookupswitch _ ps, x => some (match ps.toList.findIdx? (fun p => p.1 == x.toInt) with | some i => i + 1 | none => 0)
  | _, _ => none
/-- how many bytes -/
def qq_len : Instr → Nat
  | .bipush _ => 2 | .sipush _ => 3 | .iload _ => 2 | .lload _ => 2 | .fload _ => 2 | .dload _ => 2 | .aload _ => 2
  | .istore _ => 2 | .lstore _ => 2 | .fstore _ => 2 | .dstore _ => 2 | .astore _ => 2 | .iinc _ _ => 3
  | .ifCond _ _ => 3 | .if_icmp _ _ => 3 | .goto _ => 3 | .checkcast _ => 3 | .ifnull _ => 3 | .ifnonnull _ => 3
  | .getfield _ => 3 | .putfield _ => 3 | .getstatic _ => 3 | .new _ => 3 | .newarray _ => 2 | .anewarray _ => 3 | .multianewarray _ _ => 4
  | .invokevirtual _ => 3 | .invokespecial _ => 3 | .invokestatic _ => 3 | .ldc _ => 2 | .ldc_w _ => 3
  | _ => 1
end
section
/-! THE PROGRAM AS TABLES (by wip/whole/qgen.py, out of the claim folder) -/
def RJ0 : String := "java/lang/String"
def RJ1 : String := "java/lang/StringLatin1"
def RJ3 : String := "jdk/internal/util/Preconditions"
def RJ4 : String := "java/lang/StringBuilder"
def RJ5 : String := "java/lang/AbstractStringBuilder"
def RJ6 : String := "java/lang/Integer"
def RJ7 : String := "java/util/Arrays"
def RJ8 : String := "jdk/internal/util/ArraysSupport"
def RJ9 : String := "java/lang/Math"
def RJx29ce0 : String := "java/lang/Enum"
def RL : String := "StatueChanceryLaw"
def RX10 : String := "StatueChancery$Writs"
def RX11 : String := "StatueChancery"
def RX2 : String := "StatueChancery$Docket"
def RX3 : String := "StatueChancery$History"
def RX4 : String := "StatueChancery$Leaps"
def RX5 : String := "StatueChancery$Marble"
def RX6 : String := "StatueChancery$Plaza"
def RX7 : String := "StatueChancery$Realm"
def RX8 : String := "StatueChancery$Script"
def RX9 : String := "StatueChancery$Till"
def TJ4 : u_T := fun k => match k with
  | 0 => ("java/lang/AbstractStringBuilder", "value", "[B", false)
  | 1 => ("java/lang/AbstractStringBuilder", "coder", "B", false)
  | 2 => ("java/lang/AbstractStringBuilder", "maybeLatin1", "Z", false)
  | _ => ("java/lang/AbstractStringBuilder", "count", "I", false)
def tyJ4 : Nat → FieldType := fun k => match k with
  | 0 => .array .byte
  | 1 => .byte
  | 2 => .boolean
  | _ => .int
def TX2 : u_T := fun k => match k with
  | 0 => ("StatueChancery$Docket", "order", "[I", true)
  | _ => ("StatueChancery$Docket", "taken", "[I", true)
def tyX2 : Nat → FieldType := fun k => match k with
  | 0 => .array .int
  | _ => .array .int
def TX3 : u_T := fun k => match k with
  | 0 => ("StatueChancery$History", "before", "[LStatueChancery$Realm;", true)
  | 1 => ("StatueChancery$History", "oldest", "I", false)
  | _ => ("StatueChancery$History", "count", "I", false)
def tyX3 : Nat → FieldType := fun k => match k with
  | 0 => .array (.object "StatueChancery$Realm")
  | 1 => .int
  | _ => .int
def TX4 : u_T := fun k => match k with
  | 0 => ("StatueChancery$Leaps", "reached", "[I", true)
  | _ => ("StatueChancery$Leaps", "reachedTwice", "[I", true)
def tyX4 : Nat → FieldType := fun k => match k with
  | 0 => .array .int
  | _ => .array .int
def TX5 : u_T := fun k => match k with
  | 0 => ("StatueChancery$Marble", "store", "[I", true)
  | 1 => ("StatueChancery$Marble", "added", "[I", true)
  | _ => ("StatueChancery$Marble", "treasured", "I", false)
def tyX5 : Nat → FieldType := fun k => match k with
  | 0 => .array .int
  | 1 => .array .int
  | _ => .int
def TX6 : u_T := fun k => match k with
  | 0 => ("StatueChancery$Plaza", "pedestals", "I", false)
  | 1 => ("StatueChancery$Plaza", "arrows", "[I", true)
  | 2 => ("StatueChancery$Plaza", "statues", "I", false)
  | 3 => ("StatueChancery$Plaza", "weights", "[I", true)
  | 4 => ("StatueChancery$Plaza", "places", "[I", true)
  | 5 => ("StatueChancery$Plaza", "homes", "[I", true)
  | _ => ("StatueChancery$Plaza", "heaviestFirst", "[I", true)
def tyX6 : Nat → FieldType := fun k => match k with
  | 0 => .int
  | 1 => .array .int
  | 2 => .int
  | 3 => .array .int
  | 4 => .array .int
  | 5 => .array .int
  | _ => .array .int
def TX7 : u_T := fun k => match k with
  | 0 => ("StatueChancery$Realm", "plaza", "LStatueChancery$Plaza;", true)
  | 1 => ("StatueChancery$Realm", "writs", "LStatueChancery$Writs;", true)
  | 2 => ("StatueChancery$Realm", "marble", "LStatueChancery$Marble;", true)
  | 3 => ("StatueChancery$Realm", "night", "I", false)
  | 4 => ("StatueChancery$Realm", "hearingNight", "I", false)
  | 5 => ("StatueChancery$Realm", "upheld", "I", false)
  | 6 => ("StatueChancery$Realm", "dismissed", "I", false)
  | _ => ("StatueChancery$Realm", "lapsed", "I", false)
def tyX7 : Nat → FieldType := fun k => match k with
  | 0 => .object "StatueChancery$Plaza"
  | 1 => .object "StatueChancery$Writs"
  | 2 => .object "StatueChancery$Marble"
  | 3 => .int
  | 4 => .int
  | 5 => .int
  | 6 => .int
  | _ => .int
def TX8 : u_T := fun k => match k with
  | 0 => ("StatueChancery$Script", "text", "Ljava/lang/StringBuilder;", true)
  | 1 => ("StatueChancery$Script", "commands", "[LStatueChancery$Command;", true)
  | 2 => ("StatueChancery$Script", "arguments", "[[I", true)
  | 3 => ("StatueChancery$Script", "count", "I", false)
  | 4 => ("StatueChancery$Script", "given", "I", false)
  | _ => ("StatueChancery$Script", "position", "I", false)
def tyX8 : Nat → FieldType := fun k => match k with
  | 0 => .object "java/lang/StringBuilder"
  | 1 => .array (.object "StatueChancery$Command")
  | 2 => .array (.array .int)
  | 3 => .int
  | 4 => .int
  | _ => .int
def TX9 : u_T := fun k => match k with
  | 0 => ("StatueChancery$Till", "fewest", "[[I", true)
  | _ => ("StatueChancery$Till", "reachable", "[J", true)
def tyX9 : Nat → FieldType := fun k => match k with
  | 0 => .array (.array .int)
  | _ => .array .long
def TX10 : u_T := fun k => match k with
  | 0 => ("StatueChancery$Writs", "count", "I", false)
  | 1 => ("StatueChancery$Writs", "nextId", "I", false)
  | 2 => ("StatueChancery$Writs", "ids", "[I", true)
  | 3 => ("StatueChancery$Writs", "statues", "[I", true)
  | 4 => ("StatueChancery$Writs", "lastNights", "[I", true)
  | 5 => ("StatueChancery$Writs", "bails", "[I", true)
  | 6 => ("StatueChancery$Writs", "causes", "[I", true)
  | _ => ("StatueChancery$Writs", "paid", "[Z", true)
def tyX10 : Nat → FieldType := fun k => match k with
  | 0 => .int
  | 1 => .int
  | 2 => .array .int
  | 3 => .array .int
  | 4 => .array .int
  | 5 => .array .int
  | 6 => .array .int
  | _ => .array .boolean
def TX11 : u_T := fun k => match k with
  | 0 => ("StatueChancery", "now", "LStatueChancery$Realm;", true)
  | 1 => ("StatueChancery", "trial", "LStatueChancery$Realm;", true)
  | 2 => ("StatueChancery", "snapshot", "LStatueChancery$Realm;", true)
  | 3 => ("StatueChancery", "hasSnapshot", "Z", false)
  | 4 => ("StatueChancery", "history", "LStatueChancery$History;", true)
  | 5 => ("StatueChancery", "leaps", "LStatueChancery$Leaps;", true)
  | 6 => ("StatueChancery", "docket", "LStatueChancery$Docket;", true)
  | 7 => ("StatueChancery", "till", "LStatueChancery$Till;", true)
  | 8 => ("StatueChancery", "script", "LStatueChancery$Script;", true)
  | 9 => ("StatueChancery", "output", "Ljava/lang/StringBuilder;", true)
  | 10 => ("StatueChancery", "latestErrorPosition", "I", false)
  | 11 => ("StatueChancery", "latestFailedCommand", "I", false)
  | _ => ("StatueChancery", "latestFailureKind", "C", false)
def tyX11 : Nat → FieldType := fun k => match k with
  | 0 => .object "StatueChancery$Realm"
  | 1 => .object "StatueChancery$Realm"
  | 2 => .object "StatueChancery$Realm"
  | 3 => .boolean
  | 4 => .object "StatueChancery$History"
  | 5 => .object "StatueChancery$Leaps"
  | 6 => .object "StatueChancery$Docket"
  | 7 => .object "StatueChancery$Till"
  | 8 => .object "StatueChancery$Script"
  | 9 => .object "java/lang/StringBuilder"
  | 10 => .int
  | 11 => .int
  | _ => .char
def TZString : u_T := fun k => match k with
  | 0 => ("java/lang/String", "value", "[B", true)
  | 1 => ("java/lang/String", "coder", "B", true)
  | 2 => ("java/lang/String", "hash", "I", false)
  | _ => ("java/lang/String", "hashIsZero", "Z", false)
def TZCommand : u_T := fun k => match k with
  | 0 => ("java/lang/Enum", "ordinal", "I", true)
  | _ => ("StatueChancery$Command", "form", "Ljava/lang/String;", true)
def yJ4_init_da8c8 : MethodName := ⟨RJ4, "<init>", "()V"⟩
def yJ5_init_d00df : MethodName := ⟨RJ5, "<init>", "(I)V"⟩
def yJ4_append_cf468 : MethodName := ⟨RJ4, "append", "(C)Ljava/lang/StringBuilder;"⟩
def yJ5_append_3fe6f : MethodName := ⟨RJ5, "append", "(C)Ljava/lang/AbstractStringBuilder;"⟩
def yJ5_isLatin1_aae02 : MethodName := ⟨RJ5, "isLatin1", "()Z"⟩
def yJ5_ensureCapacityInternal_d00df : MethodName := ⟨RJ5, "ensureCapacityInternal", "(I)V"⟩
def yJ5_newCapacity_0f7a4 : MethodName := ⟨RJ5, "newCapacity", "(I)I"⟩
def yJ8_newLength_cabcc : MethodName := ⟨RJ8, "newLength", "(III)I"⟩
def yJ9_max_7cf53 : MethodName := ⟨RJ9, "max", "(II)I"⟩
def yJ9_min_7cf53 : MethodName := ⟨RJ9, "min", "(II)I"⟩
def yJ7_copyOf_9075b : MethodName := ⟨RJ7, "copyOf", "([BI)[B"⟩
def yJ1_canEncode_fc78d : MethodName := ⟨RJ1, "canEncode", "(C)Z"⟩
def yJ4_append_15ec4 : MethodName := ⟨RJ4, "append", "(Ljava/lang/String;)Ljava/lang/StringBuilder;"⟩
def yJ5_append_cf1ce : MethodName := ⟨RJ5, "append", "(Ljava/lang/String;)Ljava/lang/AbstractStringBuilder;"⟩
def yJ0_length_8abf5 : MethodName := ⟨RJ0, "length", "()I"⟩
def yJ0_coder_7d493 : MethodName := ⟨RJ0, "coder", "()B"⟩
def yJ5_putStringAt_47b60 : MethodName := ⟨RJ5, "putStringAt", "(ILjava/lang/String;)V"⟩
def yJ5_inflateIfNeededFor_a7421 : MethodName := ⟨RJ5, "inflateIfNeededFor", "(Ljava/lang/String;)V"⟩
def yJ0_getBytes_840e7 : MethodName := ⟨RJ0, "getBytes", "([BIB)V"⟩
def yJ4_append_bf812 : MethodName := ⟨RJ4, "append", "(I)Ljava/lang/StringBuilder;"⟩
def yJ5_append_c97b9 : MethodName := ⟨RJ5, "append", "(I)Ljava/lang/AbstractStringBuilder;"⟩
def yJ6_stringSize_0f7a4 : MethodName := ⟨RJ6, "stringSize", "(I)I"⟩
def yJ6_getChars_ba4f3 : MethodName := ⟨RJ6, "getChars", "(II[B)I"⟩
def yJ4_length_8abf5 : MethodName := ⟨RJ4, "length", "()I"⟩
def yJ5_length_8abf5 : MethodName := ⟨RJ5, "length", "()I"⟩
def yJ4_setLength_d00df : MethodName := ⟨RJ4, "setLength", "(I)V"⟩
def yJ5_setLength_d00df : MethodName := ⟨RJ5, "setLength", "(I)V"⟩
def yJ4_charAt_5068e : MethodName := ⟨RJ4, "charAt", "(I)C"⟩
def yJ5_charAt_5068e : MethodName := ⟨RJ5, "charAt", "(I)C"⟩
def yJ0_checkIndex_df160 : MethodName := ⟨RJ0, "checkIndex", "(II)V"⟩
def yJ3_checkIndex_8e157 : MethodName := ⟨RJ3, "checkIndex", "(IILjava/util/function/BiFunction;)I"⟩
def yJ0_charAt_5068e : MethodName := ⟨RJ0, "charAt", "(I)C"⟩
def yJ0_isLatin1_aae02 : MethodName := ⟨RJ0, "isLatin1", "()Z"⟩
def yJ1_charAt_3b067 : MethodName := ⟨RJ1, "charAt", "([BI)C"⟩
def yJ6_bitCount_0f7a4 : MethodName := ⟨RJ6, "bitCount", "(I)I"⟩
def yJx29ce0_ordinal_8abf5 : MethodName := ⟨RJx29ce0, "ordinal", "()I"⟩
def yX2_init : MethodName := ⟨RX2, "<init>", "()V"⟩
def yX2_positionAtRank : MethodName := ⟨RX2, "positionAtRank", "(LStatueChancery$Writs;I)I"⟩
def yX2_valueByGivingUp : MethodName := ⟨RX2, "valueByGivingUp", "(LStatueChancery$Writs;I)I"⟩
def yX2_giveUpSmallest : MethodName := ⟨RX2, "giveUpSmallest", "(I)I"⟩
def yX2_valueByTryingSets : MethodName := ⟨RX2, "valueByTryingSets", "(LStatueChancery$Writs;I)I"⟩
def yX2_valueOfSet : MethodName := ⟨RX2, "valueOfSet", "(LStatueChancery$Writs;II)I"⟩
def yX2_sort : MethodName := ⟨RX2, "sort", "(LStatueChancery$Writs;)V"⟩
def yX2_comesBefore : MethodName := ⟨RX2, "comesBefore", "(LStatueChancery$Writs;II)Z"⟩
def yX3_init : MethodName := ⟨RX3, "<init>", "()V"⟩
def yX3_remember : MethodName := ⟨RX3, "remember", "(LStatueChancery$Realm;)V"⟩
def yX3_takeBack : MethodName := ⟨RX3, "takeBack", "(LStatueChancery$Realm;)I"⟩
def yX3_forget : MethodName := ⟨RX3, "forget", "()V"⟩
def yX4_init : MethodName := ⟨RX4, "<init>", "()V"⟩
def yX4_followArrows : MethodName := ⟨RX4, "followArrows", "(LStatueChancery$Plaza;II)I"⟩
def yX4_doubleLeaps : MethodName := ⟨RX4, "doubleLeaps", "(I)V"⟩
def yX5_init : MethodName := ⟨RX5, "<init>", "()V"⟩
def yX5_copyFrom : MethodName := ⟨RX5, "copyFrom", "(LStatueChancery$Marble;)V"⟩
def yX5_putBlocks : MethodName := ⟨RX5, "putBlocks", "(II)I"⟩
def yX5_giveBack : MethodName := ⟨RX5, "giveBack", "(I)V"⟩
def yX5_weightHeld : MethodName := ⟨RX5, "weightHeld", "()I"⟩
def yX5_weightAdded : MethodName := ⟨RX5, "weightAdded", "()I"⟩
def yX5_weightOfBlocks : MethodName := ⟨RX5, "weightOfBlocks", "([I)I"⟩
def yX6_init : MethodName := ⟨RX6, "<init>", "()V"⟩
def yX6_copyFrom : MethodName := ⟨RX6, "copyFrom", "(LStatueChancery$Plaza;)V"⟩
def yX6_hasPedestal : MethodName := ⟨RX6, "hasPedestal", "(I)Z"⟩
def yX6_hasStatue : MethodName := ⟨RX6, "hasStatue", "(I)Z"⟩
def yX6_putPedestal : MethodName := ⟨RX6, "putPedestal", "()I"⟩
def yX6_turnArrow : MethodName := ⟨RX6, "turnArrow", "(II)I"⟩
def yX6_putStatue : MethodName := ⟨RX6, "putStatue", "(II)I"⟩
def yX6_giveHome : MethodName := ⟨RX6, "giveHome", "(II)I"⟩
def yX6_standingOn : MethodName := ⟨RX6, "standingOn", "(I)I"⟩
def yX6_standsAtHome : MethodName := ⟨RX6, "standsAtHome", "(I)Z"⟩
def yX6_moveIfFree : MethodName := ⟨RX6, "moveIfFree", "(II)Z"⟩
def yX6_followArrows : MethodName := ⟨RX6, "followArrows", "(II)I"⟩
def yX6_lengthOfRound : MethodName := ⟨RX6, "lengthOfRound", "(I)I"⟩
def yX6_standApart : MethodName := ⟨RX6, "standApart", "()Z"⟩
def yX7_init : MethodName := ⟨RX7, "<init>", "()V"⟩
def yX7_copyFrom : MethodName := ⟨RX7, "copyFrom", "(LStatueChancery$Realm;)V"⟩
def yX7_pedestalFault : MethodName := ⟨RX7, "pedestalFault", "()C"⟩
def yX7_arrowFault : MethodName := ⟨RX7, "arrowFault", "(II)C"⟩
def yX7_statueFault : MethodName := ⟨RX7, "statueFault", "(II)C"⟩
def yX7_homeFault : MethodName := ⟨RX7, "homeFault", "(II)C"⟩
def yX7_writFault : MethodName := ⟨RX7, "writFault", "(III)C"⟩
def yX7_followerFault : MethodName := ⟨RX7, "followerFault", "(IIII)C"⟩
def yX7_writArgumentFault : MethodName := ⟨RX7, "writArgumentFault", "(III)C"⟩
def yX7_openWrit : MethodName := ⟨RX7, "openWrit", "(IIII)I"⟩
def yX7_blockFault : MethodName := ⟨RX7, "blockFault", "(II)C"⟩
def yX7_payFault : MethodName := ⟨RX7, "payFault", "(ILStatueChancery$Till;)C"⟩
def yX7_settleBail : MethodName := ⟨RX7, "settleBail", "(ILStatueChancery$Till;)I"⟩
def yX7_hearFault : MethodName := ⟨RX7, "hearFault", "(I)C"⟩
def yX7_holdHearing : MethodName := ⟨RX7, "holdHearing", "(I)C"⟩
def yX7_dismissAll : MethodName := ⟨RX7, "dismissAll", "(I)V"⟩
def yX7_closeWithoutFine : MethodName := ⟨RX7, "closeWithoutFine", "(I)V"⟩
def yX7_firstHearingNight : MethodName := ⟨RX7, "firstHearingNight", "()I"⟩
def yX7_nightFault : MethodName := ⟨RX7, "nightFault", "(I)C"⟩
def yX7_letNightsPass : MethodName := ⟨RX7, "letNightsPass", "(I)I"⟩
def yX7_letNightPass : MethodName := ⟨RX7, "letNightPass", "()I"⟩
def yX7_moveStatues : MethodName := ⟨RX7, "moveStatues", "()I"⟩
def yX7_nightsUntilAtHome : MethodName := ⟨RX7, "nightsUntilAtHome", "(I)I"⟩
def yX8_init : MethodName := ⟨RX8, "<init>", "()V"⟩
def yX8_isFull : MethodName := ⟨RX8, "isFull", "()Z"⟩
def yX8_append : MethodName := ⟨RX8, "append", "(C)I"⟩
def yX8_clear : MethodName := ⟨RX8, "clear", "()V"⟩
def yX8_read : MethodName := ⟨RX8, "read", "()Z"⟩
def yX8_readCommand : MethodName := ⟨RX8, "readCommand", "()Z"⟩
def yX8_likeliestCommand : MethodName := ⟨RX8, "likeliestCommand", "()LStatueChancery$Command;"⟩
def yX8_commonLength : MethodName := ⟨RX8, "commonLength", "(Ljava/lang/String;)I"⟩
def yX8_readForm : MethodName := ⟨RX8, "readForm", "(Ljava/lang/String;)Z"⟩
def yX8_readPart : MethodName := ⟨RX8, "readPart", "(C)Z"⟩
def yX8_readSign : MethodName := ⟨RX8, "readSign", "(C)Z"⟩
def yX8_readNumber : MethodName := ⟨RX8, "readNumber", "(I)Z"⟩
def yX8_signAt : MethodName := ⟨RX8, "signAt", "(I)C"⟩
def yX9_init : MethodName := ⟨RX9, "<init>", "()V"⟩
def yX9_fillTable : MethodName := ⟨RX9, "fillTable", "([I)V"⟩
def yX9_fewestWith : MethodName := ⟨RX9, "fewestWith", "([III)I"⟩
def yX9_fewestByTable : MethodName := ⟨RX9, "fewestByTable", "(I)I"⟩
def yX9_takeBlocks : MethodName := ⟨RX9, "takeBlocks", "([II)V"⟩
def yX9_mostOnABestWay : MethodName := ⟨RX9, "mostOnABestWay", "([III)I"⟩
def yX9_fewestBySearch : MethodName := ⟨RX9, "fewestBySearch", "([II)I"⟩
def yX9_markReachable : MethodName := ⟨RX9, "markReachable", "([I)V"⟩
def yX9_search : MethodName := ⟨RX9, "search", "([I[JIII)I"⟩
def yX10_init : MethodName := ⟨RX10, "<init>", "()V"⟩
def yX10_copyFrom : MethodName := ⟨RX10, "copyFrom", "(LStatueChancery$Writs;)V"⟩
def yX10_isFull : MethodName := ⟨RX10, "isFull", "()Z"⟩
def yX10_find : MethodName := ⟨RX10, "find", "(I)I"⟩
def yX10_open : MethodName := ⟨RX10, "open", "(IIII)I"⟩
def yX10_close : MethodName := ⟨RX10, "close", "(I)V"⟩
def yX10_dropCause : MethodName := ⟨RX10, "dropCause", "(I)V"⟩
def yX10_bind : MethodName := ⟨RX10, "bind", "(I)Z"⟩
def yX10_countCauses : MethodName := ⟨RX10, "countCauses", "(I)I"⟩
def yX10_withFollowers : MethodName := ⟨RX10, "withFollowers", "(I)I"⟩
def yX11_init : MethodName := ⟨RX11, "<init>", "()V"⟩
def yX11_addPedestal : MethodName := ⟨RX11, "addPedestal", "()I"⟩
def yX11_setArrow : MethodName := ⟨RX11, "setArrow", "(II)I"⟩
def yX11_addStatue : MethodName := ⟨RX11, "addStatue", "(II)I"⟩
def yX11_setHome : MethodName := ⟨RX11, "setHome", "(II)I"⟩
def yX11_issueWrit : MethodName := ⟨RX11, "issueWrit", "(III)I"⟩
def yX11_issueFollower : MethodName := ⟨RX11, "issueFollower", "(IIII)I"⟩
def yX11_addBlocks : MethodName := ⟨RX11, "addBlocks", "(II)I"⟩
def yX11_payBail : MethodName := ⟨RX11, "payBail", "(I)I"⟩
def yX11_hear : MethodName := ⟨RX11, "hear", "(I)C"⟩
def yX11_passNights : MethodName := ⟨RX11, "passNights", "(I)I"⟩
def yX11_pedestalCount : MethodName := ⟨RX11, "pedestalCount", "()I"⟩
def yX11_arrow : MethodName := ⟨RX11, "arrow", "(I)I"⟩
def yX11_isFree : MethodName := ⟨RX11, "isFree", "(I)Z"⟩
def yX11_statueOn : MethodName := ⟨RX11, "statueOn", "(I)I"⟩
def yX11_arrowAfter : MethodName := ⟨RX11, "arrowAfter", "(II)I"⟩
def yX11_arrowAfterByDoubling : MethodName := ⟨RX11, "arrowAfterByDoubling", "(II)I"⟩
def yX11_roundLength : MethodName := ⟨RX11, "roundLength", "(I)I"⟩
def yX11_statueCount : MethodName := ⟨RX11, "statueCount", "()I"⟩
def yX11_pedestalOf : MethodName := ⟨RX11, "pedestalOf", "(I)I"⟩
def yX11_home : MethodName := ⟨RX11, "home", "(I)I"⟩
def yX11_weightOf : MethodName := ⟨RX11, "weightOf", "(I)I"⟩
def yX11_isBound : MethodName := ⟨RX11, "isBound", "(I)Z"⟩
def yX11_isHome : MethodName := ⟨RX11, "isHome", "(I)Z"⟩
def yX11_statueByWeight : MethodName := ⟨RX11, "statueByWeight", "(I)I"⟩
def yX11_nightsUntilHome : MethodName := ⟨RX11, "nightsUntilHome", "(I)I"⟩
def yX11_writCount : MethodName := ⟨RX11, "writCount", "()I"⟩
def yX11_writAt : MethodName := ⟨RX11, "writAt", "(I)I"⟩
def yX11_statueOf : MethodName := ⟨RX11, "statueOf", "(I)I"⟩
def yX11_lastNight : MethodName := ⟨RX11, "lastNight", "(I)I"⟩
def yX11_bail : MethodName := ⟨RX11, "bail", "(I)I"⟩
def yX11_isPaid : MethodName := ⟨RX11, "isPaid", "(I)Z"⟩
def yX11_causeOf : MethodName := ⟨RX11, "causeOf", "(I)I"⟩
def yX11_causeDepth : MethodName := ⟨RX11, "causeDepth", "(I)I"⟩
def yX11_followers : MethodName := ⟨RX11, "followers", "(I)I"⟩
def yX11_docketValue : MethodName := ⟨RX11, "docketValue", "()I"⟩
def yX11_docketValueBySets : MethodName := ⟨RX11, "docketValueBySets", "()I"⟩
def yX11_writByLastNight : MethodName := ⟨RX11, "writByLastNight", "(I)I"⟩
def yX11_blocks : MethodName := ⟨RX11, "blocks", "(I)I"⟩
def yX11_fewestBlocks : MethodName := ⟨RX11, "fewestBlocks", "(I)I"⟩
def yX11_fewestBlocksBySearch : MethodName := ⟨RX11, "fewestBlocksBySearch", "(I)I"⟩
def yX11_marbleTotal : MethodName := ⟨RX11, "marbleTotal", "()I"⟩
def yX11_marbleByAccounts : MethodName := ⟨RX11, "marbleByAccounts", "()I"⟩
def yX11_treasury : MethodName := ⟨RX11, "treasury", "()I"⟩
def yX11_night : MethodName := ⟨RX11, "night", "()I"⟩
def yX11_upheldTotal : MethodName := ⟨RX11, "upheldTotal", "()I"⟩
def yX11_dismissedTotal : MethodName := ⟨RX11, "dismissedTotal", "()I"⟩
def yX11_lapsedTotal : MethodName := ⟨RX11, "lapsedTotal", "()I"⟩
def yX11_isConsistent : MethodName := ⟨RX11, "isConsistent", "()Z"⟩
def yX11_type : MethodName := ⟨RX11, "type", "(C)I"⟩
def yX11_runScript : MethodName := ⟨RX11, "runScript", "()I"⟩
def yX11_undo : MethodName := ⟨RX11, "undo", "()I"⟩
def yX11_save : MethodName := ⟨RX11, "save", "()I"⟩
def yX11_restore : MethodName := ⟨RX11, "restore", "()I"⟩
def yX11_raise : MethodName := ⟨RX11, "raise", "(C)V"⟩
def yX11_requirePedestal : MethodName := ⟨RX11, "requirePedestal", "(I)V"⟩
def yX11_requireStatue : MethodName := ⟨RX11, "requireStatue", "(I)V"⟩
def yX11_requireBetween : MethodName := ⟨RX11, "requireBetween", "(III)V"⟩
def yX11_requireRank : MethodName := ⟨RX11, "requireRank", "(II)V"⟩
def yX11_existing : MethodName := ⟨RX11, "existing", "(I)I"⟩
def yX11_payable : MethodName := ⟨RX11, "payable", "(I)I"⟩
def yX11_positionOf : MethodName := ⟨RX11, "positionOf", "(I)I"⟩
def yX11_isBetween : MethodName := ⟨RX11, "isBetween", "(III)Z"⟩
def yX11_arrowsAgree : MethodName := ⟨RX11, "arrowsAgree", "()Z"⟩
def yX11_docketsAgree : MethodName := ⟨RX11, "docketsAgree", "()Z"⟩
def yX11_blocksAgree : MethodName := ⟨RX11, "blocksAgree", "()Z"⟩
def yX11_faultOf : MethodName := ⟨RX11, "faultOf", "(LStatueChancery$Command;IIII)C"⟩
def yX11_carryOut : MethodName := ⟨RX11, "carryOut", "(LStatueChancery$Command;IIII)V"⟩
def yX11_nightsOr1 : MethodName := ⟨RX11, "nightsOr1", "(I)I"⟩
def yJ4_toString_0e30d : MethodName := ⟨RJ4, "toString", "()Ljava/lang/String;"⟩
def yJ0_init_81219 : MethodName := ⟨RJ0, "<init>", "(Ljava/lang/StringBuilder;)V"⟩
def yJ0_init_db425 : MethodName := ⟨RJ0, "<init>", "(Ljava/lang/AbstractStringBuilder;Ljava/lang/Void;)V"⟩
def yJ7_copyOfRange_39247 : MethodName := ⟨RJ7, "copyOfRange", "([BII)[B"⟩
def yJ7_copyOfRangeByte_39247 : MethodName := ⟨RJ7, "copyOfRangeByte", "([BII)[B"⟩
def yJ5_getValue_6d5f1 : MethodName := ⟨RJ5, "getValue", "()[B"⟩
def yJ7_checkLength_df160 : MethodName := ⟨RJ7, "checkLength", "(II)V"⟩
def yL_cell : MethodName := ⟨RL, "cell", "([II)I"⟩
def yL_addPedestal : MethodName := ⟨RL, "addPedestal", "(LStatueChancery;)I"⟩
def yL_setArrow : MethodName := ⟨RL, "setArrow", "(LStatueChancery;II)I"⟩
def yL_addStatue : MethodName := ⟨RL, "addStatue", "(LStatueChancery;II)I"⟩
def yL_setHome : MethodName := ⟨RL, "setHome", "(LStatueChancery;II)I"⟩
def yL_issueWrit : MethodName := ⟨RL, "issueWrit", "(LStatueChancery;III)I"⟩
def yL_issueFollower : MethodName := ⟨RL, "issueFollower", "(LStatueChancery;IIII)I"⟩
def yL_addBlocks : MethodName := ⟨RL, "addBlocks", "(LStatueChancery;II)I"⟩
def yL_payBail : MethodName := ⟨RL, "payBail", "(LStatueChancery;I)I"⟩
def yL_passNights : MethodName := ⟨RL, "passNights", "(LStatueChancery;I)I"⟩
def yL_statueOn : MethodName := ⟨RL, "statueOn", "(LStatueChancery;I)I"⟩
def yL_statueByWeight : MethodName := ⟨RL, "statueByWeight", "(LStatueChancery;I)I"⟩
def yL_nightsUntilHome : MethodName := ⟨RL, "nightsUntilHome", "(LStatueChancery;I)I"⟩
def yL_writAt : MethodName := ⟨RL, "writAt", "(LStatueChancery;I)I"⟩
def yL_causeOf : MethodName := ⟨RL, "causeOf", "(LStatueChancery;I)I"⟩
def yL_causeDepth : MethodName := ⟨RL, "causeDepth", "(LStatueChancery;I)I"⟩
def yL_writByLastNight : MethodName := ⟨RL, "writByLastNight", "(LStatueChancery;I)I"⟩
def yL_fewestBlocks : MethodName := ⟨RL, "fewestBlocks", "(LStatueChancery;I)I"⟩
def yL_fewestBlocksBySearch : MethodName := ⟨RL, "fewestBlocksBySearch", "(LStatueChancery;I)I"⟩
def yL_runScript : MethodName := ⟨RL, "runScript", "(LStatueChancery;)I"⟩
def yL_undo : MethodName := ⟨RL, "undo", "(LStatueChancery;)I"⟩
def yL_restore : MethodName := ⟨RL, "restore", "(LStatueChancery;)I"⟩
def yL_hear : MethodName := ⟨RL, "hear", "(LStatueChancery;I)I"⟩
def yL_in : MethodName := ⟨RL, "in", "([III)I"⟩
def yL_does : MethodName := ⟨RL, "does", "(LStatueChancery;Ljava/lang/String;)I"⟩
def yL_begun : MethodName := ⟨RL, "begun", "([I)LStatueChancery;"⟩
def yL_writ : MethodName := ⟨RL, "writ", "(LStatueChancery;I)I"⟩
def yL_acts : MethodName := ⟨RL, "acts", "(LStatueChancery;[II)I"⟩
def yL_seen : MethodName := ⟨RL, "seen", "(LStatueChancery;)[I"⟩
def yL_areAlike : MethodName := ⟨RL, "areAlike", "([I[I)Z"⟩
def yL_isWell : MethodName := ⟨RL, "isWell", "(LStatueChancery;II)Z"⟩
def yL_law : MethodName := ⟨RL, "law", "([I)Z"⟩
def qq_K0 : Nat := 70
def qq_cl : List vw_C := [("java/lang/String", TZString, 4), ("StatueChancery$Command", TZCommand, 2), ("java/lang/StringBuilder", TJ4, 4), ("StatueChancery$Docket", TX2, 2), ("StatueChancery$History", TX3, 3), ("StatueChancery$Leaps", TX4, 2), ("StatueChancery$Marble", TX5, 3), ("StatueChancery$Plaza", TX6, 7), ("StatueChancery$Realm", TX7, 8), ("StatueChancery$Script", TX8, 6), ("StatueChancery$Till", TX9, 2), ("StatueChancery$Writs", TX10, 8), ("StatueChancery", TX11, 13)]
def qq_tys : List (List FieldType) := [[.array .byte, .byte, .int, .boolean], [.int, .object "java/lang/String"], [.array .byte, .byte, .boolean, .int], [.array .int, .array .int], [.array (.object "StatueChancery$Realm"), .int, .int], [.array .int, .array .int], [.array .int, .array .int, .int], [.int, .array .int, .int, .array .int, .array .int, .array .int, .array .int], [.object "StatueChancery$Plaza", .object "StatueChancery$Writs", .object "StatueChancery$Marble", .int, .int, .int, .int, .int], [.object "java/lang/StringBuilder", .array (.object "StatueChancery$Command"), .array (.array .int), .int, .int, .int], [.array (.array .int), .array .long], [.int, .int, .array .int, .array .int, .array .int, .array .int, .array .int, .array .boolean], [.object "StatueChancery$Realm", .object "StatueChancery$Realm", .object "StatueChancery$Realm", .boolean, .object "StatueChancery$History", .object "StatueChancery$Leaps", .object "StatueChancery$Docket", .object "StatueChancery$Till", .object "StatueChancery$Script", .object "java/lang/StringBuilder", .int, .int, .char]]
def qq_ex : List (String × Nat × Nat × List String) := [("java/lang/IndexOutOfBoundsException", 364, 366, ["java/lang/RuntimeException", "java/lang/Exception"]), ("java/lang/IllegalArgumentException", 388, 390, ["java/lang/RuntimeException", "java/lang/Exception"]), ("java/lang/IllegalStateException", 373, 375, ["java/lang/RuntimeException", "java/lang/Exception"]), ("java/util/NoSuchElementException", 408, 410, ["java/lang/RuntimeException", "java/lang/Exception"]), ("java/lang/UnsupportedOperationException", 419, 421, ["java/lang/RuntimeException", "java/lang/Exception"])]
def qq_stat : List (String × String × String × Value) := [("java/lang/String", "COMPACT_STRINGS", "Z", .int 1), ("jdk/internal/util/Preconditions", "SIOOBE_FORMATTER", "Ljava/util/function/BiFunction;", .ref 2), ("StatueChancery$Command", "PEDESTAL", "LStatueChancery$Command;", .ref 57), ("StatueChancery$Command", "ALL", "[LStatueChancery$Command;", .ref 66), ("StatueChancery$1", "$SwitchMap$StatueChancery$Command", "[I", .ref 67), ("java/lang/Integer", "DigitTens", "[B", .ref 68), ("java/lang/Integer", "DigitOnes", "[B", .ref 69)]
/-- the kinds of the constants -/
def qq_cks : List Nat := [200, 100, 201, 0, 102, 0, 102, 0, 102, 0, 102, 0, 102, 0, 102, 0, 102, 0, 102, 0, 102, 0, 102, 0, 102, 0, 102, 0, 102, 0, 102, 0, 102, 0, 102, 0, 102, 0, 102, 0, 102, 0, 102, 0, 102, 0, 102, 0, 102, 0, 102, 0, 102, 0, 102, 0, 102, 1, 1, 1, 1, 1, 1, 1, 1, 1, 112, 100, 102, 102]
def qq_strs : List (String × Nat × String × Nat) := [("StatueChanceryLaw", 161, "arrow ", 3), ("StatueChanceryLaw", 170, ";night", 5), ("StatueChanceryLaw", 176, "block ", 7), ("StatueChanceryLaw", 178, " 3;pay ", 9), ("StatueChanceryLaw", 180, "writ ", 11), ("StatueChanceryLaw", 182, " 3 ", 13), ("StatueChanceryLaw", 184, ";home ", 15), ("StatueChanceryLaw", 186, "0;hear ", 17), ("StatueChanceryLaw", 188, " 2 5<", 19), ("StatueChanceryLaw", 190, ";night 2", 21), ("StatueChanceryLaw", 161, "arrow ", 23), ("StatueChanceryLaw", 161, "arrow ", 25), ("StatueChanceryLaw", 161, "arrow ", 27), ("StatueChanceryLaw", 161, "arrow ", 29), ("StatueChanceryLaw", 161, "arrow ", 31), ("StatueChanceryLaw", 161, "arrow ", 33), ("StatueChanceryLaw", 161, "arrow ", 35), ("StatueChanceryLaw", 161, "arrow ", 37), ("StatueChancery$Command", 55, "pedestal", 39), ("StatueChancery$Command", 61, "arrow ##", 41), ("StatueChancery$Command", 64, "statue # %", 43), ("StatueChancery$Command", 67, "home ##", 45), ("StatueChancery$Command", 70, "writ # % %[<%]", 47), ("StatueChancery$Command", 73, "block % #", 49), ("StatueChancery$Command", 76, "pay %", 51), ("StatueChancery$Command", 79, "hear %", 53), ("StatueChancery$Command", 82, "night[ %]", 55)]
/-- where the words of the fields stand -/
def qq_lay : List (List Nat) := [[235, 237, 1177, 1179], [], [793, 795, 797, 799], [744, 746], [717, 719, 721], [732, 734], [665, 667, 669], [590, 592, 594, 596, 598, 600, 602], [687, 689, 691, 693, 695, 697, 699, 701], [815, 817, 819, 821, 823, 825], [758, 760], [634, 636, 638, 640, 642, 644, 646, 648], [843, 845, 847, 849, 851, 853, 855, 857, 859, 861, 863, 865, 867]]
def qq_ins_w : List Nat := [233, 0, 771, 458, 705, 725, 653, 563, 322, 765, 478, 392, 77]
def qq_extra : List Cond := [.selects "java/lang/StringBuilder" ⟨"java/lang/AbstractStringBuilder", "ensureCapacityInternal", "(I)V"⟩ ⟨"java/lang/AbstractStringBuilder", "ensureCapacityInternal", "(I)V"⟩, .selects "java/lang/StringBuilder" ⟨"java/lang/AbstractStringBuilder", "newCapacity", "(I)I"⟩ ⟨"java/lang/AbstractStringBuilder", "newCapacity", "(I)I"⟩, .selects "java/lang/StringBuilder" ⟨"java/lang/AbstractStringBuilder", "putStringAt", "(ILjava/lang/String;)V"⟩ ⟨"java/lang/AbstractStringBuilder", "putStringAt", "(ILjava/lang/String;)V"⟩, .selects "java/lang/StringBuilder" ⟨"java/lang/AbstractStringBuilder", "inflateIfNeededFor", "(Ljava/lang/String;)V"⟩ ⟨"java/lang/AbstractStringBuilder", "inflateIfNeededFor", "(Ljava/lang/String;)V"⟩]
def qq_tbl : List Cond := qq_extra ++ lw_tbl
abbrev qq_E : Type := Nat × Instr × Nat × List Nat
def tb_0 : List qq_E := [(0, .aload_n 0, 1, []), (1, .bipush 16, 2, []), (3, .invokespecial 1, 3, [2, 1, 2, 0, 775, 776, 45, 777]), (6, .return_, 1, [])]
def tb_1 : List qq_E := [(0, .aload_n 0, 1, []), (1, .invokespecial 3, 3, [21, 778, 109, 110]), (4, .getstatic 18, 3, [0, 779]), (7, .ifCond .eq 18, 3, [12]), (10, .aload_n 0, 1, []), (11, .iload_n 1, 1, []), (12, .newarray .byte, 2, [102, 234]), (14, .putfield 15, 3, [2, 0, 788, 0]), (17, .aload_n 0, 1, []), (18, .iconst 0, 1, []), (19, .putfield 22, 3, [2, 1, 789, 0]), (22, .goto 16, 3, [19]), (25, .aload_n 0, 1, []), (26, .iload_n 1, 1, []), (27, .invokestatic 26, 3, [99]), (30, .putfield 15, 3, [2, 0, 788, 0]), (33, .aload_n 0, 1, []), (34, .iconst 1, 1, []), (35, .putfield 22, 3, [2, 1, 789, 0]), (38, .return_, 1, [])]
def tb_2 : List qq_E := [(0, .aload_n 0, 1, []), (1, .iload_n 1, 1, []), (2, .invokespecial 50, 3, [6, 3, 2, 2, 1235, 1628, 801, 1236, 45, 1237]), (5, .pop, 1, []), (6, .aload_n 0, 1, []), (7, .areturn, 1, [])]
def tb_3 : List qq_E := [(0, .aload_n 0, 1, []), (1, .aload_n 0, 1, []), (2, .getfield 79, 3, [2, 3, 792, 0]), (5, .iconst 1, 1, []), (6, .iadd, 1, []), (7, .invokevirtual 100, 3, [1, 5, 2, 2, 985, 987, 0, 45, 988]), (10, .aload_n 0, 1, []), (11, .invokevirtual 83, 3, [1, 4, 1, 2, 1016, 1017, 1019, 45, 1020]), (14, .ifCond .eq 31, 3, [25]), (17, .iload_n 1, 1, []), (18, .invokestatic 191, 3, [0, 11, 1, 0, 1238, 1239, 65, 1240]), (21, .ifCond .eq 24, 3, [25]), (24, .aload_n 0, 1, []), (25, .getfield 15, 3, [2, 0, 788, 0]), (28, .aload_n 0, 1, []), (29, .dup, 1, []), (30, .getfield 79, 3, [2, 3, 792, 0]), (33, .dup_x1, 1, []), (34, .iconst 1, 1, []), (35, .iadd, 1, []), (36, .putfield 79, 3, [2, 3, 792, 0]), (39, .iload_n 1, 1, []), (40, .i2b, 1, []), (41, .bastore, 1, []), (42, .goto 33, 3, [41]), (45, .aload_n 0, 1, []), (46, .invokevirtual 83, 3, [1, 4, 1, 2, 1016, 1017, 1019, 45, 1020]), (49, .ifCond .eq 7, 3, [30]), (52, .aload_n 0, 1, []), (53, .invokevirtual 195, 3, [99]), (56, .aload_n 0, 1, []), (57, .getfield 15, 3, [2, 0, 788, 0]), (60, .aload_n 0, 1, []), (61, .dup, 1, []), (62, .getfield 79, 3, [2, 3, 792, 0]), (65, .dup_x1, 1, []), (66, .iconst 1, 1, []), (67, .iadd, 1, []), (68, .putfield 79, 3, [2, 3, 792, 0]), (71, .iload_n 1, 1, []), (72, .invokestatic 197, 3, [99]), (75, .aload_n 0, 1, []), (76, .areturn, 1, [])]
def tb_4 : List qq_E := [(0, .getstatic 18, 3, [0, 779]), (3, .ifCond .eq 14, 3, [7]), (6, .aload_n 0, 1, []), (7, .getfield 22, 3, [2, 1, 789, 0]), (10, .ifCond .ne 7, 3, [7]), (13, .iconst 1, 1, []), (14, .goto 4, 3, [8]), (17, .iconst 0, 1, []), (18, .ireturn, 1, [])]
def tb_5 : List qq_E := [(0, .aload_n 0, 1, []), (1, .getfield 15, 3, [2, 0, 788, 0]), (4, .arraylength, 1, []), (5, .aload_n 0, 1, []), (6, .getfield 22, 3, [2, 1, 789, 0]), (9, .ishr, 1, []), (10, .istore_n 2, 1, []), (11, .iload_n 1, 1, []), (12, .iload_n 2, 1, []), (13, .isub, 1, []), (14, .ifCond .le 24, 3, [22]), (17, .aload_n 0, 1, []), (18, .aload_n 0, 1, []), (19, .getfield 15, 3, [2, 0, 788, 0]), (22, .aload_n 0, 1, []), (23, .iload_n 1, 1, []), (24, .invokevirtual 104, 3, [1, 6, 2, 2, 989, 991, 1, 45, 992]), (27, .aload_n 0, 1, []), (28, .getfield 22, 3, [2, 1, 789, 0]), (31, .ishl, 1, []), (32, .invokestatic 108, 3, [0, 10, 2, 0, 1004, 1005, 63, 1006]), (35, .putfield 15, 3, [2, 0, 788, 0]), (38, .return_, 1, [])]
def tb_6 : List qq_E := [(0, .aload_n 0, 1, []), (1, .getfield 15, 3, [2, 0, 788, 0]), (4, .arraylength, 1, []), (5, .istore_n 2, 1, []), (6, .iload_n 1, 1, []), (7, .aload_n 0, 1, []), (8, .getfield 22, 3, [2, 1, 789, 0]), (11, .ishl, 1, []), (12, .istore_n 3, 1, []), (13, .iload_n 3, 1, []), (14, .iload_n 2, 1, []), (15, .isub, 1, []), (16, .istore 4, 2, []), (18, .iload_n 2, 1, []), (19, .iload 4, 2, []), (21, .iload_n 2, 1, []), (22, .iconst 2, 1, []), (23, .aload_n 0, 1, []), (24, .getfield 22, 3, [2, 1, 789, 0]), (27, .ishl, 1, []), (28, .iadd, 1, []), (29, .invokestatic 114, 3, [0, 7, 3, 0, 993, 994, 62, 995]), (32, .istore 5, 2, []), (34, .iload 5, 2, []), (36, .ldc 39, 2, [0, 2147483647, 1003]), (38, .if_icmp .ne 13, 3, [31]), (41, .new 120, 3, [99]), (44, .dup, 1, []), (45, .ldc 122, 2, [99]), (47, .invokespecial 124, 3, [99]), (50, .athrow, 1, [99]), (51, .iload 5, 2, []), (53, .aload_n 0, 1, []), (54, .getfield 22, 3, [2, 1, 789, 0]), (57, .ishr, 1, []), (58, .ireturn, 1, [])]
def tb_7 : List qq_E := [(0, .iload_n 0, 1, []), (1, .iload_n 1, 1, []), (2, .iload_n 2, 1, []), (3, .invokestatic 194, 3, [22, 996, 997, 59, 998]), (6, .iadd, 1, []), (7, .istore_n 3, 1, []), (8, .iconst 0, 1, []), (9, .iload_n 3, 1, []), (10, .if_icmp .ge 11, 3, [14]), (13, .iload_n 3, 1, []), (14, .ldc 200, 2, [0, 2147483639, 999]), (16, .if_icmp .gt 5, 3, [14]), (19, .iload_n 3, 1, []), (20, .ireturn, 1, []), (21, .iload_n 0, 1, []), (22, .iload_n 1, 1, []), (23, .invokestatic 201, 3, [99]), (26, .ireturn, 1, [])]
def tb_8 : List qq_E := [(0, .iload_n 0, 1, []), (1, .iload_n 1, 1, []), (2, .if_icmp .lt 7, 3, [5]), (5, .iload_n 0, 1, []), (6, .goto 4, 3, [6]), (9, .iload_n 1, 1, []), (10, .ireturn, 1, [])]
def tb_9 : List qq_E := [(0, .iload_n 0, 1, []), (1, .iload_n 1, 1, []), (2, .if_icmp .gt 7, 3, [5]), (5, .iload_n 0, 1, []), (6, .goto 4, 3, [6]), (9, .iload_n 1, 1, []), (10, .ireturn, 1, [])]
def tb_10 : List qq_E := [(0, .iload_n 1, 1, []), (1, .aload_n 0, 1, []), (2, .arraylength, 1, []), (3, .if_icmp .ne 11, 3, [8]), (6, .aload_n 0, 1, []), (7, .invokevirtual 310, 3, [24, 1007, 1008, 1009, 1010, 1011, 1012]), (10, .checkcast 311, 3, [25, 1013]), (13, .areturn, 1, []), (14, .iload_n 1, 1, []), (15, .newarray .byte, 2, [102, 234]), (17, .astore_n 2, 1, []), (18, .aload_n 0, 1, []), (19, .iconst 0, 1, []), (20, .aload_n 2, 1, []), (21, .iconst 0, 1, []), (22, .aload_n 0, 1, []), (23, .arraylength, 1, []), (24, .iload_n 1, 1, []), (25, .invokestatic 304, 3, [23, 1014, 481, 59, 482]), (28, .invokestatic 150, 3, [20, 1015, 192, 191, 57]), (31, .aload_n 2, 1, []), (32, .areturn, 1, [])]
def tb_11 : List qq_E := [(0, .iload_n 0, 1, []), (1, .sipush 255, 3, []), (4, .if_icmp .gt 7, 3, [5]), (7, .iconst 1, 1, []), (8, .goto 4, 3, [6]), (11, .iconst 0, 1, []), (12, .ireturn, 1, [])]
def tb_12 : List qq_E := [(0, .aload_n 0, 1, []), (1, .aload_n 1, 1, []), (2, .invokespecial 29, 3, [6, 13, 2, 2, 978, 1619, 801, 979, 45, 980]), (5, .pop, 1, []), (6, .aload_n 0, 1, []), (7, .areturn, 1, [])]
def tb_13 : List qq_E := [(0, .aload_n 1, 1, []), (1, .ifnonnull 8, 3, [5]), (4, .aload_n 0, 1, []), (5, .invokevirtual 204, 3, [99]), (8, .areturn, 1, []), (9, .aload_n 1, 1, []), (10, .invokevirtual 32, 3, [1, 14, 1, 0, 1047, 1048, 1049, 47, 1050]), (13, .istore_n 2, 1, []), (14, .aload_n 0, 1, []), (15, .aload_n 0, 1, []), (16, .getfield 79, 3, [2, 3, 792, 0]), (19, .iload_n 2, 1, []), (20, .iadd, 1, []), (21, .invokevirtual 100, 3, [1, 5, 2, 2, 985, 987, 0, 45, 988]), (24, .aload_n 0, 1, []), (25, .aload_n 0, 1, []), (26, .getfield 79, 3, [2, 3, 792, 0]), (29, .aload_n 1, 1, []), (30, .invokevirtual 208, 3, [1, 16, 3, 2, 1056, 1058, 2, 45, 1059]), (33, .aload_n 0, 1, []), (34, .dup, 1, []), (35, .getfield 79, 3, [2, 3, 792, 0]), (38, .iload_n 2, 1, []), (39, .iadd, 1, []), (40, .putfield 79, 3, [2, 3, 792, 0]), (43, .aload_n 0, 1, []), (44, .areturn, 1, [])]
def tb_14 : List qq_E := [(0, .aload_n 0, 1, []), (1, .getfield 9, 3, [0, 0, 1175, 0]), (4, .arraylength, 1, []), (5, .aload_n 0, 1, []), (6, .invokevirtual 335, 3, [1, 15, 1, 0, 1051, 1052, 1053, 47, 1054]), (9, .ishr, 1, []), (10, .ireturn, 1, [])]
def tb_15 : List qq_E := [(0, .getstatic 38, 3, [0, 1055]), (3, .ifCond .eq 10, 3, [5]), (6, .aload_n 0, 1, []), (7, .getfield 15, 3, [0, 1, 1176, 0]), (10, .goto 4, 3, [6]), (13, .iconst 1, 1, []), (14, .ireturn, 1, [])]
def tb_16 : List qq_E := [(0, .aload_n 0, 1, []), (1, .aload_n 2, 1, []), (2, .invokevirtual 397, 3, [1, 17, 2, 2, 1060, 1062, 3, 45, 1063]), (5, .aload_n 2, 1, []), (6, .aload_n 0, 1, []), (7, .getfield 15, 3, [2, 0, 788, 0]), (10, .iload_n 1, 1, []), (11, .aload_n 0, 1, []), (12, .getfield 22, 3, [2, 1, 789, 0]), (15, .invokevirtual 399, 3, [1, 18, 4, 0, 1084, 1085, 1086, 47, 1087]), (18, .return_, 1, [])]
def tb_17 : List qq_E := [(0, .getstatic 18, 3, [0, 779]), (3, .ifCond .eq 18, 3, [9]), (6, .aload_n 0, 1, []), (7, .getfield 22, 3, [2, 1, 789, 0]), (10, .aload_n 1, 1, []), (11, .invokevirtual 40, 3, [1, 15, 1, 0, 1064, 1052, 1053, 47, 1054]), (14, .if_icmp .eq 7, 3, [9]), (17, .aload_n 0, 1, []), (18, .invokevirtual 195, 3, [99]), (21, .return_, 1, [])]
def tb_18 : List qq_E := [(0, .aload_n 0, 1, []), (1, .invokevirtual 335, 3, [1, 15, 1, 0, 1051, 1052, 1053, 47, 1054]), (4, .iload_n 3, 1, []), (5, .if_icmp .ne 23, 3, [16]), (8, .aload_n 0, 1, []), (9, .getfield 9, 3, [0, 0, 1175, 0]), (12, .iconst 0, 1, []), (13, .aload_n 1, 1, []), (14, .iload_n 2, 1, []), (15, .iload_n 3, 1, []), (16, .ishl, 1, []), (17, .aload_n 0, 1, []), (18, .getfield 9, 3, [0, 0, 1175, 0]), (21, .arraylength, 1, []), (22, .invokestatic 212, 3, [20, 1088, 192, 191, 57]), (25, .goto 18, 3, [25]), (28, .aload_n 0, 1, []), (29, .getfield 9, 3, [0, 0, 1175, 0]), (32, .iconst 0, 1, []), (33, .aload_n 1, 1, []), (34, .iload_n 2, 1, []), (35, .aload_n 0, 1, []), (36, .getfield 9, 3, [0, 0, 1175, 0]), (39, .arraylength, 1, []), (40, .invokestatic 106, 3, [99]), (43, .return_, 1, [])]
def tb_19 : List qq_E := [(0, .aload_n 0, 1, []), (1, .iload_n 1, 1, []), (2, .invokespecial 53, 3, [6, 20, 2, 2, 1094, 1626, 801, 1095, 45, 1096]), (5, .pop, 1, []), (6, .aload_n 0, 1, []), (7, .areturn, 1, [])]
def tb_20 : List qq_E := [(0, .aload_n 0, 1, []), (1, .getfield 79, 3, [2, 3, 792, 0]), (4, .istore_n 2, 1, []), (5, .iload_n 2, 1, []), (6, .iload_n 1, 1, []), (7, .invokestatic 245, 3, [0, 21, 1, 0, 1097, 1098, 61, 1099]), (10, .iadd, 1, []), (11, .istore_n 3, 1, []), (12, .aload_n 0, 1, []), (13, .iload_n 3, 1, []), (14, .invokevirtual 100, 3, [1, 5, 2, 2, 985, 987, 0, 45, 988]), (17, .aload_n 0, 1, []), (18, .invokevirtual 83, 3, [1, 4, 1, 2, 1016, 1017, 1019, 45, 1020]), (21, .ifCond .eq 16, 3, [21]), (24, .iload_n 1, 1, []), (25, .iload_n 3, 1, []), (26, .aload_n 0, 1, []), (27, .getfield 15, 3, [2, 0, 788, 0]), (30, .invokestatic 248, 3, [0, 22, 3, 0, 1100, 1101, 61, 1102]), (33, .pop, 1, []), (34, .goto 14, 3, [28]), (37, .iload_n 1, 1, []), (38, .iload_n 2, 1, []), (39, .iload_n 3, 1, []), (40, .aload_n 0, 1, []), (41, .getfield 15, 3, [2, 0, 788, 0]), (44, .invokestatic 251, 3, [99]), (47, .pop, 1, []), (48, .aload_n 0, 1, []), (49, .iload_n 3, 1, []), (50, .putfield 79, 3, [2, 3, 792, 0]), (53, .aload_n 0, 1, []), (54, .areturn, 1, [])]
def tb_21 : List qq_E := [(0, .iconst 1, 1, []), (1, .istore_n 1, 1, []), (2, .iload_n 0, 1, []), (3, .ifCond .lt 8, 3, [9]), (6, .iconst 0, 1, []), (7, .istore_n 1, 1, []), (8, .iload_n 0, 1, []), (9, .ineg, 1, []), (10, .istore_n 0, 1, []), (11, .bipush (-10), 2, []), (13, .istore_n 2, 1, []), (14, .iconst 1, 1, []), (15, .istore_n 3, 1, []), (16, .iload_n 3, 1, []), (17, .bipush 10, 2, []), (19, .if_icmp .ge 23, 3, [29]), (22, .iload_n 0, 1, []), (23, .iload_n 2, 1, []), (24, .if_icmp .le 7, 3, [23]), (27, .iload_n 3, 1, []), (28, .iload_n 1, 1, []), (29, .iadd, 1, []), (30, .ireturn, 1, []), (31, .bipush 10, 2, []), (33, .iload_n 2, 1, []), (34, .imul, 1, []), (35, .istore_n 2, 1, []), (36, .iinc 3 1, 3, []), (39, .goto (-23), 3, [13]), (42, .bipush 10, 2, []), (44, .iload_n 1, 1, []), (45, .iadd, 1, []), (46, .ireturn, 1, [])]
def tb_22 : List qq_E := [(0, .iload_n 1, 1, []), (1, .istore 5, 2, []), (3, .iload_n 0, 1, []), (4, .ifCond .ge 7, 3, [6]), (7, .iconst 1, 1, []), (8, .goto 4, 3, [7]), (11, .iconst 0, 1, []), (12, .istore 6, 2, []), (14, .iload 6, 2, []), (16, .ifCond .ne 6, 3, [13]), (19, .iload_n 0, 1, []), (20, .ineg, 1, []), (21, .istore_n 0, 1, []), (22, .iload_n 0, 1, []), (23, .bipush (-100), 2, []), (25, .if_icmp .gt 47, 3, [43]), (28, .iload_n 0, 1, []), (29, .bipush 100, 2, []), (31, .idiv, 1, []), (32, .istore_n 3, 1, []), (33, .iload_n 3, 1, []), (34, .bipush 100, 2, []), (36, .imul, 1, []), (37, .iload_n 0, 1, []), (38, .isub, 1, []), (39, .istore 4, 2, []), (41, .iload_n 3, 1, []), (42, .istore_n 0, 1, []), (43, .aload_n 2, 1, []), (44, .iinc 5 (-1), 3, []), (47, .iload 5, 2, []), (49, .getstatic 83, 3, [6, 1103]), (52, .iload 4, 2, []), (54, .baload, 1, []), (55, .bastore, 1, []), (56, .aload_n 2, 1, []), (57, .iinc 5 (-1), 3, []), (60, .iload 5, 2, []), (62, .getstatic 87, 3, [5, 1105]), (65, .iload 4, 2, []), (67, .baload, 1, []), (68, .bastore, 1, []), (69, .goto (-47), 3, [13]), (72, .aload_n 2, 1, []), (73, .iinc 5 (-1), 3, []), (76, .iload 5, 2, []), (78, .getstatic 83, 3, [6, 1103]), (81, .iload_n 0, 1, []), (82, .ineg, 1, []), (83, .baload, 1, []), (84, .bastore, 1, []), (85, .iload_n 0, 1, []), (86, .bipush (-9), 2, []), (88, .if_icmp .ge 16, 3, [62]), (91, .aload_n 2, 1, []), (92, .iinc 5 (-1), 3, []), (95, .iload 5, 2, []), (97, .getstatic 87, 3, [5, 1105]), (100, .iload_n 0, 1, []), (101, .ineg, 1, []), (102, .baload, 1, []), (103, .bastore, 1, []), (104, .iload 6, 2, []), (106, .ifCond .eq 12, 3, [69]), (109, .aload_n 2, 1, []), (110, .iinc 5 (-1), 3, []), (113, .iload 5, 2, []), (115, .bipush 45, 2, []), (117, .bastore, 1, []), (118, .iload 5, 2, []), (120, .ireturn, 1, [])]
def tb_23 : List qq_E := [(0, .aload_n 0, 1, []), (1, .invokespecial 343, 3, [6, 24, 1, 2, 1139, 1135, 801, 1134, 45, 1140]), (4, .ireturn, 1, [])]
def tb_24 : List qq_E := [(0, .aload_n 0, 1, []), (1, .getfield 79, 3, [2, 3, 792, 0]), (4, .ireturn, 1, [])]
def tb_25 : List qq_E := [(0, .aload_n 0, 1, []), (1, .iload_n 1, 1, []), (2, .invokespecial 333, 3, [6, 26, 2, 2, 1313, 1630, 801, 1314, 45, 1315]), (5, .return_, 1, [])]
def tb_26 : List qq_E := [(0, .iload_n 1, 1, []), (1, .ifCond .ge 12, 3, [7]), (4, .new 129, 3, [99]), (7, .dup, 1, []), (8, .iload_n 1, 1, []), (9, .invokespecial 131, 3, [99]), (12, .athrow, 1, [99]), (13, .aload_n 0, 1, []), (14, .iload_n 1, 1, []), (15, .invokevirtual 100, 3, [1, 5, 2, 2, 985, 987, 0, 45, 988]), (18, .aload_n 0, 1, []), (19, .getfield 79, 3, [2, 3, 792, 0]), (22, .iload_n 1, 1, []), (23, .if_icmp .ge 40, 3, [31]), (26, .aload_n 0, 1, []), (27, .invokevirtual 83, 3, [1, 4, 1, 2, 1016, 1017, 1019, 45, 1020]), (30, .ifCond .eq 18, 3, [24]), (33, .aload_n 0, 1, []), (34, .getfield 15, 3, [2, 0, 788, 0]), (37, .aload_n 0, 1, []), (38, .getfield 79, 3, [2, 3, 792, 0]), (41, .iload_n 1, 1, []), (42, .invokestatic 133, 3, [99]), (45, .goto 31, 3, [38]), (48, .aload_n 0, 1, []), (49, .getfield 15, 3, [2, 0, 788, 0]), (52, .aload_n 0, 1, []), (53, .getfield 79, 3, [2, 3, 792, 0]), (56, .iload_n 1, 1, []), (57, .invokestatic 137, 3, [99]), (60, .goto 16, 3, [38]), (63, .aload_n 0, 1, []), (64, .getfield 79, 3, [2, 3, 792, 0]), (67, .iload_n 1, 1, []), (68, .if_icmp .le 8, 3, [38]), (71, .aload_n 0, 1, []), (72, .iconst 1, 1, []), (73, .putfield 73, 3, [2, 2, 790, 0]), (76, .aload_n 0, 1, []), (77, .iload_n 1, 1, []), (78, .putfield 79, 3, [2, 3, 792, 0]), (81, .return_, 1, [])]
def tb_27 : List qq_E := [(0, .aload_n 0, 1, []), (1, .iload_n 1, 1, []), (2, .invokespecial 329, 3, [6, 28, 2, 2, 1282, 1629, 801, 1283, 45, 1284]), (5, .ireturn, 1, [])]
def tb_28 : List qq_E := [(0, .aload_n 0, 1, []), (1, .getfield 22, 3, [2, 1, 789, 0]), (4, .istore_n 2, 1, []), (5, .aload_n 0, 1, []), (6, .getfield 15, 3, [2, 0, 788, 0]), (9, .astore_n 3, 1, []), (10, .aload_n 0, 1, []), (11, .getfield 79, 3, [2, 3, 792, 0]), (14, .aload_n 3, 1, []), (15, .arraylength, 1, []), (16, .iload_n 2, 1, []), (17, .ishr, 1, []), (18, .invokestatic 138, 3, [23, 1285, 481, 59, 482]), (21, .istore 4, 2, []), (23, .iload_n 1, 1, []), (24, .iload 4, 2, []), (26, .invokestatic 144, 3, [0, 29, 2, 0, 1286, 1206, 47, 1207]), (29, .iload_n 2, 1, []), (30, .ifCond .ne 12, 3, [26]), (33, .aload_n 3, 1, []), (34, .iload_n 1, 1, []), (35, .baload, 1, []), (36, .sipush 255, 3, []), (39, .iand, 1, []), (40, .i2c, 1, []), (41, .ireturn, 1, []), (42, .aload_n 3, 1, []), (43, .iload_n 1, 1, []), (44, .invokestatic 148, 3, [99]), (47, .ireturn, 1, [])]
def tb_29 : List qq_E := [(0, .iload_n 0, 1, []), (1, .iload_n 1, 1, []), (2, .getstatic 1053, 3, [1, 1033]), (5, .invokestatic 1059, 3, [0, 30, 3, 0, 1208, 1209, 64, 1210]), (8, .pop, 1, []), (9, .return_, 1, [])]
def tb_30 : List qq_E := [(0, .iload_n 0, 1, []), (1, .ifCond .lt 8, 3, [5]), (4, .iload_n 0, 1, []), (5, .iload_n 1, 1, []), (6, .if_icmp .lt 10, 3, [10]), (9, .aload_n 2, 1, []), (10, .iload_n 0, 1, []), (11, .iload_n 1, 1, []), (12, .invokestatic 95, 3, [99]), (15, .athrow, 1, [99]), (16, .iload_n 0, 1, []), (17, .ireturn, 1, [])]
def tb_31 : List qq_E := [(0, .aload_n 0, 1, []), (1, .invokevirtual 492, 3, [1, 32, 1, 0, 1198, 1199, 1200, 47, 1201]), (4, .ifCond .eq 12, 3, [8]), (7, .aload_n 0, 1, []), (8, .getfield 9, 3, [0, 0, 1175, 0]), (11, .iload_n 1, 1, []), (12, .invokestatic 495, 3, [0, 33, 2, 0, 1202, 1203, 65, 1204]), (15, .ireturn, 1, []), (16, .aload_n 0, 1, []), (17, .getfield 9, 3, [0, 0, 1175, 0]), (20, .iload_n 1, 1, []), (21, .invokestatic 498, 3, [99]), (24, .ireturn, 1, [])]
def tb_32 : List qq_E := [(0, .getstatic 38, 3, [0, 1055]), (3, .ifCond .eq 14, 3, [7]), (6, .aload_n 0, 1, []), (7, .getfield 15, 3, [0, 1, 1176, 0]), (10, .ifCond .ne 7, 3, [7]), (13, .iconst 1, 1, []), (14, .goto 4, 3, [8]), (17, .iconst 0, 1, []), (18, .ireturn, 1, [])]
def tb_33 : List qq_E := [(0, .iload_n 1, 1, []), (1, .aload_n 0, 1, []), (2, .arraylength, 1, []), (3, .invokestatic 9, 3, [0, 29, 2, 0, 1205, 1206, 47, 1207]), (6, .aload_n 0, 1, []), (7, .iload_n 1, 1, []), (8, .baload, 1, []), (9, .sipush 255, 3, []), (12, .iand, 1, []), (13, .i2c, 1, []), (14, .ireturn, 1, [])]
def tb_34 : List qq_E := [(0, .iload_n 0, 1, []), (1, .iload_n 0, 1, []), (2, .iconst 1, 1, []), (3, .iushr, 1, []), (4, .ldc_w 265, 3, [0, 1431655765, 1533]), (7, .iand, 1, []), (8, .isub, 1, []), (9, .istore_n 0, 1, []), (10, .iload_n 0, 1, []), (11, .ldc_w 266, 3, [0, 858993459, 1534]), (14, .iand, 1, []), (15, .iload_n 0, 1, []), (16, .iconst 2, 1, []), (17, .iushr, 1, []), (18, .ldc_w 266, 3, [0, 858993459, 1534]), (21, .iand, 1, []), (22, .iadd, 1, []), (23, .istore_n 0, 1, []), (24, .iload_n 0, 1, []), (25, .iload_n 0, 1, []), (26, .iconst 4, 1, []), (27, .iushr, 1, []), (28, .iadd, 1, []), (29, .ldc_w 267, 3, [0, 252645135, 1535]), (32, .iand, 1, []), (33, .istore_n 0, 1, []), (34, .iload_n 0, 1, []), (35, .iload_n 0, 1, []), (36, .bipush 8, 2, []), (38, .iushr, 1, []), (39, .iadd, 1, []), (40, .istore_n 0, 1, []), (41, .iload_n 0, 1, []), (42, .iload_n 0, 1, []), (43, .bipush 16, 2, []), (45, .iushr, 1, []), (46, .iadd, 1, []), (47, .istore_n 0, 1, []), (48, .iload_n 0, 1, []), (49, .bipush 63, 2, []), (51, .iand, 1, []), (52, .ireturn, 1, [])]
def tb_35 : List qq_E := [(0, .aload_n 0, 1, []), (1, .getfield 7, 3, [1, 0, 1655, 0]), (4, .ireturn, 1, [])]
def tb_36 : List qq_E := [(0, .aload_n 0, 1, []), (1, .invokespecial 3, 3, [21, 741, 109, 110]), (4, .aload_n 0, 1, []), (5, .bipush 8, 2, []), (7, .newarray .int, 2, [100, 605]), (9, .putfield 9, 3, [3, 0, 742, 0]), (12, .aload_n 0, 1, []), (13, .bipush 8, 2, []), (15, .newarray .int, 2, [100, 605]), (17, .putfield 15, 3, [3, 1, 743, 0]), (20, .return_, 1, [])]
def tb_37 : List qq_E := [(0, .aload_n 0, 1, []), (1, .aload_n 1, 1, []), (2, .invokevirtual 18, 3, [1, 42, 2, 3, 455, 457, 12, 42, 459]), (5, .aload_n 0, 1, []), (6, .getfield 9, 3, [3, 0, 742, 0]), (9, .iload_n 2, 1, []), (10, .iaload, 1, []), (11, .ireturn, 1, [])]
def tb_38 : List qq_E := [(0, .aload_n 0, 1, []), (1, .aload_n 1, 1, []), (2, .invokevirtual 18, 3, [1, 42, 2, 3, 455, 457, 12, 42, 459]), (5, .iconst 0, 1, []), (6, .istore_n 3, 1, []), (7, .iconst 0, 1, []), (8, .istore 4, 2, []), (10, .iconst 0, 1, []), (11, .istore 5, 2, []), (13, .iload 5, 2, []), (15, .aload_n 1, 1, []), (16, .getfield 22, 3, [11, 0, 612, 1]), (19, .if_icmp .ge 74, 3, [53]), (22, .aload_n 1, 1, []), (23, .getfield 28, 3, [11, 5, 626, 1]), (26, .aload_n 0, 1, []), (27, .getfield 9, 3, [3, 0, 742, 0]), (30, .iload 5, 2, []), (32, .iaload, 1, []), (33, .iaload, 1, []), (34, .istore 6, 2, []), (36, .aload_n 0, 1, []), (37, .getfield 15, 3, [3, 1, 743, 0]), (40, .iload_n 3, 1, []), (41, .iload 6, 2, []), (43, .iastore, 1, []), (44, .iinc 3 1, 3, []), (47, .iload 4, 2, []), (49, .iload 6, 2, []), (51, .iadd, 1, []), (52, .istore 4, 2, []), (54, .iload_n 3, 1, []), (55, .aload_n 1, 1, []), (56, .getfield 31, 3, [11, 4, 622, 1]), (59, .aload_n 0, 1, []), (60, .getfield 9, 3, [3, 0, 742, 0]), (63, .iload 5, 2, []), (65, .iaload, 1, []), (66, .iaload, 1, []), (67, .iload_n 2, 1, []), (68, .isub, 1, []), (69, .iconst 1, 1, []), (70, .iadd, 1, []), (71, .if_icmp .le 16, 3, [51]), (74, .iinc 3 (-1), 3, []), (77, .iload 4, 2, []), (79, .aload_n 0, 1, []), (80, .iload_n 3, 1, []), (81, .invokevirtual 34, 3, [1, 39, 2, 3, 1423, 1425, 26, 42, 1426]), (84, .isub, 1, []), (85, .istore 4, 2, []), (87, .iinc 5 1, 3, []), (90, .goto (-77), 3, [9]), (93, .iload 4, 2, []), (95, .ireturn, 1, [])]
def tb_39 : List qq_E := [(0, .iload_n 1, 1, []), (1, .istore_n 2, 1, []), (2, .iconst 0, 1, []), (3, .istore_n 3, 1, []), (4, .iload_n 3, 1, []), (5, .iload_n 1, 1, []), (6, .if_icmp .ge 26, 3, [20]), (9, .aload_n 0, 1, []), (10, .getfield 15, 3, [3, 1, 743, 0]), (13, .iload_n 3, 1, []), (14, .iaload, 1, []), (15, .aload_n 0, 1, []), (16, .getfield 15, 3, [3, 1, 743, 0]), (19, .iload_n 2, 1, []), (20, .iaload, 1, []), (21, .if_icmp .ge 5, 3, [18]), (24, .iload_n 3, 1, []), (25, .istore_n 2, 1, []), (26, .iinc 3 1, 3, []), (29, .goto (-25), 3, [4]), (32, .aload_n 0, 1, []), (33, .getfield 15, 3, [3, 1, 743, 0]), (36, .iload_n 2, 1, []), (37, .iaload, 1, []), (38, .istore_n 3, 1, []), (39, .aload_n 0, 1, []), (40, .getfield 15, 3, [3, 1, 743, 0]), (43, .iload_n 2, 1, []), (44, .aload_n 0, 1, []), (45, .getfield 15, 3, [3, 1, 743, 0]), (48, .iload_n 1, 1, []), (49, .iaload, 1, []), (50, .iastore, 1, []), (51, .iload_n 3, 1, []), (52, .ireturn, 1, [])]
def tb_40 : List qq_E := [(0, .aload_n 0, 1, []), (1, .aload_n 1, 1, []), (2, .invokevirtual 18, 3, [1, 42, 2, 3, 455, 457, 12, 42, 459]), (5, .iconst 0, 1, []), (6, .istore_n 3, 1, []), (7, .iconst 0, 1, []), (8, .istore 4, 2, []), (10, .iload 4, 2, []), (12, .iconst 1, 1, []), (13, .aload_n 1, 1, []), (14, .getfield 22, 3, [11, 0, 612, 1]), (17, .ishl, 1, []), (18, .if_icmp .ge 22, 3, [23]), (21, .iload_n 3, 1, []), (22, .aload_n 0, 1, []), (23, .aload_n 1, 1, []), (24, .iload_n 2, 1, []), (25, .iload 4, 2, []), (27, .invokevirtual 38, 3, [1, 41, 4, 3, 1573, 1575, 30, 42, 1576]), (30, .invokestatic 42, 3, [22, 1577, 997, 59, 998]), (33, .istore_n 3, 1, []), (34, .iinc 4 1, 3, []), (37, .goto (-27), 3, [7]), (40, .iload_n 3, 1, []), (41, .ireturn, 1, [])]
def tb_41 : List qq_E := [(0, .iload_n 2, 1, []), (1, .istore 4, 2, []), (3, .iconst 0, 1, []), (4, .istore 5, 2, []), (6, .iconst 0, 1, []), (7, .istore 6, 2, []), (9, .iload 6, 2, []), (11, .aload_n 1, 1, []), (12, .getfield 22, 3, [11, 0, 612, 1]), (15, .if_icmp .ge 57, 3, [40]), (18, .aload_n 0, 1, []), (19, .getfield 9, 3, [3, 0, 742, 0]), (22, .iload 6, 2, []), (24, .iaload, 1, []), (25, .istore 7, 2, []), (27, .iload_n 3, 1, []), (28, .iload 7, 2, []), (30, .ishr, 1, []), (31, .iconst 1, 1, []), (32, .iand, 1, []), (33, .iconst 1, 1, []), (34, .if_icmp .ne 32, 3, [38]), (37, .iload 4, 2, []), (39, .aload_n 1, 1, []), (40, .getfield 31, 3, [11, 4, 622, 1]), (43, .iload 7, 2, []), (45, .iaload, 1, []), (46, .if_icmp .le 5, 3, [30]), (49, .iconst 0, 1, []), (50, .ireturn, 1, []), (51, .iinc 4 1, 3, []), (54, .iload 5, 2, []), (56, .aload_n 1, 1, []), (57, .getfield 28, 3, [11, 5, 626, 1]), (60, .iload 7, 2, []), (62, .iaload, 1, []), (63, .iadd, 1, []), (64, .istore 5, 2, []), (66, .iinc 6 1, 3, []), (69, .goto (-60), 3, [6]), (72, .iload 5, 2, []), (74, .ireturn, 1, [])]
def tb_42 : List qq_E := [(0, .iconst 0, 1, []), (1, .istore_n 2, 1, []), (2, .iload_n 2, 1, []), (3, .aload_n 1, 1, []), (4, .getfield 22, 3, [11, 0, 612, 1]), (7, .if_icmp .ge 58, 3, [39]), (10, .iload_n 2, 1, []), (11, .istore_n 3, 1, []), (12, .iload_n 3, 1, []), (13, .ifCond .le 39, 3, [32]), (16, .aload_n 1, 1, []), (17, .iload_n 2, 1, []), (18, .aload_n 0, 1, []), (19, .getfield 9, 3, [3, 0, 742, 0]), (22, .iload_n 3, 1, []), (23, .iconst 1, 1, []), (24, .isub, 1, []), (25, .iaload, 1, []), (26, .invokestatic 48, 3, [0, 43, 3, 0, 460, 461, 42, 462]), (29, .ifCond .eq 23, 3, [32]), (32, .aload_n 0, 1, []), (33, .getfield 9, 3, [3, 0, 742, 0]), (36, .iload_n 3, 1, []), (37, .aload_n 0, 1, []), (38, .getfield 9, 3, [3, 0, 742, 0]), (41, .iload_n 3, 1, []), (42, .iconst 1, 1, []), (43, .isub, 1, []), (44, .iaload, 1, []), (45, .iastore, 1, []), (46, .iinc 3 (-1), 3, []), (49, .goto (-37), 3, [8]), (52, .aload_n 0, 1, []), (53, .getfield 9, 3, [3, 0, 742, 0]), (56, .iload_n 3, 1, []), (57, .iload_n 2, 1, []), (58, .iastore, 1, []), (59, .iinc 2 1, 3, []), (62, .goto (-60), 3, [2]), (65, .return_, 1, [])]
def tb_43 : List qq_E := [(0, .aload_n 0, 1, []), (1, .getfield 31, 3, [11, 4, 622, 1]), (4, .iload_n 1, 1, []), (5, .iaload, 1, []), (6, .aload_n 0, 1, []), (7, .getfield 31, 3, [11, 4, 622, 1]), (10, .iload_n 2, 1, []), (11, .iaload, 1, []), (12, .if_icmp .eq 24, 3, [22]), (15, .aload_n 0, 1, []), (16, .getfield 31, 3, [11, 4, 622, 1]), (19, .iload_n 1, 1, []), (20, .iaload, 1, []), (21, .aload_n 0, 1, []), (22, .getfield 31, 3, [11, 4, 622, 1]), (25, .iload_n 2, 1, []), (26, .iaload, 1, []), (27, .if_icmp .ge 7, 3, [20]), (30, .iconst 1, 1, []), (31, .goto 4, 3, [21]), (34, .iconst 0, 1, []), (35, .ireturn, 1, []), (36, .aload_n 0, 1, []), (37, .getfield 28, 3, [11, 5, 626, 1]), (40, .iload_n 1, 1, []), (41, .iaload, 1, []), (42, .aload_n 0, 1, []), (43, .getfield 28, 3, [11, 5, 626, 1]), (46, .iload_n 2, 1, []), (47, .iaload, 1, []), (48, .if_icmp .le 7, 3, [33]), (51, .iconst 1, 1, []), (52, .goto 4, 3, [34]), (55, .iconst 0, 1, []), (56, .ireturn, 1, [])]
def tb_44 : List qq_E := [(0, .aload_n 0, 1, []), (1, .invokespecial 3, 3, [21, 709, 109, 110]), (4, .aload_n 0, 1, []), (5, .bipush 8, 2, []), (7, .anewarray 9, 3, [111, 710, 711]), (10, .putfield 11, 3, [4, 0, 713, 0]), (13, .aload_n 0, 1, []), (14, .iconst 0, 1, []), (15, .putfield 17, 3, [4, 1, 714, 0]), (18, .aload_n 0, 1, []), (19, .iconst 0, 1, []), (20, .putfield 21, 3, [4, 2, 715, 0]), (23, .iconst 0, 1, []), (24, .istore_n 1, 1, []), (25, .iload_n 1, 1, []), (26, .bipush 8, 2, []), (28, .if_icmp .ge 22, 3, [26]), (31, .aload_n 0, 1, []), (32, .getfield 11, 3, [4, 0, 713, 0]), (35, .iload_n 1, 1, []), (36, .new 9, 3, [0, 8, 710, 322, 36]), (39, .dup, 1, []), (40, .invokespecial 24, 3, [5, 74, 1, 0, 712, 559, 36, 560]), (43, .aastore, 1, []), (44, .iinc 1 1, 3, []), (47, .goto (-22), 3, [14]), (50, .return_, 1, [])]
def tb_45 : List qq_E := [(0, .aload_n 0, 1, []), (1, .getfield 11, 3, [4, 0, 713, 0]), (4, .aload_n 0, 1, []), (5, .getfield 17, 3, [4, 1, 714, 0]), (8, .aload_n 0, 1, []), (9, .getfield 21, 3, [4, 2, 715, 0]), (12, .iadd, 1, []), (13, .bipush 8, 2, []), (15, .irem, 1, []), (16, .aaload, 1, []), (17, .aload_n 1, 1, []), (18, .invokevirtual 25, 3, [1, 75, 2, 8, 300, 183, 184, 36, 185]), (21, .aload_n 0, 1, []), (22, .getfield 21, 3, [4, 2, 715, 0]), (25, .bipush 8, 2, []), (27, .if_icmp .ge 16, 3, [23]), (30, .aload_n 0, 1, []), (31, .dup, 1, []), (32, .getfield 21, 3, [4, 2, 715, 0]), (35, .iconst 1, 1, []), (36, .iadd, 1, []), (37, .putfield 21, 3, [4, 2, 715, 0]), (40, .goto 16, 3, [31]), (43, .aload_n 0, 1, []), (44, .aload_n 0, 1, []), (45, .getfield 17, 3, [4, 1, 714, 0]), (48, .iconst 1, 1, []), (49, .iadd, 1, []), (50, .bipush 8, 2, []), (52, .irem, 1, []), (53, .putfield 17, 3, [4, 1, 714, 0]), (56, .return_, 1, [])]
def tb_46 : List qq_E := [(0, .aload_n 0, 1, []), (1, .dup, 1, []), (2, .getfield 21, 3, [4, 2, 715, 0]), (5, .iconst 1, 1, []), (6, .isub, 1, []), (7, .putfield 21, 3, [4, 2, 715, 0]), (10, .aload_n 1, 1, []), (11, .aload_n 0, 1, []), (12, .getfield 11, 3, [4, 0, 713, 0]), (15, .aload_n 0, 1, []), (16, .getfield 17, 3, [4, 1, 714, 0]), (19, .aload_n 0, 1, []), (20, .getfield 21, 3, [4, 2, 715, 0]), (23, .iadd, 1, []), (24, .bipush 8, 2, []), (26, .irem, 1, []), (27, .aaload, 1, []), (28, .invokevirtual 25, 3, [1, 75, 2, 8, 300, 183, 184, 36, 185]), (31, .aload_n 0, 1, []), (32, .getfield 21, 3, [4, 2, 715, 0]), (35, .ireturn, 1, [])]
def tb_47 : List qq_E := [(0, .aload_n 0, 1, []), (1, .iconst 0, 1, []), (2, .putfield 21, 3, [4, 2, 715, 0]), (5, .return_, 1, [])]
def tb_48 : List qq_E := [(0, .aload_n 0, 1, []), (1, .invokespecial 3, 3, [21, 729, 109, 110]), (4, .aload_n 0, 1, []), (5, .bipush 8, 2, []), (7, .newarray .int, 2, [100, 605]), (9, .putfield 9, 3, [5, 0, 730, 0]), (12, .aload_n 0, 1, []), (13, .bipush 8, 2, []), (15, .newarray .int, 2, [100, 605]), (17, .putfield 15, 3, [5, 1, 731, 0]), (20, .return_, 1, [])]
def tb_49 : List qq_E := [(0, .aload_n 1, 1, []), (1, .getfield 18, 3, [7, 1, 573, 1]), (4, .iconst 0, 1, []), (5, .aload_n 0, 1, []), (6, .getfield 9, 3, [5, 0, 730, 0]), (9, .iconst 0, 1, []), (10, .aload_n 1, 1, []), (11, .getfield 23, 3, [7, 0, 569, 1]), (14, .invokestatic 27, 3, [20, 1511, 192, 191, 57]), (17, .iload_n 2, 1, []), (18, .istore 4, 2, []), (20, .iload_n 3, 1, []), (21, .istore 5, 2, []), (23, .iload 5, 2, []), (25, .ifCond .le 37, 3, [34]), (28, .iload 5, 2, []), (30, .iconst 1, 1, []), (31, .iand, 1, []), (32, .iconst 1, 1, []), (33, .if_icmp .ne 12, 3, [25]), (36, .aload_n 0, 1, []), (37, .getfield 9, 3, [5, 0, 730, 0]), (40, .iload 4, 2, []), (42, .iaload, 1, []), (43, .istore 4, 2, []), (45, .aload_n 0, 1, []), (46, .aload_n 1, 1, []), (47, .getfield 23, 3, [7, 0, 569, 1]), (50, .invokevirtual 33, 3, [1, 50, 2, 5, 1512, 1514, 28, 41, 1515]), (53, .iload 5, 2, []), (55, .iconst 1, 1, []), (56, .ishr, 1, []), (57, .istore 5, 2, []), (59, .goto (-36), 3, [13]), (62, .iload 4, 2, []), (64, .ireturn, 1, [])]
def tb_50 : List qq_E := [(0, .iconst 0, 1, []), (1, .istore_n 2, 1, []), (2, .iload_n 2, 1, []), (3, .iload_n 1, 1, []), (4, .if_icmp .ge 26, 3, [18]), (7, .aload_n 0, 1, []), (8, .getfield 15, 3, [5, 1, 731, 0]), (11, .iload_n 2, 1, []), (12, .aload_n 0, 1, []), (13, .getfield 9, 3, [5, 0, 730, 0]), (16, .aload_n 0, 1, []), (17, .getfield 9, 3, [5, 0, 730, 0]), (20, .iload_n 2, 1, []), (21, .iaload, 1, []), (22, .iaload, 1, []), (23, .iastore, 1, []), (24, .iinc 2 1, 3, []), (27, .goto (-25), 3, [2]), (30, .aload_n 0, 1, []), (31, .getfield 15, 3, [5, 1, 731, 0]), (34, .iconst 0, 1, []), (35, .aload_n 0, 1, []), (36, .getfield 9, 3, [5, 0, 730, 0]), (39, .iconst 0, 1, []), (40, .iload_n 1, 1, []), (41, .invokestatic 27, 3, [20, 1511, 192, 191, 57]), (44, .return_, 1, [])]
def tb_51 : List qq_E := [(0, .aload_n 0, 1, []), (1, .invokespecial 3, 3, [21, 657, 109, 110]), (4, .aload_n 0, 1, []), (5, .bipush 21, 2, []), (7, .newarray .int, 2, [100, 605]), (9, .putfield 9, 3, [6, 0, 658, 0]), (12, .aload_n 0, 1, []), (13, .bipush 21, 2, []), (15, .newarray .int, 2, [100, 605]), (17, .putfield 15, 3, [6, 1, 661, 0]), (20, .aload_n 0, 1, []), (21, .iconst 0, 1, []), (22, .putfield 18, 3, [6, 2, 662, 0]), (25, .return_, 1, [])]
def tb_52 : List qq_E := [(0, .aload_n 1, 1, []), (1, .getfield 9, 3, [6, 0, 658, 0]), (4, .iconst 0, 1, []), (5, .aload_n 0, 1, []), (6, .getfield 9, 3, [6, 0, 658, 0]), (9, .iconst 0, 1, []), (10, .bipush 21, 2, []), (12, .invokestatic 22, 3, [20, 202, 192, 191, 57]), (15, .aload_n 1, 1, []), (16, .getfield 15, 3, [6, 1, 661, 0]), (19, .iconst 0, 1, []), (20, .aload_n 0, 1, []), (21, .getfield 15, 3, [6, 1, 661, 0]), (24, .iconst 0, 1, []), (25, .bipush 21, 2, []), (27, .invokestatic 22, 3, [20, 202, 192, 191, 57]), (30, .aload_n 0, 1, []), (31, .aload_n 1, 1, []), (32, .getfield 18, 3, [6, 2, 662, 0]), (35, .putfield 18, 3, [6, 2, 662, 0]), (38, .return_, 1, [])]
def tb_53 : List qq_E := [(0, .aload_n 0, 1, []), (1, .getfield 9, 3, [6, 0, 658, 0]), (4, .iload_n 1, 1, []), (5, .dup2, 1, []), (6, .iaload, 1, []), (7, .iload_n 2, 1, []), (8, .iadd, 1, []), (9, .iastore, 1, []), (10, .aload_n 0, 1, []), (11, .getfield 15, 3, [6, 1, 661, 0]), (14, .iload_n 1, 1, []), (15, .dup2, 1, []), (16, .iaload, 1, []), (17, .iload_n 2, 1, []), (18, .iadd, 1, []), (19, .iastore, 1, []), (20, .aload_n 0, 1, []), (21, .getfield 9, 3, [6, 0, 658, 0]), (24, .iload_n 1, 1, []), (25, .iaload, 1, []), (26, .ireturn, 1, [])]
def tb_54 : List qq_E := [(0, .aload_n 0, 1, []), (1, .dup, 1, []), (2, .getfield 18, 3, [6, 2, 662, 0]), (5, .iload_n 1, 1, []), (6, .isub, 1, []), (7, .putfield 18, 3, [6, 2, 662, 0]), (10, .aload_n 0, 1, []), (11, .getfield 9, 3, [6, 0, 658, 0]), (14, .iconst 1, 1, []), (15, .dup2, 1, []), (16, .iaload, 1, []), (17, .iload_n 1, 1, []), (18, .iadd, 1, []), (19, .iastore, 1, []), (20, .return_, 1, [])]
def tb_55 : List qq_E := [(0, .aload_n 0, 1, []), (1, .getfield 9, 3, [6, 0, 658, 0]), (4, .invokestatic 28, 3, [0, 57, 1, 0, 1586, 1587, 39, 1588]), (7, .aload_n 0, 1, []), (8, .getfield 18, 3, [6, 2, 662, 0]), (11, .iadd, 1, []), (12, .ireturn, 1, [])]
def tb_56 : List qq_E := [(0, .aload_n 0, 1, []), (1, .getfield 15, 3, [6, 1, 661, 0]), (4, .invokestatic 28, 3, [0, 57, 1, 0, 1586, 1587, 39, 1588]), (7, .ireturn, 1, [])]
def tb_57 : List qq_E := [(0, .iconst 0, 1, []), (1, .istore_n 1, 1, []), (2, .iconst 1, 1, []), (3, .istore_n 2, 1, []), (4, .iload_n 2, 1, []), (5, .aload_n 0, 1, []), (6, .arraylength, 1, []), (7, .if_icmp .ge 17, 3, [18]), (10, .iload_n 1, 1, []), (11, .iload_n 2, 1, []), (12, .aload_n 0, 1, []), (13, .iload_n 2, 1, []), (14, .iaload, 1, []), (15, .imul, 1, []), (16, .iadd, 1, []), (17, .istore_n 1, 1, []), (18, .iinc 2 1, 3, []), (21, .goto (-17), 3, [4]), (24, .iload_n 1, 1, []), (25, .ireturn, 1, [])]
def tb_58 : List qq_E := [(0, .aload_n 0, 1, []), (1, .invokespecial 3, 3, [21, 567, 109, 110]), (4, .aload_n 0, 1, []), (5, .iconst 0, 1, []), (6, .putfield 9, 3, [7, 0, 568, 0]), (9, .aload_n 0, 1, []), (10, .bipush 8, 2, []), (12, .newarray .int, 2, [100, 605]), (14, .putfield 15, 3, [7, 1, 572, 0]), (17, .aload_n 0, 1, []), (18, .iconst 0, 1, []), (19, .putfield 19, 3, [7, 2, 576, 0]), (22, .aload_n 0, 1, []), (23, .bipush 6, 2, []), (25, .newarray .int, 2, [100, 605]), (27, .putfield 22, 3, [7, 3, 579, 0]), (30, .aload_n 0, 1, []), (31, .bipush 6, 2, []), (33, .newarray .int, 2, [100, 605]), (35, .putfield 25, 3, [7, 4, 581, 0]), (38, .aload_n 0, 1, []), (39, .bipush 6, 2, []), (41, .newarray .int, 2, [100, 605]), (43, .putfield 28, 3, [7, 5, 584, 0]), (46, .aload_n 0, 1, []), (47, .bipush 6, 2, []), (49, .newarray .int, 2, [100, 605]), (51, .putfield 31, 3, [7, 6, 587, 0]), (54, .return_, 1, [])]
def tb_59 : List qq_E := [(0, .aload_n 0, 1, []), (1, .aload_n 1, 1, []), (2, .getfield 9, 3, [7, 0, 568, 0]), (5, .putfield 9, 3, [7, 0, 568, 0]), (8, .aload_n 1, 1, []), (9, .getfield 15, 3, [7, 1, 572, 0]), (12, .iconst 0, 1, []), (13, .aload_n 0, 1, []), (14, .getfield 15, 3, [7, 1, 572, 0]), (17, .iconst 0, 1, []), (18, .bipush 8, 2, []), (20, .invokestatic 34, 3, [20, 190, 192, 191, 57]), (23, .aload_n 0, 1, []), (24, .aload_n 1, 1, []), (25, .getfield 19, 3, [7, 2, 576, 0]), (28, .putfield 19, 3, [7, 2, 576, 0]), (31, .aload_n 1, 1, []), (32, .getfield 22, 3, [7, 3, 579, 0]), (35, .iconst 0, 1, []), (36, .aload_n 0, 1, []), (37, .getfield 22, 3, [7, 3, 579, 0]), (40, .iconst 0, 1, []), (41, .bipush 6, 2, []), (43, .invokestatic 34, 3, [20, 190, 192, 191, 57]), (46, .aload_n 1, 1, []), (47, .getfield 25, 3, [7, 4, 581, 0]), (50, .iconst 0, 1, []), (51, .aload_n 0, 1, []), (52, .getfield 25, 3, [7, 4, 581, 0]), (55, .iconst 0, 1, []), (56, .bipush 6, 2, []), (58, .invokestatic 34, 3, [20, 190, 192, 191, 57]), (61, .aload_n 1, 1, []), (62, .getfield 28, 3, [7, 5, 584, 0]), (65, .iconst 0, 1, []), (66, .aload_n 0, 1, []), (67, .getfield 28, 3, [7, 5, 584, 0]), (70, .iconst 0, 1, []), (71, .bipush 6, 2, []), (73, .invokestatic 34, 3, [20, 190, 192, 191, 57]), (76, .aload_n 1, 1, []), (77, .getfield 31, 3, [7, 6, 587, 0]), (80, .iconst 0, 1, []), (81, .aload_n 0, 1, []), (82, .getfield 31, 3, [7, 6, 587, 0]), (85, .iconst 0, 1, []), (86, .bipush 6, 2, []), (88, .invokestatic 34, 3, [20, 190, 192, 191, 57]), (91, .return_, 1, [])]
def tb_60 : List qq_E := [(0, .iload_n 1, 1, []), (1, .ifCond .lt 15, 3, [8]), (4, .iload_n 1, 1, []), (5, .aload_n 0, 1, []), (6, .getfield 9, 3, [7, 0, 568, 0]), (9, .if_icmp .ge 7, 3, [8]), (12, .iconst 1, 1, []), (13, .goto 4, 3, [9]), (16, .iconst 0, 1, []), (17, .ireturn, 1, [])]
def tb_61 : List qq_E := [(0, .iload_n 1, 1, []), (1, .ifCond .lt 15, 3, [8]), (4, .iload_n 1, 1, []), (5, .aload_n 0, 1, []), (6, .getfield 19, 3, [7, 2, 576, 0]), (9, .if_icmp .ge 7, 3, [8]), (12, .iconst 1, 1, []), (13, .goto 4, 3, [9]), (16, .iconst 0, 1, []), (17, .ireturn, 1, [])]
def tb_62 : List qq_E := [(0, .aload_n 0, 1, []), (1, .getfield 9, 3, [7, 0, 568, 0]), (4, .istore_n 1, 1, []), (5, .aload_n 0, 1, []), (6, .getfield 15, 3, [7, 1, 572, 0]), (9, .iload_n 1, 1, []), (10, .iload_n 1, 1, []), (11, .iastore, 1, []), (12, .aload_n 0, 1, []), (13, .dup, 1, []), (14, .getfield 9, 3, [7, 0, 568, 0]), (17, .iconst 1, 1, []), (18, .iadd, 1, []), (19, .putfield 9, 3, [7, 0, 568, 0]), (22, .iload_n 1, 1, []), (23, .ireturn, 1, [])]
def tb_63 : List qq_E := [(0, .aload_n 0, 1, []), (1, .getfield 15, 3, [7, 1, 572, 0]), (4, .iload_n 1, 1, []), (5, .iaload, 1, []), (6, .istore_n 3, 1, []), (7, .aload_n 0, 1, []), (8, .getfield 15, 3, [7, 1, 572, 0]), (11, .iload_n 1, 1, []), (12, .iload_n 2, 1, []), (13, .iastore, 1, []), (14, .iload_n 3, 1, []), (15, .ireturn, 1, [])]
def tb_64 : List qq_E := [(0, .aload_n 0, 1, []), (1, .getfield 19, 3, [7, 2, 576, 0]), (4, .istore_n 3, 1, []), (5, .aload_n 0, 1, []), (6, .getfield 22, 3, [7, 3, 579, 0]), (9, .iload_n 3, 1, []), (10, .iload_n 2, 1, []), (11, .iastore, 1, []), (12, .aload_n 0, 1, []), (13, .getfield 25, 3, [7, 4, 581, 0]), (16, .iload_n 3, 1, []), (17, .iload_n 1, 1, []), (18, .iastore, 1, []), (19, .aload_n 0, 1, []), (20, .getfield 28, 3, [7, 5, 584, 0]), (23, .iload_n 3, 1, []), (24, .iload_n 1, 1, []), (25, .iastore, 1, []), (26, .iload_n 3, 1, []), (27, .istore 4, 2, []), (29, .iload 4, 2, []), (31, .ifCond .le 43, 3, [45]), (34, .aload_n 0, 1, []), (35, .getfield 22, 3, [7, 3, 579, 0]), (38, .aload_n 0, 1, []), (39, .getfield 31, 3, [7, 6, 587, 0]), (42, .iload 4, 2, []), (44, .iconst 1, 1, []), (45, .isub, 1, []), (46, .iaload, 1, []), (47, .iaload, 1, []), (48, .iload_n 2, 1, []), (49, .if_icmp .ge 25, 3, [45]), (52, .aload_n 0, 1, []), (53, .getfield 31, 3, [7, 6, 587, 0]), (56, .iload 4, 2, []), (58, .aload_n 0, 1, []), (59, .getfield 31, 3, [7, 6, 587, 0]), (62, .iload 4, 2, []), (64, .iconst 1, 1, []), (65, .isub, 1, []), (66, .iaload, 1, []), (67, .iastore, 1, []), (68, .iinc 4 (-1), 3, []), (71, .goto (-42), 3, [20]), (74, .aload_n 0, 1, []), (75, .getfield 31, 3, [7, 6, 587, 0]), (78, .iload 4, 2, []), (80, .iload_n 3, 1, []), (81, .iastore, 1, []), (82, .aload_n 0, 1, []), (83, .dup, 1, []), (84, .getfield 19, 3, [7, 2, 576, 0]), (87, .iconst 1, 1, []), (88, .iadd, 1, []), (89, .putfield 19, 3, [7, 2, 576, 0]), (92, .iload_n 3, 1, []), (93, .ireturn, 1, [])]
def tb_65 : List qq_E := [(0, .aload_n 0, 1, []), (1, .getfield 28, 3, [7, 5, 584, 0]), (4, .iload_n 1, 1, []), (5, .iaload, 1, []), (6, .istore_n 3, 1, []), (7, .aload_n 0, 1, []), (8, .getfield 28, 3, [7, 5, 584, 0]), (11, .iload_n 1, 1, []), (12, .iload_n 2, 1, []), (13, .iastore, 1, []), (14, .iload_n 3, 1, []), (15, .ireturn, 1, [])]
def tb_66 : List qq_E := [(0, .iconst 0, 1, []), (1, .istore_n 2, 1, []), (2, .iload_n 2, 1, []), (3, .aload_n 0, 1, []), (4, .getfield 19, 3, [7, 2, 576, 0]), (7, .if_icmp .ge 21, 3, [16]), (10, .aload_n 0, 1, []), (11, .getfield 25, 3, [7, 4, 581, 0]), (14, .iload_n 2, 1, []), (15, .iaload, 1, []), (16, .iload_n 1, 1, []), (17, .if_icmp .ne 5, 3, [14]), (20, .iload_n 2, 1, []), (21, .ireturn, 1, []), (22, .iinc 2 1, 3, []), (25, .goto (-23), 3, [2]), (28, .iconst (-1), 1, []), (29, .ireturn, 1, [])]
def tb_67 : List qq_E := [(0, .aload_n 0, 1, []), (1, .getfield 25, 3, [7, 4, 581, 0]), (4, .iload_n 1, 1, []), (5, .iaload, 1, []), (6, .aload_n 0, 1, []), (7, .getfield 28, 3, [7, 5, 584, 0]), (10, .iload_n 1, 1, []), (11, .iaload, 1, []), (12, .if_icmp .ne 7, 3, [11]), (15, .iconst 1, 1, []), (16, .goto 4, 3, [12]), (19, .iconst 0, 1, []), (20, .ireturn, 1, [])]
def tb_68 : List qq_E := [(0, .aload_n 0, 1, []), (1, .iload_n 2, 1, []), (2, .invokevirtual 40, 3, [1, 66, 2, 7, 406, 407, 408, 37, 409]), (5, .iconst (-1), 1, []), (6, .if_icmp .ne 7, 3, [7]), (9, .iconst 1, 1, []), (10, .goto 4, 3, [8]), (13, .iconst 0, 1, []), (14, .istore_n 3, 1, []), (15, .iload_n 3, 1, []), (16, .ifCond .eq 10, 3, [16]), (19, .aload_n 0, 1, []), (20, .getfield 25, 3, [7, 4, 581, 0]), (23, .iload_n 1, 1, []), (24, .iload_n 2, 1, []), (25, .iastore, 1, []), (26, .iload_n 3, 1, []), (27, .ireturn, 1, [])]
def tb_69 : List qq_E := [(0, .iload_n 1, 1, []), (1, .istore_n 3, 1, []), (2, .iconst 0, 1, []), (3, .istore 4, 2, []), (5, .iload 4, 2, []), (7, .iload_n 2, 1, []), (8, .if_icmp .ge 16, 3, [14]), (11, .aload_n 0, 1, []), (12, .getfield 15, 3, [7, 1, 572, 0]), (15, .iload_n 3, 1, []), (16, .iaload, 1, []), (17, .istore_n 3, 1, []), (18, .iinc 4 1, 3, []), (21, .goto (-16), 3, [4]), (24, .iload_n 3, 1, []), (25, .ireturn, 1, [])]
def tb_70 : List qq_E := [(0, .aload_n 0, 1, []), (1, .iload_n 1, 1, []), (2, .aload_n 0, 1, []), (3, .getfield 9, 3, [7, 0, 568, 0]), (6, .invokevirtual 44, 3, [1, 69, 3, 7, 1494, 175, 176, 37, 177]), (9, .istore_n 2, 1, []), (10, .iconst 1, 1, []), (11, .istore_n 3, 1, []), (12, .aload_n 0, 1, []), (13, .getfield 15, 3, [7, 1, 572, 0]), (16, .iload_n 2, 1, []), (17, .iaload, 1, []), (18, .istore 4, 2, []), (20, .iload 4, 2, []), (22, .iload_n 2, 1, []), (23, .if_icmp .eq 26, 3, [27]), (26, .iload_n 3, 1, []), (27, .aload_n 0, 1, []), (28, .getfield 9, 3, [7, 0, 568, 0]), (31, .if_icmp .ge 18, 3, [27]), (34, .iinc 3 1, 3, []), (37, .aload_n 0, 1, []), (38, .getfield 15, 3, [7, 1, 572, 0]), (41, .iload 4, 2, []), (43, .iaload, 1, []), (44, .istore 4, 2, []), (46, .goto (-26), 3, [13]), (49, .iload_n 3, 1, []), (50, .ireturn, 1, [])]
def tb_71 : List qq_E := []
def tb_72 : List qq_E := []
def tb_73 : List qq_E := [(0, .iconst 0, 1, []), (1, .istore_n 1, 1, []), (2, .iload_n 1, 1, []), (3, .aload_n 0, 1, []), (4, .getfield 19, 3, [7, 2, 576, 0]), (7, .if_icmp .ge 25, 3, [18]), (10, .aload_n 0, 1, []), (11, .aload_n 0, 1, []), (12, .getfield 25, 3, [7, 4, 581, 0]), (15, .iload_n 1, 1, []), (16, .iaload, 1, []), (17, .invokevirtual 40, 3, [1, 66, 2, 7, 406, 407, 408, 37, 409]), (20, .iload_n 1, 1, []), (21, .if_icmp .eq 5, 3, [16]), (24, .iconst 0, 1, []), (25, .ireturn, 1, []), (26, .iinc 1 1, 3, []), (29, .goto (-27), 3, [2]), (32, .iconst 1, 1, []), (33, .ireturn, 1, [])]
def tb_74 : List qq_E := [(0, .aload_n 0, 1, []), (1, .invokespecial 3, 3, [21, 561, 109, 110]), (4, .aload_n 0, 1, []), (5, .new 9, 3, [0, 7, 562, 563, 37]), (8, .dup, 1, []), (9, .invokespecial 11, 3, [5, 58, 1, 0, 564, 565, 37, 566]), (12, .putfield 12, 3, [8, 0, 672, 0]), (15, .aload_n 0, 1, []), (16, .new 18, 3, [0, 11, 606, 392, 38]), (19, .dup, 1, []), (20, .invokespecial 20, 3, [5, 119, 1, 0, 607, 608, 38, 609]), (23, .putfield 21, 3, [8, 1, 674, 0]), (26, .aload_n 0, 1, []), (27, .new 25, 3, [0, 6, 652, 653, 39]), (30, .dup, 1, []), (31, .invokespecial 27, 3, [5, 51, 1, 0, 654, 655, 39, 656]), (34, .putfield 28, 3, [8, 2, 676, 0]), (37, .aload_n 0, 1, []), (38, .iconst 0, 1, []), (39, .putfield 32, 3, [8, 3, 678, 0]), (42, .aload_n 0, 1, []), (43, .iconst (-1), 1, []), (44, .putfield 36, 3, [8, 4, 680, 0]), (47, .aload_n 0, 1, []), (48, .iconst 0, 1, []), (49, .putfield 39, 3, [8, 5, 681, 0]), (52, .aload_n 0, 1, []), (53, .iconst 0, 1, []), (54, .putfield 42, 3, [8, 6, 683, 0]), (57, .aload_n 0, 1, []), (58, .iconst 0, 1, []), (59, .putfield 45, 3, [8, 7, 685, 0]), (62, .return_, 1, [])]
def tb_75 : List qq_E := [(0, .aload_n 0, 1, []), (1, .getfield 12, 3, [8, 0, 672, 0]), (4, .aload_n 1, 1, []), (5, .getfield 12, 3, [8, 0, 672, 0]), (8, .invokevirtual 48, 3, [1, 59, 2, 7, 186, 187, 188, 37, 189]), (11, .aload_n 0, 1, []), (12, .getfield 21, 3, [8, 1, 674, 0]), (15, .aload_n 1, 1, []), (16, .getfield 21, 3, [8, 1, 674, 0]), (19, .invokevirtual 52, 3, [1, 120, 2, 11, 193, 194, 195, 38, 196]), (22, .aload_n 0, 1, []), (23, .getfield 28, 3, [8, 2, 676, 0]), (26, .aload_n 1, 1, []), (27, .getfield 28, 3, [8, 2, 676, 0]), (30, .invokevirtual 55, 3, [1, 52, 2, 6, 198, 199, 200, 39, 201]), (33, .aload_n 0, 1, []), (34, .aload_n 1, 1, []), (35, .getfield 32, 3, [8, 3, 678, 0]), (38, .putfield 32, 3, [8, 3, 678, 0]), (41, .aload_n 0, 1, []), (42, .aload_n 1, 1, []), (43, .getfield 36, 3, [8, 4, 680, 0]), (46, .putfield 36, 3, [8, 4, 680, 0]), (49, .aload_n 0, 1, []), (50, .aload_n 1, 1, []), (51, .getfield 39, 3, [8, 5, 681, 0]), (54, .putfield 39, 3, [8, 5, 681, 0]), (57, .aload_n 0, 1, []), (58, .aload_n 1, 1, []), (59, .getfield 42, 3, [8, 6, 683, 0]), (62, .putfield 42, 3, [8, 6, 683, 0]), (65, .aload_n 0, 1, []), (66, .aload_n 1, 1, []), (67, .getfield 45, 3, [8, 7, 685, 0]), (70, .putfield 45, 3, [8, 7, 685, 0]), (73, .return_, 1, [])]
def tb_76 : List qq_E := [(0, .aload_n 0, 1, []), (1, .getfield 12, 3, [8, 0, 672, 0]), (4, .getfield 58, 3, [7, 0, 570, 1]), (7, .bipush 8, 2, []), (9, .if_icmp .lt 8, 3, [7]), (12, .bipush 115, 2, []), (14, .goto 5, 3, [8]), (17, .bipush 45, 2, []), (19, .ireturn, 1, [])]
def tb_77 : List qq_E := [(0, .aload_n 0, 1, []), (1, .getfield 12, 3, [8, 0, 672, 0]), (4, .iload_n 1, 1, []), (5, .invokevirtual 61, 3, [1, 60, 2, 7, 247, 80, 81, 37, 82]), (8, .ifCond .eq 19, 3, [12]), (11, .aload_n 0, 1, []), (12, .getfield 12, 3, [8, 0, 672, 0]), (15, .iload_n 2, 1, []), (16, .invokevirtual 61, 3, [1, 60, 2, 7, 247, 80, 81, 37, 82]), (19, .ifCond .eq 8, 3, [12]), (22, .bipush 45, 2, []), (24, .goto 5, 3, [13]), (27, .bipush 105, 2, []), (29, .ireturn, 1, [])]
def tb_78 : List qq_E := [(0, .aload_n 0, 1, []), (1, .getfield 12, 3, [8, 0, 672, 0]), (4, .iload_n 1, 1, []), (5, .invokevirtual 61, 3, [1, 60, 2, 7, 247, 80, 81, 37, 82]), (8, .ifCond .ne 6, 3, [7]), (11, .bipush 105, 2, []), (13, .ireturn, 1, []), (14, .iload_n 2, 1, []), (15, .iconst 1, 1, []), (16, .bipush 99, 2, []), (18, .invokestatic 65, 3, [3, 200, 3, 0, 328, 157, 35, 158]), (21, .ifCond .ne 6, 3, [14]), (24, .bipush 97, 2, []), (26, .ireturn, 1, []), (27, .aload_n 0, 1, []), (28, .getfield 12, 3, [8, 0, 672, 0]), (31, .getfield 69, 3, [7, 2, 577, 1]), (34, .bipush 6, 2, []), (36, .if_icmp .ge 19, 3, [27]), (39, .aload_n 0, 1, []), (40, .getfield 12, 3, [8, 0, 672, 0]), (43, .iload_n 1, 1, []), (44, .invokevirtual 72, 3, [1, 66, 2, 7, 896, 407, 408, 37, 409]), (47, .iconst (-1), 1, []), (48, .if_icmp .ne 7, 3, [27]), (51, .iconst 1, 1, []), (52, .goto 4, 3, [28]), (55, .iconst 0, 1, []), (56, .istore_n 3, 1, []), (57, .iload_n 3, 1, []), (58, .ifCond .eq 8, 3, [33]), (61, .bipush 45, 2, []), (63, .goto 5, 3, [34]), (66, .bipush 115, 2, []), (68, .ireturn, 1, [])]
def tb_79 : List qq_E := [(0, .aload_n 0, 1, []), (1, .getfield 12, 3, [8, 0, 672, 0]), (4, .iload_n 1, 1, []), (5, .invokevirtual 76, 3, [1, 61, 2, 7, 324, 325, 326, 37, 327]), (8, .ifCond .eq 19, 3, [12]), (11, .aload_n 0, 1, []), (12, .getfield 12, 3, [8, 0, 672, 0]), (15, .iload_n 2, 1, []), (16, .invokevirtual 61, 3, [1, 60, 2, 7, 247, 80, 81, 37, 82]), (19, .ifCond .eq 8, 3, [12]), (22, .bipush 45, 2, []), (24, .goto 5, 3, [13]), (27, .bipush 105, 2, []), (29, .ireturn, 1, [])]
def tb_80 : List qq_E := [(0, .aload_n 0, 1, []), (1, .iload_n 1, 1, []), (2, .iload_n 2, 1, []), (3, .iload_n 3, 1, []), (4, .invokevirtual 79, 3, [1, 82, 4, 8, 319, 321, 6, 36, 323]), (7, .istore 4, 2, []), (9, .iload 4, 2, []), (11, .bipush 45, 2, []), (13, .if_icmp .ne 18, 3, [15]), (16, .aload_n 0, 1, []), (17, .getfield 21, 3, [8, 1, 674, 0]), (20, .invokevirtual 83, 3, [1, 121, 1, 11, 329, 330, 331, 38, 332]), (23, .ifCond .eq 8, 3, [15]), (26, .bipush 115, 2, []), (28, .goto 5, 3, [16]), (31, .iload 4, 2, []), (33, .ireturn, 1, [])]
def tb_81 : List qq_E := [(0, .aload_n 0, 1, []), (1, .iload_n 1, 1, []), (2, .iload_n 2, 1, []), (3, .iload_n 3, 1, []), (4, .invokevirtual 79, 3, [1, 82, 4, 8, 319, 321, 6, 36, 323]), (7, .istore 5, 2, []), (9, .iload 5, 2, []), (11, .bipush 45, 2, []), (13, .if_icmp .ne 19, 3, [17]), (16, .aload_n 0, 1, []), (17, .getfield 21, 3, [8, 1, 674, 0]), (20, .iload 4, 2, []), (22, .invokevirtual 87, 3, [1, 122, 2, 11, 523, 524, 525, 38, 526]), (25, .iconst (-1), 1, []), (26, .if_icmp .ne 6, 3, [17]), (29, .bipush 101, 2, []), (31, .ireturn, 1, []), (32, .iload 5, 2, []), (34, .bipush 45, 2, []), (36, .if_icmp .ne 18, 3, [26]), (39, .aload_n 0, 1, []), (40, .getfield 21, 3, [8, 1, 674, 0]), (43, .invokevirtual 83, 3, [1, 121, 1, 11, 329, 330, 331, 38, 332]), (46, .ifCond .eq 8, 3, [26]), (49, .bipush 115, 2, []), (51, .goto 5, 3, [27]), (54, .iload 5, 2, []), (56, .ireturn, 1, [])]
def tb_82 : List qq_E := [(0, .aload_n 0, 1, []), (1, .getfield 12, 3, [8, 0, 672, 0]), (4, .iload_n 1, 1, []), (5, .invokevirtual 76, 3, [1, 61, 2, 7, 324, 325, 326, 37, 327]), (8, .ifCond .ne 6, 3, [7]), (11, .bipush 105, 2, []), (13, .ireturn, 1, []), (14, .iload_n 2, 1, []), (15, .iconst 0, 1, []), (16, .bipush 20, 2, []), (18, .invokestatic 65, 3, [3, 200, 3, 0, 328, 157, 35, 158]), (21, .ifCond .eq 17, 3, [19]), (24, .iload_n 3, 1, []), (25, .iconst 1, 1, []), (26, .bipush 60, 2, []), (28, .invokestatic 65, 3, [3, 200, 3, 0, 328, 157, 35, 158]), (31, .ifCond .eq 7, 3, [19]), (34, .iconst 1, 1, []), (35, .goto 4, 3, [20]), (38, .iconst 0, 1, []), (39, .istore 4, 2, []), (41, .iload 4, 2, []), (43, .ifCond .eq 8, 3, [25]), (46, .bipush 45, 2, []), (48, .goto 5, 3, [26]), (51, .bipush 97, 2, []), (53, .ireturn, 1, [])]
def tb_83 : List qq_E := [(0, .aload_n 0, 1, []), (1, .getfield 21, 3, [8, 1, 674, 0]), (4, .iload_n 1, 1, []), (5, .aload_n 0, 1, []), (6, .getfield 32, 3, [8, 3, 678, 0]), (9, .iload_n 2, 1, []), (10, .iadd, 1, []), (11, .iload_n 3, 1, []), (12, .iload 4, 2, []), (14, .invokevirtual 90, 3, [1, 123, 5, 11, 337, 338, 339, 38, 340]), (17, .ireturn, 1, [])]
def tb_84 : List qq_E := [(0, .iload_n 1, 1, []), (1, .iconst 1, 1, []), (2, .bipush 20, 2, []), (4, .invokestatic 65, 3, [3, 200, 3, 0, 328, 157, 35, 158]), (7, .ifCond .eq 13, 3, [10]), (10, .iload_n 2, 1, []), (11, .iconst 1, 1, []), (12, .bipush 9, 2, []), (14, .invokestatic 65, 3, [3, 200, 3, 0, 328, 157, 35, 158]), (17, .ifCond .ne 6, 3, [12]), (20, .bipush 97, 2, []), (22, .ireturn, 1, []), (23, .aload_n 0, 1, []), (24, .getfield 28, 3, [8, 2, 676, 0]), (27, .getfield 94, 3, [6, 0, 659, 1]), (30, .iload_n 1, 1, []), (31, .iaload, 1, []), (32, .iload_n 2, 1, []), (33, .iadd, 1, []), (34, .bipush 99, 2, []), (36, .if_icmp .le 8, 3, [23]), (39, .bipush 115, 2, []), (41, .goto 5, 3, [24]), (44, .bipush 45, 2, []), (46, .ireturn, 1, [])]
def tb_85 : List qq_E := [(0, .aload_n 0, 1, []), (1, .getfield 21, 3, [8, 1, 674, 0]), (4, .iload_n 1, 1, []), (5, .invokevirtual 87, 3, [1, 122, 2, 11, 523, 524, 525, 38, 526]), (8, .istore_n 3, 1, []), (9, .iload_n 3, 1, []), (10, .iconst (-1), 1, []), (11, .if_icmp .ne 6, 3, [10]), (14, .bipush 101, 2, []), (16, .ireturn, 1, []), (17, .aload_n 0, 1, []), (18, .getfield 21, 3, [8, 1, 674, 0]), (21, .getfield 98, 3, [11, 7, 632, 1]), (24, .iload_n 3, 1, []), (25, .baload, 1, []), (26, .ifCond .eq 6, 3, [18]), (29, .bipush 115, 2, []), (31, .ireturn, 1, []), (32, .aload_n 2, 1, []), (33, .aload_n 0, 1, []), (34, .getfield 28, 3, [8, 2, 676, 0]), (37, .getfield 94, 3, [6, 0, 659, 1]), (40, .invokevirtual 102, 3, [1, 111, 2, 10, 924, 472, 473, 43, 474]), (43, .aload_n 2, 1, []), (44, .aload_n 0, 1, []), (45, .getfield 21, 3, [8, 1, 674, 0]), (48, .getfield 108, 3, [11, 5, 627, 1]), (51, .iload_n 3, 1, []), (52, .iaload, 1, []), (53, .invokevirtual 111, 3, [1, 113, 2, 10, 925, 484, 485, 43, 486]), (56, .sipush 1000, 3, []), (59, .if_icmp .ne 8, 3, [34]), (62, .bipush 117, 2, []), (64, .goto 5, 3, [35]), (67, .bipush 45, 2, []), (69, .ireturn, 1, [])]
def tb_86 : List qq_E := [(0, .aload_n 0, 1, []), (1, .getfield 21, 3, [8, 1, 674, 0]), (4, .iload_n 1, 1, []), (5, .invokevirtual 87, 3, [1, 122, 2, 11, 523, 524, 525, 38, 526]), (8, .istore_n 3, 1, []), (9, .iload_n 3, 1, []), (10, .iconst (-1), 1, []), (11, .if_icmp .ne 5, 3, [10]), (14, .iconst 0, 1, []), (15, .ireturn, 1, []), (16, .aload_n 0, 1, []), (17, .getfield 21, 3, [8, 1, 674, 0]), (20, .getfield 108, 3, [11, 5, 627, 1]), (23, .iload_n 3, 1, []), (24, .iaload, 1, []), (25, .istore 4, 2, []), (27, .aload_n 2, 1, []), (28, .aload_n 0, 1, []), (29, .getfield 28, 3, [8, 2, 676, 0]), (32, .getfield 94, 3, [6, 0, 659, 1]), (35, .invokevirtual 102, 3, [1, 111, 2, 10, 924, 472, 473, 43, 474]), (38, .aload_n 2, 1, []), (39, .aload_n 0, 1, []), (40, .getfield 28, 3, [8, 2, 676, 0]), (43, .getfield 94, 3, [6, 0, 659, 1]), (46, .iload 4, 2, []), (48, .invokevirtual 114, 3, [1, 114, 3, 10, 930, 931, 932, 43, 933]), (51, .aload_n 0, 1, []), (52, .getfield 28, 3, [8, 2, 676, 0]), (55, .dup, 1, []), (56, .getfield 118, 3, [6, 2, 663, 1]), (59, .iload 4, 2, []), (61, .iadd, 1, []), (62, .putfield 118, 3, [6, 2, 663, 1]), (65, .aload_n 0, 1, []), (66, .getfield 21, 3, [8, 1, 674, 0]), (69, .getfield 98, 3, [11, 7, 632, 1]), (72, .iload_n 3, 1, []), (73, .iconst 1, 1, []), (74, .bastore, 1, []), (75, .aload_n 2, 1, []), (76, .iload 4, 2, []), (78, .invokevirtual 111, 3, [1, 113, 2, 10, 925, 484, 485, 43, 486]), (81, .ireturn, 1, [])]
def tb_87 : List qq_E := [(0, .aload_n 0, 1, []), (1, .getfield 21, 3, [8, 1, 674, 0]), (4, .iload_n 1, 1, []), (5, .invokevirtual 87, 3, [1, 122, 2, 11, 523, 524, 525, 38, 526]), (8, .iconst (-1), 1, []), (9, .if_icmp .ne 6, 3, [8]), (12, .bipush 101, 2, []), (14, .ireturn, 1, []), (15, .aload_n 0, 1, []), (16, .getfield 36, 3, [8, 4, 680, 0]), (19, .aload_n 0, 1, []), (20, .getfield 32, 3, [8, 3, 678, 0]), (23, .if_icmp .ne 8, 3, [15]), (26, .bipush 115, 2, []), (28, .goto 5, 3, [16]), (31, .bipush 45, 2, []), (33, .ireturn, 1, [])]
def tb_88 : List qq_E := [(0, .aload_n 0, 1, []), (1, .getfield 21, 3, [8, 1, 674, 0]), (4, .iload_n 1, 1, []), (5, .invokevirtual 87, 3, [1, 122, 2, 11, 523, 524, 525, 38, 526]), (8, .istore_n 2, 1, []), (9, .iload_n 2, 1, []), (10, .iconst (-1), 1, []), (11, .if_icmp .ne 6, 3, [10]), (14, .bipush 45, 2, []), (16, .ireturn, 1, []), (17, .aload_n 0, 1, []), (18, .aload_n 0, 1, []), (19, .getfield 32, 3, [8, 3, 678, 0]), (22, .putfield 36, 3, [8, 4, 680, 0]), (25, .aload_n 0, 1, []), (26, .getfield 21, 3, [8, 1, 674, 0]), (29, .getfield 121, 3, [11, 3, 619, 1]), (32, .iload_n 2, 1, []), (33, .iaload, 1, []), (34, .istore_n 3, 1, []), (35, .aload_n 0, 1, []), (36, .getfield 12, 3, [8, 0, 672, 0]), (39, .iload_n 3, 1, []), (40, .invokevirtual 123, 3, [1, 67, 2, 7, 437, 438, 439, 37, 440]), (43, .ifCond .eq 18, 3, [33]), (46, .aload_n 0, 1, []), (47, .aload_n 0, 1, []), (48, .getfield 21, 3, [8, 1, 674, 0]), (51, .iload_n 2, 1, []), (52, .invokevirtual 126, 3, [1, 128, 2, 11, 531, 532, 533, 38, 534]), (55, .invokevirtual 129, 3, [1, 89, 2, 8, 536, 538, 14, 36, 539]), (58, .bipush 100, 2, []), (60, .ireturn, 1, []), (61, .aload_n 0, 1, []), (62, .getfield 12, 3, [8, 0, 672, 0]), (65, .iload_n 3, 1, []), (66, .aload_n 0, 1, []), (67, .getfield 12, 3, [8, 0, 672, 0]), (70, .getfield 133, 3, [7, 5, 585, 1]), (73, .iload_n 3, 1, []), (74, .iaload, 1, []), (75, .invokevirtual 136, 3, [1, 68, 3, 7, 402, 403, 404, 37, 405]), (78, .pop, 1, []), (79, .aload_n 0, 1, []), (80, .getfield 21, 3, [8, 1, 674, 0]), (83, .iload_n 2, 1, []), (84, .invokevirtual 140, 3, [1, 124, 2, 11, 385, 386, 387, 38, 388]), (87, .aload_n 0, 1, []), (88, .dup, 1, []), (89, .getfield 39, 3, [8, 5, 681, 0]), (92, .iconst 1, 1, []), (93, .iadd, 1, []), (94, .putfield 39, 3, [8, 5, 681, 0]), (97, .bipush 117, 2, []), (99, .ireturn, 1, [])]
def tb_89 : List qq_E := [(0, .aload_n 0, 1, []), (1, .getfield 21, 3, [8, 1, 674, 0]), (4, .getfield 143, 3, [11, 0, 613, 1]), (7, .iconst 1, 1, []), (8, .isub, 1, []), (9, .istore_n 2, 1, []), (10, .iload_n 2, 1, []), (11, .ifCond .lt 33, 3, [26]), (14, .iload_n 1, 1, []), (15, .iload_n 2, 1, []), (16, .ishr, 1, []), (17, .iconst 1, 1, []), (18, .iand, 1, []), (19, .iconst 1, 1, []), (20, .if_icmp .ne 18, 3, [24]), (23, .aload_n 0, 1, []), (24, .iload_n 2, 1, []), (25, .invokevirtual 146, 3, [1, 90, 2, 8, 377, 379, 8, 36, 380]), (28, .aload_n 0, 1, []), (29, .dup, 1, []), (30, .getfield 42, 3, [8, 6, 683, 0]), (33, .iconst 1, 1, []), (34, .iadd, 1, []), (35, .putfield 42, 3, [8, 6, 683, 0]), (38, .iinc 2 (-1), 3, []), (41, .goto (-31), 3, [6]), (44, .return_, 1, [])]
def tb_90 : List qq_E := [(0, .aload_n 0, 1, []), (1, .getfield 21, 3, [8, 1, 674, 0]), (4, .getfield 98, 3, [11, 7, 632, 1]), (7, .iload_n 1, 1, []), (8, .baload, 1, []), (9, .ifCond .eq 19, 3, [14]), (12, .aload_n 0, 1, []), (13, .getfield 28, 3, [8, 2, 676, 0]), (16, .aload_n 0, 1, []), (17, .getfield 21, 3, [8, 1, 674, 0]), (20, .getfield 108, 3, [11, 5, 627, 1]), (23, .iload_n 1, 1, []), (24, .iaload, 1, []), (25, .invokevirtual 149, 3, [1, 54, 2, 6, 381, 382, 383, 39, 384]), (28, .aload_n 0, 1, []), (29, .getfield 21, 3, [8, 1, 674, 0]), (32, .iload_n 1, 1, []), (33, .invokevirtual 140, 3, [1, 124, 2, 11, 385, 386, 387, 38, 388]), (36, .return_, 1, [])]
def tb_91 : List qq_E := [(0, .aload_n 0, 1, []), (1, .getfield 36, 3, [8, 4, 680, 0]), (4, .aload_n 0, 1, []), (5, .getfield 32, 3, [8, 3, 678, 0]), (8, .if_icmp .ne 12, 3, [10]), (11, .aload_n 0, 1, []), (12, .getfield 32, 3, [8, 3, 678, 0]), (15, .iconst 1, 1, []), (16, .iadd, 1, []), (17, .goto 7, 3, [12]), (20, .aload_n 0, 1, []), (21, .getfield 32, 3, [8, 3, 678, 0]), (24, .ireturn, 1, [])]
def tb_92 : List qq_E := [(0, .iload_n 1, 1, []), (1, .iconst 1, 1, []), (2, .bipush 50, 2, []), (4, .invokestatic 65, 3, [3, 200, 3, 0, 328, 157, 35, 158]), (7, .ifCond .eq 8, 3, [7]), (10, .bipush 45, 2, []), (12, .goto 5, 3, [8]), (15, .bipush 97, 2, []), (17, .ireturn, 1, [])]
def tb_93 : List qq_E := [(0, .iconst 0, 1, []), (1, .istore_n 2, 1, []), (2, .iconst 0, 1, []), (3, .istore_n 3, 1, []), (4, .iload_n 3, 1, []), (5, .iload_n 1, 1, []), (6, .if_icmp .ge 16, 3, [14]), (9, .iload_n 2, 1, []), (10, .aload_n 0, 1, []), (11, .invokevirtual 152, 3, [1, 94, 1, 8, 373, 375, 7, 36, 376]), (14, .iadd, 1, []), (15, .istore_n 2, 1, []), (16, .iinc 3 1, 3, []), (19, .goto (-15), 3, [4]), (22, .iload_n 2, 1, []), (23, .ireturn, 1, [])]
def tb_94 : List qq_E := [(0, .aload_n 0, 1, []), (1, .dup, 1, []), (2, .getfield 32, 3, [8, 3, 678, 0]), (5, .iconst 1, 1, []), (6, .iadd, 1, []), (7, .putfield 32, 3, [8, 3, 678, 0]), (10, .aload_n 0, 1, []), (11, .getfield 21, 3, [8, 1, 674, 0]), (14, .getfield 143, 3, [11, 0, 613, 1]), (17, .iconst 1, 1, []), (18, .isub, 1, []), (19, .istore_n 1, 1, []), (20, .iload_n 1, 1, []), (21, .ifCond .lt 40, 3, [33]), (24, .aload_n 0, 1, []), (25, .getfield 21, 3, [8, 1, 674, 0]), (28, .getfield 156, 3, [11, 4, 623, 1]), (31, .iload_n 1, 1, []), (32, .iaload, 1, []), (33, .aload_n 0, 1, []), (34, .getfield 32, 3, [8, 3, 678, 0]), (37, .if_icmp .ge 18, 3, [31]), (40, .aload_n 0, 1, []), (41, .iload_n 1, 1, []), (42, .invokevirtual 146, 3, [1, 90, 2, 8, 377, 379, 8, 36, 380]), (45, .aload_n 0, 1, []), (46, .dup, 1, []), (47, .getfield 45, 3, [8, 7, 685, 0]), (50, .iconst 1, 1, []), (51, .iadd, 1, []), (52, .putfield 45, 3, [8, 7, 685, 0]), (55, .iinc 1 (-1), 3, []), (58, .goto (-38), 3, [12]), (61, .aload_n 0, 1, []), (62, .invokevirtual 159, 3, [1, 95, 1, 8, 394, 396, 10, 36, 397]), (65, .ireturn, 1, [])]
def tb_95 : List qq_E := [(0, .iconst 0, 1, []), (1, .istore_n 1, 1, []), (2, .iconst 0, 1, []), (3, .istore_n 2, 1, []), (4, .iload_n 2, 1, []), (5, .aload_n 0, 1, []), (6, .getfield 12, 3, [8, 0, 672, 0]), (9, .getfield 69, 3, [7, 2, 577, 1]), (12, .if_icmp .ge 65, 3, [39]), (15, .aload_n 0, 1, []), (16, .getfield 12, 3, [8, 0, 672, 0]), (19, .getfield 162, 3, [7, 6, 588, 1]), (22, .iload_n 2, 1, []), (23, .iaload, 1, []), (24, .istore_n 3, 1, []), (25, .aload_n 0, 1, []), (26, .getfield 12, 3, [8, 0, 672, 0]), (29, .getfield 165, 3, [7, 1, 575, 1]), (32, .aload_n 0, 1, []), (33, .getfield 12, 3, [8, 0, 672, 0]), (36, .getfield 168, 3, [7, 4, 583, 1]), (39, .iload_n 3, 1, []), (40, .iaload, 1, []), (41, .iaload, 1, []), (42, .istore 4, 2, []), (44, .aload_n 0, 1, []), (45, .getfield 21, 3, [8, 1, 674, 0]), (48, .iload_n 3, 1, []), (49, .invokevirtual 171, 3, [1, 126, 2, 11, 398, 399, 400, 38, 401]), (52, .ifCond .ne 19, 3, [37]), (55, .aload_n 0, 1, []), (56, .getfield 12, 3, [8, 0, 672, 0]), (59, .iload_n 3, 1, []), (60, .iload 4, 2, []), (62, .invokevirtual 136, 3, [1, 68, 3, 7, 402, 403, 404, 37, 405]), (65, .ifCond .eq 6, 3, [37]), (68, .iinc 1 1, 3, []), (71, .iinc 2 1, 3, []), (74, .goto (-70), 3, [4]), (77, .iload_n 1, 1, []), (78, .ireturn, 1, [])]
def tb_96 : List qq_E := [(0, .iconst 0, 1, []), (1, .istore_n 2, 1, []), (2, .iload_n 2, 1, []), (3, .bipush 50, 2, []), (5, .if_icmp .ge 27, 3, [17]), (8, .aload_n 0, 1, []), (9, .getfield 12, 3, [8, 0, 672, 0]), (12, .iload_n 1, 1, []), (13, .invokevirtual 123, 3, [1, 67, 2, 7, 437, 438, 439, 37, 440]), (16, .ifCond .eq 5, 3, [12]), (19, .iload_n 2, 1, []), (20, .ireturn, 1, []), (21, .aload_n 0, 1, []), (22, .invokevirtual 152, 3, [1, 94, 1, 8, 373, 375, 7, 36, 376]), (25, .pop, 1, []), (26, .iinc 2 1, 3, []), (29, .goto (-27), 3, [2]), (32, .aload_n 0, 1, []), (33, .getfield 12, 3, [8, 0, 672, 0]), (36, .iload_n 1, 1, []), (37, .invokevirtual 123, 3, [1, 67, 2, 7, 437, 438, 439, 37, 440]), (40, .ifCond .eq 8, 3, [24]), (43, .bipush 50, 2, []), (45, .goto 4, 3, [25]), (48, .iconst (-1), 1, []), (49, .ireturn, 1, [])]
def tb_97 : List qq_E := [(0, .aload_n 0, 1, []), (1, .invokespecial 3, 3, [21, 769, 109, 110]), (4, .aload_n 0, 1, []), (5, .new 9, 3, [0, 2, 770, 771, 46]), (8, .dup, 1, []), (9, .invokespecial 11, 3, [2, 0, 1, 0, 772, 773, 46, 774]), (12, .putfield 12, 3, [9, 0, 805, 0]), (15, .aload_n 0, 1, []), (16, .bipush 11, 2, []), (18, .anewarray 18, 3, [112, 802, 803]), (21, .putfield 20, 3, [9, 1, 806, 0]), (24, .aload_n 0, 1, []), (25, .bipush 11, 2, []), (27, .iconst 4, 1, []), (28, .multianewarray 24 2, 4, [110, 804, 755, 605]), (32, .putfield 26, 3, [9, 2, 808, 0]), (35, .aload_n 0, 1, []), (36, .iconst 0, 1, []), (37, .putfield 29, 3, [9, 3, 810, 0]), (40, .aload_n 0, 1, []), (41, .iconst 0, 1, []), (42, .putfield 33, 3, [9, 4, 812, 0]), (45, .aload_n 0, 1, []), (46, .iconst 0, 1, []), (47, .putfield 36, 3, [9, 5, 813, 0]), (50, .return_, 1, [])]
def tb_98 : List qq_E := [(0, .aload_n 0, 1, []), (1, .getfield 12, 3, [9, 0, 805, 0]), (4, .invokevirtual 39, 3, [1, 23, 1, 2, 1226, 1137, 1627, 46, 1138]), (7, .bipush 60, 2, []), (9, .if_icmp .lt 7, 3, [7]), (12, .iconst 1, 1, []), (13, .goto 4, 3, [8]), (16, .iconst 0, 1, []), (17, .ireturn, 1, [])]
def tb_99 : List qq_E := [(0, .aload_n 0, 1, []), (1, .getfield 12, 3, [9, 0, 805, 0]), (4, .iload_n 1, 1, []), (5, .invokevirtual 43, 3, [1, 2, 2, 2, 1231, 1232, 1233, 46, 1234]), (8, .pop, 1, []), (9, .aload_n 0, 1, []), (10, .getfield 12, 3, [9, 0, 805, 0]), (13, .invokevirtual 39, 3, [1, 23, 1, 2, 1226, 1137, 1627, 46, 1138]), (16, .ireturn, 1, [])]
def tb_100 : List qq_E := [(0, .aload_n 0, 1, []), (1, .getfield 12, 3, [9, 0, 805, 0]), (4, .iconst 0, 1, []), (5, .invokevirtual 47, 3, [1, 25, 2, 2, 1309, 1310, 1311, 46, 1312]), (8, .return_, 1, [])]
def tb_101 : List qq_E := [(0, .aload_n 0, 1, []), (1, .iconst 0, 1, []), (2, .putfield 36, 3, [9, 5, 813, 0]), (5, .aload_n 0, 1, []), (6, .iconst 0, 1, []), (7, .putfield 29, 3, [9, 3, 810, 0]), (10, .aload_n 0, 1, []), (11, .getfield 29, 3, [9, 3, 810, 0]), (14, .bipush 11, 2, []), (16, .if_icmp .ge 49, 3, [35]), (19, .aload_n 0, 1, []), (20, .invokevirtual 51, 3, [1, 102, 1, 9, 1256, 1258, 16, 44, 1259]), (23, .ifCond .ne 5, 3, [15]), (26, .iconst 0, 1, []), (27, .ireturn, 1, []), (28, .aload_n 0, 1, []), (29, .dup, 1, []), (30, .getfield 29, 3, [9, 3, 810, 0]), (33, .iconst 1, 1, []), (34, .iadd, 1, []), (35, .putfield 29, 3, [9, 3, 810, 0]), (38, .aload_n 0, 1, []), (39, .getfield 36, 3, [9, 5, 813, 0]), (42, .aload_n 0, 1, []), (43, .getfield 12, 3, [9, 0, 805, 0]), (46, .invokevirtual 39, 3, [1, 23, 1, 2, 1226, 1137, 1627, 46, 1138]), (49, .if_icmp .ne 5, 3, [29]), (52, .iconst 1, 1, []), (53, .ireturn, 1, []), (54, .aload_n 0, 1, []), (55, .bipush 59, 2, []), (57, .invokevirtual 55, 3, [1, 107, 2, 9, 1301, 1303, 23, 44, 1304]), (60, .ifCond .ne (-50), 3, [6]), (63, .iconst 0, 1, []), (64, .ireturn, 1, []), (65, .iconst 0, 1, []), (66, .ireturn, 1, [])]
def tb_102 : List qq_E := [(0, .aload_n 0, 1, []), (1, .invokevirtual 59, 3, [1, 103, 1, 9, 1260, 1262, 17, 44, 1263]), (4, .astore_n 1, 1, []), (5, .aload_n 0, 1, []), (6, .getfield 20, 3, [9, 1, 806, 0]), (9, .aload_n 0, 1, []), (10, .getfield 29, 3, [9, 3, 810, 0]), (13, .aload_n 1, 1, []), (14, .aastore, 1, []), (15, .aload_n 0, 1, []), (16, .iconst 0, 1, []), (17, .putfield 33, 3, [9, 4, 812, 0]), (20, .iconst 0, 1, []), (21, .istore_n 2, 1, []), (22, .iload_n 2, 1, []), (23, .iconst 4, 1, []), (24, .if_icmp .ge 21, 3, [27]), (27, .aload_n 0, 1, []), (28, .getfield 26, 3, [9, 2, 808, 0]), (31, .aload_n 0, 1, []), (32, .getfield 29, 3, [9, 3, 810, 0]), (35, .aaload, 1, []), (36, .iload_n 2, 1, []), (37, .iconst (-1), 1, []), (38, .iastore, 1, []), (39, .iinc 2 1, 3, []), (42, .goto (-20), 3, [14]), (45, .aload_n 0, 1, []), (46, .aload_n 1, 1, []), (47, .getfield 63, 3, [1, 1, 1654, 1]), (50, .invokevirtual 67, 3, [1, 105, 2, 9, 1288, 1290, 20, 44, 1291]), (53, .ireturn, 1, [])]
def tb_103 : List qq_E := [(0, .getstatic 71, 3, [2, 1264]), (3, .astore_n 1, 1, []), (4, .iconst 0, 1, []), (5, .istore_n 2, 1, []), (6, .getstatic 75, 3, [3, 1266]), (9, .astore_n 3, 1, []), (10, .aload_n 3, 1, []), (11, .arraylength, 1, []), (12, .istore 4, 2, []), (14, .iconst 0, 1, []), (15, .istore 5, 2, []), (17, .iload 5, 2, []), (19, .iload 4, 2, []), (21, .if_icmp .ge 38, 3, [32]), (24, .aload_n 3, 1, []), (25, .iload 5, 2, []), (27, .aaload, 1, []), (28, .astore 6, 2, []), (30, .aload_n 0, 1, []), (31, .aload 6, 2, []), (33, .getfield 63, 3, [1, 1, 1654, 1]), (36, .invokevirtual 78, 3, [1, 104, 2, 9, 1268, 1270, 18, 44, 1271]), (39, .istore 7, 2, []), (41, .iload 7, 2, []), (43, .iload_n 2, 1, []), (44, .if_icmp .le 9, 3, [30]), (47, .iload 7, 2, []), (49, .istore_n 2, 1, []), (50, .aload 6, 2, []), (52, .astore_n 1, 1, []), (53, .iinc 5 1, 3, []), (56, .goto (-39), 3, [11]), (59, .aload_n 1, 1, []), (60, .areturn, 1, [])]
def tb_104 : List qq_E := [(0, .iconst 0, 1, []), (1, .istore_n 2, 1, []), (2, .iload_n 2, 1, []), (3, .aload_n 1, 1, []), (4, .invokevirtual 82, 3, [1, 14, 1, 0, 1272, 1048, 1049, 47, 1050]), (7, .if_icmp .ge 27, 3, [18]), (10, .aload_n 1, 1, []), (11, .iload_n 2, 1, []), (12, .invokevirtual 85, 3, [1, 31, 2, 0, 1273, 1195, 1196, 47, 1197]), (15, .aload_n 0, 1, []), (16, .aload_n 0, 1, []), (17, .getfield 36, 3, [9, 5, 813, 0]), (20, .iload_n 2, 1, []), (21, .iadd, 1, []), (22, .invokevirtual 89, 3, [1, 109, 2, 9, 1274, 1276, 19, 44, 1277]), (25, .if_icmp .ne 9, 3, [18]), (28, .iinc 2 1, 3, []), (31, .goto (-29), 3, [2]), (34, .iload_n 2, 1, []), (35, .ireturn, 1, [])]
def tb_105 : List qq_E := [(0, .iconst 0, 1, []), (1, .istore_n 2, 1, []), (2, .iload_n 2, 1, []), (3, .aload_n 1, 1, []), (4, .invokevirtual 82, 3, [1, 14, 1, 0, 1272, 1048, 1049, 47, 1050]), (7, .if_icmp .ge 67, 3, [42]), (10, .aload_n 1, 1, []), (11, .iload_n 2, 1, []), (12, .invokevirtual 85, 3, [1, 31, 2, 0, 1273, 1195, 1196, 47, 1197]), (15, .istore_n 3, 1, []), (16, .iload_n 3, 1, []), (17, .bipush 91, 2, []), (19, .if_icmp .ne 33, 3, [31]), (22, .iload_n 2, 1, []), (23, .iconst 1, 1, []), (24, .iadd, 1, []), (25, .aload_n 1, 1, []), (26, .invokevirtual 82, 3, [1, 14, 1, 0, 1272, 1048, 1049, 47, 1050]), (29, .if_icmp .ge 23, 3, [31]), (32, .aload_n 0, 1, []), (33, .aload_n 0, 1, []), (34, .getfield 36, 3, [9, 5, 813, 0]), (37, .invokevirtual 89, 3, [1, 109, 2, 9, 1274, 1276, 19, 44, 1277]), (40, .aload_n 1, 1, []), (41, .iload_n 2, 1, []), (42, .iconst 1, 1, []), (43, .iadd, 1, []), (44, .invokevirtual 85, 3, [1, 31, 2, 0, 1273, 1195, 1196, 47, 1197]), (47, .if_icmp .eq 21, 3, [40]), (50, .iconst 1, 1, []), (51, .ireturn, 1, []), (52, .iload_n 3, 1, []), (53, .bipush 93, 2, []), (55, .if_icmp .eq 13, 3, [40]), (58, .aload_n 0, 1, []), (59, .iload_n 3, 1, []), (60, .invokevirtual 92, 3, [1, 106, 2, 9, 1292, 1294, 21, 44, 1295]), (63, .ifCond .ne 5, 3, [40]), (66, .iconst 0, 1, []), (67, .ireturn, 1, []), (68, .iinc 2 1, 3, []), (71, .goto (-69), 3, [2]), (74, .iconst 1, 1, []), (75, .ireturn, 1, [])]
def tb_106 : List qq_E := [(0, .iload_n 1, 1, []), (1, .lookupswitch 39 #[(35, 27), (37, 33)], 27, [10, 2, 6]), (28, .aload_n 0, 1, []), (29, .iconst 1, 1, []), (30, .invokevirtual 95, 3, [1, 108, 2, 9, 1296, 1298, 22, 44, 1299]), (33, .ireturn, 1, []), (34, .aload_n 0, 1, []), (35, .iconst 3, 1, []), (36, .invokevirtual 95, 3, [1, 108, 2, 9, 1296, 1298, 22, 44, 1299]), (39, .ireturn, 1, []), (40, .aload_n 0, 1, []), (41, .iload_n 1, 1, []), (42, .invokevirtual 55, 3, [1, 107, 2, 9, 1301, 1303, 23, 44, 1304]), (45, .ireturn, 1, [])]
def tb_107 : List qq_E := [(0, .aload_n 0, 1, []), (1, .aload_n 0, 1, []), (2, .getfield 36, 3, [9, 5, 813, 0]), (5, .invokevirtual 89, 3, [1, 109, 2, 9, 1274, 1276, 19, 44, 1277]), (8, .iload_n 1, 1, []), (9, .if_icmp .ne 7, 3, [8]), (12, .iconst 1, 1, []), (13, .goto 4, 3, [9]), (16, .iconst 0, 1, []), (17, .istore_n 2, 1, []), (18, .iload_n 2, 1, []), (19, .ifCond .eq 13, 3, [18]), (22, .aload_n 0, 1, []), (23, .dup, 1, []), (24, .getfield 36, 3, [9, 5, 813, 0]), (27, .iconst 1, 1, []), (28, .iadd, 1, []), (29, .putfield 36, 3, [9, 5, 813, 0]), (32, .iload_n 2, 1, []), (33, .ireturn, 1, [])]
def tb_108 : List qq_E := [(0, .iconst 0, 1, []), (1, .istore_n 2, 1, []), (2, .iconst 0, 1, []), (3, .istore_n 3, 1, []), (4, .iload_n 3, 1, []), (5, .iload_n 1, 1, []), (6, .if_icmp .ge 54, 3, [34]), (9, .aload_n 0, 1, []), (10, .aload_n 0, 1, []), (11, .getfield 36, 3, [9, 5, 813, 0]), (14, .invokevirtual 89, 3, [1, 109, 2, 9, 1274, 1276, 19, 44, 1277]), (17, .bipush 48, 2, []), (19, .bipush 57, 2, []), (21, .invokestatic 99, 3, [3, 200, 3, 0, 1300, 157, 35, 158]), (24, .ifCond .eq 36, 3, [34]), (27, .iload_n 2, 1, []), (28, .bipush 10, 2, []), (30, .imul, 1, []), (31, .aload_n 0, 1, []), (32, .aload_n 0, 1, []), (33, .getfield 36, 3, [9, 5, 813, 0]), (36, .invokevirtual 89, 3, [1, 109, 2, 9, 1274, 1276, 19, 44, 1277]), (39, .iadd, 1, []), (40, .bipush 48, 2, []), (42, .isub, 1, []), (43, .istore_n 2, 1, []), (44, .aload_n 0, 1, []), (45, .dup, 1, []), (46, .getfield 36, 3, [9, 5, 813, 0]), (49, .iconst 1, 1, []), (50, .iadd, 1, []), (51, .putfield 36, 3, [9, 5, 813, 0]), (54, .iinc 3 1, 3, []), (57, .goto (-53), 3, [4]), (60, .iload_n 3, 1, []), (61, .ifCond .eq 11, 3, [40]), (64, .aload_n 0, 1, []), (65, .getfield 33, 3, [9, 4, 812, 0]), (68, .iconst 4, 1, []), (69, .if_icmp .lt 5, 3, [42]), (72, .iconst 0, 1, []), (73, .ireturn, 1, []), (74, .aload_n 0, 1, []), (75, .getfield 26, 3, [9, 2, 808, 0]), (78, .aload_n 0, 1, []), (79, .getfield 29, 3, [9, 3, 810, 0]), (82, .aaload, 1, []), (83, .aload_n 0, 1, []), (84, .getfield 33, 3, [9, 4, 812, 0]), (87, .iload_n 2, 1, []), (88, .iastore, 1, []), (89, .aload_n 0, 1, []), (90, .dup, 1, []), (91, .getfield 33, 3, [9, 4, 812, 0]), (94, .iconst 1, 1, []), (95, .iadd, 1, []), (96, .putfield 33, 3, [9, 4, 812, 0]), (99, .iconst 1, 1, []), (100, .ireturn, 1, [])]
def tb_109 : List qq_E := [(0, .iload_n 1, 1, []), (1, .ifCond .lt 25, 3, [12]), (4, .iload_n 1, 1, []), (5, .aload_n 0, 1, []), (6, .getfield 12, 3, [9, 0, 805, 0]), (9, .invokevirtual 39, 3, [1, 23, 1, 2, 1226, 1137, 1627, 46, 1138]), (12, .if_icmp .ge 14, 3, [12]), (15, .aload_n 0, 1, []), (16, .getfield 12, 3, [9, 0, 805, 0]), (19, .iload_n 1, 1, []), (20, .invokevirtual 103, 3, [1, 27, 2, 2, 1278, 1279, 1280, 46, 1281]), (23, .goto 4, 3, [13]), (26, .iconst 0, 1, []), (27, .ireturn, 1, [])]
def tb_110 : List qq_E := [(0, .aload_n 0, 1, []), (1, .invokespecial 3, 3, [21, 753, 109, 110]), (4, .aload_n 0, 1, []), (5, .bipush 21, 2, []), (7, .bipush 61, 2, []), (9, .multianewarray 9 2, 4, [110, 754, 755, 605]), (13, .putfield 11, 3, [10, 0, 756, 0]), (16, .aload_n 0, 1, []), (17, .bipush 21, 2, []), (19, .newarray .long, 2, [105, 763]), (21, .putfield 16, 3, [10, 1, 757, 0]), (24, .return_, 1, [])]
def tb_111 : List qq_E := [(0, .iconst 0, 1, []), (1, .istore_n 2, 1, []), (2, .iload_n 2, 1, []), (3, .bipush 60, 2, []), (5, .if_icmp .gt 28, 3, [18]), (8, .aload_n 0, 1, []), (9, .getfield 11, 3, [10, 0, 756, 0]), (12, .iconst 0, 1, []), (13, .aaload, 1, []), (14, .iload_n 2, 1, []), (15, .iload_n 2, 1, []), (16, .ifCond .ne 7, 3, [14]), (19, .iconst 0, 1, []), (20, .goto 6, 3, [15]), (23, .sipush 1000, 3, []), (26, .iastore, 1, []), (27, .iinc 2 1, 3, []), (30, .goto (-28), 3, [2]), (33, .iconst 1, 1, []), (34, .istore_n 2, 1, []), (35, .iload_n 2, 1, []), (36, .bipush 20, 2, []), (38, .if_icmp .gt 38, 3, [43]), (41, .iconst 0, 1, []), (42, .istore_n 3, 1, []), (43, .iload_n 3, 1, []), (44, .bipush 60, 2, []), (46, .if_icmp .gt 24, 3, [41]), (49, .aload_n 0, 1, []), (50, .getfield 11, 3, [10, 0, 756, 0]), (53, .iload_n 2, 1, []), (54, .aaload, 1, []), (55, .iload_n 3, 1, []), (56, .aload_n 0, 1, []), (57, .aload_n 1, 1, []), (58, .iload_n 2, 1, []), (59, .iload_n 3, 1, []), (60, .invokevirtual 20, 3, [1, 112, 4, 10, 475, 477, 13, 43, 479]), (63, .iastore, 1, []), (64, .iinc 3 1, 3, []), (67, .goto (-24), 3, [25]), (70, .iinc 2 1, 3, []), (73, .goto (-38), 3, [20]), (76, .return_, 1, [])]
def tb_112 : List qq_E := [(0, .aload_n 0, 1, []), (1, .getfield 11, 3, [10, 0, 756, 0]), (4, .iload_n 2, 1, []), (5, .iconst 1, 1, []), (6, .isub, 1, []), (7, .aaload, 1, []), (8, .iload_n 3, 1, []), (9, .iaload, 1, []), (10, .istore 4, 2, []), (12, .iload_n 3, 1, []), (13, .iload_n 2, 1, []), (14, .isub, 1, []), (15, .istore 5, 2, []), (17, .iconst 1, 1, []), (18, .istore 6, 2, []), (20, .iload 6, 2, []), (22, .aload_n 1, 1, []), (23, .iload_n 2, 1, []), (24, .iaload, 1, []), (25, .if_icmp .gt 41, 3, [41]), (28, .iload 5, 2, []), (30, .ifCond .lt 36, 3, [41]), (33, .iload 4, 2, []), (35, .aload_n 0, 1, []), (36, .getfield 11, 3, [10, 0, 756, 0]), (39, .iload_n 2, 1, []), (40, .iconst 1, 1, []), (41, .isub, 1, []), (42, .aaload, 1, []), (43, .iload 5, 2, []), (45, .iaload, 1, []), (46, .iload 6, 2, []), (48, .iadd, 1, []), (49, .invokestatic 24, 3, [23, 480, 481, 59, 482]), (52, .istore 4, 2, []), (54, .iload 5, 2, []), (56, .iload_n 2, 1, []), (57, .isub, 1, []), (58, .istore 5, 2, []), (60, .iinc 6 1, 3, []), (63, .goto (-43), 3, [15]), (66, .iload 4, 2, []), (68, .ireturn, 1, [])]
def tb_113 : List qq_E := [(0, .aload_n 0, 1, []), (1, .getfield 11, 3, [10, 0, 756, 0]), (4, .bipush 20, 2, []), (6, .aaload, 1, []), (7, .iload_n 1, 1, []), (8, .iaload, 1, []), (9, .ireturn, 1, [])]
def tb_114 : List qq_E := [(0, .iload_n 2, 1, []), (1, .istore_n 3, 1, []), (2, .bipush 20, 2, []), (4, .istore 4, 2, []), (6, .iload 4, 2, []), (8, .ifCond .le 36, 3, [27]), (11, .aload_n 0, 1, []), (12, .aload_n 1, 1, []), (13, .iload 4, 2, []), (15, .iload_n 3, 1, []), (16, .invokevirtual 30, 3, [1, 115, 4, 10, 934, 936, 15, 43, 937]), (19, .istore 5, 2, []), (21, .aload_n 1, 1, []), (22, .iload 4, 2, []), (24, .dup2, 1, []), (25, .iaload, 1, []), (26, .iload 5, 2, []), (28, .isub, 1, []), (29, .iastore, 1, []), (30, .iload_n 3, 1, []), (31, .iload 5, 2, []), (33, .iload 4, 2, []), (35, .imul, 1, []), (36, .isub, 1, []), (37, .istore_n 3, 1, []), (38, .iinc 4 (-1), 3, []), (41, .goto (-35), 3, [4]), (44, .return_, 1, [])]
def tb_115 : List qq_E := [(0, .aload_n 1, 1, []), (1, .iload_n 2, 1, []), (2, .iaload, 1, []), (3, .iload_n 3, 1, []), (4, .iload_n 2, 1, []), (5, .idiv, 1, []), (6, .invokestatic 24, 3, [23, 480, 481, 59, 482]), (9, .istore 4, 2, []), (11, .iload 4, 2, []), (13, .ifCond .le 38, 3, [33]), (16, .aload_n 0, 1, []), (17, .getfield 11, 3, [10, 0, 756, 0]), (20, .iload_n 2, 1, []), (21, .iconst 1, 1, []), (22, .isub, 1, []), (23, .aaload, 1, []), (24, .iload_n 3, 1, []), (25, .iload 4, 2, []), (27, .iload_n 2, 1, []), (28, .imul, 1, []), (29, .isub, 1, []), (30, .iaload, 1, []), (31, .iload 4, 2, []), (33, .iadd, 1, []), (34, .aload_n 0, 1, []), (35, .getfield 11, 3, [10, 0, 756, 0]), (38, .iload_n 2, 1, []), (39, .aaload, 1, []), (40, .iload_n 3, 1, []), (41, .iaload, 1, []), (42, .if_icmp .eq 9, 3, [33]), (45, .iinc 4 (-1), 3, []), (48, .goto (-37), 3, [8]), (51, .iload 4, 2, []), (53, .ireturn, 1, [])]
def tb_116 : List qq_E := [(0, .aload_n 0, 1, []), (1, .aload_n 1, 1, []), (2, .invokevirtual 33, 3, [1, 117, 2, 10, 1558, 1560, 29, 43, 1561]), (5, .aload_n 1, 1, []), (6, .aload_n 0, 1, []), (7, .getfield 16, 3, [10, 1, 757, 0]), (10, .bipush 20, 2, []), (12, .iload_n 2, 1, []), (13, .sipush 1000, 3, []), (16, .invokestatic 37, 3, [0, 118, 5, 0, 1562, 1563, 43, 1564]), (19, .ireturn, 1, [])]
def tb_117 : List qq_E := [(0, .aload_n 0, 1, []), (1, .getfield 16, 3, [10, 1, 757, 0]), (4, .iconst 0, 1, []), (5, .lconst 1, 1, []), (6, .lastore, 1, []), (7, .iconst 1, 1, []), (8, .istore_n 2, 1, []), (9, .iload_n 2, 1, []), (10, .bipush 20, 2, []), (12, .if_icmp .gt 71, 3, [54]), (15, .aload_n 1, 1, []), (16, .iload_n 2, 1, []), (17, .iaload, 1, []), (18, .bipush 60, 2, []), (20, .iload_n 2, 1, []), (21, .idiv, 1, []), (22, .invokestatic 24, 3, [23, 480, 481, 59, 482]), (25, .istore_n 3, 1, []), (26, .aload_n 0, 1, []), (27, .getfield 16, 3, [10, 1, 757, 0]), (30, .iload_n 2, 1, []), (31, .aload_n 0, 1, []), (32, .getfield 16, 3, [10, 1, 757, 0]), (35, .iload_n 2, 1, []), (36, .iconst 1, 1, []), (37, .isub, 1, []), (38, .laload, 1, []), (39, .lastore, 1, []), (40, .iconst 1, 1, []), (41, .istore 4, 2, []), (43, .iload 4, 2, []), (45, .iload_n 3, 1, []), (46, .if_icmp .gt 31, 3, [52]), (49, .aload_n 0, 1, []), (50, .getfield 16, 3, [10, 1, 757, 0]), (53, .iload_n 2, 1, []), (54, .dup2, 1, []), (55, .laload, 1, []), (56, .aload_n 0, 1, []), (57, .getfield 16, 3, [10, 1, 757, 0]), (60, .iload_n 2, 1, []), (61, .iconst 1, 1, []), (62, .isub, 1, []), (63, .laload, 1, []), (64, .iload 4, 2, []), (66, .iload_n 2, 1, []), (67, .imul, 1, []), (68, .lshl, 1, []), (69, .lor, 1, []), (70, .lastore, 1, []), (71, .iinc 4 1, 3, []), (74, .goto (-31), 3, [30]), (77, .iinc 2 1, 3, []), (80, .goto (-71), 3, [7]), (83, .return_, 1, [])]
def tb_118 : List qq_E := [(0, .iload_n 2, 1, []), (1, .ifCond .lt 21, 3, [15]), (4, .iload_n 2, 1, []), (5, .bipush 20, 2, []), (7, .if_icmp .gt 15, 3, [15]), (10, .aload_n 1, 1, []), (11, .iload_n 2, 1, []), (12, .laload, 1, []), (13, .iload_n 3, 1, []), (14, .lshr, 1, []), (15, .lconst 1, 1, []), (16, .land, 1, []), (17, .lconst 0, 1, []), (18, .lcmp, 1, []), (19, .ifCond .ne 7, 3, [17]), (22, .sipush 1000, 3, []), (25, .ireturn, 1, []), (26, .iload_n 2, 1, []), (27, .ifCond .eq 7, 3, [21]), (30, .iload_n 3, 1, []), (31, .ifCond .ne 16, 3, [27]), (34, .iload 4, 2, []), (36, .ifCond .le 7, 3, [25]), (39, .iconst 0, 1, []), (40, .goto 6, 3, [26]), (43, .sipush 1000, 3, []), (46, .ireturn, 1, []), (47, .iload_n 3, 1, []), (48, .iload_n 2, 1, []), (49, .iadd, 1, []), (50, .iconst 1, 1, []), (51, .isub, 1, []), (52, .iload_n 2, 1, []), (53, .idiv, 1, []), (54, .iload 4, 2, []), (56, .if_icmp .lt 7, 3, [38]), (59, .sipush 1000, 3, []), (62, .ireturn, 1, []), (63, .sipush 1000, 3, []), (66, .istore 5, 2, []), (68, .iload 4, 2, []), (70, .istore 6, 2, []), (72, .aload_n 0, 1, []), (73, .iload_n 2, 1, []), (74, .iaload, 1, []), (75, .iload_n 3, 1, []), (76, .iload_n 2, 1, []), (77, .idiv, 1, []), (78, .invokestatic 24, 3, [23, 480, 481, 59, 482]), (81, .istore 7, 2, []), (83, .iload 7, 2, []), (85, .ifCond .lt 49, 3, [78]), (88, .aload_n 0, 1, []), (89, .aload_n 1, 1, []), (90, .iload_n 2, 1, []), (91, .iconst 1, 1, []), (92, .isub, 1, []), (93, .iload_n 3, 1, []), (94, .iload 7, 2, []), (96, .iload_n 2, 1, []), (97, .imul, 1, []), (98, .isub, 1, []), (99, .iload 6, 2, []), (101, .iload 7, 2, []), (103, .isub, 1, []), (104, .invokestatic 37, 3, [0, 118, 5, 0, 1562, 1563, 43, 1564]), (107, .istore 8, 2, []), (109, .iload 8, 2, []), (111, .sipush 1000, 3, []), (114, .if_icmp .eq 14, 3, [76]), (117, .iload 7, 2, []), (119, .iload 8, 2, []), (121, .iadd, 1, []), (122, .istore 5, 2, []), (124, .iload 5, 2, []), (126, .istore 6, 2, []), (128, .iinc 7 (-1), 3, []), (131, .goto (-48), 3, [50]), (134, .iload 5, 2, []), (136, .ireturn, 1, [])]
def tb_119 : List qq_E := [(0, .aload_n 0, 1, []), (1, .invokespecial 3, 3, [21, 610, 109, 110]), (4, .aload_n 0, 1, []), (5, .iconst 0, 1, []), (6, .putfield 9, 3, [11, 0, 611, 0]), (9, .aload_n 0, 1, []), (10, .iconst 0, 1, []), (11, .putfield 15, 3, [11, 1, 615, 0]), (14, .aload_n 0, 1, []), (15, .bipush 8, 2, []), (17, .newarray .int, 2, [100, 605]), (19, .putfield 18, 3, [11, 2, 616, 0]), (22, .aload_n 0, 1, []), (23, .bipush 8, 2, []), (25, .newarray .int, 2, [100, 605]), (27, .putfield 22, 3, [11, 3, 618, 0]), (30, .aload_n 0, 1, []), (31, .bipush 8, 2, []), (33, .newarray .int, 2, [100, 605]), (35, .putfield 25, 3, [11, 4, 621, 0]), (38, .aload_n 0, 1, []), (39, .bipush 8, 2, []), (41, .newarray .int, 2, [100, 605]), (43, .putfield 28, 3, [11, 5, 625, 0]), (46, .aload_n 0, 1, []), (47, .bipush 8, 2, []), (49, .newarray .int, 2, [100, 605]), (51, .putfield 31, 3, [11, 6, 629, 0]), (54, .aload_n 0, 1, []), (55, .bipush 8, 2, []), (57, .newarray .boolean, 2, [101, 651]), (59, .putfield 34, 3, [11, 7, 631, 0]), (62, .return_, 1, [])]
def tb_120 : List qq_E := [(0, .aload_n 0, 1, []), (1, .aload_n 1, 1, []), (2, .getfield 9, 3, [11, 0, 611, 0]), (5, .putfield 9, 3, [11, 0, 611, 0]), (8, .aload_n 0, 1, []), (9, .aload_n 1, 1, []), (10, .getfield 15, 3, [11, 1, 615, 0]), (13, .putfield 15, 3, [11, 1, 615, 0]), (16, .aload_n 1, 1, []), (17, .getfield 18, 3, [11, 2, 616, 0]), (20, .iconst 0, 1, []), (21, .aload_n 0, 1, []), (22, .getfield 18, 3, [11, 2, 616, 0]), (25, .iconst 0, 1, []), (26, .bipush 8, 2, []), (28, .invokestatic 38, 3, [20, 197, 192, 191, 57]), (31, .aload_n 1, 1, []), (32, .getfield 22, 3, [11, 3, 618, 0]), (35, .iconst 0, 1, []), (36, .aload_n 0, 1, []), (37, .getfield 22, 3, [11, 3, 618, 0]), (40, .iconst 0, 1, []), (41, .bipush 8, 2, []), (43, .invokestatic 38, 3, [20, 197, 192, 191, 57]), (46, .aload_n 1, 1, []), (47, .getfield 25, 3, [11, 4, 621, 0]), (50, .iconst 0, 1, []), (51, .aload_n 0, 1, []), (52, .getfield 25, 3, [11, 4, 621, 0]), (55, .iconst 0, 1, []), (56, .bipush 8, 2, []), (58, .invokestatic 38, 3, [20, 197, 192, 191, 57]), (61, .aload_n 1, 1, []), (62, .getfield 28, 3, [11, 5, 625, 0]), (65, .iconst 0, 1, []), (66, .aload_n 0, 1, []), (67, .getfield 28, 3, [11, 5, 625, 0]), (70, .iconst 0, 1, []), (71, .bipush 8, 2, []), (73, .invokestatic 38, 3, [20, 197, 192, 191, 57]), (76, .aload_n 1, 1, []), (77, .getfield 31, 3, [11, 6, 629, 0]), (80, .iconst 0, 1, []), (81, .aload_n 0, 1, []), (82, .getfield 31, 3, [11, 6, 629, 0]), (85, .iconst 0, 1, []), (86, .bipush 8, 2, []), (88, .invokestatic 38, 3, [20, 197, 192, 191, 57]), (91, .iconst 0, 1, []), (92, .istore_n 2, 1, []), (93, .iload_n 2, 1, []), (94, .aload_n 0, 1, []), (95, .getfield 9, 3, [11, 0, 611, 0]), (98, .if_icmp .ge 21, 3, [64]), (101, .aload_n 0, 1, []), (102, .getfield 34, 3, [11, 7, 631, 0]), (105, .iload_n 2, 1, []), (106, .aload_n 1, 1, []), (107, .getfield 34, 3, [11, 7, 631, 0]), (110, .iload_n 2, 1, []), (111, .baload, 1, []), (112, .bastore, 1, []), (113, .iinc 2 1, 3, []), (116, .goto (-23), 3, [50]), (119, .return_, 1, [])]
def tb_121 : List qq_E := [(0, .aload_n 0, 1, []), (1, .getfield 9, 3, [11, 0, 611, 0]), (4, .bipush 8, 2, []), (6, .if_icmp .lt 7, 3, [6]), (9, .iconst 1, 1, []), (10, .goto 4, 3, [7]), (13, .iconst 0, 1, []), (14, .ireturn, 1, [])]
def tb_122 : List qq_E := [(0, .iconst 0, 1, []), (1, .istore_n 2, 1, []), (2, .iload_n 2, 1, []), (3, .aload_n 0, 1, []), (4, .getfield 9, 3, [11, 0, 611, 0]), (7, .if_icmp .ge 21, 3, [16]), (10, .aload_n 0, 1, []), (11, .getfield 18, 3, [11, 2, 616, 0]), (14, .iload_n 2, 1, []), (15, .iaload, 1, []), (16, .iload_n 1, 1, []), (17, .if_icmp .ne 5, 3, [14]), (20, .iload_n 2, 1, []), (21, .ireturn, 1, []), (22, .iinc 2 1, 3, []), (25, .goto (-23), 3, [2]), (28, .iconst (-1), 1, []), (29, .ireturn, 1, [])]
def tb_123 : List qq_E := [(0, .aload_n 0, 1, []), (1, .getfield 15, 3, [11, 1, 615, 0]), (4, .istore 5, 2, []), (6, .aload_n 0, 1, []), (7, .getfield 18, 3, [11, 2, 616, 0]), (10, .aload_n 0, 1, []), (11, .getfield 9, 3, [11, 0, 611, 0]), (14, .iload 5, 2, []), (16, .iastore, 1, []), (17, .aload_n 0, 1, []), (18, .getfield 22, 3, [11, 3, 618, 0]), (21, .aload_n 0, 1, []), (22, .getfield 9, 3, [11, 0, 611, 0]), (25, .iload_n 1, 1, []), (26, .iastore, 1, []), (27, .aload_n 0, 1, []), (28, .getfield 25, 3, [11, 4, 621, 0]), (31, .aload_n 0, 1, []), (32, .getfield 9, 3, [11, 0, 611, 0]), (35, .iload_n 2, 1, []), (36, .iastore, 1, []), (37, .aload_n 0, 1, []), (38, .getfield 28, 3, [11, 5, 625, 0]), (41, .aload_n 0, 1, []), (42, .getfield 9, 3, [11, 0, 611, 0]), (45, .iload_n 3, 1, []), (46, .iastore, 1, []), (47, .aload_n 0, 1, []), (48, .getfield 31, 3, [11, 6, 629, 0]), (51, .aload_n 0, 1, []), (52, .getfield 9, 3, [11, 0, 611, 0]), (55, .iload 4, 2, []), (57, .iastore, 1, []), (58, .aload_n 0, 1, []), (59, .getfield 34, 3, [11, 7, 631, 0]), (62, .aload_n 0, 1, []), (63, .getfield 9, 3, [11, 0, 611, 0]), (66, .iconst 0, 1, []), (67, .bastore, 1, []), (68, .aload_n 0, 1, []), (69, .dup, 1, []), (70, .getfield 9, 3, [11, 0, 611, 0]), (73, .iconst 1, 1, []), (74, .iadd, 1, []), (75, .putfield 9, 3, [11, 0, 611, 0]), (78, .aload_n 0, 1, []), (79, .dup, 1, []), (80, .getfield 15, 3, [11, 1, 615, 0]), (83, .iconst 1, 1, []), (84, .iadd, 1, []), (85, .putfield 15, 3, [11, 1, 615, 0]), (88, .iload 5, 2, []), (90, .ireturn, 1, [])]
def tb_124 : List qq_E := [(0, .aload_n 0, 1, []), (1, .getfield 18, 3, [11, 2, 616, 0]), (4, .iload_n 1, 1, []), (5, .iaload, 1, []), (6, .istore_n 2, 1, []), (7, .iload_n 1, 1, []), (8, .istore_n 3, 1, []), (9, .iload_n 3, 1, []), (10, .iconst 1, 1, []), (11, .iadd, 1, []), (12, .aload_n 0, 1, []), (13, .getfield 9, 3, [11, 0, 611, 0]), (16, .if_icmp .ge 93, 3, [75]), (19, .aload_n 0, 1, []), (20, .getfield 18, 3, [11, 2, 616, 0]), (23, .iload_n 3, 1, []), (24, .aload_n 0, 1, []), (25, .getfield 18, 3, [11, 2, 616, 0]), (28, .iload_n 3, 1, []), (29, .iconst 1, 1, []), (30, .iadd, 1, []), (31, .iaload, 1, []), (32, .iastore, 1, []), (33, .aload_n 0, 1, []), (34, .getfield 22, 3, [11, 3, 618, 0]), (37, .iload_n 3, 1, []), (38, .aload_n 0, 1, []), (39, .getfield 22, 3, [11, 3, 618, 0]), (42, .iload_n 3, 1, []), (43, .iconst 1, 1, []), (44, .iadd, 1, []), (45, .iaload, 1, []), (46, .iastore, 1, []), (47, .aload_n 0, 1, []), (48, .getfield 25, 3, [11, 4, 621, 0]), (51, .iload_n 3, 1, []), (52, .aload_n 0, 1, []), (53, .getfield 25, 3, [11, 4, 621, 0]), (56, .iload_n 3, 1, []), (57, .iconst 1, 1, []), (58, .iadd, 1, []), (59, .iaload, 1, []), (60, .iastore, 1, []), (61, .aload_n 0, 1, []), (62, .getfield 28, 3, [11, 5, 625, 0]), (65, .iload_n 3, 1, []), (66, .aload_n 0, 1, []), (67, .getfield 28, 3, [11, 5, 625, 0]), (70, .iload_n 3, 1, []), (71, .iconst 1, 1, []), (72, .iadd, 1, []), (73, .iaload, 1, []), (74, .iastore, 1, []), (75, .aload_n 0, 1, []), (76, .getfield 31, 3, [11, 6, 629, 0]), (79, .iload_n 3, 1, []), (80, .aload_n 0, 1, []), (81, .getfield 31, 3, [11, 6, 629, 0]), (84, .iload_n 3, 1, []), (85, .iconst 1, 1, []), (86, .iadd, 1, []), (87, .iaload, 1, []), (88, .iastore, 1, []), (89, .aload_n 0, 1, []), (90, .getfield 34, 3, [11, 7, 631, 0]), (93, .iload_n 3, 1, []), (94, .aload_n 0, 1, []), (95, .getfield 34, 3, [11, 7, 631, 0]), (98, .iload_n 3, 1, []), (99, .iconst 1, 1, []), (100, .iadd, 1, []), (101, .baload, 1, []), (102, .bastore, 1, []), (103, .iinc 3 1, 3, []), (106, .goto (-97), 3, [7]), (109, .aload_n 0, 1, []), (110, .dup, 1, []), (111, .getfield 9, 3, [11, 0, 611, 0]), (114, .iconst 1, 1, []), (115, .isub, 1, []), (116, .putfield 9, 3, [11, 0, 611, 0]), (119, .aload_n 0, 1, []), (120, .iload_n 2, 1, []), (121, .invokevirtual 44, 3, [1, 125, 2, 11, 389, 391, 9, 38, 393]), (124, .return_, 1, [])]
def tb_125 : List qq_E := [(0, .iconst 0, 1, []), (1, .istore_n 2, 1, []), (2, .iload_n 2, 1, []), (3, .aload_n 0, 1, []), (4, .getfield 9, 3, [11, 0, 611, 0]), (7, .if_icmp .ge 26, 3, [19]), (10, .aload_n 0, 1, []), (11, .getfield 31, 3, [11, 6, 629, 0]), (14, .iload_n 2, 1, []), (15, .iaload, 1, []), (16, .iload_n 1, 1, []), (17, .if_icmp .ne 10, 3, [17]), (20, .aload_n 0, 1, []), (21, .getfield 31, 3, [11, 6, 629, 0]), (24, .iload_n 2, 1, []), (25, .iconst (-1), 1, []), (26, .iastore, 1, []), (27, .iinc 2 1, 3, []), (30, .goto (-28), 3, [2]), (33, .return_, 1, [])]
def tb_126 : List qq_E := [(0, .iconst 0, 1, []), (1, .istore_n 2, 1, []), (2, .iload_n 2, 1, []), (3, .aload_n 0, 1, []), (4, .getfield 9, 3, [11, 0, 611, 0]), (7, .if_icmp .ge 30, 3, [21]), (10, .aload_n 0, 1, []), (11, .getfield 22, 3, [11, 3, 618, 0]), (14, .iload_n 2, 1, []), (15, .iaload, 1, []), (16, .iload_n 1, 1, []), (17, .if_icmp .ne 14, 3, [19]), (20, .aload_n 0, 1, []), (21, .getfield 34, 3, [11, 7, 631, 0]), (24, .iload_n 2, 1, []), (25, .baload, 1, []), (26, .ifCond .ne 5, 3, [19]), (29, .iconst 1, 1, []), (30, .ireturn, 1, []), (31, .iinc 2 1, 3, []), (34, .goto (-32), 3, [2]), (37, .iconst 0, 1, []), (38, .ireturn, 1, [])]
def tb_127 : List qq_E := [(0, .iconst 0, 1, []), (1, .istore_n 2, 1, []), (2, .aload_n 0, 1, []), (3, .aload_n 0, 1, []), (4, .getfield 31, 3, [11, 6, 629, 0]), (7, .iload_n 1, 1, []), (8, .iaload, 1, []), (9, .invokevirtual 48, 3, [1, 122, 2, 11, 535, 524, 525, 38, 526]), (12, .istore_n 3, 1, []), (13, .iload_n 3, 1, []), (14, .iconst (-1), 1, []), (15, .if_icmp .eq 28, 3, [25]), (18, .iload_n 2, 1, []), (19, .aload_n 0, 1, []), (20, .getfield 9, 3, [11, 0, 611, 0]), (23, .if_icmp .ge 20, 3, [25]), (26, .iinc 2 1, 3, []), (29, .aload_n 0, 1, []), (30, .aload_n 0, 1, []), (31, .getfield 31, 3, [11, 6, 629, 0]), (34, .iload_n 3, 1, []), (35, .iaload, 1, []), (36, .invokevirtual 48, 3, [1, 122, 2, 11, 535, 524, 525, 38, 526]), (39, .istore_n 3, 1, []), (40, .goto (-27), 3, [9]), (43, .iload_n 2, 1, []), (44, .ireturn, 1, [])]
def tb_128 : List qq_E := [(0, .iconst 1, 1, []), (1, .iload_n 1, 1, []), (2, .ishl, 1, []), (3, .istore_n 2, 1, []), (4, .iload_n 1, 1, []), (5, .iconst 1, 1, []), (6, .iadd, 1, []), (7, .istore_n 3, 1, []), (8, .iload_n 3, 1, []), (9, .aload_n 0, 1, []), (10, .getfield 9, 3, [11, 0, 611, 0]), (13, .if_icmp .ge 43, 3, [37]), (16, .aload_n 0, 1, []), (17, .aload_n 0, 1, []), (18, .getfield 31, 3, [11, 6, 629, 0]), (21, .iload_n 3, 1, []), (22, .iaload, 1, []), (23, .invokevirtual 48, 3, [1, 122, 2, 11, 535, 524, 525, 38, 526]), (26, .istore 4, 2, []), (28, .iload 4, 2, []), (30, .iconst (-1), 1, []), (31, .if_icmp .eq 19, 3, [35]), (34, .iload_n 2, 1, []), (35, .iload 4, 2, []), (37, .ishr, 1, []), (38, .iconst 1, 1, []), (39, .iand, 1, []), (40, .iconst 1, 1, []), (41, .if_icmp .ne 9, 3, [35]), (44, .iload_n 2, 1, []), (45, .iconst 1, 1, []), (46, .iload_n 3, 1, []), (47, .ishl, 1, []), (48, .ior, 1, []), (49, .istore_n 2, 1, []), (50, .iinc 3 1, 3, []), (53, .goto (-45), 3, [8]), (56, .iload_n 2, 1, []), (57, .ireturn, 1, [])]
def tb_129 : List qq_E := [(0, .aload_n 0, 1, []), (1, .invokespecial 1, 3, [21, 556, 109, 110]), (4, .aload_n 0, 1, []), (5, .new 7, 3, [0, 8, 557, 322, 36]), (8, .dup, 1, []), (9, .invokespecial 9, 3, [5, 74, 1, 0, 558, 559, 36, 560]), (12, .putfield 10, 3, [12, 0, 830, 0]), (15, .aload_n 0, 1, []), (16, .new 7, 3, [0, 8, 557, 322, 36]), (19, .dup, 1, []), (20, .invokespecial 9, 3, [5, 74, 1, 0, 558, 559, 36, 560]), (23, .putfield 16, 3, [12, 1, 831, 0]), (26, .aload_n 0, 1, []), (27, .new 7, 3, [0, 8, 557, 322, 36]), (30, .dup, 1, []), (31, .invokespecial 9, 3, [5, 74, 1, 0, 558, 559, 36, 560]), (34, .putfield 19, 3, [12, 2, 832, 0]), (37, .aload_n 0, 1, []), (38, .iconst 0, 1, []), (39, .putfield 22, 3, [12, 3, 833, 0]), (42, .aload_n 0, 1, []), (43, .new 26, 3, [0, 4, 704, 705, 40]), (46, .dup, 1, []), (47, .invokespecial 28, 3, [2, 44, 1, 0, 706, 707, 40, 708]), (50, .putfield 29, 3, [12, 4, 834, 0]), (53, .aload_n 0, 1, []), (54, .new 33, 3, [0, 5, 724, 725, 41]), (57, .dup, 1, []), (58, .invokespecial 35, 3, [5, 48, 1, 0, 726, 727, 41, 728]), (61, .putfield 36, 3, [12, 5, 835, 0]), (64, .aload_n 0, 1, []), (65, .new 40, 3, [0, 3, 737, 458, 42]), (68, .dup, 1, []), (69, .invokespecial 42, 3, [5, 36, 1, 0, 738, 739, 42, 740]), (72, .putfield 43, 3, [12, 6, 836, 0]), (75, .aload_n 0, 1, []), (76, .new 47, 3, [0, 10, 749, 478, 43]), (79, .dup, 1, []), (80, .invokespecial 49, 3, [5, 110, 1, 0, 750, 751, 43, 752]), (83, .putfield 50, 3, [12, 7, 837, 0]), (86, .aload_n 0, 1, []), (87, .new 54, 3, [0, 9, 764, 765, 44]), (90, .dup, 1, []), (91, .invokespecial 56, 3, [5, 97, 1, 0, 766, 767, 44, 768]), (94, .putfield 57, 3, [12, 8, 838, 0]), (97, .aload_n 0, 1, []), (98, .new 61, 3, [0, 2, 828, 771, 46]), (101, .dup, 1, []), (102, .invokespecial 63, 3, [2, 0, 1, 0, 829, 773, 46, 774]), (105, .putfield 64, 3, [12, 9, 839, 0]), (108, .aload_n 0, 1, []), (109, .iconst (-1), 1, []), (110, .putfield 68, 3, [12, 10, 840, 0]), (113, .aload_n 0, 1, []), (114, .iconst (-1), 1, []), (115, .putfield 72, 3, [12, 11, 841, 0]), (118, .aload_n 0, 1, []), (119, .bipush 45, 2, []), (121, .putfield 75, 3, [12, 12, 842, 0]), (124, .return_, 1, [])]
def tb_130 : List qq_E := [(0, .aload_n 0, 1, []), (1, .getfield 10, 3, [12, 0, 830, 0]), (4, .invokevirtual 79, 3, [1, 76, 1, 8, 877, 878, 879, 36, 880]), (7, .invokestatic 83, 3, [0, 191, 1, 0, 248, 249, 35, 250]), (10, .aload_n 0, 1, []), (11, .getfield 29, 3, [12, 4, 834, 0]), (14, .aload_n 0, 1, []), (15, .getfield 10, 3, [12, 0, 830, 0]), (18, .invokevirtual 87, 3, [1, 45, 2, 4, 296, 297, 298, 40, 299]), (21, .aload_n 0, 1, []), (22, .getfield 10, 3, [12, 0, 830, 0]), (25, .getfield 91, 3, [8, 0, 673, 1]), (28, .invokevirtual 95, 3, [1, 62, 1, 7, 881, 882, 883, 37, 884]), (31, .ireturn, 1, [])]
def tb_131 : List qq_E := [(0, .aload_n 0, 1, []), (1, .getfield 10, 3, [12, 0, 830, 0]), (4, .iload_n 1, 1, []), (5, .iload_n 2, 1, []), (6, .invokevirtual 101, 3, [1, 77, 3, 8, 243, 244, 245, 36, 246]), (9, .invokestatic 83, 3, [0, 191, 1, 0, 248, 249, 35, 250]), (12, .aload_n 0, 1, []), (13, .getfield 29, 3, [12, 4, 834, 0]), (16, .aload_n 0, 1, []), (17, .getfield 10, 3, [12, 0, 830, 0]), (20, .invokevirtual 87, 3, [1, 45, 2, 4, 296, 297, 298, 40, 299]), (23, .aload_n 0, 1, []), (24, .getfield 10, 3, [12, 0, 830, 0]), (27, .getfield 91, 3, [8, 0, 673, 1]), (30, .iload_n 1, 1, []), (31, .iload_n 2, 1, []), (32, .invokevirtual 105, 3, [1, 63, 3, 7, 301, 302, 303, 37, 304]), (35, .ireturn, 1, [])]
def tb_132 : List qq_E := [(0, .aload_n 0, 1, []), (1, .getfield 10, 3, [12, 0, 830, 0]), (4, .iload_n 1, 1, []), (5, .iload_n 2, 1, []), (6, .invokevirtual 109, 3, [1, 78, 3, 8, 892, 893, 894, 36, 895]), (9, .invokestatic 83, 3, [0, 191, 1, 0, 248, 249, 35, 250]), (12, .aload_n 0, 1, []), (13, .getfield 29, 3, [12, 4, 834, 0]), (16, .aload_n 0, 1, []), (17, .getfield 10, 3, [12, 0, 830, 0]), (20, .invokevirtual 87, 3, [1, 45, 2, 4, 296, 297, 298, 40, 299]), (23, .aload_n 0, 1, []), (24, .getfield 10, 3, [12, 0, 830, 0]), (27, .getfield 91, 3, [8, 0, 673, 1]), (30, .iload_n 1, 1, []), (31, .iload_n 2, 1, []), (32, .invokevirtual 112, 3, [1, 64, 3, 7, 897, 898, 899, 37, 900]), (35, .ireturn, 1, [])]
def tb_133 : List qq_E := [(0, .aload_n 0, 1, []), (1, .getfield 10, 3, [12, 0, 830, 0]), (4, .iload_n 1, 1, []), (5, .iload_n 2, 1, []), (6, .invokevirtual 115, 3, [1, 79, 3, 8, 963, 964, 965, 36, 966]), (9, .invokestatic 83, 3, [0, 191, 1, 0, 248, 249, 35, 250]), (12, .aload_n 0, 1, []), (13, .getfield 29, 3, [12, 4, 834, 0]), (16, .aload_n 0, 1, []), (17, .getfield 10, 3, [12, 0, 830, 0]), (20, .invokevirtual 87, 3, [1, 45, 2, 4, 296, 297, 298, 40, 299]), (23, .aload_n 0, 1, []), (24, .getfield 10, 3, [12, 0, 830, 0]), (27, .getfield 91, 3, [8, 0, 673, 1]), (30, .iload_n 1, 1, []), (31, .iload_n 2, 1, []), (32, .invokevirtual 118, 3, [1, 65, 3, 7, 967, 968, 969, 37, 970]), (35, .ireturn, 1, [])]
def tb_134 : List qq_E := [(0, .aload_n 0, 1, []), (1, .getfield 10, 3, [12, 0, 830, 0]), (4, .iload_n 1, 1, []), (5, .iload_n 2, 1, []), (6, .iload_n 3, 1, []), (7, .invokevirtual 121, 3, [1, 80, 4, 8, 315, 316, 317, 36, 318]), (10, .invokestatic 83, 3, [0, 191, 1, 0, 248, 249, 35, 250]), (13, .aload_n 0, 1, []), (14, .getfield 29, 3, [12, 4, 834, 0]), (17, .aload_n 0, 1, []), (18, .getfield 10, 3, [12, 0, 830, 0]), (21, .invokevirtual 87, 3, [1, 45, 2, 4, 296, 297, 298, 40, 299]), (24, .aload_n 0, 1, []), (25, .getfield 10, 3, [12, 0, 830, 0]), (28, .iload_n 1, 1, []), (29, .iload_n 2, 1, []), (30, .iload_n 3, 1, []), (31, .iconst (-1), 1, []), (32, .invokevirtual 125, 3, [1, 83, 5, 8, 333, 334, 335, 36, 336]), (35, .ireturn, 1, [])]
def tb_135 : List qq_E := [(0, .aload_n 0, 1, []), (1, .getfield 10, 3, [12, 0, 830, 0]), (4, .iload_n 1, 1, []), (5, .iload_n 2, 1, []), (6, .iload_n 3, 1, []), (7, .iload 4, 2, []), (9, .invokevirtual 129, 3, [1, 81, 5, 8, 908, 909, 910, 36, 911]), (12, .invokestatic 83, 3, [0, 191, 1, 0, 248, 249, 35, 250]), (15, .aload_n 0, 1, []), (16, .getfield 29, 3, [12, 4, 834, 0]), (19, .aload_n 0, 1, []), (20, .getfield 10, 3, [12, 0, 830, 0]), (23, .invokevirtual 87, 3, [1, 45, 2, 4, 296, 297, 298, 40, 299]), (26, .aload_n 0, 1, []), (27, .getfield 10, 3, [12, 0, 830, 0]), (30, .iload_n 1, 1, []), (31, .iload_n 2, 1, []), (32, .iload_n 3, 1, []), (33, .iload 4, 2, []), (35, .invokevirtual 125, 3, [1, 83, 5, 8, 333, 334, 335, 36, 336]), (38, .ireturn, 1, [])]
def tb_136 : List qq_E := [(0, .aload_n 0, 1, []), (1, .getfield 10, 3, [12, 0, 830, 0]), (4, .iload_n 1, 1, []), (5, .iload_n 2, 1, []), (6, .invokevirtual 133, 3, [1, 84, 3, 8, 350, 351, 352, 36, 353]), (9, .invokestatic 83, 3, [0, 191, 1, 0, 248, 249, 35, 250]), (12, .aload_n 0, 1, []), (13, .getfield 29, 3, [12, 4, 834, 0]), (16, .aload_n 0, 1, []), (17, .getfield 10, 3, [12, 0, 830, 0]), (20, .invokevirtual 87, 3, [1, 45, 2, 4, 296, 297, 298, 40, 299]), (23, .aload_n 0, 1, []), (24, .getfield 10, 3, [12, 0, 830, 0]), (27, .getfield 136, 3, [8, 2, 677, 1]), (30, .iload_n 1, 1, []), (31, .iload_n 2, 1, []), (32, .invokevirtual 140, 3, [1, 53, 3, 6, 354, 355, 356, 39, 357]), (35, .ireturn, 1, [])]
def tb_137 : List qq_E := [(0, .aload_n 0, 1, []), (1, .getfield 10, 3, [12, 0, 830, 0]), (4, .iload_n 1, 1, []), (5, .aload_n 0, 1, []), (6, .getfield 50, 3, [12, 7, 837, 0]), (9, .invokevirtual 145, 3, [1, 85, 3, 8, 920, 921, 922, 36, 923]), (12, .invokestatic 83, 3, [0, 191, 1, 0, 248, 249, 35, 250]), (15, .aload_n 0, 1, []), (16, .getfield 29, 3, [12, 4, 834, 0]), (19, .aload_n 0, 1, []), (20, .getfield 10, 3, [12, 0, 830, 0]), (23, .invokevirtual 87, 3, [1, 45, 2, 4, 296, 297, 298, 40, 299]), (26, .aload_n 0, 1, []), (27, .getfield 10, 3, [12, 0, 830, 0]), (30, .iload_n 1, 1, []), (31, .aload_n 0, 1, []), (32, .getfield 50, 3, [12, 7, 837, 0]), (35, .invokevirtual 149, 3, [1, 86, 3, 8, 926, 927, 928, 36, 929]), (38, .ireturn, 1, [])]
def tb_138 : List qq_E := [(0, .aload_n 0, 1, []), (1, .getfield 10, 3, [12, 0, 830, 0]), (4, .iload_n 1, 1, []), (5, .invokevirtual 153, 3, [1, 87, 2, 8, 519, 520, 521, 36, 522]), (8, .invokestatic 83, 3, [0, 191, 1, 0, 248, 249, 35, 250]), (11, .aload_n 0, 1, []), (12, .getfield 29, 3, [12, 4, 834, 0]), (15, .aload_n 0, 1, []), (16, .getfield 10, 3, [12, 0, 830, 0]), (19, .invokevirtual 87, 3, [1, 45, 2, 4, 296, 297, 298, 40, 299]), (22, .aload_n 0, 1, []), (23, .getfield 10, 3, [12, 0, 830, 0]), (26, .iload_n 1, 1, []), (27, .invokevirtual 157, 3, [1, 88, 2, 8, 527, 528, 529, 36, 530]), (30, .ireturn, 1, [])]
def tb_139 : List qq_E := [(0, .aload_n 0, 1, []), (1, .getfield 10, 3, [12, 0, 830, 0]), (4, .iload_n 1, 1, []), (5, .invokevirtual 160, 3, [1, 92, 2, 8, 365, 366, 367, 36, 368]), (8, .invokestatic 83, 3, [0, 191, 1, 0, 248, 249, 35, 250]), (11, .aload_n 0, 1, []), (12, .getfield 29, 3, [12, 4, 834, 0]), (15, .aload_n 0, 1, []), (16, .getfield 10, 3, [12, 0, 830, 0]), (19, .invokevirtual 87, 3, [1, 45, 2, 4, 296, 297, 298, 40, 299]), (22, .aload_n 0, 1, []), (23, .getfield 10, 3, [12, 0, 830, 0]), (26, .iload_n 1, 1, []), (27, .invokevirtual 163, 3, [1, 93, 2, 8, 369, 370, 371, 36, 372]), (30, .ireturn, 1, [])]
def tb_140 : List qq_E := [(0, .aload_n 0, 1, []), (1, .getfield 10, 3, [12, 0, 830, 0]), (4, .getfield 91, 3, [8, 0, 673, 1]), (7, .getfield 167, 3, [7, 0, 571, 1]), (10, .ireturn, 1, [])]
def tb_141 : List qq_E := [(0, .aload_n 0, 1, []), (1, .iload_n 1, 1, []), (2, .invokevirtual 170, 3, [1, 192, 2, 12, 74, 76, 4, 35, 78]), (5, .aload_n 0, 1, []), (6, .getfield 10, 3, [12, 0, 830, 0]), (9, .getfield 91, 3, [8, 0, 673, 1]), (12, .getfield 174, 3, [7, 1, 574, 1]), (15, .iload_n 1, 1, []), (16, .iaload, 1, []), (17, .ireturn, 1, [])]
def tb_142 : List qq_E := [(0, .aload_n 0, 1, []), (1, .iload_n 1, 1, []), (2, .invokevirtual 170, 3, [1, 192, 2, 12, 74, 76, 4, 35, 78]), (5, .aload_n 0, 1, []), (6, .getfield 10, 3, [12, 0, 830, 0]), (9, .getfield 91, 3, [8, 0, 673, 1]), (12, .iload_n 1, 1, []), (13, .invokevirtual 178, 3, [1, 66, 2, 7, 1502, 407, 408, 37, 409]), (16, .iconst (-1), 1, []), (17, .if_icmp .ne 7, 3, [12]), (20, .iconst 1, 1, []), (21, .goto 4, 3, [13]), (24, .iconst 0, 1, []), (25, .ireturn, 1, [])]
def tb_143 : List qq_E := [(0, .aload_n 0, 1, []), (1, .iload_n 1, 1, []), (2, .invokevirtual 170, 3, [1, 192, 2, 12, 74, 76, 4, 35, 78]), (5, .aload_n 0, 1, []), (6, .getfield 10, 3, [12, 0, 830, 0]), (9, .getfield 91, 3, [8, 0, 673, 1]), (12, .iload_n 1, 1, []), (13, .invokevirtual 178, 3, [1, 66, 2, 7, 1502, 407, 408, 37, 409]), (16, .invokestatic 181, 3, [0, 197, 1, 0, 441, 442, 35, 443]), (19, .ireturn, 1, [])]
def tb_144 : List qq_E := [(0, .aload_n 0, 1, []), (1, .iload_n 1, 1, []), (2, .invokevirtual 170, 3, [1, 192, 2, 12, 74, 76, 4, 35, 78]), (5, .iload_n 2, 1, []), (6, .iconst 0, 1, []), (7, .sipush 9999, 3, []), (10, .invokestatic 184, 3, [0, 195, 3, 0, 153, 154, 35, 155]), (13, .aload_n 0, 1, []), (14, .getfield 10, 3, [12, 0, 830, 0]), (17, .getfield 91, 3, [8, 0, 673, 1]), (20, .iload_n 1, 1, []), (21, .iload_n 2, 1, []), (22, .invokevirtual 188, 3, [1, 69, 3, 7, 174, 175, 176, 37, 177]), (25, .ireturn, 1, [])]
def tb_145 : List qq_E := [(0, .aload_n 0, 1, []), (1, .iload_n 1, 1, []), (2, .invokevirtual 170, 3, [1, 192, 2, 12, 74, 76, 4, 35, 78]), (5, .iload_n 2, 1, []), (6, .iconst 0, 1, []), (7, .sipush 9999, 3, []), (10, .invokestatic 184, 3, [0, 195, 3, 0, 153, 154, 35, 155]), (13, .aload_n 0, 1, []), (14, .getfield 36, 3, [12, 5, 835, 0]), (17, .aload_n 0, 1, []), (18, .getfield 10, 3, [12, 0, 830, 0]), (21, .getfield 91, 3, [8, 0, 673, 1]), (24, .iload_n 1, 1, []), (25, .iload_n 2, 1, []), (26, .invokevirtual 191, 3, [1, 49, 4, 5, 1507, 1508, 1509, 41, 1510]), (29, .ireturn, 1, [])]
def tb_146 : List qq_E := [(0, .aload_n 0, 1, []), (1, .iload_n 1, 1, []), (2, .invokevirtual 170, 3, [1, 192, 2, 12, 74, 76, 4, 35, 78]), (5, .aload_n 0, 1, []), (6, .getfield 10, 3, [12, 0, 830, 0]), (9, .getfield 91, 3, [8, 0, 673, 1]), (12, .iload_n 1, 1, []), (13, .invokevirtual 194, 3, [1, 70, 2, 7, 1490, 1491, 1492, 37, 1493]), (16, .ireturn, 1, [])]
def tb_147 : List qq_E := [(0, .aload_n 0, 1, []), (1, .getfield 10, 3, [12, 0, 830, 0]), (4, .getfield 91, 3, [8, 0, 673, 1]), (7, .getfield 197, 3, [7, 2, 578, 1]), (10, .ireturn, 1, [])]
def tb_148 : List qq_E := [(0, .aload_n 0, 1, []), (1, .iload_n 1, 1, []), (2, .invokevirtual 200, 3, [1, 193, 2, 12, 428, 430, 11, 35, 431]), (5, .aload_n 0, 1, []), (6, .getfield 10, 3, [12, 0, 830, 0]), (9, .getfield 91, 3, [8, 0, 673, 1]), (12, .getfield 203, 3, [7, 4, 582, 1]), (15, .iload_n 1, 1, []), (16, .iaload, 1, []), (17, .ireturn, 1, [])]
def tb_149 : List qq_E := [(0, .aload_n 0, 1, []), (1, .iload_n 1, 1, []), (2, .invokevirtual 200, 3, [1, 193, 2, 12, 428, 430, 11, 35, 431]), (5, .aload_n 0, 1, []), (6, .getfield 10, 3, [12, 0, 830, 0]), (9, .getfield 91, 3, [8, 0, 673, 1]), (12, .getfield 206, 3, [7, 5, 586, 1]), (15, .iload_n 1, 1, []), (16, .iaload, 1, []), (17, .ireturn, 1, [])]
def tb_150 : List qq_E := [(0, .aload_n 0, 1, []), (1, .iload_n 1, 1, []), (2, .invokevirtual 200, 3, [1, 193, 2, 12, 428, 430, 11, 35, 431]), (5, .aload_n 0, 1, []), (6, .getfield 10, 3, [12, 0, 830, 0]), (9, .getfield 91, 3, [8, 0, 673, 1]), (12, .getfield 209, 3, [7, 3, 580, 1]), (15, .iload_n 1, 1, []), (16, .iaload, 1, []), (17, .ireturn, 1, [])]
def tb_151 : List qq_E := [(0, .aload_n 0, 1, []), (1, .iload_n 1, 1, []), (2, .invokevirtual 200, 3, [1, 193, 2, 12, 428, 430, 11, 35, 431]), (5, .aload_n 0, 1, []), (6, .getfield 10, 3, [12, 0, 830, 0]), (9, .getfield 212, 3, [8, 1, 675, 1]), (12, .iload_n 1, 1, []), (13, .invokevirtual 216, 3, [1, 126, 2, 11, 1447, 399, 400, 38, 401]), (16, .ireturn, 1, [])]
def tb_152 : List qq_E := [(0, .aload_n 0, 1, []), (1, .iload_n 1, 1, []), (2, .invokevirtual 200, 3, [1, 193, 2, 12, 428, 430, 11, 35, 431]), (5, .aload_n 0, 1, []), (6, .getfield 10, 3, [12, 0, 830, 0]), (9, .getfield 91, 3, [8, 0, 673, 1]), (12, .iload_n 1, 1, []), (13, .invokevirtual 222, 3, [1, 67, 2, 7, 1524, 438, 439, 37, 440]), (16, .ireturn, 1, [])]
def tb_153 : List qq_E := [(0, .iload_n 1, 1, []), (1, .aload_n 0, 1, []), (2, .getfield 10, 3, [12, 0, 830, 0]), (5, .getfield 91, 3, [8, 0, 673, 1]), (8, .getfield 197, 3, [7, 2, 578, 1]), (11, .invokestatic 225, 3, [0, 196, 2, 0, 418, 419, 35, 420]), (14, .aload_n 0, 1, []), (15, .getfield 10, 3, [12, 0, 830, 0]), (18, .getfield 91, 3, [8, 0, 673, 1]), (21, .getfield 229, 3, [7, 6, 589, 1]), (24, .iload_n 1, 1, []), (25, .iaload, 1, []), (26, .ireturn, 1, [])]
def tb_154 : List qq_E := [(0, .aload_n 0, 1, []), (1, .iload_n 1, 1, []), (2, .invokevirtual 200, 3, [1, 193, 2, 12, 428, 430, 11, 35, 431]), (5, .aload_n 0, 1, []), (6, .getfield 16, 3, [12, 1, 831, 0]), (9, .aload_n 0, 1, []), (10, .getfield 10, 3, [12, 0, 830, 0]), (13, .invokevirtual 232, 3, [1, 75, 2, 8, 182, 183, 184, 36, 185]), (16, .aload_n 0, 1, []), (17, .getfield 16, 3, [12, 1, 831, 0]), (20, .iload_n 1, 1, []), (21, .invokevirtual 235, 3, [1, 96, 2, 8, 433, 434, 435, 36, 436]), (24, .invokestatic 181, 3, [0, 197, 1, 0, 441, 442, 35, 443]), (27, .ireturn, 1, [])]
def tb_155 : List qq_E := [(0, .aload_n 0, 1, []), (1, .getfield 10, 3, [12, 0, 830, 0]), (4, .getfield 212, 3, [8, 1, 675, 1]), (7, .getfield 238, 3, [11, 0, 614, 1]), (10, .ireturn, 1, [])]
def tb_156 : List qq_E := [(0, .iload_n 1, 1, []), (1, .aload_n 0, 1, []), (2, .getfield 10, 3, [12, 0, 830, 0]), (5, .getfield 212, 3, [8, 1, 675, 1]), (8, .getfield 238, 3, [11, 0, 614, 1]), (11, .invokestatic 225, 3, [0, 196, 2, 0, 418, 419, 35, 420]), (14, .aload_n 0, 1, []), (15, .getfield 10, 3, [12, 0, 830, 0]), (18, .getfield 212, 3, [8, 1, 675, 1]), (21, .getfield 241, 3, [11, 2, 617, 1]), (24, .iload_n 1, 1, []), (25, .iaload, 1, []), (26, .ireturn, 1, [])]
def tb_157 : List qq_E := [(0, .aload_n 0, 1, []), (1, .getfield 10, 3, [12, 0, 830, 0]), (4, .getfield 212, 3, [8, 1, 675, 1]), (7, .getfield 244, 3, [11, 3, 620, 1]), (10, .aload_n 0, 1, []), (11, .iload_n 1, 1, []), (12, .invokevirtual 246, 3, [1, 199, 2, 12, 1452, 1454, 27, 35, 1455]), (15, .iaload, 1, []), (16, .ireturn, 1, [])]
def tb_158 : List qq_E := [(0, .aload_n 0, 1, []), (1, .getfield 10, 3, [12, 0, 830, 0]), (4, .getfield 212, 3, [8, 1, 675, 1]), (7, .getfield 249, 3, [11, 4, 624, 1]), (10, .aload_n 0, 1, []), (11, .iload_n 1, 1, []), (12, .invokevirtual 246, 3, [1, 199, 2, 12, 1452, 1454, 27, 35, 1455]), (15, .iaload, 1, []), (16, .ireturn, 1, [])]
def tb_159 : List qq_E := [(0, .aload_n 0, 1, []), (1, .getfield 10, 3, [12, 0, 830, 0]), (4, .getfield 212, 3, [8, 1, 675, 1]), (7, .getfield 252, 3, [11, 5, 628, 1]), (10, .aload_n 0, 1, []), (11, .iload_n 1, 1, []), (12, .invokevirtual 246, 3, [1, 199, 2, 12, 1452, 1454, 27, 35, 1455]), (15, .iaload, 1, []), (16, .ireturn, 1, [])]
def tb_160 : List qq_E := [(0, .aload_n 0, 1, []), (1, .getfield 10, 3, [12, 0, 830, 0]), (4, .getfield 212, 3, [8, 1, 675, 1]), (7, .getfield 255, 3, [11, 7, 633, 1]), (10, .aload_n 0, 1, []), (11, .iload_n 1, 1, []), (12, .invokevirtual 246, 3, [1, 199, 2, 12, 1452, 1454, 27, 35, 1455]), (15, .baload, 1, []), (16, .ireturn, 1, [])]
def tb_161 : List qq_E := [(0, .aload_n 0, 1, []), (1, .getfield 10, 3, [12, 0, 830, 0]), (4, .getfield 212, 3, [8, 1, 675, 1]), (7, .getfield 259, 3, [11, 6, 630, 1]), (10, .aload_n 0, 1, []), (11, .iload_n 1, 1, []), (12, .invokevirtual 246, 3, [1, 199, 2, 12, 1452, 1454, 27, 35, 1455]), (15, .iaload, 1, []), (16, .invokestatic 181, 3, [0, 197, 1, 0, 441, 442, 35, 443]), (19, .ireturn, 1, [])]
def tb_162 : List qq_E := [(0, .aload_n 0, 1, []), (1, .getfield 10, 3, [12, 0, 830, 0]), (4, .getfield 212, 3, [8, 1, 675, 1]), (7, .aload_n 0, 1, []), (8, .iload_n 1, 1, []), (9, .invokevirtual 246, 3, [1, 199, 2, 12, 1452, 1454, 27, 35, 1455]), (12, .invokevirtual 262, 3, [1, 127, 2, 11, 1540, 1541, 1542, 38, 1543]), (15, .ireturn, 1, [])]
def tb_163 : List qq_E := [(0, .aload_n 0, 1, []), (1, .getfield 10, 3, [12, 0, 830, 0]), (4, .getfield 212, 3, [8, 1, 675, 1]), (7, .aload_n 0, 1, []), (8, .iload_n 1, 1, []), (9, .invokevirtual 246, 3, [1, 199, 2, 12, 1452, 1454, 27, 35, 1455]), (12, .invokevirtual 265, 3, [1, 128, 2, 11, 1529, 532, 533, 38, 534]), (15, .invokestatic 268, 3, [0, 34, 1, 0, 1530, 1531, 61, 1532]), (18, .iconst 1, 1, []), (19, .isub, 1, []), (20, .ireturn, 1, [])]
def tb_164 : List qq_E := [(0, .aload_n 0, 1, []), (1, .getfield 43, 3, [12, 6, 836, 0]), (4, .aload_n 0, 1, []), (5, .getfield 10, 3, [12, 0, 830, 0]), (8, .getfield 212, 3, [8, 1, 675, 1]), (11, .aload_n 0, 1, []), (12, .getfield 10, 3, [12, 0, 830, 0]), (15, .invokevirtual 273, 3, [1, 91, 1, 8, 1415, 1416, 1417, 36, 1418]), (18, .invokevirtual 276, 3, [1, 38, 3, 3, 1419, 1420, 1421, 42, 1422]), (21, .ireturn, 1, [])]
def tb_165 : List qq_E := [(0, .aload_n 0, 1, []), (1, .getfield 43, 3, [12, 6, 836, 0]), (4, .aload_n 0, 1, []), (5, .getfield 10, 3, [12, 0, 830, 0]), (8, .getfield 212, 3, [8, 1, 675, 1]), (11, .aload_n 0, 1, []), (12, .getfield 10, 3, [12, 0, 830, 0]), (15, .invokevirtual 273, 3, [1, 91, 1, 8, 1415, 1416, 1417, 36, 1418]), (18, .invokevirtual 280, 3, [1, 40, 3, 3, 1569, 1570, 1571, 42, 1572]), (21, .ireturn, 1, [])]
def tb_166 : List qq_E := [(0, .iload_n 1, 1, []), (1, .aload_n 0, 1, []), (2, .getfield 10, 3, [12, 0, 830, 0]), (5, .getfield 212, 3, [8, 1, 675, 1]), (8, .getfield 238, 3, [11, 0, 614, 1]), (11, .invokestatic 225, 3, [0, 196, 2, 0, 418, 419, 35, 420]), (14, .aload_n 0, 1, []), (15, .getfield 10, 3, [12, 0, 830, 0]), (18, .getfield 212, 3, [8, 1, 675, 1]), (21, .getfield 241, 3, [11, 2, 617, 1]), (24, .aload_n 0, 1, []), (25, .getfield 43, 3, [12, 6, 836, 0]), (28, .aload_n 0, 1, []), (29, .getfield 10, 3, [12, 0, 830, 0]), (32, .getfield 212, 3, [8, 1, 675, 1]), (35, .iload_n 1, 1, []), (36, .invokevirtual 283, 3, [1, 37, 3, 3, 451, 452, 453, 42, 454]), (39, .iaload, 1, []), (40, .ireturn, 1, [])]
def tb_167 : List qq_E := [(0, .iload_n 1, 1, []), (1, .iconst 1, 1, []), (2, .bipush 20, 2, []), (4, .invokestatic 184, 3, [0, 195, 3, 0, 153, 154, 35, 155]), (7, .aload_n 0, 1, []), (8, .getfield 10, 3, [12, 0, 830, 0]), (11, .getfield 136, 3, [8, 2, 677, 1]), (14, .getfield 286, 3, [6, 0, 660, 1]), (17, .iload_n 1, 1, []), (18, .iaload, 1, []), (19, .ireturn, 1, [])]
def tb_168 : List qq_E := [(0, .iload_n 1, 1, []), (1, .iconst 1, 1, []), (2, .bipush 60, 2, []), (4, .invokestatic 184, 3, [0, 195, 3, 0, 153, 154, 35, 155]), (7, .aload_n 0, 1, []), (8, .getfield 50, 3, [12, 7, 837, 0]), (11, .aload_n 0, 1, []), (12, .getfield 10, 3, [12, 0, 830, 0]), (15, .getfield 136, 3, [8, 2, 677, 1]), (18, .getfield 286, 3, [6, 0, 660, 1]), (21, .invokevirtual 289, 3, [1, 111, 2, 10, 471, 472, 473, 43, 474]), (24, .aload_n 0, 1, []), (25, .getfield 50, 3, [12, 7, 837, 0]), (28, .iload_n 1, 1, []), (29, .invokevirtual 293, 3, [1, 113, 2, 10, 483, 484, 485, 43, 486]), (32, .invokestatic 296, 3, [0, 198, 1, 0, 487, 488, 35, 489]), (35, .ireturn, 1, [])]
def tb_169 : List qq_E := [(0, .iload_n 1, 1, []), (1, .iconst 1, 1, []), (2, .bipush 60, 2, []), (4, .invokestatic 184, 3, [0, 195, 3, 0, 153, 154, 35, 155]), (7, .aload_n 0, 1, []), (8, .getfield 50, 3, [12, 7, 837, 0]), (11, .aload_n 0, 1, []), (12, .getfield 10, 3, [12, 0, 830, 0]), (15, .getfield 136, 3, [8, 2, 677, 1]), (18, .getfield 286, 3, [6, 0, 660, 1]), (21, .iload_n 1, 1, []), (22, .invokevirtual 299, 3, [1, 116, 3, 10, 1554, 1555, 1556, 43, 1557]), (25, .invokestatic 296, 3, [0, 198, 1, 0, 487, 488, 35, 489]), (28, .ireturn, 1, [])]
def tb_170 : List qq_E := [(0, .aload_n 0, 1, []), (1, .getfield 10, 3, [12, 0, 830, 0]), (4, .getfield 136, 3, [8, 2, 677, 1]), (7, .invokevirtual 303, 3, [1, 55, 1, 6, 1582, 1583, 1584, 39, 1585]), (10, .ireturn, 1, [])]
def tb_171 : List qq_E := [(0, .aload_n 0, 1, []), (1, .getfield 10, 3, [12, 0, 830, 0]), (4, .getfield 136, 3, [8, 2, 677, 1]), (7, .invokevirtual 306, 3, [1, 56, 1, 6, 1593, 1594, 1595, 39, 1596]), (10, .ireturn, 1, [])]
def tb_172 : List qq_E := [(0, .aload_n 0, 1, []), (1, .getfield 10, 3, [12, 0, 830, 0]), (4, .getfield 136, 3, [8, 2, 677, 1]), (7, .getfield 309, 3, [6, 2, 664, 1]), (10, .ireturn, 1, [])]
def tb_173 : List qq_E := [(0, .aload_n 0, 1, []), (1, .getfield 10, 3, [12, 0, 830, 0]), (4, .getfield 312, 3, [8, 3, 679, 1]), (7, .ireturn, 1, [])]
def tb_174 : List qq_E := [(0, .aload_n 0, 1, []), (1, .getfield 10, 3, [12, 0, 830, 0]), (4, .getfield 315, 3, [8, 5, 682, 1]), (7, .ireturn, 1, [])]
def tb_175 : List qq_E := [(0, .aload_n 0, 1, []), (1, .getfield 10, 3, [12, 0, 830, 0]), (4, .getfield 318, 3, [8, 6, 684, 1]), (7, .ireturn, 1, [])]
def tb_176 : List qq_E := [(0, .aload_n 0, 1, []), (1, .getfield 10, 3, [12, 0, 830, 0]), (4, .getfield 321, 3, [8, 7, 686, 1]), (7, .ireturn, 1, [])]
def tb_177 : List qq_E := []
def tb_178 : List qq_E := []
def tb_179 : List qq_E := [(0, .aload_n 0, 1, []), (1, .invokevirtual 333, 3, [1, 201, 1, 12, 1601, 1603, 31, 35, 1604]), (4, .ifCond .eq 57, 3, [25]), (7, .aload_n 0, 1, []), (8, .invokevirtual 337, 3, [1, 202, 1, 12, 1605, 1607, 32, 35, 1608]), (11, .ifCond .eq 50, 3, [25]), (14, .aload_n 0, 1, []), (15, .invokevirtual 340, 3, [1, 203, 1, 12, 1609, 1611, 33, 35, 1612]), (18, .ifCond .eq 43, 3, [25]), (21, .aload_n 0, 1, []), (22, .getfield 10, 3, [12, 0, 830, 0]), (25, .getfield 136, 3, [8, 2, 677, 1]), (28, .invokevirtual 303, 3, [1, 55, 1, 6, 1582, 1583, 1584, 39, 1585]), (31, .aload_n 0, 1, []), (32, .getfield 10, 3, [12, 0, 830, 0]), (35, .getfield 136, 3, [8, 2, 677, 1]), (38, .invokevirtual 306, 3, [1, 56, 1, 6, 1593, 1594, 1595, 39, 1596]), (41, .if_icmp .ne 20, 3, [25]), (44, .aload_n 0, 1, []), (45, .getfield 10, 3, [12, 0, 830, 0]), (48, .getfield 91, 3, [8, 0, 673, 1]), (51, .invokevirtual 343, 3, [1, 73, 1, 7, 1613, 1614, 1615, 37, 1616]), (54, .ifCond .eq 7, 3, [25]), (57, .iconst 1, 1, []), (58, .goto 4, 3, [26]), (61, .iconst 0, 1, []), (62, .ireturn, 1, [])]
def tb_180 : List qq_E := []
def tb_181 : List qq_E := []
def tb_182 : List qq_E := []
def tb_183 : List qq_E := [(0, .iload_n 1, 1, []), (1, .bipush 32, 2, []), (3, .bipush 126, 2, []), (5, .invokestatic 184, 3, [0, 195, 3, 0, 153, 154, 35, 155]), (8, .aload_n 0, 1, []), (9, .getfield 57, 3, [12, 8, 838, 0]), (12, .invokevirtual 370, 3, [1, 98, 1, 9, 1222, 1223, 1224, 44, 1225]), (15, .ifCond .eq 11, 3, [12]), (18, .new 373, 3, [1, 2, 251]), (21, .dup, 1, []), (22, .invokespecial 375, 3, [99]), (25, .athrow, 1, [99]), (26, .aload_n 0, 1, []), (27, .getfield 57, 3, [12, 8, 838, 0]), (30, .iload_n 1, 1, []), (31, .invokevirtual 376, 3, [1, 99, 2, 9, 1227, 1228, 1229, 44, 1230]), (34, .ireturn, 1, [])]
def tb_184 : List qq_E := [(0, .aload_n 0, 1, []), (1, .getfield 57, 3, [12, 8, 838, 0]), (4, .invokevirtual 379, 3, [1, 101, 1, 9, 1252, 1253, 1254, 44, 1255]), (7, .istore_n 1, 1, []), (8, .aload_n 0, 1, []), (9, .getfield 57, 3, [12, 8, 838, 0]), (12, .invokevirtual 382, 3, [1, 100, 1, 9, 1305, 1306, 1307, 44, 1308]), (15, .iload_n 1, 1, []), (16, .ifCond .ne 22, 3, [18]), (19, .aload_n 0, 1, []), (20, .aload_n 0, 1, []), (21, .getfield 57, 3, [12, 8, 838, 0]), (24, .getfield 385, 3, [9, 5, 814, 1]), (27, .putfield 68, 3, [12, 10, 840, 0]), (30, .new 388, 3, [1, 1, 159]), (33, .dup, 1, []), (34, .invokespecial 390, 3, [99]), (37, .athrow, 1, [99]), (38, .aload_n 0, 1, []), (39, .getfield 16, 3, [12, 1, 831, 0]), (42, .aload_n 0, 1, []), (43, .getfield 10, 3, [12, 0, 830, 0]), (46, .invokevirtual 232, 3, [1, 75, 2, 8, 182, 183, 184, 36, 185]), (49, .iconst 0, 1, []), (50, .istore_n 2, 1, []), (51, .iload_n 2, 1, []), (52, .aload_n 0, 1, []), (53, .getfield 57, 3, [12, 8, 838, 0]), (56, .getfield 391, 3, [9, 3, 811, 1]), (59, .if_icmp .ge 100, 3, [88]), (62, .aload_n 0, 1, []), (63, .getfield 57, 3, [12, 8, 838, 0]), (66, .getfield 392, 3, [9, 1, 807, 1]), (69, .iload_n 2, 1, []), (70, .aaload, 1, []), (71, .astore_n 3, 1, []), (72, .aload_n 0, 1, []), (73, .getfield 57, 3, [12, 8, 838, 0]), (76, .getfield 396, 3, [9, 2, 809, 1]), (79, .iload_n 2, 1, []), (80, .aaload, 1, []), (81, .astore 4, 2, []), (83, .aload_n 0, 1, []), (84, .aload_n 3, 1, []), (85, .aload 4, 2, []), (87, .iconst 0, 1, []), (88, .iaload, 1, []), (89, .aload 4, 2, []), (91, .iconst 1, 1, []), (92, .iaload, 1, []), (93, .aload 4, 2, []), (95, .iconst 2, 1, []), (96, .iaload, 1, []), (97, .aload 4, 2, []), (99, .iconst 3, 1, []), (100, .iaload, 1, []), (101, .invokevirtual 400, 3, [1, 204, 6, 12, 1361, 1363, 24, 35, 1364]), (104, .istore 5, 2, []), (106, .iload 5, 2, []), (108, .bipush 45, 2, []), (110, .if_icmp .eq 22, 3, [71]), (113, .aload_n 0, 1, []), (114, .iload_n 2, 1, []), (115, .putfield 72, 3, [12, 11, 841, 0]), (118, .aload_n 0, 1, []), (119, .iload 5, 2, []), (121, .putfield 75, 3, [12, 12, 842, 0]), (124, .new 373, 3, [1, 2, 251]), (127, .dup, 1, []), (128, .invokespecial 375, 3, [99]), (131, .athrow, 1, [99]), (132, .aload_n 0, 1, []), (133, .aload_n 3, 1, []), (134, .aload 4, 2, []), (136, .iconst 0, 1, []), (137, .iaload, 1, []), (138, .aload 4, 2, []), (140, .iconst 1, 1, []), (141, .iaload, 1, []), (142, .aload 4, 2, []), (144, .iconst 2, 1, []), (145, .iaload, 1, []), (146, .aload 4, 2, []), (148, .iconst 3, 1, []), (149, .iaload, 1, []), (150, .invokevirtual 404, 3, [1, 205, 6, 12, 1376, 1378, 25, 35, 1379]), (153, .iinc 2 1, 3, []), (156, .goto (-105), 3, [25]), (159, .aload_n 0, 1, []), (160, .getfield 29, 3, [12, 4, 834, 0]), (163, .aload_n 0, 1, []), (164, .getfield 10, 3, [12, 0, 830, 0]), (167, .invokevirtual 87, 3, [1, 45, 2, 4, 296, 297, 298, 40, 299]), (170, .aload_n 0, 1, []), (171, .getfield 10, 3, [12, 0, 830, 0]), (174, .aload_n 0, 1, []), (175, .getfield 16, 3, [12, 1, 831, 0]), (178, .invokevirtual 232, 3, [1, 75, 2, 8, 182, 183, 184, 36, 185]), (181, .aload_n 0, 1, []), (182, .getfield 57, 3, [12, 8, 838, 0]), (185, .getfield 391, 3, [9, 3, 811, 1]), (188, .ireturn, 1, [])]
def tb_185 : List qq_E := []
def tb_186 : List qq_E := []
def tb_187 : List qq_E := []
def tb_188 : List qq_E := [(0, .aload_n 0, 1, []), (1, .getfield 29, 3, [12, 4, 834, 0]), (4, .getfield 411, 3, [4, 2, 716, 1]), (7, .ifCond .ne 11, 3, [8]), (10, .new 408, 3, [1, 3, 266]), (13, .dup, 1, []), (14, .invokespecial 410, 3, [99]), (17, .athrow, 1, [99]), (18, .aload_n 0, 1, []), (19, .getfield 29, 3, [12, 4, 834, 0]), (22, .aload_n 0, 1, []), (23, .getfield 10, 3, [12, 0, 830, 0]), (26, .invokevirtual 412, 3, [1, 46, 2, 4, 497, 498, 499, 40, 500]), (29, .ireturn, 1, [])]
def tb_189 : List qq_E := [(0, .aload_n 0, 1, []), (1, .getfield 19, 3, [12, 2, 832, 0]), (4, .aload_n 0, 1, []), (5, .getfield 10, 3, [12, 0, 830, 0]), (8, .invokevirtual 232, 3, [1, 75, 2, 8, 182, 183, 184, 36, 185]), (11, .aload_n 0, 1, []), (12, .iconst 1, 1, []), (13, .putfield 22, 3, [12, 3, 833, 0]), (16, .aload_n 0, 1, []), (17, .getfield 10, 3, [12, 0, 830, 0]), (20, .getfield 91, 3, [8, 0, 673, 1]), (23, .getfield 197, 3, [7, 2, 578, 1]), (26, .ireturn, 1, [])]
def tb_190 : List qq_E := [(0, .aload_n 0, 1, []), (1, .getfield 22, 3, [12, 3, 833, 0]), (4, .ifCond .ne 11, 3, [7]), (7, .new 373, 3, [1, 2, 251]), (10, .dup, 1, []), (11, .invokespecial 375, 3, [99]), (14, .athrow, 1, [99]), (15, .aload_n 0, 1, []), (16, .getfield 10, 3, [12, 0, 830, 0]), (19, .aload_n 0, 1, []), (20, .getfield 19, 3, [12, 2, 832, 0]), (23, .invokevirtual 232, 3, [1, 75, 2, 8, 182, 183, 184, 36, 185]), (26, .aload_n 0, 1, []), (27, .getfield 29, 3, [12, 4, 834, 0]), (30, .invokevirtual 416, 3, [1, 47, 1, 4, 508, 509, 510, 40, 511]), (33, .aload_n 0, 1, []), (34, .getfield 10, 3, [12, 0, 830, 0]), (37, .getfield 91, 3, [8, 0, 673, 1]), (40, .getfield 197, 3, [7, 2, 578, 1]), (43, .ireturn, 1, [])]
def tb_191 : List qq_E := [(0, .iload_n 0, 1, []), (1, .lookupswitch 91 #[(97, 59), (101, 75), (105, 51), (115, 67), (117, 83)], 51, [22, 6, 14, 2, 10, 18]), (52, .new 364, 3, [1, 0, 83]), (55, .dup, 1, []), (56, .invokespecial 366, 3, [99]), (59, .athrow, 1, [99]), (60, .new 388, 3, [1, 1, 159]), (63, .dup, 1, []), (64, .invokespecial 390, 3, [99]), (67, .athrow, 1, [99]), (68, .new 373, 3, [1, 2, 251]), (71, .dup, 1, []), (72, .invokespecial 375, 3, [99]), (75, .athrow, 1, [99]), (76, .new 408, 3, [1, 3, 266]), (79, .dup, 1, []), (80, .invokespecial 410, 3, [99]), (83, .athrow, 1, [99]), (84, .new 419, 3, [1, 4, 281]), (87, .dup, 1, []), (88, .invokespecial 421, 3, [99]), (91, .athrow, 1, [99]), (92, .return_, 1, [])]
def tb_192 : List qq_E := [(0, .aload_n 0, 1, []), (1, .getfield 10, 3, [12, 0, 830, 0]), (4, .getfield 91, 3, [8, 0, 673, 1]), (7, .iload_n 1, 1, []), (8, .invokevirtual 422, 3, [1, 60, 2, 7, 79, 80, 81, 37, 82]), (11, .ifCond .ne 11, 3, [10]), (14, .new 364, 3, [1, 0, 83]), (17, .dup, 1, []), (18, .invokespecial 366, 3, [99]), (21, .athrow, 1, [99]), (22, .return_, 1, [])]
def tb_193 : List qq_E := [(0, .aload_n 0, 1, []), (1, .getfield 10, 3, [12, 0, 830, 0]), (4, .getfield 91, 3, [8, 0, 673, 1]), (7, .iload_n 1, 1, []), (8, .invokevirtual 425, 3, [1, 61, 2, 7, 432, 325, 326, 37, 327]), (11, .ifCond .ne 11, 3, [10]), (14, .new 364, 3, [1, 0, 83]), (17, .dup, 1, []), (18, .invokespecial 366, 3, [99]), (21, .athrow, 1, [99]), (22, .return_, 1, [])]
def tb_194 : List qq_E := []
def tb_195 : List qq_E := [(0, .iload_n 0, 1, []), (1, .iload_n 1, 1, []), (2, .iload_n 2, 1, []), (3, .invokestatic 431, 3, [0, 200, 3, 0, 156, 157, 35, 158]), (6, .ifCond .ne 11, 3, [9]), (9, .new 388, 3, [1, 1, 159]), (12, .dup, 1, []), (13, .invokespecial 390, 3, [99]), (16, .athrow, 1, [99]), (17, .return_, 1, [])]
def tb_196 : List qq_E := [(0, .iload_n 0, 1, []), (1, .ifCond .lt 8, 3, [5]), (4, .iload_n 0, 1, []), (5, .iload_n 1, 1, []), (6, .if_icmp .lt 11, 3, [9]), (9, .new 408, 3, [1, 3, 266]), (12, .dup, 1, []), (13, .invokespecial 410, 3, [99]), (16, .athrow, 1, [99]), (17, .return_, 1, [])]
def tb_197 : List qq_E := [(0, .iload_n 0, 1, []), (1, .iconst (-1), 1, []), (2, .if_icmp .ne 11, 3, [7]), (5, .new 408, 3, [1, 3, 266]), (8, .dup, 1, []), (9, .invokespecial 410, 3, [99]), (12, .athrow, 1, [99]), (13, .iload_n 0, 1, []), (14, .ireturn, 1, [])]
def tb_198 : List qq_E := [(0, .iload_n 0, 1, []), (1, .sipush 1000, 3, []), (4, .if_icmp .ne 11, 3, [7]), (7, .new 419, 3, [1, 4, 281]), (10, .dup, 1, []), (11, .invokespecial 421, 3, [99]), (14, .athrow, 1, [99]), (15, .iload_n 0, 1, []), (16, .ireturn, 1, [])]
def tb_199 : List qq_E := [(0, .aload_n 0, 1, []), (1, .getfield 10, 3, [12, 0, 830, 0]), (4, .getfield 212, 3, [8, 1, 675, 1]), (7, .iload_n 1, 1, []), (8, .invokevirtual 435, 3, [1, 122, 2, 11, 1456, 524, 525, 38, 526]), (11, .invokestatic 181, 3, [0, 197, 1, 0, 441, 442, 35, 443]), (14, .ireturn, 1, [])]
def tb_200 : List qq_E := [(0, .iload_n 0, 1, []), (1, .iload_n 1, 1, []), (2, .if_icmp .lt 12, 3, [8]), (5, .iload_n 0, 1, []), (6, .iload_n 2, 1, []), (7, .if_icmp .gt 7, 3, [8]), (10, .iconst 1, 1, []), (11, .goto 4, 3, [9]), (14, .iconst 0, 1, []), (15, .ireturn, 1, [])]
def tb_201 : List qq_E := [(0, .aload_n 0, 1, []), (1, .getfield 10, 3, [12, 0, 830, 0]), (4, .getfield 91, 3, [8, 0, 673, 1]), (7, .astore_n 1, 1, []), (8, .iconst 0, 1, []), (9, .istore_n 2, 1, []), (10, .iload_n 2, 1, []), (11, .aload_n 1, 1, []), (12, .getfield 167, 3, [7, 0, 571, 1]), (15, .if_icmp .ge 44, 3, [32]), (18, .iconst 0, 1, []), (19, .istore_n 3, 1, []), (20, .iload_n 3, 1, []), (21, .bipush 20, 2, []), (23, .if_icmp .gt 30, 3, [30]), (26, .aload_n 1, 1, []), (27, .iload_n 2, 1, []), (28, .iload_n 3, 1, []), (29, .invokevirtual 188, 3, [1, 69, 3, 7, 174, 175, 176, 37, 177]), (32, .aload_n 0, 1, []), (33, .getfield 36, 3, [12, 5, 835, 0]), (36, .aload_n 1, 1, []), (37, .iload_n 2, 1, []), (38, .iload_n 3, 1, []), (39, .invokevirtual 191, 3, [1, 49, 4, 5, 1507, 1508, 1509, 41, 1510]), (42, .if_icmp .eq 5, 3, [28]), (45, .iconst 0, 1, []), (46, .ireturn, 1, []), (47, .iinc 3 1, 3, []), (50, .goto (-30), 3, [12]), (53, .iinc 2 1, 3, []), (56, .goto (-46), 3, [6]), (59, .iconst 1, 1, []), (60, .ireturn, 1, [])]
def tb_202 : List qq_E := [(0, .aload_n 0, 1, []), (1, .getfield 10, 3, [12, 0, 830, 0]), (4, .invokevirtual 273, 3, [1, 91, 1, 8, 1415, 1416, 1417, 36, 1418]), (7, .istore_n 1, 1, []), (8, .aload_n 0, 1, []), (9, .getfield 43, 3, [12, 6, 836, 0]), (12, .aload_n 0, 1, []), (13, .getfield 10, 3, [12, 0, 830, 0]), (16, .getfield 212, 3, [8, 1, 675, 1]), (19, .iload_n 1, 1, []), (20, .invokevirtual 276, 3, [1, 38, 3, 3, 1419, 1420, 1421, 42, 1422]), (23, .aload_n 0, 1, []), (24, .getfield 43, 3, [12, 6, 836, 0]), (27, .aload_n 0, 1, []), (28, .getfield 10, 3, [12, 0, 830, 0]), (31, .getfield 212, 3, [8, 1, 675, 1]), (34, .iload_n 1, 1, []), (35, .invokevirtual 280, 3, [1, 40, 3, 3, 1569, 1570, 1571, 42, 1572]), (38, .if_icmp .ne 7, 3, [21]), (41, .iconst 1, 1, []), (42, .goto 4, 3, [22]), (45, .iconst 0, 1, []), (46, .ireturn, 1, [])]
def tb_203 : List qq_E := [(0, .aload_n 0, 1, []), (1, .getfield 50, 3, [12, 7, 837, 0]), (4, .aload_n 0, 1, []), (5, .getfield 10, 3, [12, 0, 830, 0]), (8, .getfield 136, 3, [8, 2, 677, 1]), (11, .getfield 286, 3, [6, 0, 660, 1]), (14, .invokevirtual 289, 3, [1, 111, 2, 10, 471, 472, 473, 43, 474]), (17, .iconst 1, 1, []), (18, .istore_n 1, 1, []), (19, .iload_n 1, 1, []), (20, .bipush 60, 2, []), (22, .if_icmp .gt 40, 3, [29]), (25, .aload_n 0, 1, []), (26, .getfield 50, 3, [12, 7, 837, 0]), (29, .iload_n 1, 1, []), (30, .invokevirtual 293, 3, [1, 113, 2, 10, 483, 484, 485, 43, 486]), (33, .aload_n 0, 1, []), (34, .getfield 50, 3, [12, 7, 837, 0]), (37, .aload_n 0, 1, []), (38, .getfield 10, 3, [12, 0, 830, 0]), (41, .getfield 136, 3, [8, 2, 677, 1]), (44, .getfield 286, 3, [6, 0, 660, 1]), (47, .iload_n 1, 1, []), (48, .invokevirtual 299, 3, [1, 116, 3, 10, 1554, 1555, 1556, 43, 1557]), (51, .if_icmp .eq 5, 3, [27]), (54, .iconst 0, 1, []), (55, .ireturn, 1, []), (56, .iinc 1 1, 3, []), (59, .goto (-40), 3, [9]), (62, .iconst 1, 1, []), (63, .ireturn, 1, [])]
def tb_204 : List qq_E := [(0, .getstatic 438, 3, [4, 1365]), (3, .aload_n 1, 1, []), (4, .invokevirtual 443, 3, [7, 35, 1, 1, 1367, 1368, 1370, 1371, 66, 1372]), (7, .iaload, 1, []), (8, .tableswitch 152 1 8 #[48, 56, 66, 76, 86, 120, 130, 143], 48, [63, 5, 9, 15, 21, 27, 45, 51, 58]), (56, .aload_n 0, 1, []), (57, .getfield 16, 3, [12, 1, 831, 0]), (60, .invokevirtual 79, 3, [1, 76, 1, 8, 877, 878, 879, 36, 880]), (63, .ireturn, 1, []), (64, .aload_n 0, 1, []), (65, .getfield 16, 3, [12, 1, 831, 0]), (68, .iload_n 2, 1, []), (69, .iload_n 3, 1, []), (70, .invokevirtual 101, 3, [1, 77, 3, 8, 243, 244, 245, 36, 246]), (73, .ireturn, 1, []), (74, .aload_n 0, 1, []), (75, .getfield 16, 3, [12, 1, 831, 0]), (78, .iload_n 2, 1, []), (79, .iload_n 3, 1, []), (80, .invokevirtual 109, 3, [1, 78, 3, 8, 892, 893, 894, 36, 895]), (83, .ireturn, 1, []), (84, .aload_n 0, 1, []), (85, .getfield 16, 3, [12, 1, 831, 0]), (88, .iload_n 2, 1, []), (89, .iload_n 3, 1, []), (90, .invokevirtual 115, 3, [1, 79, 3, 8, 963, 964, 965, 36, 966]), (93, .ireturn, 1, []), (94, .iload 5, 2, []), (96, .iconst (-1), 1, []), (97, .if_icmp .ne 17, 3, [37]), (100, .aload_n 0, 1, []), (101, .getfield 16, 3, [12, 1, 831, 0]), (104, .iload_n 2, 1, []), (105, .iload_n 3, 1, []), (106, .iload 4, 2, []), (108, .invokevirtual 121, 3, [1, 80, 4, 8, 315, 316, 317, 36, 318]), (111, .goto 16, 3, [44]), (114, .aload_n 0, 1, []), (115, .getfield 16, 3, [12, 1, 831, 0]), (118, .iload_n 2, 1, []), (119, .iload_n 3, 1, []), (120, .iload 4, 2, []), (122, .iload 5, 2, []), (124, .invokevirtual 129, 3, [1, 81, 5, 8, 908, 909, 910, 36, 911]), (127, .ireturn, 1, []), (128, .aload_n 0, 1, []), (129, .getfield 16, 3, [12, 1, 831, 0]), (132, .iload_n 2, 1, []), (133, .iload_n 3, 1, []), (134, .invokevirtual 133, 3, [1, 84, 3, 8, 350, 351, 352, 36, 353]), (137, .ireturn, 1, []), (138, .aload_n 0, 1, []), (139, .getfield 16, 3, [12, 1, 831, 0]), (142, .iload_n 2, 1, []), (143, .aload_n 0, 1, []), (144, .getfield 50, 3, [12, 7, 837, 0]), (147, .invokevirtual 145, 3, [1, 85, 3, 8, 920, 921, 922, 36, 923]), (150, .ireturn, 1, []), (151, .aload_n 0, 1, []), (152, .getfield 16, 3, [12, 1, 831, 0]), (155, .iload_n 2, 1, []), (156, .invokevirtual 153, 3, [1, 87, 2, 8, 519, 520, 521, 36, 522]), (159, .ireturn, 1, []), (160, .aload_n 0, 1, []), (161, .getfield 16, 3, [12, 1, 831, 0]), (164, .iload_n 2, 1, []), (165, .invokestatic 448, 3, [0, 206, 1, 0, 1373, 1374, 35, 1375]), (168, .invokevirtual 160, 3, [1, 92, 2, 8, 365, 366, 367, 36, 368]), (171, .ireturn, 1, [])]
def tb_205 : List qq_E := [(0, .getstatic 438, 3, [4, 1365]), (3, .aload_n 1, 1, []), (4, .invokevirtual 443, 3, [7, 35, 1, 1, 1367, 1368, 1370, 1371, 66, 1372]), (7, .iaload, 1, []), (8, .tableswitch 171 1 8 #[48, 62, 78, 94, 110, 127, 143, 159], 48, [66, 5, 11, 19, 27, 35, 44, 52, 60]), (56, .aload_n 0, 1, []), (57, .getfield 16, 3, [12, 1, 831, 0]), (60, .getfield 91, 3, [8, 0, 673, 1]), (63, .invokevirtual 95, 3, [1, 62, 1, 7, 881, 882, 883, 37, 884]), (66, .pop, 1, []), (67, .goto 124, 3, [72]), (70, .aload_n 0, 1, []), (71, .getfield 16, 3, [12, 1, 831, 0]), (74, .getfield 91, 3, [8, 0, 673, 1]), (77, .iload_n 2, 1, []), (78, .iload_n 3, 1, []), (79, .invokevirtual 105, 3, [1, 63, 3, 7, 301, 302, 303, 37, 304]), (82, .pop, 1, []), (83, .goto 108, 3, [72]), (86, .aload_n 0, 1, []), (87, .getfield 16, 3, [12, 1, 831, 0]), (90, .getfield 91, 3, [8, 0, 673, 1]), (93, .iload_n 2, 1, []), (94, .iload_n 3, 1, []), (95, .invokevirtual 112, 3, [1, 64, 3, 7, 897, 898, 899, 37, 900]), (98, .pop, 1, []), (99, .goto 92, 3, [72]), (102, .aload_n 0, 1, []), (103, .getfield 16, 3, [12, 1, 831, 0]), (106, .getfield 91, 3, [8, 0, 673, 1]), (109, .iload_n 2, 1, []), (110, .iload_n 3, 1, []), (111, .invokevirtual 118, 3, [1, 65, 3, 7, 967, 968, 969, 37, 970]), (114, .pop, 1, []), (115, .goto 76, 3, [72]), (118, .aload_n 0, 1, []), (119, .getfield 16, 3, [12, 1, 831, 0]), (122, .iload_n 2, 1, []), (123, .iload_n 3, 1, []), (124, .iload 4, 2, []), (126, .iload 5, 2, []), (128, .invokevirtual 125, 3, [1, 83, 5, 8, 333, 334, 335, 36, 336]), (131, .pop, 1, []), (132, .goto 59, 3, [72]), (135, .aload_n 0, 1, []), (136, .getfield 16, 3, [12, 1, 831, 0]), (139, .getfield 136, 3, [8, 2, 677, 1]), (142, .iload_n 2, 1, []), (143, .iload_n 3, 1, []), (144, .invokevirtual 140, 3, [1, 53, 3, 6, 354, 355, 356, 39, 357]), (147, .pop, 1, []), (148, .goto 43, 3, [72]), (151, .aload_n 0, 1, []), (152, .getfield 16, 3, [12, 1, 831, 0]), (155, .iload_n 2, 1, []), (156, .aload_n 0, 1, []), (157, .getfield 50, 3, [12, 7, 837, 0]), (160, .invokevirtual 149, 3, [1, 86, 3, 8, 926, 927, 928, 36, 929]), (163, .pop, 1, []), (164, .goto 27, 3, [72]), (167, .aload_n 0, 1, []), (168, .getfield 16, 3, [12, 1, 831, 0]), (171, .iload_n 2, 1, []), (172, .invokevirtual 157, 3, [1, 88, 2, 8, 527, 528, 529, 36, 530]), (175, .pop, 1, []), (176, .goto 15, 3, [72]), (179, .aload_n 0, 1, []), (180, .getfield 16, 3, [12, 1, 831, 0]), (183, .iload_n 2, 1, []), (184, .invokestatic 448, 3, [0, 206, 1, 0, 1373, 1374, 35, 1375]), (187, .invokevirtual 163, 3, [1, 93, 2, 8, 369, 370, 371, 36, 372]), (190, .pop, 1, []), (191, .return_, 1, [])]
def tb_206 : List qq_E := [(0, .iload_n 0, 1, []), (1, .iconst (-1), 1, []), (2, .if_icmp .ne 7, 3, [5]), (5, .iconst 1, 1, []), (6, .goto 4, 3, [6]), (9, .iload_n 0, 1, []), (10, .ireturn, 1, [])]
def tb_207 : List qq_E := [(0, .new 18, 3, [0, 0, 1120, 233, 47]), (3, .dup, 1, []), (4, .aload_n 0, 1, []), (5, .invokespecial 137, 3, [2, 208, 2, 0, 1121, 1122, 47, 1123]), (8, .areturn, 1, [])]
def tb_208 : List qq_E := [(0, .aload_n 0, 1, []), (1, .aload_n 1, 1, []), (2, .aconst_null, 1, []), (3, .invokespecial 489, 3, [2, 209, 3, 0, 1124, 1125, 47, 1126]), (6, .return_, 1, [])]
def tb_209 : List qq_E := [(0, .aload_n 0, 1, []), (1, .invokespecial 1, 3, [21, 1127, 109, 110]), (4, .aload_n 1, 1, []), (5, .invokevirtual 552, 3, [1, 212, 1, 2, 1128, 1129, 1131, 45, 1132]), (8, .astore_n 3, 1, []), (9, .aload_n 1, 1, []), (10, .invokevirtual 549, 3, [9, 23, 1, 2, 24, 1133, 1135, 1134, 1140, 1136, 1137, 46, 1138]), (13, .istore 4, 2, []), (15, .aload_n 1, 1, []), (16, .invokevirtual 1047, 3, [1, 4, 1, 2, 1141, 1017, 1019, 45, 1020]), (19, .ifCond .eq 22, 3, [21]), (22, .aload_n 0, 1, []), (23, .iconst 0, 1, []), (24, .putfield 15, 3, [0, 1, 1176, 0]), (27, .aload_n 0, 1, []), (28, .aload_n 3, 1, []), (29, .iconst 0, 1, []), (30, .iload 4, 2, []), (32, .invokestatic 54, 3, [0, 210, 3, 0, 1142, 1143, 63, 1144]), (35, .putfield 9, 3, [0, 0, 1175, 0]), (38, .goto 59, 3, [50]), (41, .getstatic 38, 3, [0, 1055]), (44, .ifCond .eq 35, 3, [39]), (47, .aload_n 1, 1, []), (48, .getfield 1048, 3, [2, 2, 791, 0]), (51, .ifCond .eq 28, 3, [39]), (54, .aload_n 0, 1, []), (55, .aload_n 3, 1, []), (56, .iconst 0, 1, []), (57, .iload 4, 2, []), (59, .invokestatic 1051, 3, [99]), (62, .putfield 9, 3, [0, 0, 1175, 0]), (65, .aload_n 0, 1, []), (66, .aload_n 0, 1, []), (67, .getfield 9, 3, [0, 0, 1175, 0]), (70, .iload 4, 2, []), (72, .invokestatic 47, 3, [99]), (75, .putfield 15, 3, [0, 1, 1176, 0]), (78, .return_, 1, []), (79, .aload_n 0, 1, []), (80, .iconst 1, 1, []), (81, .putfield 15, 3, [0, 1, 1176, 0]), (84, .aload_n 0, 1, []), (85, .aload_n 3, 1, []), (86, .iconst 0, 1, []), (87, .iload 4, 2, []), (89, .iconst 1, 1, []), (90, .ishl, 1, []), (91, .invokestatic 54, 3, [0, 210, 3, 0, 1142, 1143, 63, 1144]), (94, .putfield 9, 3, [0, 0, 1175, 0]), (97, .return_, 1, [])]
def tb_210 : List qq_E := [(0, .iload_n 1, 1, []), (1, .ifCond .ne 9, 3, [6]), (4, .iload_n 2, 1, []), (5, .aload_n 0, 1, []), (6, .arraylength, 1, []), (7, .if_icmp .eq 10, 3, [11]), (10, .aload_n 0, 1, []), (11, .iload_n 1, 1, []), (12, .iload_n 2, 1, []), (13, .invokestatic 339, 3, [0, 211, 3, 0, 1145, 1146, 63, 1147]), (16, .areturn, 1, []), (17, .aload_n 0, 1, []), (18, .invokevirtual 310, 3, [24, 1007, 1008, 1009, 1010, 1011, 1012]), (21, .checkcast 311, 3, [25, 1013]), (24, .areturn, 1, [])]
def tb_211 : List qq_E := [(0, .iload_n 1, 1, []), (1, .iload_n 2, 1, []), (2, .invokestatic 343, 3, [0, 213, 2, 0, 1148, 1149, 63, 1150]), (5, .iload_n 2, 1, []), (6, .iload_n 1, 1, []), (7, .isub, 1, []), (8, .istore_n 3, 1, []), (9, .iload_n 3, 1, []), (10, .newarray .byte, 2, [102, 234]), (12, .astore 4, 2, []), (14, .aload_n 0, 1, []), (15, .iload_n 1, 1, []), (16, .aload 4, 2, []), (18, .iconst 0, 1, []), (19, .aload_n 0, 1, []), (20, .arraylength, 1, []), (21, .iload_n 1, 1, []), (22, .isub, 1, []), (23, .iload_n 3, 1, []), (24, .invokestatic 304, 3, [23, 1014, 481, 59, 482]), (27, .invokestatic 150, 3, [20, 1015, 192, 191, 57]), (30, .aload 4, 2, []), (32, .areturn, 1, [])]
def tb_212 : List qq_E := [(0, .aload_n 0, 1, []), (1, .getfield 15, 3, [2, 0, 788, 0]), (4, .areturn, 1, [])]
def tb_213 : List qq_E := [(0, .iload_n 1, 1, []), (1, .iload_n 0, 1, []), (2, .if_icmp .ge 35, 3, [17]), (5, .new 43, 3, [1, 1, 1151]), (8, .dup, 1, []), (9, .new 45, 3, [0, 2, 1152, 771, 46]), (12, .dup, 1, []), (13, .invokespecial 47, 3, [2, 0, 1, 0, 1153, 773, 46, 774]), (16, .iload_n 0, 1, []), (17, .invokevirtual 54, 3, [1, 19, 2, 2, 1154, 1091, 1092, 46, 1093]), (20, .ldc_w 337, 3, [99]), (23, .invokevirtual 50, 3, [1, 12, 2, 2, 1156, 975, 976, 46, 977]), (26, .iload_n 1, 1, []), (27, .invokevirtual 54, 3, [1, 19, 2, 2, 1154, 1091, 1092, 46, 1093]), (30, .invokevirtual 61, 3, [1, 207, 1, 2, 1157, 1117, 1118, 46, 1119]), (33, .invokespecial 65, 3, [99]), (36, .athrow, 1, [99]), (37, .return_, 1, [])]
def tb_214 : List qq_E := [(0, .ldc 7, 2, [0, 69069, 546]), (2, .iload_n 1, 1, []), (3, .aload_n 0, 1, []), (4, .arraylength, 1, []), (5, .if_icmp .ge 9, 3, [9]), (8, .aload_n 0, 1, []), (9, .iload_n 1, 1, []), (10, .iaload, 1, []), (11, .goto 4, 3, [10]), (14, .iconst 0, 1, []), (15, .sipush 1009, 3, []), (18, .iload_n 1, 1, []), (19, .imul, 1, []), (20, .iadd, 1, []), (21, .imul, 1, []), (22, .sipush 12345, 3, []), (25, .iadd, 1, []), (26, .istore_n 2, 1, []), (27, .iload_n 2, 1, []), (28, .iload_n 2, 1, []), (29, .bipush 13, 2, []), (31, .iushr, 1, []), (32, .ixor, 1, []), (33, .ldc 8, 2, [0, 1103515245, 547]), (35, .imul, 1, []), (36, .istore_n 2, 1, []), (37, .iload_n 2, 1, []), (38, .iload_n 2, 1, []), (39, .bipush 16, 2, []), (41, .iushr, 1, []), (42, .ixor, 1, []), (43, .ireturn, 1, [])]
def tb_215 : List qq_E := [(0, .aload_n 0, 1, []), (1, .invokevirtual 9, 3, [1, 130, 1, 12, 873, 874, 875, 35, 876]), (4, .ireturn, 1, []), (5, .astore_n 1, 1, []), (6, .ldc 17, 2, [0, 4294067295, 305]), (8, .ireturn, 1, [])]
def tb_216 : List qq_E := [(0, .aload_n 0, 1, []), (1, .iload_n 1, 1, []), (2, .iload_n 2, 1, []), (3, .invokevirtual 18, 3, [1, 131, 3, 12, 239, 240, 241, 35, 242]), (6, .ireturn, 1, []), (7, .astore_n 3, 1, []), (8, .ldc 17, 2, [0, 4294067295, 305]), (10, .ireturn, 1, [])]
def tb_217 : List qq_E := [(0, .aload_n 0, 1, []), (1, .iload_n 1, 1, []), (2, .iload_n 2, 1, []), (3, .invokevirtual 24, 3, [1, 132, 3, 12, 888, 889, 890, 35, 891]), (6, .ireturn, 1, []), (7, .astore_n 3, 1, []), (8, .ldc 17, 2, [0, 4294067295, 305]), (10, .ireturn, 1, []), (11, .astore_n 3, 1, []), (12, .ldc 29, 2, [0, 4294067294, 341]), (14, .ireturn, 1, []), (15, .astore_n 3, 1, []), (16, .ldc 30, 2, [0, 4294067293, 342]), (18, .ireturn, 1, [])]
def tb_218 : List qq_E := [(0, .aload_n 0, 1, []), (1, .iload_n 1, 1, []), (2, .iload_n 2, 1, []), (3, .invokevirtual 31, 3, [1, 133, 3, 12, 959, 960, 961, 35, 962]), (6, .ireturn, 1, []), (7, .astore_n 3, 1, []), (8, .ldc 17, 2, [0, 4294067295, 305]), (10, .ireturn, 1, [])]
def tb_219 : List qq_E := [(0, .aload_n 0, 1, []), (1, .iload_n 1, 1, []), (2, .iload_n 2, 1, []), (3, .iload_n 3, 1, []), (4, .invokevirtual 34, 3, [1, 134, 4, 12, 311, 312, 313, 35, 314]), (7, .ireturn, 1, []), (8, .astore 4, 2, []), (10, .ldc 17, 2, [0, 4294067295, 305]), (12, .ireturn, 1, []), (13, .astore 4, 2, []), (15, .ldc 29, 2, [0, 4294067294, 341]), (17, .ireturn, 1, []), (18, .astore 4, 2, []), (20, .ldc 30, 2, [0, 4294067293, 342]), (22, .ireturn, 1, [])]
def tb_220 : List qq_E := [(0, .aload_n 0, 1, []), (1, .iload_n 1, 1, []), (2, .iload_n 2, 1, []), (3, .iload_n 3, 1, []), (4, .iload 4, 2, []), (6, .invokevirtual 38, 3, [1, 135, 5, 12, 904, 905, 906, 35, 907]), (9, .ireturn, 1, []), (10, .astore 5, 2, []), (12, .ldc 17, 2, [0, 4294067295, 305]), (14, .ireturn, 1, []), (15, .astore 5, 2, []), (17, .ldc 29, 2, [0, 4294067294, 341]), (19, .ireturn, 1, []), (20, .astore 5, 2, []), (22, .ldc 30, 2, [0, 4294067293, 342]), (24, .ireturn, 1, []), (25, .astore 5, 2, []), (27, .ldc 44, 2, [0, 4294067292, 912]), (29, .ireturn, 1, [])]
def tb_221 : List qq_E := [(0, .aload_n 0, 1, []), (1, .iload_n 1, 1, []), (2, .iload_n 2, 1, []), (3, .invokevirtual 45, 3, [1, 136, 3, 12, 346, 347, 348, 35, 349]), (6, .ireturn, 1, []), (7, .astore_n 3, 1, []), (8, .ldc 17, 2, [0, 4294067295, 305]), (10, .ireturn, 1, []), (11, .astore_n 3, 1, []), (12, .ldc 29, 2, [0, 4294067294, 341]), (14, .ireturn, 1, [])]
def tb_222 : List qq_E := [(0, .aload_n 0, 1, []), (1, .iload_n 1, 1, []), (2, .invokevirtual 48, 3, [1, 137, 2, 12, 916, 917, 918, 35, 919]), (5, .ireturn, 1, []), (6, .astore_n 2, 1, []), (7, .ldc 17, 2, [0, 4294067295, 305]), (9, .ireturn, 1, []), (10, .astore_n 2, 1, []), (11, .ldc 29, 2, [0, 4294067294, 341]), (13, .ireturn, 1, []), (14, .astore_n 2, 1, []), (15, .ldc 30, 2, [0, 4294067293, 342]), (17, .ireturn, 1, [])]
def tb_223 : List qq_E := [(0, .aload_n 0, 1, []), (1, .iload_n 1, 1, []), (2, .invokevirtual 54, 3, [1, 139, 2, 12, 361, 362, 363, 35, 364]), (5, .ireturn, 1, []), (6, .astore_n 2, 1, []), (7, .ldc 17, 2, [0, 4294067295, 305]), (9, .ireturn, 1, [])]
def tb_224 : List qq_E := [(0, .aload_n 0, 1, []), (1, .iload_n 1, 1, []), (2, .invokevirtual 57, 3, [1, 143, 2, 12, 1498, 1499, 1500, 35, 1501]), (5, .ireturn, 1, []), (6, .astore_n 2, 1, []), (7, .ldc 17, 2, [0, 4294067295, 305]), (9, .ireturn, 1, []), (10, .astore_n 2, 1, []), (11, .ldc 29, 2, [0, 4294067294, 341]), (13, .ireturn, 1, [])]
def tb_225 : List qq_E := [(0, .aload_n 0, 1, []), (1, .iload_n 1, 1, []), (2, .invokevirtual 60, 3, [1, 153, 2, 12, 414, 415, 416, 35, 417]), (5, .ireturn, 1, []), (6, .astore_n 2, 1, []), (7, .ldc 17, 2, [0, 4294067295, 305]), (9, .ireturn, 1, [])]
def tb_226 : List qq_E := [(0, .aload_n 0, 1, []), (1, .iload_n 1, 1, []), (2, .invokevirtual 63, 3, [1, 154, 2, 12, 424, 425, 426, 35, 427]), (5, .ireturn, 1, []), (6, .astore_n 2, 1, []), (7, .ldc 17, 2, [0, 4294067295, 305]), (9, .ireturn, 1, []), (10, .astore_n 2, 1, []), (11, .ldc 29, 2, [0, 4294067294, 341]), (13, .ireturn, 1, [])]
def tb_227 : List qq_E := [(0, .aload_n 0, 1, []), (1, .iload_n 1, 1, []), (2, .invokevirtual 66, 3, [1, 156, 2, 12, 949, 950, 951, 35, 952]), (5, .ireturn, 1, []), (6, .astore_n 2, 1, []), (7, .ldc 17, 2, [0, 4294067295, 305]), (9, .ireturn, 1, [])]
def tb_228 : List qq_E := [(0, .aload_n 0, 1, []), (1, .iload_n 1, 1, []), (2, .invokevirtual 69, 3, [1, 161, 2, 12, 1472, 1473, 1474, 35, 1475]), (5, .ireturn, 1, []), (6, .astore_n 2, 1, []), (7, .ldc 17, 2, [0, 4294067295, 305]), (9, .ireturn, 1, [])]
def tb_229 : List qq_E := [(0, .aload_n 0, 1, []), (1, .iload_n 1, 1, []), (2, .invokevirtual 72, 3, [1, 162, 2, 12, 1536, 1537, 1538, 35, 1539]), (5, .ireturn, 1, []), (6, .astore_n 2, 1, []), (7, .ldc 17, 2, [0, 4294067295, 305]), (9, .ireturn, 1, [])]
def tb_230 : List qq_E := [(0, .aload_n 0, 1, []), (1, .iload_n 1, 1, []), (2, .invokevirtual 75, 3, [1, 166, 2, 12, 447, 448, 449, 35, 450]), (5, .ireturn, 1, []), (6, .astore_n 2, 1, []), (7, .ldc 17, 2, [0, 4294067295, 305]), (9, .ireturn, 1, [])]
def tb_231 : List qq_E := [(0, .aload_n 0, 1, []), (1, .iload_n 1, 1, []), (2, .invokevirtual 78, 3, [1, 168, 2, 12, 467, 468, 469, 35, 470]), (5, .ireturn, 1, []), (6, .astore_n 2, 1, []), (7, .ldc 17, 2, [0, 4294067295, 305]), (9, .ireturn, 1, []), (10, .astore_n 2, 1, []), (11, .ldc 29, 2, [0, 4294067294, 341]), (13, .ireturn, 1, [])]
def tb_232 : List qq_E := [(0, .aload_n 0, 1, []), (1, .iload_n 1, 1, []), (2, .invokevirtual 81, 3, [1, 169, 2, 12, 1550, 1551, 1552, 35, 1553]), (5, .ireturn, 1, []), (6, .astore_n 2, 1, []), (7, .ldc 17, 2, [0, 4294067295, 305]), (9, .ireturn, 1, []), (10, .astore_n 2, 1, []), (11, .ldc 29, 2, [0, 4294067294, 341]), (13, .ireturn, 1, [])]
def tb_233 : List qq_E := [(0, .aload_n 0, 1, []), (1, .invokevirtual 84, 3, [1, 184, 1, 12, 1248, 1249, 1250, 35, 1251]), (4, .ireturn, 1, []), (5, .astore_n 1, 1, []), (6, .ldc 17, 2, [0, 4294067295, 305]), (8, .ireturn, 1, []), (9, .astore_n 1, 1, []), (10, .ldc 29, 2, [0, 4294067294, 341]), (12, .ireturn, 1, [])]
def tb_234 : List qq_E := [(0, .aload_n 0, 1, []), (1, .invokevirtual 87, 3, [1, 188, 1, 12, 493, 494, 495, 35, 496]), (4, .ireturn, 1, []), (5, .astore_n 1, 1, []), (6, .ldc 17, 2, [0, 4294067295, 305]), (8, .ireturn, 1, [])]
def tb_235 : List qq_E := [(0, .aload_n 0, 1, []), (1, .invokevirtual 90, 3, [1, 190, 1, 12, 504, 505, 506, 35, 507]), (4, .ireturn, 1, []), (5, .astore_n 1, 1, []), (6, .ldc 17, 2, [0, 4294067295, 305]), (8, .ireturn, 1, [])]
def tb_236 : List qq_E := [(0, .aload_n 0, 1, []), (1, .iload_n 1, 1, []), (2, .invokevirtual 93, 3, [1, 138, 2, 12, 515, 516, 517, 35, 518]), (5, .ireturn, 1, []), (6, .astore_n 2, 1, []), (7, .ldc 17, 2, [0, 4294067295, 305]), (9, .ireturn, 1, []), (10, .astore_n 2, 1, []), (11, .ldc 29, 2, [0, 4294067294, 341]), (13, .ireturn, 1, [])]
def tb_237 : List qq_E := [(0, .aload_n 0, 1, []), (1, .iload_n 1, 1, []), (2, .invokestatic 97, 3, [0, 214, 2, 0, 543, 544, 34, 545]), (5, .ldc 103, 2, [0, 2147483647, 548]), (7, .iand, 1, []), (8, .iload_n 2, 1, []), (9, .irem, 1, []), (10, .ireturn, 1, [])]
def tb_238 : List qq_E := [(0, .iconst 0, 1, []), (1, .istore_n 2, 1, []), (2, .iconst 0, 1, []), (3, .istore_n 3, 1, []), (4, .iload_n 3, 1, []), (5, .aload_n 1, 1, []), (6, .invokevirtual 104, 3, [1, 14, 1, 0, 1193, 1048, 1049, 47, 1050]), (9, .if_icmp .ge 21, 3, [18]), (12, .iload_n 2, 1, []), (13, .aload_n 0, 1, []), (14, .aload_n 1, 1, []), (15, .iload_n 3, 1, []), (16, .invokevirtual 109, 3, [1, 31, 2, 0, 1194, 1195, 1196, 47, 1197]), (19, .invokevirtual 112, 3, [1, 183, 2, 12, 1218, 1219, 1220, 35, 1221]), (22, .iadd, 1, []), (23, .istore_n 2, 1, []), (24, .iinc 3 1, 3, []), (27, .goto (-23), 3, [4]), (30, .iload_n 2, 1, []), (31, .ifCond .ge 8, 3, [22]), (34, .ldc 116, 2, [0, 4294067287, 1244]), (36, .goto 7, 3, [24]), (39, .aload_n 0, 1, []), (40, .invokestatic 117, 3, [8, 233, 1, 0, 1245, 1246, 34, 1247]), (43, .ireturn, 1, [])]
def tb_239_0 : List qq_E := [(0, .new 10, 3, [0, 12, 552, 77, 35]), (3, .dup, 1, []), (4, .invokespecial 120, 3, [2, 129, 1, 0, 553, 554, 35, 555]), (7, .astore_n 1, 1, []), (8, .iconst 0, 1, []), (9, .istore_n 2, 1, []), (10, .iconst 3, 1, []), (11, .aload_n 0, 1, []), (12, .iconst 0, 1, []), (13, .bipush 6, 2, []), (15, .invokestatic 121, 3, [0, 237, 3, 0, 540, 541, 34, 542]), (18, .iadd, 1, []), (19, .istore_n 3, 1, []), (20, .iconst 0, 1, []), (21, .istore 4, 2, []), (23, .iload 4, 2, []), (25, .iload_n 3, 1, []), (26, .if_icmp .ge 16, 3, [25]), (29, .iload_n 2, 1, []), (30, .aload_n 1, 1, []), (31, .invokestatic 125, 3, [8, 215, 1, 0, 870, 871, 34, 872]), (34, .iadd, 1, []), (35, .istore_n 2, 1, []), (36, .iinc 4 1, 3, []), (39, .goto (-16), 3, [15]), (42, .iconst 0, 1, []), (43, .istore 4, 2, []), (45, .iload 4, 2, []), (47, .iload_n 3, 1, []), (48, .if_icmp .ge 27, 3, [44]), (51, .iload_n 2, 1, []), (52, .aload_n 1, 1, []), (53, .iload 4, 2, []), (55, .aload_n 0, 1, []), (56, .iconst 1, 1, []), (57, .iload 4, 2, []), (59, .iadd, 1, []), (60, .iload_n 3, 1, []), (61, .invokestatic 121, 3, [0, 237, 3, 0, 540, 541, 34, 542]), (64, .invokestatic 127, 3, [8, 216, 3, 0, 203, 204, 34, 205]), (67, .iadd, 1, []), (68, .istore_n 2, 1, []), (69, .iinc 4 1, 3, []), (72, .goto (-27), 3, [27]), (75, .iconst 0, 1, []), (76, .istore 4, 2, []), (78, .iload 4, 2, []), (80, .iconst 2, 1, []), (81, .aload_n 0, 1, []), (82, .bipush 10, 2, []), (84, .iconst 5, 1, []), (85, .invokestatic 121, 3, [0, 237, 3, 0, 540, 541, 34, 542]), (88, .iadd, 1, []), (89, .if_icmp .ge 39, 3, [75]), (92, .iload_n 2, 1, []), (93, .aload_n 1, 1, []), (94, .aload_n 0, 1, []), (95, .bipush 11, 2, []), (97, .iload 4, 2, []), (99, .iadd, 1, []), (100, .iload_n 3, 1, []), (101, .invokestatic 121, 3, [0, 237, 3, 0, 540, 541, 34, 542]), (104, .iconst 1, 1, []), (105, .aload_n 0, 1, []), (106, .bipush 18, 2, []), (108, .iload 4, 2, []), (110, .iadd, 1, []), (111, .bipush 30, 2, []), (113, .invokestatic 121, 3, [0, 237, 3, 0, 540, 541, 34, 542]), (116, .iadd, 1, []), (117, .invokestatic 130, 3, [8, 217, 3, 0, 885, 886, 34, 887]), (120, .iadd, 1, []), (121, .istore_n 2, 1, []), (122, .iinc 4 1, 3, []), (125, .goto (-47), 3, [46]), (128, .iconst 0, 1, []), (129, .istore 4, 2, []), (131, .iload 4, 2, []), (133, .iconst 5, 1, []), (134, .if_icmp .ge 52, 3, [108]), (137, .iload_n 2, 1, []), (138, .aload_n 1, 1, []), (139, .iconst 1, 1, []), (140, .aload_n 0, 1, []), (141, .bipush 25, 2, []), (143, .iload 4, 2, []), (145, .iadd, 1, []), (146, .iload 4, 2, []), (148, .iconst 2, 1, []), (149, .if_icmp .ge 7, 3, [92]), (152, .iconst 5, 1, []), (153, .goto 5, 3, [93]), (156, .bipush 20, 2, []), (158, .invokestatic 121, 3, [0, 237, 3, 0, 540, 541, 34, 542]), (161, .iadd, 1, []), (162, .iconst 1, 1, []), (163, .aload_n 0, 1, []), (164, .bipush 30, 2, []), (166, .iload 4, 2, []), (168, .iadd, 1, []), (169, .bipush 9, 2, []), (171, .invokestatic 121, 3, [0, 237, 3, 0, 540, 541, 34, 542]), (174, .iadd, 1, []), (175, .invokestatic 132, 3, [8, 221, 3, 0, 343, 344, 34, 345]), (178, .iadd, 1, []), (179, .istore_n 2, 1, []), (180, .iinc 4 1, 3, []), (183, .goto (-52), 3, [77]), (186, .iconst 0, 1, []), (187, .istore 4, 2, []), (189, .iload 4, 2, []), (191, .iconst 3, 1, []), (192, .if_icmp .ge 50, 3, [140]), (195, .iload_n 2, 1, []), (196, .aload_n 1, 1, []), (197, .aload_n 0, 1, []), (198, .bipush 35, 2, []), (200, .iload 4, 2, []), (202, .iadd, 1, []), (203, .iconst 3, 1, [])]
def tb_239_1 : List qq_E := [(204, .invokestatic 121, 3, [0, 237, 3, 0, 540, 541, 34, 542]), (207, .aload_n 0, 1, []), (208, .bipush 38, 2, []), (210, .iload 4, 2, []), (212, .iadd, 1, []), (213, .bipush 8, 2, []), (215, .invokestatic 121, 3, [0, 237, 3, 0, 540, 541, 34, 542]), (218, .iconst 1, 1, []), (219, .aload_n 0, 1, []), (220, .bipush 41, 2, []), (222, .iload 4, 2, []), (224, .iadd, 1, []), (225, .bipush 60, 2, []), (227, .invokestatic 121, 3, [0, 237, 3, 0, 540, 541, 34, 542]), (230, .iadd, 1, []), (231, .invokestatic 134, 3, [8, 219, 4, 0, 306, 307, 34, 308]), (234, .iadd, 1, []), (235, .istore_n 2, 1, []), (236, .iinc 4 1, 3, []), (239, .goto (-50), 3, [110]), (242, .iconst 0, 1, []), (243, .istore 4, 2, []), (245, .iload 4, 2, []), (247, .iconst 3, 1, []), (248, .if_icmp .ge 63, 3, [180]), (251, .iload_n 2, 1, []), (252, .aload_n 1, 1, []), (253, .aload_n 0, 1, []), (254, .bipush 44, 2, []), (256, .iload 4, 2, []), (258, .iadd, 1, []), (259, .iconst 3, 1, []), (260, .invokestatic 121, 3, [0, 237, 3, 0, 540, 541, 34, 542]), (263, .aload_n 0, 1, []), (264, .bipush 47, 2, []), (266, .iload 4, 2, []), (268, .iadd, 1, []), (269, .bipush 8, 2, []), (271, .invokestatic 121, 3, [0, 237, 3, 0, 540, 541, 34, 542]), (274, .iconst 1, 1, []), (275, .aload_n 0, 1, []), (276, .bipush 50, 2, []), (278, .iload 4, 2, []), (280, .iadd, 1, []), (281, .bipush 30, 2, []), (283, .invokestatic 121, 3, [0, 237, 3, 0, 540, 541, 34, 542]), (286, .iadd, 1, []), (287, .aload_n 0, 1, []), (288, .bipush 53, 2, []), (290, .iload 4, 2, []), (292, .iadd, 1, []), (293, .iconst 3, 1, []), (294, .iload 4, 2, []), (296, .iadd, 1, []), (297, .invokestatic 121, 3, [0, 237, 3, 0, 540, 541, 34, 542]), (300, .invokestatic 137, 3, [8, 220, 5, 0, 901, 902, 34, 903]), (303, .iadd, 1, []), (304, .istore_n 2, 1, []), (305, .iinc 4 1, 3, []), (308, .goto (-63), 3, [142]), (311, .iload_n 2, 1, []), (312, .aload_n 1, 1, []), (313, .aload_n 0, 1, []), (314, .bipush 57, 2, []), (316, .bipush 6, 2, []), (318, .invokestatic 121, 3, [0, 237, 3, 0, 540, 541, 34, 542]), (321, .invokestatic 140, 3, [8, 222, 2, 0, 913, 914, 34, 915]), (324, .aload_n 0, 1, []), (325, .bipush 58, 2, []), (327, .iconst 2, 1, []), (328, .invokestatic 121, 3, [0, 237, 3, 0, 540, 541, 34, 542]), (331, .ifCond .ne 19, 3, [201]), (334, .aload_n 1, 1, []), (335, .iconst 1, 1, []), (336, .aload_n 0, 1, []), (337, .bipush 59, 2, []), (339, .iconst 3, 1, []), (340, .invokestatic 121, 3, [0, 237, 3, 0, 540, 541, 34, 542]), (343, .iadd, 1, []), (344, .invokestatic 143, 3, [8, 223, 2, 0, 358, 359, 34, 360]), (347, .goto 4, 3, [202]), (350, .iconst 0, 1, []), (351, .iadd, 1, []), (352, .iadd, 1, []), (353, .istore_n 2, 1, []), (354, .iload_n 2, 1, []), (355, .ldc 145, 2, [0, 4204967296, 938]), (357, .if_icmp .ge 7, 3, [210]), (360, .aconst_null, 1, []), (361, .goto 4, 3, [211]), (364, .aload_n 1, 1, []), (365, .areturn, 1, [])]
def tb_239 : List qq_E := tb_239_0 ++ (tb_239_1)
def tb_240 : List qq_E := [(0, .aload_n 0, 1, []), (1, .invokevirtual 146, 3, [1, 155, 1, 12, 942, 943, 944, 35, 945]), (4, .ifCond .le 22, 3, [13]), (7, .iload_n 1, 1, []), (8, .bipush 9, 2, []), (10, .if_icmp .ge 16, 3, [13]), (13, .aload_n 0, 1, []), (14, .iload_n 1, 1, []), (15, .aload_n 0, 1, []), (16, .invokevirtual 146, 3, [1, 155, 1, 12, 942, 943, 944, 35, 945]), (19, .irem, 1, []), (20, .invokestatic 149, 3, [8, 227, 2, 0, 946, 947, 34, 948]), (23, .goto 4, 3, [14]), (26, .iload_n 1, 1, []), (27, .ireturn, 1, [])]
def tb_241_0 : List qq_E := [(0, .aload_n 1, 1, []), (1, .iload_n 2, 1, []), (2, .iconst 1, 1, []), (3, .iadd, 1, []), (4, .bipush 10, 2, []), (6, .invokestatic 121, 3, [0, 237, 3, 0, 540, 541, 34, 542]), (9, .istore_n 3, 1, []), (10, .aload_n 1, 1, []), (11, .iload_n 2, 1, []), (12, .iconst 2, 1, []), (13, .iadd, 1, []), (14, .bipush 7, 2, []), (16, .invokestatic 121, 3, [0, 237, 3, 0, 540, 541, 34, 542]), (19, .istore 4, 2, []), (21, .aload_n 1, 1, []), (22, .iload_n 2, 1, []), (23, .iconst 3, 1, []), (24, .iadd, 1, []), (25, .bipush 100, 2, []), (27, .invokestatic 121, 3, [0, 237, 3, 0, 540, 541, 34, 542]), (30, .istore 5, 2, []), (32, .aload_n 1, 1, []), (33, .iload_n 2, 1, []), (34, .bipush 28, 2, []), (36, .invokestatic 121, 3, [0, 237, 3, 0, 540, 541, 34, 542]), (39, .tableswitch 219 0 24 #[113, 118, 118, 118, 126, 126, 134, 134, 142, 142, 142, 157, 157, 181, 181, 181, 192, 192, 192, 202, 202, 202, 212, 212, 212], 113, [92, 26, 29, 29, 29, 34, 34, 39, 39, 44, 44, 44, 54, 54, 69, 69, 69, 76, 76, 76, 82, 82, 82, 88, 88, 88]), (152, .aload_n 0, 1, []), (153, .invokestatic 125, 3, [8, 215, 1, 0, 870, 871, 34, 872]), (156, .ireturn, 1, []), (157, .aload_n 0, 1, []), (158, .iload_n 3, 1, []), (159, .iload 4, 2, []), (161, .invokestatic 127, 3, [8, 216, 3, 0, 203, 204, 34, 205]), (164, .ireturn, 1, []), (165, .aload_n 0, 1, []), (166, .iload_n 3, 1, []), (167, .iload 5, 2, []), (169, .invokestatic 130, 3, [8, 217, 3, 0, 885, 886, 34, 887]), (172, .ireturn, 1, []), (173, .aload_n 0, 1, []), (174, .iload 4, 2, []), (176, .iload_n 3, 1, []), (177, .invokestatic 151, 3, [8, 218, 3, 0, 956, 957, 34, 958]), (180, .ireturn, 1, []), (181, .aload_n 0, 1, []), (182, .iload 4, 2, []), (184, .iload_n 3, 1, []), (185, .iconst 1, 1, []), (186, .iload 5, 2, []), (188, .bipush 62, 2, []), (190, .irem, 1, []), (191, .iadd, 1, []), (192, .invokestatic 134, 3, [8, 219, 4, 0, 306, 307, 34, 308]), (195, .ireturn, 1, []), (196, .aload_n 0, 1, []), (197, .iload 4, 2, []), (199, .iload_n 3, 1, []), (200, .iconst 1, 1, []), (201, .iload 5, 2, []), (203, .bipush 60, 2, []), (205, .irem, 1, []), (206, .iadd, 1, []), (207, .aload_n 0, 1, []), (208, .iload 5, 2, []), (210, .bipush 10, 2, []), (212, .irem, 1, []), (213, .invokestatic 153, 3, [0, 240, 2, 0, 939, 940, 34, 941]), (216, .invokestatic 137, 3, [8, 220, 5, 0, 901, 902, 34, 903]), (219, .ireturn, 1, []), (220, .aload_n 0, 1, []), (221, .iload 5, 2, []), (223, .bipush 22, 2, []), (225, .irem, 1, []), (226, .iload_n 3, 1, []), (227, .invokestatic 132, 3, [8, 221, 3, 0, 343, 344, 34, 345]), (230, .ireturn, 1, []), (231, .aload_n 0, 1, []), (232, .aload_n 0, 1, []), (233, .iload_n 3, 1, []), (234, .invokestatic 153, 3, [0, 240, 2, 0, 939, 940, 34, 941]), (237, .invokestatic 140, 3, [8, 222, 2, 0, 913, 914, 34, 915]), (240, .ireturn, 1, []), (241, .aload_n 0, 1, []), (242, .aload_n 0, 1, []), (243, .iload_n 3, 1, []), (244, .invokestatic 153, 3, [0, 240, 2, 0, 939, 940, 34, 941]), (247, .invokestatic 156, 3, [8, 236, 2, 0, 512, 513, 34, 514]), (250, .ireturn, 1, []), (251, .aload_n 0, 1, []), (252, .iload 4, 2, []), (254, .invokestatic 143, 3, [8, 223, 2, 0, 358, 359, 34, 360]), (257, .ireturn, 1, []), (258, .aload_n 0, 1, []), (259, .iload 5, 2, []), (261, .iconst 4, 1, []), (262, .irem, 1, []), (263, .ifCond .ne 35, 3, [110]), (266, .new 158, 3, [0, 2, 971, 771, 46]), (269, .dup, 1, []), (270, .invokespecial 160, 3, [2, 0, 1, 0, 972, 773, 46, 774]), (273, .ldc 161, 2, [1, 3, 973]), (275, .invokevirtual 163, 3, [1, 12, 2, 2, 974, 975, 976, 46, 977]), (278, .iload_n 3, 1, []), (279, .invokevirtual 167, 3, [1, 19, 2, 2, 1090, 1091, 1092, 46, 1093]), (282, .iload 4, 2, []), (284, .invokevirtual 167, 3, [1, 19, 2, 2, 1090, 1091, 1092, 46, 1093]), (287, .ldc 170, 2, [1, 5, 1115]), (289, .invokevirtual 163, 3, [1, 12, 2, 2, 974, 975, 976, 46, 977]), (292, .invokevirtual 172, 3, [1, 207, 1, 2, 1116, 1117, 1118, 46, 1119]), (295, .goto 156, 3, [180]), (298, .iload 5, 2, []), (300, .iconst 4, 1, []), (301, .irem, 1, []), (302, .iconst 1, 1, []), (303, .if_icmp .ne 41, 3, [132]), (306, .new 158, 3, [0, 2, 971, 771, 46]), (309, .dup, 1, []), (310, .invokespecial 160, 3, [2, 0, 1, 0, 972, 773, 46, 774]), (313, .ldc 176, 2, [1, 7, 1182]), (315, .invokevirtual 163, 3, [1, 12, 2, 2, 974, 975, 976, 46, 977])]
def tb_241_1 : List qq_E := [(318, .iconst 1, 1, []), (319, .iload 4, 2, []), (321, .iadd, 1, []), (322, .invokevirtual 167, 3, [1, 19, 2, 2, 1090, 1091, 1092, 46, 1093]), (325, .ldc 178, 2, [1, 9, 1183]), (327, .invokevirtual 163, 3, [1, 12, 2, 2, 974, 975, 976, 46, 977]), (330, .aload_n 0, 1, []), (331, .iload_n 3, 1, []), (332, .invokestatic 153, 3, [0, 240, 2, 0, 939, 940, 34, 941]), (335, .invokevirtual 167, 3, [1, 19, 2, 2, 1090, 1091, 1092, 46, 1093]), (338, .invokevirtual 172, 3, [1, 207, 1, 2, 1116, 1117, 1118, 46, 1119]), (341, .goto 110, 3, [180]), (344, .iload 5, 2, []), (346, .iconst 4, 1, []), (347, .irem, 1, []), (348, .iconst 2, 1, []), (349, .if_icmp .ne 64, 3, [164]), (352, .new 158, 3, [0, 2, 971, 771, 46]), (355, .dup, 1, []), (356, .invokespecial 160, 3, [2, 0, 1, 0, 972, 773, 46, 774]), (359, .ldc 180, 2, [1, 11, 1184]), (361, .invokevirtual 163, 3, [1, 12, 2, 2, 974, 975, 976, 46, 977]), (364, .iload 4, 2, []), (366, .invokevirtual 167, 3, [1, 19, 2, 2, 1090, 1091, 1092, 46, 1093]), (369, .ldc 182, 2, [1, 13, 1185]), (371, .invokevirtual 163, 3, [1, 12, 2, 2, 974, 975, 976, 46, 977]), (374, .iconst 1, 1, []), (375, .iload 5, 2, []), (377, .bipush 60, 2, []), (379, .irem, 1, []), (380, .iadd, 1, []), (381, .invokevirtual 167, 3, [1, 19, 2, 2, 1090, 1091, 1092, 46, 1093]), (384, .ldc 184, 2, [1, 15, 1186]), (386, .invokevirtual 163, 3, [1, 12, 2, 2, 974, 975, 976, 46, 977]), (389, .iload 4, 2, []), (391, .invokevirtual 167, 3, [1, 19, 2, 2, 1090, 1091, 1092, 46, 1093]), (394, .ldc 186, 2, [1, 17, 1187]), (396, .invokevirtual 163, 3, [1, 12, 2, 2, 974, 975, 976, 46, 977]), (399, .aload_n 0, 1, []), (400, .iload_n 3, 1, []), (401, .invokestatic 153, 3, [0, 240, 2, 0, 939, 940, 34, 941]), (404, .invokevirtual 167, 3, [1, 19, 2, 2, 1090, 1091, 1092, 46, 1093]), (407, .invokevirtual 172, 3, [1, 207, 1, 2, 1116, 1117, 1118, 46, 1119]), (410, .goto 41, 3, [180]), (413, .new 158, 3, [0, 2, 971, 771, 46]), (416, .dup, 1, []), (417, .invokespecial 160, 3, [2, 0, 1, 0, 972, 773, 46, 774]), (420, .ldc 180, 2, [1, 11, 1184]), (422, .invokevirtual 163, 3, [1, 12, 2, 2, 974, 975, 976, 46, 977]), (425, .iload 4, 2, []), (427, .invokevirtual 167, 3, [1, 19, 2, 2, 1090, 1091, 1092, 46, 1093]), (430, .ldc 188, 2, [1, 19, 1188]), (432, .invokevirtual 163, 3, [1, 12, 2, 2, 974, 975, 976, 46, 977]), (435, .aload_n 0, 1, []), (436, .iload_n 3, 1, []), (437, .invokestatic 153, 3, [0, 240, 2, 0, 939, 940, 34, 941]), (440, .invokevirtual 167, 3, [1, 19, 2, 2, 1090, 1091, 1092, 46, 1093]), (443, .ldc 190, 2, [1, 21, 1189]), (445, .invokevirtual 163, 3, [1, 12, 2, 2, 974, 975, 976, 46, 977]), (448, .invokevirtual 172, 3, [1, 207, 1, 2, 1116, 1117, 1118, 46, 1119]), (451, .invokestatic 192, 3, [0, 238, 2, 0, 1190, 1191, 34, 1192]), (454, .ireturn, 1, [])]
def tb_241 : List qq_E := tb_241_0 ++ (tb_241_1)
def tb_242_0 : List qq_E := [(0, .sipush 130, 3, []), (3, .newarray .int, 2, [100, 605]), (5, .astore_n 1, 1, []), (6, .aload_n 1, 1, []), (7, .iconst 0, 1, []), (8, .aload_n 0, 1, []), (9, .invokevirtual 196, 3, [1, 173, 1, 12, 1383, 1384, 1385, 35, 1386]), (12, .iastore, 1, []), (13, .aload_n 1, 1, []), (14, .iconst 1, 1, []), (15, .aload_n 0, 1, []), (16, .invokevirtual 199, 3, [1, 172, 1, 12, 1387, 1388, 1389, 35, 1390]), (19, .iastore, 1, []), (20, .aload_n 1, 1, []), (21, .iconst 2, 1, []), (22, .aload_n 0, 1, []), (23, .invokevirtual 202, 3, [1, 174, 1, 12, 1391, 1392, 1393, 35, 1394]), (26, .iastore, 1, []), (27, .aload_n 1, 1, []), (28, .iconst 3, 1, []), (29, .aload_n 0, 1, []), (30, .invokevirtual 205, 3, [1, 175, 1, 12, 1395, 1396, 1397, 35, 1398]), (33, .iastore, 1, []), (34, .aload_n 1, 1, []), (35, .iconst 4, 1, []), (36, .aload_n 0, 1, []), (37, .invokevirtual 208, 3, [1, 176, 1, 12, 1399, 1400, 1401, 35, 1402]), (40, .iastore, 1, []), (41, .aload_n 1, 1, []), (42, .iconst 5, 1, []), (43, .aload_n 0, 1, []), (44, .invokevirtual 211, 3, [1, 140, 1, 12, 1403, 1404, 1405, 35, 1406]), (47, .iastore, 1, []), (48, .aload_n 1, 1, []), (49, .bipush 6, 2, []), (51, .aload_n 0, 1, []), (52, .invokevirtual 214, 3, [1, 147, 1, 12, 1407, 1408, 1409, 35, 1410]), (55, .iastore, 1, []), (56, .aload_n 1, 1, []), (57, .bipush 7, 2, []), (59, .aload_n 0, 1, []), (60, .invokevirtual 146, 3, [1, 155, 1, 12, 942, 943, 944, 35, 945]), (63, .iastore, 1, []), (64, .aload_n 1, 1, []), (65, .bipush 8, 2, []), (67, .aload_n 0, 1, []), (68, .invokevirtual 217, 3, [1, 164, 1, 12, 1411, 1412, 1413, 35, 1414]), (71, .iastore, 1, []), (72, .iconst 0, 1, []), (73, .istore_n 2, 1, []), (74, .iload_n 2, 1, []), (75, .aload_n 0, 1, []), (76, .invokevirtual 211, 3, [1, 140, 1, 12, 1403, 1404, 1405, 35, 1406]), (79, .if_icmp .ge 20, 3, [64]), (82, .aload_n 1, 1, []), (83, .bipush 10, 2, []), (85, .iload_n 2, 1, []), (86, .iadd, 1, []), (87, .aload_n 0, 1, []), (88, .iload_n 2, 1, []), (89, .invokevirtual 220, 3, [1, 141, 2, 12, 1427, 1428, 1429, 35, 1430]), (92, .iastore, 1, []), (93, .iinc 2 1, 3, []), (96, .goto (-22), 3, [50]), (99, .iconst 0, 1, []), (100, .istore_n 2, 1, []), (101, .iload_n 2, 1, []), (102, .aload_n 0, 1, []), (103, .invokevirtual 214, 3, [1, 147, 1, 12, 1407, 1408, 1409, 35, 1410]), (106, .if_icmp .ge 69, 3, [116]), (109, .aload_n 1, 1, []), (110, .bipush 20, 2, []), (112, .iconst 4, 1, []), (113, .iload_n 2, 1, []), (114, .imul, 1, []), (115, .iadd, 1, []), (116, .aload_n 0, 1, []), (117, .iload_n 2, 1, []), (118, .invokevirtual 223, 3, [1, 148, 2, 12, 1431, 1432, 1433, 35, 1434]), (121, .iastore, 1, []), (122, .aload_n 1, 1, []), (123, .bipush 21, 2, []), (125, .iconst 4, 1, []), (126, .iload_n 2, 1, []), (127, .imul, 1, []), (128, .iadd, 1, []), (129, .aload_n 0, 1, []), (130, .iload_n 2, 1, []), (131, .invokevirtual 226, 3, [1, 149, 2, 12, 1435, 1436, 1437, 35, 1438]), (134, .iastore, 1, []), (135, .aload_n 1, 1, []), (136, .bipush 22, 2, []), (138, .iconst 4, 1, []), (139, .iload_n 2, 1, []), (140, .imul, 1, []), (141, .iadd, 1, []), (142, .aload_n 0, 1, []), (143, .iload_n 2, 1, []), (144, .invokevirtual 229, 3, [1, 150, 2, 12, 1439, 1440, 1441, 35, 1442]), (147, .iastore, 1, []), (148, .aload_n 1, 1, []), (149, .bipush 23, 2, []), (151, .iconst 4, 1, []), (152, .iload_n 2, 1, []), (153, .imul, 1, []), (154, .iadd, 1, []), (155, .aload_n 0, 1, []), (156, .iload_n 2, 1, []), (157, .invokevirtual 232, 3, [1, 151, 2, 12, 1443, 1444, 1445, 35, 1446]), (160, .ifCond .eq 7, 3, [112]), (163, .iconst 1, 1, []), (164, .goto 4, 3, [113]), (167, .iconst 0, 1, []), (168, .iastore, 1, []), (169, .iinc 2 1, 3, []), (172, .goto (-71), 3, [66]), (175, .iconst 0, 1, []), (176, .istore_n 2, 1, []), (177, .iload_n 2, 1, []), (178, .aload_n 0, 1, [])]
def tb_242_1 : List qq_E := [(179, .invokevirtual 146, 3, [1, 155, 1, 12, 942, 943, 944, 35, 945]), (182, .if_icmp .ge 103, 3, [190]), (185, .aload_n 0, 1, []), (186, .iload_n 2, 1, []), (187, .invokevirtual 66, 3, [1, 156, 2, 12, 949, 950, 951, 35, 952]), (190, .istore_n 3, 1, []), (191, .aload_n 1, 1, []), (192, .bipush 46, 2, []), (194, .bipush 6, 2, []), (196, .iload_n 2, 1, []), (197, .imul, 1, []), (198, .iadd, 1, []), (199, .iload_n 3, 1, []), (200, .iastore, 1, []), (201, .aload_n 1, 1, []), (202, .bipush 47, 2, []), (204, .bipush 6, 2, []), (206, .iload_n 2, 1, []), (207, .imul, 1, []), (208, .iadd, 1, []), (209, .aload_n 0, 1, []), (210, .iload_n 3, 1, []), (211, .invokevirtual 236, 3, [1, 157, 2, 12, 1448, 1449, 1450, 35, 1451]), (214, .iastore, 1, []), (215, .aload_n 1, 1, []), (216, .bipush 48, 2, []), (218, .bipush 6, 2, []), (220, .iload_n 2, 1, []), (221, .imul, 1, []), (222, .iadd, 1, []), (223, .aload_n 0, 1, []), (224, .iload_n 3, 1, []), (225, .invokevirtual 239, 3, [1, 158, 2, 12, 1457, 1458, 1459, 35, 1460]), (228, .iastore, 1, []), (229, .aload_n 1, 1, []), (230, .bipush 49, 2, []), (232, .bipush 6, 2, []), (234, .iload_n 2, 1, []), (235, .imul, 1, []), (236, .iadd, 1, []), (237, .aload_n 0, 1, []), (238, .iload_n 3, 1, []), (239, .invokevirtual 242, 3, [1, 159, 2, 12, 1461, 1462, 1463, 35, 1464]), (242, .iastore, 1, []), (243, .aload_n 1, 1, []), (244, .bipush 50, 2, []), (246, .bipush 6, 2, []), (248, .iload_n 2, 1, []), (249, .imul, 1, []), (250, .iadd, 1, []), (251, .aload_n 0, 1, []), (252, .iload_n 3, 1, []), (253, .invokevirtual 245, 3, [1, 160, 2, 12, 1465, 1466, 1467, 35, 1468]), (256, .ifCond .eq 7, 3, [176]), (259, .iconst 1, 1, []), (260, .goto 4, 3, [177]), (263, .iconst 0, 1, []), (264, .iastore, 1, []), (265, .aload_n 1, 1, []), (266, .bipush 51, 2, []), (268, .bipush 6, 2, []), (270, .iload_n 2, 1, []), (271, .imul, 1, []), (272, .iadd, 1, []), (273, .aload_n 0, 1, []), (274, .iload_n 3, 1, []), (275, .invokestatic 248, 3, [8, 228, 2, 0, 1469, 1470, 34, 1471]), (278, .iastore, 1, []), (279, .iinc 2 1, 3, []), (282, .goto (-105), 3, [118]), (285, .iconst 1, 1, []), (286, .istore_n 2, 1, []), (287, .iload_n 2, 1, []), (288, .bipush 20, 2, []), (290, .if_icmp .gt 20, 3, [205]), (293, .aload_n 1, 1, []), (294, .bipush 100, 2, []), (296, .iload_n 2, 1, []), (297, .iadd, 1, []), (298, .aload_n 0, 1, []), (299, .iload_n 2, 1, []), (300, .invokevirtual 250, 3, [1, 167, 2, 12, 1476, 1477, 1478, 35, 1479]), (303, .iastore, 1, []), (304, .iinc 2 1, 3, []), (307, .goto (-20), 3, [192]), (310, .aload_n 1, 1, []), (311, .areturn, 1, [])]
def tb_242 : List qq_E := tb_242_0 ++ (tb_242_1)
def tb_243 : List qq_E := [(0, .iconst 0, 1, []), (1, .istore_n 2, 1, []), (2, .iload_n 2, 1, []), (3, .aload_n 0, 1, []), (4, .arraylength, 1, []), (5, .if_icmp .ge 20, 3, [17]), (8, .aload_n 0, 1, []), (9, .iload_n 2, 1, []), (10, .iaload, 1, []), (11, .aload_n 1, 1, []), (12, .iload_n 2, 1, []), (13, .iaload, 1, []), (14, .if_icmp .eq 5, 3, [15]), (17, .iconst 0, 1, []), (18, .ireturn, 1, []), (19, .iinc 2 1, 3, []), (22, .goto (-20), 3, [2]), (25, .iconst 1, 1, []), (26, .ireturn, 1, [])]
def tb_244_0 : List qq_E := [(0, .iconst 0, 1, []), (1, .istore_n 3, 1, []), (2, .iload_n 3, 1, []), (3, .aload_n 0, 1, []), (4, .invokevirtual 211, 3, [1, 140, 1, 12, 1403, 1404, 1405, 35, 1406]), (7, .if_icmp .ge 112, 3, [63]), (10, .aload_n 0, 1, []), (11, .iload_n 3, 1, []), (12, .iload_n 1, 1, []), (13, .invokevirtual 253, 3, [1, 144, 3, 12, 70, 71, 72, 35, 73]), (16, .istore 4, 2, []), (18, .aload_n 0, 1, []), (19, .iload_n 3, 1, []), (20, .invokevirtual 256, 3, [1, 146, 2, 12, 1486, 1487, 1488, 35, 1489]), (23, .istore 5, 2, []), (25, .aload_n 0, 1, []), (26, .iload_n 3, 1, []), (27, .invokestatic 259, 3, [8, 224, 2, 0, 1495, 1496, 34, 1497]), (30, .istore 6, 2, []), (32, .iload 4, 2, []), (34, .aload_n 0, 1, []), (35, .iload_n 3, 1, []), (36, .iload_n 1, 1, []), (37, .invokevirtual 261, 3, [1, 145, 3, 12, 1503, 1504, 1505, 35, 1506]), (40, .if_icmp .ne 71, 3, [59]), (43, .aload_n 0, 1, []), (44, .iload_n 3, 1, []), (45, .bipush 8, 2, []), (47, .iload 5, 2, []), (49, .iadd, 1, []), (50, .invokevirtual 253, 3, [1, 144, 3, 12, 70, 71, 72, 35, 73]), (53, .aload_n 0, 1, []), (54, .iload_n 3, 1, []), (55, .bipush 8, 2, []), (57, .invokevirtual 253, 3, [1, 144, 3, 12, 70, 71, 72, 35, 73]), (60, .if_icmp .ne 51, 3, [59]), (63, .iload 5, 2, []), (65, .iconst 1, 1, []), (66, .if_icmp .lt 45, 3, [59]), (69, .iload 5, 2, []), (71, .aload_n 0, 1, []), (72, .invokevirtual 211, 3, [1, 140, 1, 12, 1403, 1404, 1405, 35, 1406]), (75, .if_icmp .gt 36, 3, [59]), (78, .aload_n 0, 1, []), (79, .iload_n 3, 1, []), (80, .invokevirtual 264, 3, [1, 142, 2, 12, 1516, 1517, 1518, 35, 1519]), (83, .iload 6, 2, []), (85, .ifCond .ge 7, 3, [50]), (88, .iconst 1, 1, []), (89, .goto 4, 3, [51]), (92, .iconst 0, 1, []), (93, .if_icmp .ne 18, 3, [59]), (96, .iload 6, 2, []), (98, .ifCond .lt 15, 3, [61]), (101, .aload_n 0, 1, []), (102, .iload 6, 2, []), (104, .invokevirtual 223, 3, [1, 148, 2, 12, 1431, 1432, 1433, 35, 1434]), (107, .iload_n 3, 1, []), (108, .if_icmp .eq 5, 3, [61]), (111, .iconst 0, 1, []), (112, .ireturn, 1, []), (113, .iinc 3 1, 3, []), (116, .goto (-114), 3, [2]), (119, .iconst 0, 1, []), (120, .istore_n 3, 1, []), (121, .iload_n 3, 1, []), (122, .aload_n 0, 1, []), (123, .invokevirtual 214, 3, [1, 147, 1, 12, 1407, 1408, 1409, 35, 1410]), (126, .if_icmp .ge 118, 3, [128]), (129, .iconst 0, 1, []), (130, .istore 4, 2, []), (132, .iconst 0, 1, []), (133, .istore 5, 2, []), (135, .iload 5, 2, []), (137, .aload_n 0, 1, []), (138, .invokevirtual 146, 3, [1, 155, 1, 12, 942, 943, 944, 35, 945]), (141, .if_icmp .ge 46, 3, [98]), (144, .iload 4, 2, []), (146, .aload_n 0, 1, []), (147, .aload_n 0, 1, []), (148, .iload 5, 2, []), (150, .invokevirtual 66, 3, [1, 156, 2, 12, 949, 950, 951, 35, 952]), (153, .invokevirtual 236, 3, [1, 157, 2, 12, 1448, 1449, 1450, 35, 1451]), (156, .iload_n 3, 1, []), (157, .if_icmp .ne 20, 3, [93]), (160, .aload_n 0, 1, []), (161, .aload_n 0, 1, []), (162, .iload 5, 2, []), (164, .invokevirtual 66, 3, [1, 156, 2, 12, 949, 950, 951, 35, 952]), (167, .invokevirtual 245, 3, [1, 160, 2, 12, 1465, 1466, 1467, 35, 1468]), (170, .ifCond .ne 7, 3, [93]), (173, .iconst 1, 1, []), (174, .goto 4, 3, [94]), (177, .iconst 0, 1, []), (178, .ior, 1, []), (179, .istore 4, 2, []), (181, .iinc 5 1, 3, []), (184, .goto (-49), 3, [73]), (187, .aload_n 0, 1, []), (188, .iload_n 3, 1, []), (189, .invokevirtual 232, 3, [1, 151, 2, 12, 1443, 1444, 1445, 35, 1446]), (192, .iload 4, 2, []), (194, .if_icmp .ne 42, 3, [124]), (197, .aload_n 0, 1, []), (198, .aload_n 0, 1, []), (199, .iload_n 3, 1, []), (200, .invokevirtual 223, 3, [1, 148, 2, 12, 1431, 1432, 1433, 35, 1434]), (203, .invokestatic 259, 3, [8, 224, 2, 0, 1495, 1496, 34, 1497]), (206, .iload_n 3, 1, []), (207, .if_icmp .ne 29, 3, [124]), (210, .aload_n 0, 1, []), (211, .iload_n 3, 1, []), (212, .invokevirtual 267, 3, [1, 152, 2, 12, 1520, 1521, 1522, 35, 1523]), (215, .aload_n 0, 1, []), (216, .iload_n 3, 1, []), (217, .invokevirtual 223, 3, [1, 148, 2, 12, 1431, 1432, 1433, 35, 1434]), (220, .aload_n 0, 1, []), (221, .iload_n 3, 1, []), (222, .invokevirtual 226, 3, [1, 149, 2, 12, 1435, 1436, 1437, 35, 1438]), (225, .if_icmp .ne 7, 3, [122])]
def tb_244_1 : List qq_E := [(228, .iconst 1, 1, []), (229, .goto 4, 3, [123]), (232, .iconst 0, 1, []), (233, .if_icmp .eq 5, 3, [126]), (236, .iconst 0, 1, []), (237, .ireturn, 1, []), (238, .iinc 3 1, 3, []), (241, .goto (-120), 3, [65]), (244, .iconst 0, 1, []), (245, .istore_n 3, 1, []), (246, .iconst 0, 1, []), (247, .istore 4, 2, []), (249, .iconst 0, 1, []), (250, .istore 5, 2, []), (252, .iconst 0, 1, []), (253, .istore 6, 2, []), (255, .iconst 0, 1, []), (256, .istore 7, 2, []), (258, .iload 7, 2, []), (260, .aload_n 0, 1, []), (261, .invokevirtual 146, 3, [1, 155, 1, 12, 942, 943, 944, 35, 945]), (264, .if_icmp .ge 156, 3, [219]), (267, .aload_n 0, 1, []), (268, .iload 7, 2, []), (270, .invokevirtual 66, 3, [1, 156, 2, 12, 949, 950, 951, 35, 952]), (273, .istore 8, 2, []), (275, .aload_n 0, 1, []), (276, .iload 8, 2, []), (278, .invokestatic 248, 3, [8, 228, 2, 0, 1469, 1470, 34, 1471]), (281, .istore 9, 2, []), (283, .iload_n 3, 1, []), (284, .aload_n 0, 1, []), (285, .iload 8, 2, []), (287, .invokevirtual 245, 3, [1, 160, 2, 12, 1465, 1466, 1467, 35, 1468]), (290, .ifCond .eq 12, 3, [159]), (293, .aload_n 0, 1, []), (294, .iload 8, 2, []), (296, .invokevirtual 242, 3, [1, 159, 2, 12, 1461, 1462, 1463, 35, 1464]), (299, .goto 4, 3, [160]), (302, .iconst 0, 1, []), (303, .iadd, 1, []), (304, .istore_n 3, 1, []), (305, .iload 4, 2, []), (307, .aload_n 0, 1, []), (308, .iload 8, 2, []), (310, .invokevirtual 242, 3, [1, 159, 2, 12, 1461, 1462, 1463, 35, 1464]), (313, .iadd, 1, []), (314, .istore 4, 2, []), (316, .iload 5, 2, []), (318, .aload_n 0, 1, []), (319, .iload 8, 2, []), (321, .invokevirtual 270, 3, [1, 163, 2, 12, 1525, 1526, 1527, 35, 1528]), (324, .iadd, 1, []), (325, .istore 5, 2, []), (327, .iload 6, 2, []), (329, .aload_n 0, 1, []), (330, .iload 8, 2, []), (332, .invokevirtual 72, 3, [1, 162, 2, 12, 1536, 1537, 1538, 35, 1539]), (335, .iadd, 1, []), (336, .istore 6, 2, []), (338, .aload_n 0, 1, []), (339, .iload 8, 2, []), (341, .invokevirtual 239, 3, [1, 158, 2, 12, 1457, 1458, 1459, 35, 1460]), (344, .aload_n 0, 1, []), (345, .invokevirtual 196, 3, [1, 173, 1, 12, 1383, 1384, 1385, 35, 1386]), (348, .if_icmp .lt 64, 3, [215]), (351, .iload 9, 2, []), (353, .ifCond .lt 27, 3, [200]), (356, .iload 9, 2, []), (358, .iload 8, 2, []), (360, .if_icmp .ge 52, 3, [215]), (363, .aload_n 0, 1, []), (364, .iload 9, 2, []), (366, .invokestatic 273, 3, [8, 229, 2, 0, 1544, 1545, 34, 1546]), (369, .iconst 1, 1, []), (370, .iadd, 1, []), (371, .aload_n 0, 1, []), (372, .iload 8, 2, []), (374, .invokevirtual 72, 3, [1, 162, 2, 12, 1536, 1537, 1538, 35, 1539]), (377, .if_icmp .ne 35, 3, [215]), (380, .iload 9, 2, []), (382, .ifCond .ge 12, 3, [206]), (385, .aload_n 0, 1, []), (386, .iload 8, 2, []), (388, .invokevirtual 72, 3, [1, 162, 2, 12, 1536, 1537, 1538, 35, 1539]), (391, .ifCond .ne 21, 3, [215]), (394, .iload 7, 2, []), (396, .ifCond .le 18, 3, [217]), (399, .aload_n 0, 1, []), (400, .iload 7, 2, []), (402, .iconst 1, 1, []), (403, .isub, 1, []), (404, .invokevirtual 66, 3, [1, 156, 2, 12, 949, 950, 951, 35, 952]), (407, .iload 8, 2, []), (409, .if_icmp .lt 5, 3, [217]), (412, .iconst 0, 1, []), (413, .ireturn, 1, []), (414, .iinc 7 1, 3, []), (417, .goto (-159), 3, [138]), (420, .aload_n 0, 1, []), (421, .invokevirtual 199, 3, [1, 172, 1, 12, 1387, 1388, 1389, 35, 1390]), (424, .istore 7, 2, []), (426, .iconst 1, 1, []), (427, .istore 8, 2, []), (429, .iload 8, 2, []), (431, .bipush 20, 2, []), (433, .if_icmp .gt 23, 3, [237]), (436, .iload 7, 2, []), (438, .iload 8, 2, []), (440, .aload_n 0, 1, []), (441, .iload 8, 2, []), (443, .invokevirtual 250, 3, [1, 167, 2, 12, 1476, 1477, 1478, 35, 1479]), (446, .imul, 1, []), (447, .iadd, 1, []), (448, .istore 7, 2, []), (450, .iinc 8 1, 3, []), (453, .goto (-24), 3, [224]), (456, .aload_n 0, 1, []), (457, .invokevirtual 217, 3, [1, 164, 1, 12, 1411, 1412, 1413, 35, 1414]), (460, .istore 8, 2, [])]
def tb_244_2 : List qq_E := [(462, .aload_n 0, 1, []), (463, .iload_n 2, 1, []), (464, .invokestatic 275, 3, [8, 231, 2, 0, 463, 464, 34, 465]), (467, .aload_n 0, 1, []), (468, .iload_n 2, 1, []), (469, .invokestatic 277, 3, [8, 232, 2, 0, 1547, 1548, 34, 1549]), (472, .if_icmp .ne 7, 3, [249]), (475, .iconst 1, 1, []), (476, .goto 4, 3, [250]), (479, .iconst 0, 1, []), (480, .istore 9, 2, []), (482, .iload 9, 2, []), (484, .ifCond .eq 63, 3, [280]), (487, .iload 5, 2, []), (489, .iload 6, 2, []), (491, .if_icmp .ne 56, 3, [280]), (494, .iload 8, 2, []), (496, .aload_n 0, 1, []), (497, .invokevirtual 279, 3, [1, 165, 1, 12, 1565, 1566, 1567, 35, 1568]), (500, .if_icmp .ne 47, 3, [280]), (503, .iload 8, 2, []), (505, .iload 4, 2, []), (507, .if_icmp .gt 40, 3, [280]), (510, .aload_n 0, 1, []), (511, .invokevirtual 199, 3, [1, 172, 1, 12, 1387, 1388, 1389, 35, 1390]), (514, .iload_n 3, 1, []), (515, .if_icmp .lt 32, 3, [280]), (518, .iload 7, 2, []), (520, .aload_n 0, 1, []), (521, .invokevirtual 282, 3, [1, 170, 1, 12, 1578, 1579, 1580, 35, 1581]), (524, .if_icmp .ne 23, 3, [280]), (527, .iload 7, 2, []), (529, .aload_n 0, 1, []), (530, .invokevirtual 285, 3, [1, 171, 1, 12, 1589, 1590, 1591, 35, 1592]), (533, .if_icmp .ne 14, 3, [280]), (536, .aload_n 0, 1, []), (537, .invokevirtual 288, 3, [1, 179, 1, 12, 1597, 1598, 1599, 35, 1600]), (540, .ifCond .eq 7, 3, [280]), (543, .iconst 1, 1, []), (544, .goto 4, 3, [281]), (547, .iconst 0, 1, []), (548, .ireturn, 1, [])]
def tb_244 : List qq_E := tb_244_0 ++ (tb_244_1 ++ (tb_244_2))
def tb_245_0 : List qq_E := [(0, .aload_n 0, 1, []), (1, .invokestatic 292, 3, [0, 239, 1, 0, 549, 550, 34, 551]), (4, .astore_n 1, 1, []), (5, .aload_n 0, 1, []), (6, .bipush 60, 2, []), (8, .sipush 10000, 3, []), (11, .invokestatic 121, 3, [0, 237, 3, 0, 540, 541, 34, 542]), (14, .istore_n 2, 1, []), (15, .iconst 1, 1, []), (16, .aload_n 0, 1, []), (17, .bipush 61, 2, []), (19, .bipush 60, 2, []), (21, .invokestatic 121, 3, [0, 237, 3, 0, 540, 541, 34, 542]), (24, .iadd, 1, []), (25, .istore_n 3, 1, []), (26, .aload_n 1, 1, []), (27, .ifnull 12, 3, [22]), (30, .aload_n 1, 1, []), (31, .iload_n 2, 1, []), (32, .iload_n 3, 1, []), (33, .invokestatic 296, 3, [0, 244, 3, 0, 1483, 1484, 34, 1485]), (36, .ifCond .ne 5, 3, [24]), (39, .iconst 0, 1, []), (40, .ireturn, 1, []), (41, .iconst 0, 1, []), (42, .istore 4, 2, []), (44, .iload 4, 2, []), (46, .bipush 7, 2, []), (48, .if_icmp .ge 109, 3, [81]), (51, .aload_n 1, 1, []), (52, .invokestatic 300, 3, [0, 242, 1, 0, 1380, 1381, 34, 1382]), (55, .astore 5, 2, []), (57, .aload_n 1, 1, []), (58, .aload_n 0, 1, []), (59, .bipush 62, 2, []), (61, .iconst 4, 1, []), (62, .iload 4, 2, []), (64, .imul, 1, []), (65, .iadd, 1, []), (66, .invokestatic 304, 3, [0, 241, 3, 0, 953, 954, 34, 955]), (69, .istore 6, 2, []), (71, .aload_n 1, 1, []), (72, .iload_n 2, 1, []), (73, .iload_n 3, 1, []), (74, .invokestatic 296, 3, [0, 244, 3, 0, 1483, 1484, 34, 1485]), (77, .ifCond .eq 30, 3, [57]), (80, .iload 6, 2, []), (82, .ldc 116, 2, [0, 4294067287, 1244]), (84, .if_icmp .eq 23, 3, [57]), (87, .iload 6, 2, []), (89, .ldc_w 308, 3, [0, 4294067296, 1617]), (92, .if_icmp .gt 17, 3, [59]), (95, .aload 5, 2, []), (97, .aload_n 1, 1, []), (98, .invokestatic 300, 3, [0, 242, 1, 0, 1380, 1381, 34, 1382]), (101, .invokestatic 309, 3, [0, 243, 2, 0, 1480, 1481, 34, 1482]), (104, .ifCond .ne 5, 3, [59]), (107, .iconst 0, 1, []), (108, .ireturn, 1, []), (109, .iload 6, 2, []), (111, .ldc_w 308, 3, [0, 4294067296, 1617]), (114, .if_icmp .le 37, 3, [79]), (117, .aload_n 0, 1, []), (118, .bipush 90, 2, []), (120, .iload 4, 2, []), (122, .iadd, 1, []), (123, .iconst 5, 1, []), (124, .invokestatic 121, 3, [0, 237, 3, 0, 540, 541, 34, 542]), (127, .ifCond .ne 24, 3, [79]), (130, .aload_n 1, 1, []), (131, .invokestatic 313, 3, [8, 234, 1, 0, 490, 491, 34, 492]), (134, .ifCond .lt 15, 3, [77]), (137, .aload 5, 2, []), (139, .aload_n 1, 1, []), (140, .invokestatic 300, 3, [0, 242, 1, 0, 1380, 1381, 34, 1382]), (143, .invokestatic 309, 3, [0, 243, 2, 0, 1480, 1481, 34, 1482]), (146, .ifCond .ne 5, 3, [79]), (149, .iconst 0, 1, []), (150, .ireturn, 1, []), (151, .iinc 4 1, 3, []), (154, .goto (-110), 3, [26]), (157, .aload_n 1, 1, []), (158, .invokestatic 300, 3, [0, 242, 1, 0, 1380, 1381, 34, 1382]), (161, .astore 4, 2, []), (163, .aload_n 1, 1, []), (164, .invokevirtual 315, 3, [1, 189, 1, 12, 178, 179, 180, 35, 181]), (167, .istore 5, 2, []), (169, .aload_n 1, 1, []), (170, .iconst 0, 1, []), (171, .invokestatic 318, 3, [8, 226, 2, 0, 421, 422, 34, 423]), (174, .aload_n 1, 1, []), (175, .iconst 0, 1, []), (176, .invokestatic 320, 3, [8, 225, 2, 0, 410, 411, 34, 412]), (179, .iadd, 1, []), (180, .aload_n 1, 1, []), (181, .iconst 0, 1, []), (182, .invokestatic 322, 3, [8, 230, 2, 0, 444, 445, 34, 446]), (185, .iadd, 1, []), (186, .aload_n 1, 1, []), (187, .iconst 0, 1, []), (188, .iconst 3, 1, []), (189, .invokevirtual 253, 3, [1, 144, 3, 12, 70, 71, 72, 35, 73]), (192, .iadd, 1, []), (193, .aload_n 1, 1, []), (194, .bipush 20, 2, []), (196, .invokestatic 275, 3, [8, 231, 2, 0, 463, 464, 34, 465]), (199, .iadd, 1, []), (200, .istore 6, 2, []), (202, .aload 4, 2, []), (204, .aload_n 1, 1, []), (205, .invokestatic 300, 3, [0, 242, 1, 0, 1380, 1381, 34, 1382]), (208, .invokestatic 309, 3, [0, 243, 2, 0, 1480, 1481, 34, 1482]), (211, .ifCond .ne 5, 3, [115]), (214, .iconst 0, 1, []), (215, .ireturn, 1, []), (216, .iload 6, 2, []), (218, .aload_n 1, 1, []), (219, .iconst 3, 1, []), (220, .iconst 2, 1, []), (221, .invokestatic 132, 3, [8, 221, 3, 0, 343, 344, 34, 345])]
def tb_245_1 : List qq_E := [(224, .aload_n 1, 1, []), (225, .iconst 0, 1, []), (226, .iconst 3, 1, []), (227, .bipush 9, 2, []), (229, .invokestatic 134, 3, [8, 219, 4, 0, 306, 307, 34, 308]), (232, .iadd, 1, []), (233, .aload_n 1, 1, []), (234, .iconst 2, 1, []), (235, .invokestatic 143, 3, [8, 223, 2, 0, 358, 359, 34, 360]), (238, .iadd, 1, []), (239, .aload_n 1, 1, []), (240, .aload_n 1, 1, []), (241, .iconst 0, 1, []), (242, .invokestatic 153, 3, [0, 240, 2, 0, 939, 940, 34, 941]), (245, .invokestatic 156, 3, [8, 236, 2, 0, 512, 513, 34, 514]), (248, .iadd, 1, []), (249, .aload_n 1, 1, []), (250, .iconst 0, 1, []), (251, .iconst 1, 1, []), (252, .invokestatic 127, 3, [8, 216, 3, 0, 203, 204, 34, 205]), (255, .iadd, 1, []), (256, .iadd, 1, []), (257, .istore 6, 2, []), (259, .iload 6, 2, []), (261, .ldc 145, 2, [0, 4204967296, 938]), (263, .if_icmp .le 37, 3, [161]), (266, .aload_n 1, 1, []), (267, .invokestatic 324, 3, [8, 235, 1, 0, 501, 502, 34, 503]), (270, .iload 5, 2, []), (272, .if_icmp .ne 28, 3, [161]), (275, .aload 4, 2, []), (277, .aload_n 1, 1, []), (278, .invokestatic 300, 3, [0, 242, 1, 0, 1380, 1381, 34, 1382]), (281, .invokestatic 309, 3, [0, 243, 2, 0, 1480, 1481, 34, 1482]), (284, .ifCond .eq 16, 3, [161]), (287, .aload_n 1, 1, []), (288, .invokestatic 313, 3, [8, 234, 1, 0, 490, 491, 34, 492]), (291, .ldc 17, 2, [0, 4294067295, 305]), (293, .if_icmp .ne 7, 3, [161]), (296, .iconst 1, 1, []), (297, .goto 4, 3, [162]), (300, .iconst 0, 1, []), (301, .ireturn, 1, [])]
def tb_245 : List qq_E := tb_245_0 ++ (tb_245_1)
def qq_tab : List (List qq_E) := [tb_0, tb_1, tb_2, tb_3, tb_4, tb_5, tb_6, tb_7, tb_8, tb_9, tb_10, tb_11, tb_12, tb_13, tb_14, tb_15, tb_16, tb_17, tb_18, tb_19, tb_20, tb_21, tb_22, tb_23, tb_24, tb_25, tb_26, tb_27, tb_28, tb_29, tb_30, tb_31, tb_32, tb_33, tb_34, tb_35, tb_36, tb_37, tb_38, tb_39, tb_40, tb_41, tb_42, tb_43, tb_44, tb_45, tb_46, tb_47, tb_48, tb_49, tb_50, tb_51, tb_52, tb_53, tb_54, tb_55, tb_56, tb_57, tb_58, tb_59, tb_60, tb_61, tb_62, tb_63, tb_64, tb_65, tb_66, tb_67, tb_68, tb_69, tb_70, tb_71, tb_72, tb_73, tb_74, tb_75, tb_76, tb_77, tb_78, tb_79, tb_80, tb_81, tb_82, tb_83, tb_84, tb_85, tb_86, tb_87, tb_88, tb_89, tb_90, tb_91, tb_92, tb_93, tb_94, tb_95, tb_96, tb_97, tb_98, tb_99, tb_100, tb_101, tb_102, tb_103, tb_104, tb_105, tb_106, tb_107, tb_108, tb_109, tb_110, tb_111, tb_112, tb_113, tb_114, tb_115, tb_116, tb_117, tb_118, tb_119, tb_120, tb_121, tb_122, tb_123, tb_124, tb_125, tb_126, tb_127, tb_128, tb_129, tb_130, tb_131, tb_132, tb_133, tb_134, tb_135, tb_136, tb_137, tb_138, tb_139, tb_140, tb_141, tb_142, tb_143, tb_144, tb_145, tb_146, tb_147, tb_148, tb_149, tb_150, tb_151, tb_152, tb_153, tb_154, tb_155, tb_156, tb_157, tb_158, tb_159, tb_160, tb_161, tb_162, tb_163, tb_164, tb_165, tb_166, tb_167, tb_168, tb_169, tb_170, tb_171, tb_172, tb_173, tb_174, tb_175, tb_176, tb_177, tb_178, tb_179, tb_180, tb_181, tb_182, tb_183, tb_184, tb_185, tb_186, tb_187, tb_188, tb_189, tb_190, tb_191, tb_192, tb_193, tb_194, tb_195, tb_196, tb_197, tb_198, tb_199, tb_200, tb_201, tb_202, tb_203, tb_204, tb_205, tb_206, tb_207, tb_208, tb_209, tb_210, tb_211, tb_212, tb_213, tb_214, tb_215, tb_216, tb_217, tb_218, tb_219, tb_220, tb_221, tb_222, tb_223, tb_224, tb_225, tb_226, tb_227, tb_228, tb_229, tb_230, tb_231, tb_232, tb_233, tb_234, tb_235, tb_236, tb_237, tb_238, tb_239, tb_240, tb_241, tb_242, tb_243, tb_244, tb_245]
def me_0 : MethodName × ByteArray × Nat × Option FieldType × List (Nat × Nat × Nat × Nat) × List (Nat × Nat × Nat × Nat) := (yJ4_init_da8c8, prog_32_method_1_code, 1, none, [], [])
def me_1 : MethodName × ByteArray × Nat × Option FieldType × List (Nat × Nat × Nat × Nat) × List (Nat × Nat × Nat × Nat) := (yJ5_init_d00df, prog_16_method_2_code, 2, none, [], [])
def me_2 : MethodName × ByteArray × Nat × Option FieldType × List (Nat × Nat × Nat × Nat) × List (Nat × Nat × Nat × Nat) := (yJ4_append_cf468, prog_32_method_14_code, 2, (some (.object "java/lang/StringBuilder")), [], [])
def me_3 : MethodName × ByteArray × Nat × Option FieldType × List (Nat × Nat × Nat × Nat) × List (Nat × Nat × Nat × Nat) := (yJ5_append_3fe6f, prog_16_method_31_code, 2, (some (.object "java/lang/AbstractStringBuilder")), [], [])
def me_4 : MethodName × ByteArray × Nat × Option FieldType × List (Nat × Nat × Nat × Nat) × List (Nat × Nat × Nat × Nat) := (yJ5_isLatin1_aae02, prog_16_method_68_code, 1, (some .boolean), [], [])
def me_5 : MethodName × ByteArray × Nat × Option FieldType × List (Nat × Nat × Nat × Nat) × List (Nat × Nat × Nat × Nat) := (yJ5_ensureCapacityInternal_d00df, prog_16_method_9_code, 3, none, [], [])
def me_6 : MethodName × ByteArray × Nat × Option FieldType × List (Nat × Nat × Nat × Nat) × List (Nat × Nat × Nat × Nat) := (yJ5_newCapacity_0f7a4, prog_16_method_10_code, 6, (some .int), [], [])
def me_7 : MethodName × ByteArray × Nat × Option FieldType × List (Nat × Nat × Nat × Nat) × List (Nat × Nat × Nat × Nat) := (yJ8_newLength_cabcc, prog_43_method_27_code, 4, (some .int), [], [])
def me_8 : MethodName × ByteArray × Nat × Option FieldType × List (Nat × Nat × Nat × Nat) × List (Nat × Nat × Nat × Nat) := (yJ9_max_7cf53, prog_28_method_65_code, 2, (some .int), [], [])
def me_9 : MethodName × ByteArray × Nat × Option FieldType × List (Nat × Nat × Nat × Nat) × List (Nat × Nat × Nat × Nat) := (yJ9_min_7cf53, prog_28_method_69_code, 2, (some .int), [], [])
def me_10 : MethodName × ByteArray × Nat × Option FieldType × List (Nat × Nat × Nat × Nat) × List (Nat × Nat × Nat × Nat) := (yJ7_copyOf_9075b, prog_41_method_121_code, 3, (some (.array .byte)), [], [])
def me_11 : MethodName × ByteArray × Nat × Option FieldType × List (Nat × Nat × Nat × Nat) × List (Nat × Nat × Nat × Nat) := (yJ1_canEncode_fc78d, prog_34_method_3_code, 1, (some .boolean), [], [])
def me_12 : MethodName × ByteArray × Nat × Option FieldType × List (Nat × Nat × Nat × Nat) × List (Nat × Nat × Nat × Nat) := (yJ4_append_15ec4, prog_32_method_7_code, 2, (some (.object "java/lang/StringBuilder")), [], [])
def me_13 : MethodName × ByteArray × Nat × Option FieldType × List (Nat × Nat × Nat × Nat) × List (Nat × Nat × Nat × Nat) := (yJ5_append_cf1ce, prog_16_method_22_code, 3, (some (.object "java/lang/AbstractStringBuilder")), [], [])
def me_14 : MethodName × ByteArray × Nat × Option FieldType × List (Nat × Nat × Nat × Nat) × List (Nat × Nat × Nat × Nat) := (yJ0_length_8abf5, prog_31_method_54_code, 1, (some .int), [], [])
def me_15 : MethodName × ByteArray × Nat × Option FieldType × List (Nat × Nat × Nat × Nat) × List (Nat × Nat × Nat × Nat) := (yJ0_coder_7d493, prog_31_method_152_code, 1, (some .byte), [], [])
def me_16 : MethodName × ByteArray × Nat × Option FieldType × List (Nat × Nat × Nat × Nat) × List (Nat × Nat × Nat × Nat) := (yJ5_putStringAt_47b60, prog_16_method_73_code, 3, none, [], [])
def me_17 : MethodName × ByteArray × Nat × Option FieldType × List (Nat × Nat × Nat × Nat) × List (Nat × Nat × Nat × Nat) := (yJ5_inflateIfNeededFor_a7421, prog_16_method_71_code, 2, none, [], [])
def me_18 : MethodName × ByteArray × Nat × Option FieldType × List (Nat × Nat × Nat × Nat) × List (Nat × Nat × Nat × Nat) := (yJ0_getBytes_840e7, prog_31_method_147_code, 4, none, [], [])
def me_19 : MethodName × ByteArray × Nat × Option FieldType × List (Nat × Nat × Nat × Nat) × List (Nat × Nat × Nat × Nat) := (yJ4_append_bf812, prog_32_method_15_code, 2, (some (.object "java/lang/StringBuilder")), [], [])
def me_20 : MethodName × ByteArray × Nat × Option FieldType × List (Nat × Nat × Nat × Nat) × List (Nat × Nat × Nat × Nat) := (yJ5_append_c97b9, prog_16_method_32_code, 4, (some (.object "java/lang/AbstractStringBuilder")), [], [])
def me_21 : MethodName × ByteArray × Nat × Option FieldType × List (Nat × Nat × Nat × Nat) × List (Nat × Nat × Nat × Nat) := (yJ6_stringSize_0f7a4, prog_27_method_13_code, 4, (some .int), [], [])
def me_22 : MethodName × ByteArray × Nat × Option FieldType × List (Nat × Nat × Nat × Nat) × List (Nat × Nat × Nat × Nat) := (yJ6_getChars_ba4f3, prog_27_method_12_code, 7, (some .int), [], [])
def me_23 : MethodName × ByteArray × Nat × Option FieldType × List (Nat × Nat × Nat × Nat) × List (Nat × Nat × Nat × Nat) := (yJ4_length_8abf5, prog_32_method_93_code, 1, (some .int), [], [])
def me_24 : MethodName × ByteArray × Nat × Option FieldType × List (Nat × Nat × Nat × Nat) × List (Nat × Nat × Nat × Nat) := (yJ5_length_8abf5, prog_16_method_6_code, 1, (some .int), [], [])
def me_25 : MethodName × ByteArray × Nat × Option FieldType × List (Nat × Nat × Nat × Nat) × List (Nat × Nat × Nat × Nat) := (yJ4_setLength_d00df, prog_32_method_89_code, 2, none, [], [])
def me_26 : MethodName × ByteArray × Nat × Option FieldType × List (Nat × Nat × Nat × Nat) × List (Nat × Nat × Nat × Nat) := (yJ5_setLength_d00df, prog_16_method_13_code, 2, none, [], [])
def me_27 : MethodName × ByteArray × Nat × Option FieldType × List (Nat × Nat × Nat × Nat) × List (Nat × Nat × Nat × Nat) := (yJ4_charAt_5068e, prog_32_method_88_code, 2, (some .char), [], [])
def me_28 : MethodName × ByteArray × Nat × Option FieldType × List (Nat × Nat × Nat × Nat) × List (Nat × Nat × Nat × Nat) := (yJ5_charAt_5068e, prog_16_method_14_code, 5, (some .char), [], [])
def me_29 : MethodName × ByteArray × Nat × Option FieldType × List (Nat × Nat × Nat × Nat) × List (Nat × Nat × Nat × Nat) := (yJ0_checkIndex_df160, prog_31_method_155_code, 2, none, [], [])
def me_30 : MethodName × ByteArray × Nat × Option FieldType × List (Nat × Nat × Nat × Nat) × List (Nat × Nat × Nat × Nat) := (yJ3_checkIndex_8e157, prog_44_method_11_code, 3, (some .int), [], [])
def me_31 : MethodName × ByteArray × Nat × Option FieldType × List (Nat × Nat × Nat × Nat) × List (Nat × Nat × Nat × Nat) := (yJ0_charAt_5068e, prog_31_method_56_code, 2, (some .char), [], [])
def me_32 : MethodName × ByteArray × Nat × Option FieldType × List (Nat × Nat × Nat × Nat) × List (Nat × Nat × Nat × Nat) := (yJ0_isLatin1_aae02, prog_31_method_154_code, 1, (some .boolean), [], [])
def me_33 : MethodName × ByteArray × Nat × Option FieldType × List (Nat × Nat × Nat × Nat) × List (Nat × Nat × Nat × Nat) := (yJ1_charAt_3b067, prog_34_method_2_code, 2, (some .char), [], [])
def me_34 : MethodName × ByteArray × Nat × Option FieldType × List (Nat × Nat × Nat × Nat) × List (Nat × Nat × Nat × Nat) := (yJ6_bitCount_0f7a4, prog_27_method_49_code, 1, (some .int), [], [])
def me_35 : MethodName × ByteArray × Nat × Option FieldType × List (Nat × Nat × Nat × Nat) × List (Nat × Nat × Nat × Nat) := (yJx29ce0_ordinal_8abf5, prog_22_method_2_code, 1, (some .int), [], [])
def me_36 : MethodName × ByteArray × Nat × Option FieldType × List (Nat × Nat × Nat × Nat) × List (Nat × Nat × Nat × Nat) := (yX2_init, prog_4_method_1_code, 1, none, [], [])
def me_37 : MethodName × ByteArray × Nat × Option FieldType × List (Nat × Nat × Nat × Nat) × List (Nat × Nat × Nat × Nat) := (yX2_positionAtRank, prog_4_method_2_code, 3, (some .int), [], [])
def me_38 : MethodName × ByteArray × Nat × Option FieldType × List (Nat × Nat × Nat × Nat) × List (Nat × Nat × Nat × Nat) := (yX2_valueByGivingUp, prog_4_method_3_code, 7, (some .int), [], [])
def me_39 : MethodName × ByteArray × Nat × Option FieldType × List (Nat × Nat × Nat × Nat) × List (Nat × Nat × Nat × Nat) := (yX2_giveUpSmallest, prog_4_method_4_code, 4, (some .int), [], [])
def me_40 : MethodName × ByteArray × Nat × Option FieldType × List (Nat × Nat × Nat × Nat) × List (Nat × Nat × Nat × Nat) := (yX2_valueByTryingSets, prog_4_method_5_code, 5, (some .int), [], [])
def me_41 : MethodName × ByteArray × Nat × Option FieldType × List (Nat × Nat × Nat × Nat) × List (Nat × Nat × Nat × Nat) := (yX2_valueOfSet, prog_4_method_6_code, 8, (some .int), [], [])
def me_42 : MethodName × ByteArray × Nat × Option FieldType × List (Nat × Nat × Nat × Nat) × List (Nat × Nat × Nat × Nat) := (yX2_sort, prog_4_method_7_code, 4, none, [], [])
def me_43 : MethodName × ByteArray × Nat × Option FieldType × List (Nat × Nat × Nat × Nat) × List (Nat × Nat × Nat × Nat) := (yX2_comesBefore, prog_4_method_8_code, 3, (some .boolean), [], [])
def me_44 : MethodName × ByteArray × Nat × Option FieldType × List (Nat × Nat × Nat × Nat) × List (Nat × Nat × Nat × Nat) := (yX3_init, prog_5_method_1_code, 2, none, [], [])
def me_45 : MethodName × ByteArray × Nat × Option FieldType × List (Nat × Nat × Nat × Nat) × List (Nat × Nat × Nat × Nat) := (yX3_remember, prog_5_method_2_code, 2, none, [], [])
def me_46 : MethodName × ByteArray × Nat × Option FieldType × List (Nat × Nat × Nat × Nat) × List (Nat × Nat × Nat × Nat) := (yX3_takeBack, prog_5_method_3_code, 2, (some .int), [], [])
def me_47 : MethodName × ByteArray × Nat × Option FieldType × List (Nat × Nat × Nat × Nat) × List (Nat × Nat × Nat × Nat) := (yX3_forget, prog_5_method_4_code, 1, none, [], [])
def me_48 : MethodName × ByteArray × Nat × Option FieldType × List (Nat × Nat × Nat × Nat) × List (Nat × Nat × Nat × Nat) := (yX4_init, prog_6_method_1_code, 1, none, [], [])
def me_49 : MethodName × ByteArray × Nat × Option FieldType × List (Nat × Nat × Nat × Nat) × List (Nat × Nat × Nat × Nat) := (yX4_followArrows, prog_6_method_2_code, 6, (some .int), [], [])
def me_50 : MethodName × ByteArray × Nat × Option FieldType × List (Nat × Nat × Nat × Nat) × List (Nat × Nat × Nat × Nat) := (yX4_doubleLeaps, prog_6_method_3_code, 3, none, [], [])
def me_51 : MethodName × ByteArray × Nat × Option FieldType × List (Nat × Nat × Nat × Nat) × List (Nat × Nat × Nat × Nat) := (yX5_init, prog_7_method_1_code, 1, none, [], [])
def me_52 : MethodName × ByteArray × Nat × Option FieldType × List (Nat × Nat × Nat × Nat) × List (Nat × Nat × Nat × Nat) := (yX5_copyFrom, prog_7_method_2_code, 2, none, [], [])
def me_53 : MethodName × ByteArray × Nat × Option FieldType × List (Nat × Nat × Nat × Nat) × List (Nat × Nat × Nat × Nat) := (yX5_putBlocks, prog_7_method_3_code, 3, (some .int), [], [])
def me_54 : MethodName × ByteArray × Nat × Option FieldType × List (Nat × Nat × Nat × Nat) × List (Nat × Nat × Nat × Nat) := (yX5_giveBack, prog_7_method_4_code, 2, none, [], [])
def me_55 : MethodName × ByteArray × Nat × Option FieldType × List (Nat × Nat × Nat × Nat) × List (Nat × Nat × Nat × Nat) := (yX5_weightHeld, prog_7_method_5_code, 1, (some .int), [], [])
def me_56 : MethodName × ByteArray × Nat × Option FieldType × List (Nat × Nat × Nat × Nat) × List (Nat × Nat × Nat × Nat) := (yX5_weightAdded, prog_7_method_6_code, 1, (some .int), [], [])
def me_57 : MethodName × ByteArray × Nat × Option FieldType × List (Nat × Nat × Nat × Nat) × List (Nat × Nat × Nat × Nat) := (yX5_weightOfBlocks, prog_7_method_7_code, 3, (some .int), [], [])
def me_58 : MethodName × ByteArray × Nat × Option FieldType × List (Nat × Nat × Nat × Nat) × List (Nat × Nat × Nat × Nat) := (yX6_init, prog_8_method_1_code, 1, none, [], [])
def me_59 : MethodName × ByteArray × Nat × Option FieldType × List (Nat × Nat × Nat × Nat) × List (Nat × Nat × Nat × Nat) := (yX6_copyFrom, prog_8_method_2_code, 2, none, [], [])
def me_60 : MethodName × ByteArray × Nat × Option FieldType × List (Nat × Nat × Nat × Nat) × List (Nat × Nat × Nat × Nat) := (yX6_hasPedestal, prog_8_method_3_code, 2, (some .boolean), [], [])
def me_61 : MethodName × ByteArray × Nat × Option FieldType × List (Nat × Nat × Nat × Nat) × List (Nat × Nat × Nat × Nat) := (yX6_hasStatue, prog_8_method_4_code, 2, (some .boolean), [], [])
def me_62 : MethodName × ByteArray × Nat × Option FieldType × List (Nat × Nat × Nat × Nat) × List (Nat × Nat × Nat × Nat) := (yX6_putPedestal, prog_8_method_5_code, 2, (some .int), [], [])
def me_63 : MethodName × ByteArray × Nat × Option FieldType × List (Nat × Nat × Nat × Nat) × List (Nat × Nat × Nat × Nat) := (yX6_turnArrow, prog_8_method_6_code, 4, (some .int), [], [])
def me_64 : MethodName × ByteArray × Nat × Option FieldType × List (Nat × Nat × Nat × Nat) × List (Nat × Nat × Nat × Nat) := (yX6_putStatue, prog_8_method_7_code, 5, (some .int), [], [])
def me_65 : MethodName × ByteArray × Nat × Option FieldType × List (Nat × Nat × Nat × Nat) × List (Nat × Nat × Nat × Nat) := (yX6_giveHome, prog_8_method_8_code, 4, (some .int), [], [])
def me_66 : MethodName × ByteArray × Nat × Option FieldType × List (Nat × Nat × Nat × Nat) × List (Nat × Nat × Nat × Nat) := (yX6_standingOn, prog_8_method_9_code, 3, (some .int), [], [])
def me_67 : MethodName × ByteArray × Nat × Option FieldType × List (Nat × Nat × Nat × Nat) × List (Nat × Nat × Nat × Nat) := (yX6_standsAtHome, prog_8_method_10_code, 2, (some .boolean), [], [])
def me_68 : MethodName × ByteArray × Nat × Option FieldType × List (Nat × Nat × Nat × Nat) × List (Nat × Nat × Nat × Nat) := (yX6_moveIfFree, prog_8_method_11_code, 4, (some .boolean), [], [])
def me_69 : MethodName × ByteArray × Nat × Option FieldType × List (Nat × Nat × Nat × Nat) × List (Nat × Nat × Nat × Nat) := (yX6_followArrows, prog_8_method_12_code, 5, (some .int), [], [])
def me_70 : MethodName × ByteArray × Nat × Option FieldType × List (Nat × Nat × Nat × Nat) × List (Nat × Nat × Nat × Nat) := (yX6_lengthOfRound, prog_8_method_13_code, 5, (some .int), [], [])
def me_71 : MethodName × ByteArray × Nat × Option FieldType × List (Nat × Nat × Nat × Nat) × List (Nat × Nat × Nat × Nat) := (⟨"", "", ""⟩, ⟨#[]⟩, 0, none, [], [])
def me_72 : MethodName × ByteArray × Nat × Option FieldType × List (Nat × Nat × Nat × Nat) × List (Nat × Nat × Nat × Nat) := (⟨"", "", ""⟩, ⟨#[]⟩, 0, none, [], [])
def me_73 : MethodName × ByteArray × Nat × Option FieldType × List (Nat × Nat × Nat × Nat) × List (Nat × Nat × Nat × Nat) := (yX6_standApart, prog_8_method_16_code, 2, (some .boolean), [], [])
def me_74 : MethodName × ByteArray × Nat × Option FieldType × List (Nat × Nat × Nat × Nat) × List (Nat × Nat × Nat × Nat) := (yX7_init, prog_9_method_1_code, 1, none, [], [])
def me_75 : MethodName × ByteArray × Nat × Option FieldType × List (Nat × Nat × Nat × Nat) × List (Nat × Nat × Nat × Nat) := (yX7_copyFrom, prog_9_method_2_code, 2, none, [], [])
def me_76 : MethodName × ByteArray × Nat × Option FieldType × List (Nat × Nat × Nat × Nat) × List (Nat × Nat × Nat × Nat) := (yX7_pedestalFault, prog_9_method_3_code, 1, (some .char), [], [])
def me_77 : MethodName × ByteArray × Nat × Option FieldType × List (Nat × Nat × Nat × Nat) × List (Nat × Nat × Nat × Nat) := (yX7_arrowFault, prog_9_method_4_code, 3, (some .char), [], [])
def me_78 : MethodName × ByteArray × Nat × Option FieldType × List (Nat × Nat × Nat × Nat) × List (Nat × Nat × Nat × Nat) := (yX7_statueFault, prog_9_method_5_code, 4, (some .char), [], [])
def me_79 : MethodName × ByteArray × Nat × Option FieldType × List (Nat × Nat × Nat × Nat) × List (Nat × Nat × Nat × Nat) := (yX7_homeFault, prog_9_method_6_code, 3, (some .char), [], [])
def me_80 : MethodName × ByteArray × Nat × Option FieldType × List (Nat × Nat × Nat × Nat) × List (Nat × Nat × Nat × Nat) := (yX7_writFault, prog_9_method_7_code, 5, (some .char), [], [])
def me_81 : MethodName × ByteArray × Nat × Option FieldType × List (Nat × Nat × Nat × Nat) × List (Nat × Nat × Nat × Nat) := (yX7_followerFault, prog_9_method_8_code, 6, (some .char), [], [])
def me_82 : MethodName × ByteArray × Nat × Option FieldType × List (Nat × Nat × Nat × Nat) × List (Nat × Nat × Nat × Nat) := (yX7_writArgumentFault, prog_9_method_9_code, 5, (some .char), [], [])
def me_83 : MethodName × ByteArray × Nat × Option FieldType × List (Nat × Nat × Nat × Nat) × List (Nat × Nat × Nat × Nat) := (yX7_openWrit, prog_9_method_10_code, 5, (some .int), [], [])
def me_84 : MethodName × ByteArray × Nat × Option FieldType × List (Nat × Nat × Nat × Nat) × List (Nat × Nat × Nat × Nat) := (yX7_blockFault, prog_9_method_11_code, 3, (some .char), [], [])
def me_85 : MethodName × ByteArray × Nat × Option FieldType × List (Nat × Nat × Nat × Nat) × List (Nat × Nat × Nat × Nat) := (yX7_payFault, prog_9_method_12_code, 4, (some .char), [], [])
def me_86 : MethodName × ByteArray × Nat × Option FieldType × List (Nat × Nat × Nat × Nat) × List (Nat × Nat × Nat × Nat) := (yX7_settleBail, prog_9_method_13_code, 5, (some .int), [], [])
def me_87 : MethodName × ByteArray × Nat × Option FieldType × List (Nat × Nat × Nat × Nat) × List (Nat × Nat × Nat × Nat) := (yX7_hearFault, prog_9_method_14_code, 2, (some .char), [], [])
def me_88 : MethodName × ByteArray × Nat × Option FieldType × List (Nat × Nat × Nat × Nat) × List (Nat × Nat × Nat × Nat) := (yX7_holdHearing, prog_9_method_15_code, 4, (some .char), [], [])
def me_89 : MethodName × ByteArray × Nat × Option FieldType × List (Nat × Nat × Nat × Nat) × List (Nat × Nat × Nat × Nat) := (yX7_dismissAll, prog_9_method_16_code, 3, none, [], [])
def me_90 : MethodName × ByteArray × Nat × Option FieldType × List (Nat × Nat × Nat × Nat) × List (Nat × Nat × Nat × Nat) := (yX7_closeWithoutFine, prog_9_method_17_code, 2, none, [], [])
def me_91 : MethodName × ByteArray × Nat × Option FieldType × List (Nat × Nat × Nat × Nat) × List (Nat × Nat × Nat × Nat) := (yX7_firstHearingNight, prog_9_method_18_code, 1, (some .int), [], [])
def me_92 : MethodName × ByteArray × Nat × Option FieldType × List (Nat × Nat × Nat × Nat) × List (Nat × Nat × Nat × Nat) := (yX7_nightFault, prog_9_method_19_code, 2, (some .char), [], [])
def me_93 : MethodName × ByteArray × Nat × Option FieldType × List (Nat × Nat × Nat × Nat) × List (Nat × Nat × Nat × Nat) := (yX7_letNightsPass, prog_9_method_20_code, 4, (some .int), [], [])
def me_94 : MethodName × ByteArray × Nat × Option FieldType × List (Nat × Nat × Nat × Nat) × List (Nat × Nat × Nat × Nat) := (yX7_letNightPass, prog_9_method_21_code, 2, (some .int), [], [])
def me_95 : MethodName × ByteArray × Nat × Option FieldType × List (Nat × Nat × Nat × Nat) × List (Nat × Nat × Nat × Nat) := (yX7_moveStatues, prog_9_method_22_code, 5, (some .int), [], [])
def me_96 : MethodName × ByteArray × Nat × Option FieldType × List (Nat × Nat × Nat × Nat) × List (Nat × Nat × Nat × Nat) := (yX7_nightsUntilAtHome, prog_9_method_23_code, 3, (some .int), [], [])
def me_97 : MethodName × ByteArray × Nat × Option FieldType × List (Nat × Nat × Nat × Nat) × List (Nat × Nat × Nat × Nat) := (yX8_init, prog_10_method_1_code, 1, none, [], [])
def me_98 : MethodName × ByteArray × Nat × Option FieldType × List (Nat × Nat × Nat × Nat) × List (Nat × Nat × Nat × Nat) := (yX8_isFull, prog_10_method_2_code, 1, (some .boolean), [], [])
def me_99 : MethodName × ByteArray × Nat × Option FieldType × List (Nat × Nat × Nat × Nat) × List (Nat × Nat × Nat × Nat) := (yX8_append, prog_10_method_3_code, 2, (some .int), [], [])
def me_100 : MethodName × ByteArray × Nat × Option FieldType × List (Nat × Nat × Nat × Nat) × List (Nat × Nat × Nat × Nat) := (yX8_clear, prog_10_method_4_code, 1, none, [], [])
def me_101 : MethodName × ByteArray × Nat × Option FieldType × List (Nat × Nat × Nat × Nat) × List (Nat × Nat × Nat × Nat) := (yX8_read, prog_10_method_5_code, 1, (some .boolean), [], [])
def me_102 : MethodName × ByteArray × Nat × Option FieldType × List (Nat × Nat × Nat × Nat) × List (Nat × Nat × Nat × Nat) := (yX8_readCommand, prog_10_method_6_code, 3, (some .boolean), [], [])
def me_103 : MethodName × ByteArray × Nat × Option FieldType × List (Nat × Nat × Nat × Nat) × List (Nat × Nat × Nat × Nat) := (yX8_likeliestCommand, prog_10_method_7_code, 8, (some (.object "StatueChancery$Command")), [], [])
def me_104 : MethodName × ByteArray × Nat × Option FieldType × List (Nat × Nat × Nat × Nat) × List (Nat × Nat × Nat × Nat) := (yX8_commonLength, prog_10_method_8_code, 3, (some .int), [], [])
def me_105 : MethodName × ByteArray × Nat × Option FieldType × List (Nat × Nat × Nat × Nat) × List (Nat × Nat × Nat × Nat) := (yX8_readForm, prog_10_method_9_code, 4, (some .boolean), [], [])
def me_106 : MethodName × ByteArray × Nat × Option FieldType × List (Nat × Nat × Nat × Nat) × List (Nat × Nat × Nat × Nat) := (yX8_readPart, prog_10_method_10_code, 2, (some .boolean), [], [])
def me_107 : MethodName × ByteArray × Nat × Option FieldType × List (Nat × Nat × Nat × Nat) × List (Nat × Nat × Nat × Nat) := (yX8_readSign, prog_10_method_11_code, 3, (some .boolean), [], [])
def me_108 : MethodName × ByteArray × Nat × Option FieldType × List (Nat × Nat × Nat × Nat) × List (Nat × Nat × Nat × Nat) := (yX8_readNumber, prog_10_method_12_code, 4, (some .boolean), [], [])
def me_109 : MethodName × ByteArray × Nat × Option FieldType × List (Nat × Nat × Nat × Nat) × List (Nat × Nat × Nat × Nat) := (yX8_signAt, prog_10_method_13_code, 2, (some .char), [], [])
def me_110 : MethodName × ByteArray × Nat × Option FieldType × List (Nat × Nat × Nat × Nat) × List (Nat × Nat × Nat × Nat) := (yX9_init, prog_11_method_1_code, 1, none, [], [])
def me_111 : MethodName × ByteArray × Nat × Option FieldType × List (Nat × Nat × Nat × Nat) × List (Nat × Nat × Nat × Nat) := (yX9_fillTable, prog_11_method_2_code, 4, none, [], [])
def me_112 : MethodName × ByteArray × Nat × Option FieldType × List (Nat × Nat × Nat × Nat) × List (Nat × Nat × Nat × Nat) := (yX9_fewestWith, prog_11_method_3_code, 7, (some .int), [], [])
def me_113 : MethodName × ByteArray × Nat × Option FieldType × List (Nat × Nat × Nat × Nat) × List (Nat × Nat × Nat × Nat) := (yX9_fewestByTable, prog_11_method_4_code, 2, (some .int), [], [])
def me_114 : MethodName × ByteArray × Nat × Option FieldType × List (Nat × Nat × Nat × Nat) × List (Nat × Nat × Nat × Nat) := (yX9_takeBlocks, prog_11_method_5_code, 6, none, [], [])
def me_115 : MethodName × ByteArray × Nat × Option FieldType × List (Nat × Nat × Nat × Nat) × List (Nat × Nat × Nat × Nat) := (yX9_mostOnABestWay, prog_11_method_6_code, 5, (some .int), [], [])
def me_116 : MethodName × ByteArray × Nat × Option FieldType × List (Nat × Nat × Nat × Nat) × List (Nat × Nat × Nat × Nat) := (yX9_fewestBySearch, prog_11_method_7_code, 3, (some .int), [], [])
def me_117 : MethodName × ByteArray × Nat × Option FieldType × List (Nat × Nat × Nat × Nat) × List (Nat × Nat × Nat × Nat) := (yX9_markReachable, prog_11_method_8_code, 5, none, [], [])
def me_118 : MethodName × ByteArray × Nat × Option FieldType × List (Nat × Nat × Nat × Nat) × List (Nat × Nat × Nat × Nat) := (yX9_search, prog_11_method_9_code, 9, (some .int), [], [])
def me_119 : MethodName × ByteArray × Nat × Option FieldType × List (Nat × Nat × Nat × Nat) × List (Nat × Nat × Nat × Nat) := (yX10_init, prog_12_method_1_code, 1, none, [], [])
def me_120 : MethodName × ByteArray × Nat × Option FieldType × List (Nat × Nat × Nat × Nat) × List (Nat × Nat × Nat × Nat) := (yX10_copyFrom, prog_12_method_2_code, 3, none, [], [])
def me_121 : MethodName × ByteArray × Nat × Option FieldType × List (Nat × Nat × Nat × Nat) × List (Nat × Nat × Nat × Nat) := (yX10_isFull, prog_12_method_3_code, 1, (some .boolean), [], [])
def me_122 : MethodName × ByteArray × Nat × Option FieldType × List (Nat × Nat × Nat × Nat) × List (Nat × Nat × Nat × Nat) := (yX10_find, prog_12_method_4_code, 3, (some .int), [], [])
def me_123 : MethodName × ByteArray × Nat × Option FieldType × List (Nat × Nat × Nat × Nat) × List (Nat × Nat × Nat × Nat) := (yX10_open, prog_12_method_5_code, 6, (some .int), [], [])
def me_124 : MethodName × ByteArray × Nat × Option FieldType × List (Nat × Nat × Nat × Nat) × List (Nat × Nat × Nat × Nat) := (yX10_close, prog_12_method_6_code, 4, none, [], [])
def me_125 : MethodName × ByteArray × Nat × Option FieldType × List (Nat × Nat × Nat × Nat) × List (Nat × Nat × Nat × Nat) := (yX10_dropCause, prog_12_method_7_code, 3, none, [], [])
def me_126 : MethodName × ByteArray × Nat × Option FieldType × List (Nat × Nat × Nat × Nat) × List (Nat × Nat × Nat × Nat) := (yX10_bind, prog_12_method_8_code, 3, (some .boolean), [], [])
def me_127 : MethodName × ByteArray × Nat × Option FieldType × List (Nat × Nat × Nat × Nat) × List (Nat × Nat × Nat × Nat) := (yX10_countCauses, prog_12_method_9_code, 4, (some .int), [], [])
def me_128 : MethodName × ByteArray × Nat × Option FieldType × List (Nat × Nat × Nat × Nat) × List (Nat × Nat × Nat × Nat) := (yX10_withFollowers, prog_12_method_10_code, 5, (some .int), [], [])
def me_129 : MethodName × ByteArray × Nat × Option FieldType × List (Nat × Nat × Nat × Nat) × List (Nat × Nat × Nat × Nat) := (yX11_init, prog_1_method_1_code, 1, none, [], [])
def me_130 : MethodName × ByteArray × Nat × Option FieldType × List (Nat × Nat × Nat × Nat) × List (Nat × Nat × Nat × Nat) := (yX11_addPedestal, prog_1_method_2_code, 1, (some .int), [], [])
def me_131 : MethodName × ByteArray × Nat × Option FieldType × List (Nat × Nat × Nat × Nat) × List (Nat × Nat × Nat × Nat) := (yX11_setArrow, prog_1_method_3_code, 3, (some .int), [], [])
def me_132 : MethodName × ByteArray × Nat × Option FieldType × List (Nat × Nat × Nat × Nat) × List (Nat × Nat × Nat × Nat) := (yX11_addStatue, prog_1_method_4_code, 3, (some .int), [], [])
def me_133 : MethodName × ByteArray × Nat × Option FieldType × List (Nat × Nat × Nat × Nat) × List (Nat × Nat × Nat × Nat) := (yX11_setHome, prog_1_method_5_code, 3, (some .int), [], [])
def me_134 : MethodName × ByteArray × Nat × Option FieldType × List (Nat × Nat × Nat × Nat) × List (Nat × Nat × Nat × Nat) := (yX11_issueWrit, prog_1_method_6_code, 4, (some .int), [], [])
def me_135 : MethodName × ByteArray × Nat × Option FieldType × List (Nat × Nat × Nat × Nat) × List (Nat × Nat × Nat × Nat) := (yX11_issueFollower, prog_1_method_7_code, 5, (some .int), [], [])
def me_136 : MethodName × ByteArray × Nat × Option FieldType × List (Nat × Nat × Nat × Nat) × List (Nat × Nat × Nat × Nat) := (yX11_addBlocks, prog_1_method_8_code, 3, (some .int), [], [])
def me_137 : MethodName × ByteArray × Nat × Option FieldType × List (Nat × Nat × Nat × Nat) × List (Nat × Nat × Nat × Nat) := (yX11_payBail, prog_1_method_9_code, 2, (some .int), [], [])
def me_138 : MethodName × ByteArray × Nat × Option FieldType × List (Nat × Nat × Nat × Nat) × List (Nat × Nat × Nat × Nat) := (yX11_hear, prog_1_method_10_code, 2, (some .char), [], [])
def me_139 : MethodName × ByteArray × Nat × Option FieldType × List (Nat × Nat × Nat × Nat) × List (Nat × Nat × Nat × Nat) := (yX11_passNights, prog_1_method_11_code, 2, (some .int), [], [])
def me_140 : MethodName × ByteArray × Nat × Option FieldType × List (Nat × Nat × Nat × Nat) × List (Nat × Nat × Nat × Nat) := (yX11_pedestalCount, prog_1_method_12_code, 1, (some .int), [], [])
def me_141 : MethodName × ByteArray × Nat × Option FieldType × List (Nat × Nat × Nat × Nat) × List (Nat × Nat × Nat × Nat) := (yX11_arrow, prog_1_method_13_code, 2, (some .int), [], [])
def me_142 : MethodName × ByteArray × Nat × Option FieldType × List (Nat × Nat × Nat × Nat) × List (Nat × Nat × Nat × Nat) := (yX11_isFree, prog_1_method_14_code, 2, (some .boolean), [], [])
def me_143 : MethodName × ByteArray × Nat × Option FieldType × List (Nat × Nat × Nat × Nat) × List (Nat × Nat × Nat × Nat) := (yX11_statueOn, prog_1_method_15_code, 2, (some .int), [], [])
def me_144 : MethodName × ByteArray × Nat × Option FieldType × List (Nat × Nat × Nat × Nat) × List (Nat × Nat × Nat × Nat) := (yX11_arrowAfter, prog_1_method_16_code, 3, (some .int), [], [])
def me_145 : MethodName × ByteArray × Nat × Option FieldType × List (Nat × Nat × Nat × Nat) × List (Nat × Nat × Nat × Nat) := (yX11_arrowAfterByDoubling, prog_1_method_17_code, 3, (some .int), [], [])
def me_146 : MethodName × ByteArray × Nat × Option FieldType × List (Nat × Nat × Nat × Nat) × List (Nat × Nat × Nat × Nat) := (yX11_roundLength, prog_1_method_18_code, 2, (some .int), [], [])
def me_147 : MethodName × ByteArray × Nat × Option FieldType × List (Nat × Nat × Nat × Nat) × List (Nat × Nat × Nat × Nat) := (yX11_statueCount, prog_1_method_19_code, 1, (some .int), [], [])
def me_148 : MethodName × ByteArray × Nat × Option FieldType × List (Nat × Nat × Nat × Nat) × List (Nat × Nat × Nat × Nat) := (yX11_pedestalOf, prog_1_method_20_code, 2, (some .int), [], [])
def me_149 : MethodName × ByteArray × Nat × Option FieldType × List (Nat × Nat × Nat × Nat) × List (Nat × Nat × Nat × Nat) := (yX11_home, prog_1_method_21_code, 2, (some .int), [], [])
def me_150 : MethodName × ByteArray × Nat × Option FieldType × List (Nat × Nat × Nat × Nat) × List (Nat × Nat × Nat × Nat) := (yX11_weightOf, prog_1_method_22_code, 2, (some .int), [], [])
def me_151 : MethodName × ByteArray × Nat × Option FieldType × List (Nat × Nat × Nat × Nat) × List (Nat × Nat × Nat × Nat) := (yX11_isBound, prog_1_method_23_code, 2, (some .boolean), [], [])
def me_152 : MethodName × ByteArray × Nat × Option FieldType × List (Nat × Nat × Nat × Nat) × List (Nat × Nat × Nat × Nat) := (yX11_isHome, prog_1_method_24_code, 2, (some .boolean), [], [])
def me_153 : MethodName × ByteArray × Nat × Option FieldType × List (Nat × Nat × Nat × Nat) × List (Nat × Nat × Nat × Nat) := (yX11_statueByWeight, prog_1_method_25_code, 2, (some .int), [], [])
def me_154 : MethodName × ByteArray × Nat × Option FieldType × List (Nat × Nat × Nat × Nat) × List (Nat × Nat × Nat × Nat) := (yX11_nightsUntilHome, prog_1_method_26_code, 2, (some .int), [], [])
def me_155 : MethodName × ByteArray × Nat × Option FieldType × List (Nat × Nat × Nat × Nat) × List (Nat × Nat × Nat × Nat) := (yX11_writCount, prog_1_method_27_code, 1, (some .int), [], [])
def me_156 : MethodName × ByteArray × Nat × Option FieldType × List (Nat × Nat × Nat × Nat) × List (Nat × Nat × Nat × Nat) := (yX11_writAt, prog_1_method_28_code, 2, (some .int), [], [])
def me_157 : MethodName × ByteArray × Nat × Option FieldType × List (Nat × Nat × Nat × Nat) × List (Nat × Nat × Nat × Nat) := (yX11_statueOf, prog_1_method_29_code, 2, (some .int), [], [])
def me_158 : MethodName × ByteArray × Nat × Option FieldType × List (Nat × Nat × Nat × Nat) × List (Nat × Nat × Nat × Nat) := (yX11_lastNight, prog_1_method_30_code, 2, (some .int), [], [])
def me_159 : MethodName × ByteArray × Nat × Option FieldType × List (Nat × Nat × Nat × Nat) × List (Nat × Nat × Nat × Nat) := (yX11_bail, prog_1_method_31_code, 2, (some .int), [], [])
def me_160 : MethodName × ByteArray × Nat × Option FieldType × List (Nat × Nat × Nat × Nat) × List (Nat × Nat × Nat × Nat) := (yX11_isPaid, prog_1_method_32_code, 2, (some .boolean), [], [])
def me_161 : MethodName × ByteArray × Nat × Option FieldType × List (Nat × Nat × Nat × Nat) × List (Nat × Nat × Nat × Nat) := (yX11_causeOf, prog_1_method_33_code, 2, (some .int), [], [])
def me_162 : MethodName × ByteArray × Nat × Option FieldType × List (Nat × Nat × Nat × Nat) × List (Nat × Nat × Nat × Nat) := (yX11_causeDepth, prog_1_method_34_code, 2, (some .int), [], [])
def me_163 : MethodName × ByteArray × Nat × Option FieldType × List (Nat × Nat × Nat × Nat) × List (Nat × Nat × Nat × Nat) := (yX11_followers, prog_1_method_35_code, 2, (some .int), [], [])
def me_164 : MethodName × ByteArray × Nat × Option FieldType × List (Nat × Nat × Nat × Nat) × List (Nat × Nat × Nat × Nat) := (yX11_docketValue, prog_1_method_36_code, 1, (some .int), [], [])
def me_165 : MethodName × ByteArray × Nat × Option FieldType × List (Nat × Nat × Nat × Nat) × List (Nat × Nat × Nat × Nat) := (yX11_docketValueBySets, prog_1_method_37_code, 1, (some .int), [], [])
def me_166 : MethodName × ByteArray × Nat × Option FieldType × List (Nat × Nat × Nat × Nat) × List (Nat × Nat × Nat × Nat) := (yX11_writByLastNight, prog_1_method_38_code, 2, (some .int), [], [])
def me_167 : MethodName × ByteArray × Nat × Option FieldType × List (Nat × Nat × Nat × Nat) × List (Nat × Nat × Nat × Nat) := (yX11_blocks, prog_1_method_39_code, 2, (some .int), [], [])
def me_168 : MethodName × ByteArray × Nat × Option FieldType × List (Nat × Nat × Nat × Nat) × List (Nat × Nat × Nat × Nat) := (yX11_fewestBlocks, prog_1_method_40_code, 2, (some .int), [], [])
def me_169 : MethodName × ByteArray × Nat × Option FieldType × List (Nat × Nat × Nat × Nat) × List (Nat × Nat × Nat × Nat) := (yX11_fewestBlocksBySearch, prog_1_method_41_code, 2, (some .int), [], [])
def me_170 : MethodName × ByteArray × Nat × Option FieldType × List (Nat × Nat × Nat × Nat) × List (Nat × Nat × Nat × Nat) := (yX11_marbleTotal, prog_1_method_42_code, 1, (some .int), [], [])
def me_171 : MethodName × ByteArray × Nat × Option FieldType × List (Nat × Nat × Nat × Nat) × List (Nat × Nat × Nat × Nat) := (yX11_marbleByAccounts, prog_1_method_43_code, 1, (some .int), [], [])
def me_172 : MethodName × ByteArray × Nat × Option FieldType × List (Nat × Nat × Nat × Nat) × List (Nat × Nat × Nat × Nat) := (yX11_treasury, prog_1_method_44_code, 1, (some .int), [], [])
def me_173 : MethodName × ByteArray × Nat × Option FieldType × List (Nat × Nat × Nat × Nat) × List (Nat × Nat × Nat × Nat) := (yX11_night, prog_1_method_45_code, 1, (some .int), [], [])
def me_174 : MethodName × ByteArray × Nat × Option FieldType × List (Nat × Nat × Nat × Nat) × List (Nat × Nat × Nat × Nat) := (yX11_upheldTotal, prog_1_method_46_code, 1, (some .int), [], [])
def me_175 : MethodName × ByteArray × Nat × Option FieldType × List (Nat × Nat × Nat × Nat) × List (Nat × Nat × Nat × Nat) := (yX11_dismissedTotal, prog_1_method_47_code, 1, (some .int), [], [])
def me_176 : MethodName × ByteArray × Nat × Option FieldType × List (Nat × Nat × Nat × Nat) × List (Nat × Nat × Nat × Nat) := (yX11_lapsedTotal, prog_1_method_48_code, 1, (some .int), [], [])
def me_177 : MethodName × ByteArray × Nat × Option FieldType × List (Nat × Nat × Nat × Nat) × List (Nat × Nat × Nat × Nat) := (⟨"", "", ""⟩, ⟨#[]⟩, 0, none, [], [])
def me_178 : MethodName × ByteArray × Nat × Option FieldType × List (Nat × Nat × Nat × Nat) × List (Nat × Nat × Nat × Nat) := (⟨"", "", ""⟩, ⟨#[]⟩, 0, none, [], [])
def me_179 : MethodName × ByteArray × Nat × Option FieldType × List (Nat × Nat × Nat × Nat) × List (Nat × Nat × Nat × Nat) := (yX11_isConsistent, prog_1_method_51_code, 1, (some .boolean), [], [])
def me_180 : MethodName × ByteArray × Nat × Option FieldType × List (Nat × Nat × Nat × Nat) × List (Nat × Nat × Nat × Nat) := (⟨"", "", ""⟩, ⟨#[]⟩, 0, none, [], [])
def me_181 : MethodName × ByteArray × Nat × Option FieldType × List (Nat × Nat × Nat × Nat) × List (Nat × Nat × Nat × Nat) := (⟨"", "", ""⟩, ⟨#[]⟩, 0, none, [], [])
def me_182 : MethodName × ByteArray × Nat × Option FieldType × List (Nat × Nat × Nat × Nat) × List (Nat × Nat × Nat × Nat) := (⟨"", "", ""⟩, ⟨#[]⟩, 0, none, [], [])
def me_183 : MethodName × ByteArray × Nat × Option FieldType × List (Nat × Nat × Nat × Nat) × List (Nat × Nat × Nat × Nat) := (yX11_type, prog_1_method_55_code, 2, (some .int), [], [])
def me_184 : MethodName × ByteArray × Nat × Option FieldType × List (Nat × Nat × Nat × Nat) × List (Nat × Nat × Nat × Nat) := (yX11_runScript, prog_1_method_56_code, 6, (some .int), [], [])
def me_185 : MethodName × ByteArray × Nat × Option FieldType × List (Nat × Nat × Nat × Nat) × List (Nat × Nat × Nat × Nat) := (⟨"", "", ""⟩, ⟨#[]⟩, 0, none, [], [])
def me_186 : MethodName × ByteArray × Nat × Option FieldType × List (Nat × Nat × Nat × Nat) × List (Nat × Nat × Nat × Nat) := (⟨"", "", ""⟩, ⟨#[]⟩, 0, none, [], [])
def me_187 : MethodName × ByteArray × Nat × Option FieldType × List (Nat × Nat × Nat × Nat) × List (Nat × Nat × Nat × Nat) := (⟨"", "", ""⟩, ⟨#[]⟩, 0, none, [], [])
def me_188 : MethodName × ByteArray × Nat × Option FieldType × List (Nat × Nat × Nat × Nat) × List (Nat × Nat × Nat × Nat) := (yX11_undo, prog_1_method_60_code, 1, (some .int), [], [])
def me_189 : MethodName × ByteArray × Nat × Option FieldType × List (Nat × Nat × Nat × Nat) × List (Nat × Nat × Nat × Nat) := (yX11_save, prog_1_method_61_code, 1, (some .int), [], [])
def me_190 : MethodName × ByteArray × Nat × Option FieldType × List (Nat × Nat × Nat × Nat) × List (Nat × Nat × Nat × Nat) := (yX11_restore, prog_1_method_62_code, 1, (some .int), [], [])
def me_191 : MethodName × ByteArray × Nat × Option FieldType × List (Nat × Nat × Nat × Nat) × List (Nat × Nat × Nat × Nat) := (yX11_raise, prog_1_method_63_code, 1, none, [], [])
def me_192 : MethodName × ByteArray × Nat × Option FieldType × List (Nat × Nat × Nat × Nat) × List (Nat × Nat × Nat × Nat) := (yX11_requirePedestal, prog_1_method_64_code, 2, none, [], [])
def me_193 : MethodName × ByteArray × Nat × Option FieldType × List (Nat × Nat × Nat × Nat) × List (Nat × Nat × Nat × Nat) := (yX11_requireStatue, prog_1_method_65_code, 2, none, [], [])
def me_194 : MethodName × ByteArray × Nat × Option FieldType × List (Nat × Nat × Nat × Nat) × List (Nat × Nat × Nat × Nat) := (⟨"", "", ""⟩, ⟨#[]⟩, 0, none, [], [])
def me_195 : MethodName × ByteArray × Nat × Option FieldType × List (Nat × Nat × Nat × Nat) × List (Nat × Nat × Nat × Nat) := (yX11_requireBetween, prog_1_method_67_code, 3, none, [], [])
def me_196 : MethodName × ByteArray × Nat × Option FieldType × List (Nat × Nat × Nat × Nat) × List (Nat × Nat × Nat × Nat) := (yX11_requireRank, prog_1_method_68_code, 2, none, [], [])
def me_197 : MethodName × ByteArray × Nat × Option FieldType × List (Nat × Nat × Nat × Nat) × List (Nat × Nat × Nat × Nat) := (yX11_existing, prog_1_method_69_code, 1, (some .int), [], [])
def me_198 : MethodName × ByteArray × Nat × Option FieldType × List (Nat × Nat × Nat × Nat) × List (Nat × Nat × Nat × Nat) := (yX11_payable, prog_1_method_70_code, 1, (some .int), [], [])
def me_199 : MethodName × ByteArray × Nat × Option FieldType × List (Nat × Nat × Nat × Nat) × List (Nat × Nat × Nat × Nat) := (yX11_positionOf, prog_1_method_71_code, 2, (some .int), [], [])
def me_200 : MethodName × ByteArray × Nat × Option FieldType × List (Nat × Nat × Nat × Nat) × List (Nat × Nat × Nat × Nat) := (yX11_isBetween, prog_1_method_72_code, 3, (some .boolean), [], [])
def me_201 : MethodName × ByteArray × Nat × Option FieldType × List (Nat × Nat × Nat × Nat) × List (Nat × Nat × Nat × Nat) := (yX11_arrowsAgree, prog_1_method_73_code, 4, (some .boolean), [], [])
def me_202 : MethodName × ByteArray × Nat × Option FieldType × List (Nat × Nat × Nat × Nat) × List (Nat × Nat × Nat × Nat) := (yX11_docketsAgree, prog_1_method_74_code, 2, (some .boolean), [], [])
def me_203 : MethodName × ByteArray × Nat × Option FieldType × List (Nat × Nat × Nat × Nat) × List (Nat × Nat × Nat × Nat) := (yX11_blocksAgree, prog_1_method_75_code, 2, (some .boolean), [], [])
def me_204 : MethodName × ByteArray × Nat × Option FieldType × List (Nat × Nat × Nat × Nat) × List (Nat × Nat × Nat × Nat) := (yX11_faultOf, prog_1_method_76_code, 6, (some .char), [], [])
def me_205 : MethodName × ByteArray × Nat × Option FieldType × List (Nat × Nat × Nat × Nat) × List (Nat × Nat × Nat × Nat) := (yX11_carryOut, prog_1_method_77_code, 6, none, [], [])
def me_206 : MethodName × ByteArray × Nat × Option FieldType × List (Nat × Nat × Nat × Nat) × List (Nat × Nat × Nat × Nat) := (yX11_nightsOr1, prog_1_method_78_code, 1, (some .int), [], [])
def me_207 : MethodName × ByteArray × Nat × Option FieldType × List (Nat × Nat × Nat × Nat) × List (Nat × Nat × Nat × Nat) := (yJ4_toString_0e30d, prog_32_method_42_code, 1, (some (.object "java/lang/String")), [], [])
def me_208 : MethodName × ByteArray × Nat × Option FieldType × List (Nat × Nat × Nat × Nat) × List (Nat × Nat × Nat × Nat) := (yJ0_init_81219, prog_31_method_53_code, 2, none, [], [])
def me_209 : MethodName × ByteArray × Nat × Option FieldType × List (Nat × Nat × Nat × Nat) × List (Nat × Nat × Nat × Nat) := (yJ0_init_db425, prog_31_method_150_code, 5, none, [], [])
def me_210 : MethodName × ByteArray × Nat × Option FieldType × List (Nat × Nat × Nat × Nat) × List (Nat × Nat × Nat × Nat) := (yJ7_copyOfRange_39247, prog_41_method_132_code, 3, (some (.array .byte)), [], [])
def me_211 : MethodName × ByteArray × Nat × Option FieldType × List (Nat × Nat × Nat × Nat) × List (Nat × Nat × Nat × Nat) := (yJ7_copyOfRangeByte_39247, prog_41_method_133_code, 5, (some (.array .byte)), [], [])
def me_212 : MethodName × ByteArray × Nat × Option FieldType × List (Nat × Nat × Nat × Nat) × List (Nat × Nat × Nat × Nat) := (yJ5_getValue_6d5f1, prog_16_method_64_code, 1, (some (.array .byte)), [], [])
def me_213 : MethodName × ByteArray × Nat × Option FieldType × List (Nat × Nat × Nat × Nat) × List (Nat × Nat × Nat × Nat) := (yJ7_checkLength_df160, prog_41_method_131_code, 2, none, [], [])
def me_214 : MethodName × ByteArray × Nat × Option FieldType × List (Nat × Nat × Nat × Nat) × List (Nat × Nat × Nat × Nat) := (yL_cell, method_2_code, 3, (some .int), [], [])
def me_215 : MethodName × ByteArray × Nat × Option FieldType × List (Nat × Nat × Nat × Nat) × List (Nat × Nat × Nat × Nat) := (yL_addPedestal, method_3_code, 2, (some .int), [(0, 4, 5, 15)], [(0, 2, 2, 3)])
def me_216 : MethodName × ByteArray × Nat × Option FieldType × List (Nat × Nat × Nat × Nat) × List (Nat × Nat × Nat × Nat) := (yL_setArrow, method_4_code, 4, (some .int), [(0, 6, 7, 22)], [(0, 4, 0, 5)])
def me_217 : MethodName × ByteArray × Nat × Option FieldType × List (Nat × Nat × Nat × Nat) × List (Nat × Nat × Nat × Nat) := (yL_addStatue, method_5_code, 4, (some .int), [(0, 6, 7, 22), (0, 6, 11, 27), (0, 6, 15, 15)], [(0, 4, 0, 5), (0, 4, 1, 8), (0, 4, 2, 11)])
def me_218 : MethodName × ByteArray × Nat × Option FieldType × List (Nat × Nat × Nat × Nat) × List (Nat × Nat × Nat × Nat) := (yL_setHome, method_6_code, 4, (some .int), [(0, 6, 7, 22)], [(0, 4, 0, 5)])
def me_219 : MethodName × ByteArray × Nat × Option FieldType × List (Nat × Nat × Nat × Nat) × List (Nat × Nat × Nat × Nat) := (yL_issueWrit, method_7_code, 5, (some .int), [(0, 7, 8, 22), (0, 7, 13, 27), (0, 7, 18, 15)], [(0, 5, 0, 6), (0, 5, 1, 9), (0, 5, 2, 12)])
def me_220 : MethodName × ByteArray × Nat × Option FieldType × List (Nat × Nat × Nat × Nat) × List (Nat × Nat × Nat × Nat) := (yL_issueFollower, method_8_code, 6, (some .int), [(0, 9, 10, 22), (0, 9, 15, 27), (0, 9, 20, 42), (0, 9, 25, 15)], [(0, 6, 0, 7), (0, 6, 1, 10), (0, 6, 3, 13), (0, 6, 2, 16)])
def me_221 : MethodName × ByteArray × Nat × Option FieldType × List (Nat × Nat × Nat × Nat) × List (Nat × Nat × Nat × Nat) := (yL_addBlocks, method_9_code, 4, (some .int), [(0, 6, 7, 27), (0, 6, 11, 15)], [(0, 4, 1, 5), (0, 4, 2, 8)])
def me_222 : MethodName × ByteArray × Nat × Option FieldType × List (Nat × Nat × Nat × Nat) × List (Nat × Nat × Nat × Nat) := (yL_payBail, method_10_code, 3, (some .int), [(0, 5, 6, 42), (0, 5, 10, 15), (0, 5, 14, 52)], [(0, 3, 3, 4), (0, 3, 2, 7), (0, 3, 4, 10)])
def me_223 : MethodName × ByteArray × Nat × Option FieldType × List (Nat × Nat × Nat × Nat) × List (Nat × Nat × Nat × Nat) := (yL_passNights, method_11_code, 3, (some .int), [(0, 5, 6, 27)], [(0, 3, 1, 4)])
def me_224 : MethodName × ByteArray × Nat × Option FieldType × List (Nat × Nat × Nat × Nat) × List (Nat × Nat × Nat × Nat) := (yL_statueOn, method_12_code, 3, (some .int), [(0, 5, 6, 22), (0, 5, 10, 42)], [(0, 3, 0, 4), (0, 3, 3, 7)])
def me_225 : MethodName × ByteArray × Nat × Option FieldType × List (Nat × Nat × Nat × Nat) × List (Nat × Nat × Nat × Nat) := (yL_statueByWeight, method_13_code, 3, (some .int), [(0, 5, 6, 42)], [(0, 3, 3, 4)])
def me_226 : MethodName × ByteArray × Nat × Option FieldType × List (Nat × Nat × Nat × Nat) × List (Nat × Nat × Nat × Nat) := (yL_nightsUntilHome, method_14_code, 3, (some .int), [(0, 5, 6, 22), (0, 5, 10, 42)], [(0, 3, 0, 4), (0, 3, 3, 7)])
def me_227 : MethodName × ByteArray × Nat × Option FieldType × List (Nat × Nat × Nat × Nat) × List (Nat × Nat × Nat × Nat) := (yL_writAt, method_15_code, 3, (some .int), [(0, 5, 6, 42)], [(0, 3, 3, 4)])
def me_228 : MethodName × ByteArray × Nat × Option FieldType × List (Nat × Nat × Nat × Nat) × List (Nat × Nat × Nat × Nat) := (yL_causeOf, method_16_code, 3, (some .int), [(0, 5, 6, 42)], [(0, 3, 3, 4)])
def me_229 : MethodName × ByteArray × Nat × Option FieldType × List (Nat × Nat × Nat × Nat) × List (Nat × Nat × Nat × Nat) := (yL_causeDepth, method_17_code, 3, (some .int), [(0, 5, 6, 42)], [(0, 3, 3, 4)])
def me_230 : MethodName × ByteArray × Nat × Option FieldType × List (Nat × Nat × Nat × Nat) × List (Nat × Nat × Nat × Nat) := (yL_writByLastNight, method_18_code, 3, (some .int), [(0, 5, 6, 42)], [(0, 3, 3, 4)])
def me_231 : MethodName × ByteArray × Nat × Option FieldType × List (Nat × Nat × Nat × Nat) × List (Nat × Nat × Nat × Nat) := (yL_fewestBlocks, method_19_code, 3, (some .int), [(0, 5, 6, 27), (0, 5, 10, 52)], [(0, 3, 1, 4), (0, 3, 4, 7)])
def me_232 : MethodName × ByteArray × Nat × Option FieldType × List (Nat × Nat × Nat × Nat) × List (Nat × Nat × Nat × Nat) := (yL_fewestBlocksBySearch, method_20_code, 3, (some .int), [(0, 5, 6, 27), (0, 5, 10, 52)], [(0, 3, 1, 4), (0, 3, 4, 7)])
def me_233 : MethodName × ByteArray × Nat × Option FieldType × List (Nat × Nat × Nat × Nat) × List (Nat × Nat × Nat × Nat) := (yL_runScript, method_21_code, 2, (some .int), [(0, 4, 5, 27), (0, 4, 9, 15)], [(0, 2, 1, 3), (0, 2, 2, 6)])
def me_234 : MethodName × ByteArray × Nat × Option FieldType × List (Nat × Nat × Nat × Nat) × List (Nat × Nat × Nat × Nat) := (yL_undo, method_22_code, 2, (some .int), [(0, 4, 5, 42)], [(0, 2, 3, 3)])
def me_235 : MethodName × ByteArray × Nat × Option FieldType × List (Nat × Nat × Nat × Nat) × List (Nat × Nat × Nat × Nat) := (yL_restore, method_23_code, 2, (some .int), [(0, 4, 5, 15)], [(0, 2, 2, 3)])
def me_236 : MethodName × ByteArray × Nat × Option FieldType × List (Nat × Nat × Nat × Nat) × List (Nat × Nat × Nat × Nat) := (yL_hear, method_24_code, 3, (some .int), [(0, 5, 6, 42), (0, 5, 10, 15)], [(0, 3, 3, 4), (0, 3, 2, 7)])
def me_237 : MethodName × ByteArray × Nat × Option FieldType × List (Nat × Nat × Nat × Nat) × List (Nat × Nat × Nat × Nat) := (yL_in, method_25_code, 3, (some .int), [], [])
def me_238 : MethodName × ByteArray × Nat × Option FieldType × List (Nat × Nat × Nat × Nat) × List (Nat × Nat × Nat × Nat) := (yL_does, method_26_code, 4, (some .int), [], [])
def me_239 : MethodName × ByteArray × Nat × Option FieldType × List (Nat × Nat × Nat × Nat) × List (Nat × Nat × Nat × Nat) := (yL_begun, method_27_code, 5, (some (.object "StatueChancery")), [], [])
def me_240 : MethodName × ByteArray × Nat × Option FieldType × List (Nat × Nat × Nat × Nat) × List (Nat × Nat × Nat × Nat) := (yL_writ, method_28_code, 2, (some .int), [], [])
def me_241 : MethodName × ByteArray × Nat × Option FieldType × List (Nat × Nat × Nat × Nat) × List (Nat × Nat × Nat × Nat) := (yL_acts, method_29_code, 6, (some .int), [], [])
def me_242 : MethodName × ByteArray × Nat × Option FieldType × List (Nat × Nat × Nat × Nat) × List (Nat × Nat × Nat × Nat) := (yL_seen, method_30_code, 4, (some (.array .int)), [], [])
def me_243 : MethodName × ByteArray × Nat × Option FieldType × List (Nat × Nat × Nat × Nat) × List (Nat × Nat × Nat × Nat) := (yL_areAlike, method_31_code, 3, (some .boolean), [], [])
def me_244 : MethodName × ByteArray × Nat × Option FieldType × List (Nat × Nat × Nat × Nat) × List (Nat × Nat × Nat × Nat) := (yL_isWell, method_32_code, 10, (some .boolean), [], [])
def me_245 : MethodName × ByteArray × Nat × Option FieldType × List (Nat × Nat × Nat × Nat) × List (Nat × Nat × Nat × Nat) := (yL_law, code, 7, ret, [], [])
def qq_me : List (MethodName × ByteArray × Nat × Option FieldType × List (Nat × Nat × Nat × Nat) × List (Nat × Nat × Nat × Nat)) := [me_0, me_1, me_2, me_3, me_4, me_5, me_6, me_7, me_8, me_9, me_10, me_11, me_12, me_13, me_14, me_15, me_16, me_17, me_18, me_19, me_20, me_21, me_22, me_23, me_24, me_25, me_26, me_27, me_28, me_29, me_30, me_31, me_32, me_33, me_34, me_35, me_36, me_37, me_38, me_39, me_40, me_41, me_42, me_43, me_44, me_45, me_46, me_47, me_48, me_49, me_50, me_51, me_52, me_53, me_54, me_55, me_56, me_57, me_58, me_59, me_60, me_61, me_62, me_63, me_64, me_65, me_66, me_67, me_68, me_69, me_70, me_71, me_72, me_73, me_74, me_75, me_76, me_77, me_78, me_79, me_80, me_81, me_82, me_83, me_84, me_85, me_86, me_87, me_88, me_89, me_90, me_91, me_92, me_93, me_94, me_95, me_96, me_97, me_98, me_99, me_100, me_101, me_102, me_103, me_104, me_105, me_106, me_107, me_108, me_109, me_110, me_111, me_112, me_113, me_114, me_115, me_116, me_117, me_118, me_119, me_120, me_121, me_122, me_123, me_124, me_125, me_126, me_127, me_128, me_129, me_130, me_131, me_132, me_133, me_134, me_135, me_136, me_137, me_138, me_139, me_140, me_141, me_142, me_143, me_144, me_145, me_146, me_147, me_148, me_149, me_150, me_151, me_152, me_153, me_154, me_155, me_156, me_157, me_158, me_159, me_160, me_161, me_162, me_163, me_164, me_165, me_166, me_167, me_168, me_169, me_170, me_171, me_172, me_173, me_174, me_175, me_176, me_177, me_178, me_179, me_180, me_181, me_182, me_183, me_184, me_185, me_186, me_187, me_188, me_189, me_190, me_191, me_192, me_193, me_194, me_195, me_196, me_197, me_198, me_199, me_200, me_201, me_202, me_203, me_204, me_205, me_206, me_207, me_208, me_209, me_210, me_211, me_212, me_213, me_214, me_215, me_216, me_217, me_218, me_219, me_220, me_221, me_222, me_223, me_224, me_225, me_226, me_227, me_228, me_229, me_230, me_231, me_232, me_233, me_234, me_235, me_236, me_237, me_238, me_239, me_240, me_241, me_242, me_243, me_244, me_245]
end
section
/-! THE ABSTRACT MACHINE'S STEPS AND RUNS -/
def qq_T (m j : Nat) : Option qq_E := (qq_tab.getD m [])[j]?
def qq_maxL (m : Nat) : Nat := match qq_me[m]? with | some x => x.2.2.1 | none => 0
def qq_ret (m : Nat) : Option FieldType := match qq_me[m]? with | some x => x.2.2.2.1 | none => none
def qq_hn (m : Nat) : List (Nat × Nat × Nat × Nat) := match qq_me[m]? with | some x => x.2.2.2.2.2 | none => []
def qq_ty (c k : Nat) : FieldType := (qq_tys.getD c []).getD k .int
def qq_nf (c : Nat) : Nat := (qq_tys.getD c []).length
/-- how many fields are read: of a String two -/
def qq_nr (c : Nat) : Nat := if c = 0 then 2 else qq_nf c
theorem nr_le {c : Nat} : qq_nr c ≤ qq_nf c := by
  unfold qq_nr
  split
  · rename_i h; subst h; decide
  · exact Nat.le_refl _
def qq_sl : List Value → List (Option Value)
  | [] => []
  | v :: vs => if v.category = 2 then some v :: none :: qq_sl vs else some v :: qq_sl vs
def qq_ent (n : Nat) (args : List Value) : List (Option Value) := qq_sl args ++ List.replicate (n - (qq_sl args).length) none
/-- next; call; returned; threw -/
abbrev qq_A : Type := (Nat × List (Option Value) × List Value × qq_S) ⊕ ((Nat × List Value × List Value) ⊕ (Option Value ⊕ Nat))
abbrev qq_O : Type := Option Value ⊕ Nat
/-- the elements' types -/
def qq_et (t : Nat) : FieldType := if t = 100 then .int else if t = 101 then .boolean else if t = 102 then .byte else if t = 105 then .long else if t = 106 then .double else if t = 110 then .array .int else if t = 111 then .object "StatueChancery$Realm" else .object "StatueChancery$Command"
def qq_at (t : Nat) : Bool := t = 100 || t = 101 || t = 102 || t = 105 || t = 110 || t = 111 || t = 112
/-- instructions of the heap that go on at the next row -/
noncomputable def qq_hp (i : Instr) (lk : List Nat) (st : List Value) (σ : qq_S) : Option (List Value × qq_S) :=
  match i, lk, st with
  | .getfield _, [c, k, _, _], .ref a :: st => qq_if ((kd_S σ a).1 = c ∧ k < qq_nr c) (some (qq_val σ (qq_ty c k) a k :: st, σ)) none
  | .putfield _, [c, k, _, _], v :: .ref a :: st => qq_if ((kd_S σ a).1 = c ∧ k < qq_nf c ∧ qq_K0 ≤ a) ((qq_put σ (qq_ty c k) a k v).map (fun σ' => (st, σ'))) none
  | .getstatic _, [i, _], st => (qq_stat[i]?).map (fun x => (x.2.2.2 :: st, σ))
  | .ldc _, [0, n, _], st => some (.int (Int32.ofNat n) :: st, σ)
  | .ldc _, [1, n, _], st => some (.ref n :: st, σ)
  | .ldc_w _, [1, n, _], st => some (.ref n :: st, σ)
  | .ldc_w _, [0, n, _], st => some (.int (Int32.ofNat n) :: st, σ)
  | .arraylength, _, .ref a :: st => qq_if (qq_at (kd_S σ a).1 = true) (some (.int (Int32.ofNat (kd_S σ a).2) :: st, σ)) none
  | .iaload, _, .int i :: .ref a :: st => qq_if ((kd_S σ a).1 = 100 ∧ vp_in i (kd_S σ a).2) (some (.int (rd_I σ a i.toNatClampNeg) :: st, σ)) none
  | .baload, _, .int i :: .ref a :: st => qq_if (((kd_S σ a).1 = 101 ∨ (kd_S σ a).1 = 102) ∧ vp_in i (kd_S σ a).2) (some (.int (rd_I σ a i.toNatClampNeg) :: st, σ)) none
  | .laload, _, .int i :: .ref a :: st => qq_if ((kd_S σ a).1 = 105 ∧ vp_in i (kd_S σ a).2) (some (.long (rd_L σ a i.toNatClampNeg) :: st, σ)) none
  | .aaload, _, .int i :: .ref a :: st => qq_if ((110 ≤ (kd_S σ a).1 ∧ (kd_S σ a).1 < 113) ∧ vp_in i (kd_S σ a).2) (some (.ref (rd_R σ a i.toNatClampNeg) :: st, σ)) none
  | .iastore, _, .int x :: .int i :: .ref a :: st => qq_if ((kd_S σ a).1 = 100 ∧ vp_in i (kd_S σ a).2 ∧ qq_K0 ≤ a) (some (st, wr_I σ a i.toNatClampNeg x)) none
  | .bastore, _, .int x :: .int i :: .ref a :: st => qq_if (((kd_S σ a).1 = 101 ∨ (kd_S σ a).1 = 102) ∧ vp_in i (kd_S σ a).2 ∧ qq_K0 ≤ a) (some (st, wr_I σ a i.toNatClampNeg (vp_nar (if (kd_S σ a).1 = 101 then .boolean else .byte) x))) none
  | .lastore, _, .long x :: .int i :: .ref a :: st => qq_if ((kd_S σ a).1 = 105 ∧ vp_in i (kd_S σ a).2 ∧ qq_K0 ≤ a) (some (st, wr_L σ a i.toNatClampNeg x)) none
  | .aastore, _, .ref b :: .int i :: .ref a :: st => qq_if (((kd_S σ a).1 = 111 ∧ (kd_S σ b).1 = 8 ∨ (kd_S σ a).1 = 112 ∧ (kd_S σ b).1 = 1) ∧ vp_in i (kd_S σ a).2 ∧ qq_K0 ≤ a) (some (st, wr_R σ a i.toNatClampNeg b)) none
  | .new _, [0, c, _, _, _], st => some (.ref (sz_S σ) :: st, nw_S σ 1 (c, 0) (qq_nf c))
  | .newarray _, [t, _], .int n :: st => qq_if (¬ n < 0 ∧ n.toNatClampNeg ≤ 65536) (some (.ref (sz_S σ) :: st, nw_S σ 1 (t, n.toNatClampNeg) n.toNatClampNeg)) none
  | .anewarray _, [t, _, _], .int n :: st => qq_if (¬ n < 0 ∧ n.toNatClampNeg ≤ 65536) (some (.ref (sz_S σ) :: st, nw_S σ 1 (t, n.toNatClampNeg) n.toNatClampNeg)) none
  | .multianewarray _ 2, [110, _, _, _], .int k :: .int n :: st => qq_if ((¬ n < 0 ∧ n.toNatClampNeg ≤ 65536) ∧ (¬ k < 0 ∧ k.toNatClampNeg ≤ 65536))
      (some (.ref (sz_S σ) :: st, gr_S (nw_S (nw_S σ 1 (110, n.toNatClampNeg) n.toNatClampNeg) n.toNatClampNeg (100, k.toNatClampNeg) (n.toNatClampNeg * k.toNatClampNeg)) (sz_S σ) n.toNatClampNeg)) none
  | .invokestatic _, [20, _, _, _, _], .int n :: .int dp :: .ref b :: .int sp :: .ref a :: st => qq_if (((kd_S σ a).1 = (kd_S σ b).1 ∧ ((kd_S σ a).1 = 100 ∨ (kd_S σ a).1 = 102 ∧ ∀ i, i < n.toNatClampNeg → fits .byte (.int (rd_I σ a (sp.toNatClampNeg + i))) = true)) ∧ a ≠ b ∧ qq_K0 ≤ b ∧
      (¬ sp < 0 ∧ ¬ dp < 0 ∧ ¬ n < 0) ∧ sp.toNatClampNeg + n.toNatClampNeg ≤ (kd_S σ a).2 ∧ dp.toNatClampNeg + n.toNatClampNeg ≤ (kd_S σ b).2 ∧ (st.map fun v => v.category).sum ≤ 8) (some (st, cp_S σ a sp.toNatClampNeg b dp.toNatClampNeg n.toNatClampNeg)) none
  | .invokestatic _, [22, _, _, _, _], .int y :: .int x :: st => qq_if ((st.map fun v => v.category).sum ≤ 8) (some (.int (if x < y then y else x) :: st, σ)) none
  | .invokestatic _, [23, _, _, _, _], .int y :: .int x :: st => qq_if ((st.map fun v => v.category).sum ≤ 8) (some (.int (if y < x then y else x) :: st, σ)) none
  | .invokespecial _, [21, _, _, _], .ref a :: st => qq_if ((kd_S σ a).1 < 200 ∧ (st.map fun v => v.category).sum ≤ 8) (some (st, σ)) none
  | .invokevirtual _, [24, _, _, _, _, _, _], .ref a :: st => qq_if (((kd_S σ a).1 = 102 ∧ qq_K0 ≤ a ∧ ∀ i, i < (kd_S σ a).2 → fits .byte (.int (rd_I σ a i)) = true) ∧ (st.map fun v => v.category).sum ≤ 8) (some (.ref (sz_S σ) :: st, cl_S σ a)) none
  | .checkcast _, [25, _], .ref a :: st => qq_if ((kd_S σ a).1 = 102 ∧ qq_K0 ≤ a) (some (.ref a :: st, σ)) none
  | _, _, _ => none
/-- a call: its number, its arguments, the stack behind -/
noncomputable def qq_cal (i : Instr) (lk : List Nat) (st : List Value) (σ : qq_S) : Option (Nat × List Value × List Value) :=
  match lk with
  | kind :: callee :: n :: c :: _ => qq_if (kind ≤ 9 ∧ n ≤ st.length ∧ (qq_sl (st.take n).reverse).length ≤ qq_maxL callee ∧ ((st.drop n).map fun v => v.category).sum ≤ 8 ∧ (kind ≠ 0 → kind ≠ 3 → kind ≠ 8 → ∃ a, (st.take n).reverse.head? = some (.ref a) ∧ (kd_S σ a).1 < 200 ∧ (kind ≠ 2 → kind ≠ 5 → (kd_S σ a).1 = c)))
      (some (callee, (st.take n).reverse, st.drop n)) none
  | _ => none
noncomputable def qq_rt (m : Nat) (i : Instr) (st : List Value) : Option (Option Value) :=
  match i, st with
  | .ireturn, [.int x] => (match qq_ret m with | some ty => qq_if (narrow ty (.int x) = .int x) (some (some (.int x))) none | none => none)
  | .dreturn, [.double x] => qq_if (qq_ret m = some .double) (some (some (.double x))) none
  | .freturn, [.float x] => qq_if (qq_ret m = some .float) (some (some (.float x))) none
  | .areturn, [.ref a] => (match qq_ret m with | some (.object _) => some (some (.ref a)) | some (.array _) => some (some (.ref a)) | _ => none)
  | .return_, [] => qq_if (qq_ret m = none) (some none) none
  | _, _ => none
/-- which group an instruction belongs to -/
def qq_grp (i : Instr) (lk : List Nat) : Nat := match i with
  | .iconst _ | .bipush _ | .sipush _ | .lconst _ | .aconst_null | .fconst _ | .dconst _ => 0
  | .iload_n _ | .iload _ | .lload_n _ | .lload _ | .fload_n _ | .fload _ | .dload_n _ | .dload _ | .aload_n _ | .aload _ => 1
  | .istore_n _ | .istore _ | .lstore_n _ | .lstore _ | .fstore_n _ | .fstore _ | .dstore_n _ | .dstore _ | .astore_n _ | .astore _ => 2
  | .ineg | .i2l | .l2i | .i2b | .i2c | .i2d | .i2f | .f2d => 3
  | .iadd | .isub | .imul | .idiv | .irem | .iand | .ior | .ixor | .ishl | .ishr | .iushr | .ladd | .lsub | .land | .lor | .lshl | .lshr | .lcmp | .ddiv | .fdiv | .dcmp _ | .fcmp _ => 4
  | .pop | .dup | .dup_x1 | .dup2 => 5
  | .ifCond _ _ | .if_icmp _ _ | .goto _ | .ifnull _ | .ifnonnull _ => 6
  | .tableswitch _ _ _ _ | .lookupswitch _ _ => 7
  | .iinc _ _ => 8
  | .getfield _ | .putfield _ | .getstatic _ | .ldc _ | .ldc_w _ | .arraylength | .iaload | .baload | .laload | .daload | .aaload | .iastore | .bastore | .lastore | .dastore | .aastore | .newarray _ | .anewarray _ | .multianewarray _ _ => 9
  | .new _ => (match lk with | 0 :: _ => 9 | 1 :: _ => 12 | _ => 13)
  | .invokevirtual _ | .invokespecial _ | .invokestatic _ => (match lk with | 20 :: _ => 9 | 21 :: _ => 9 | 22 :: _ => 9 | 23 :: _ => 9 | 24 :: _ => 9 | _ => 10)
  | .checkcast _ => (match lk with | 25 :: _ => 9 | _ => 13)
  | .ireturn | .dreturn | .freturn | .areturn | .return_ => 11
  | _ => 13
noncomputable def qq_step (m : Nat) (e : qq_E) (j : Nat) (ls : List (Option Value)) (st : List Value) (σ : qq_S) : Option qq_A :=
  match qq_grp e.2.1 e.2.2.2 with
  | 0 => (match qq_cst e.2.1 with | some v => some (.inl (j + 1, ls, v :: st, σ)) | none => none)
  | 1 => (match qq_ldi e.2.1 with | some (i, t) => (match ls[i]? with | some (some v) => if qq_tc v = t then some (.inl (j + 1, ls, v :: st, σ)) else none | _ => none) | none => none)
  | 2 => (match qq_sti e.2.1, st with | some (i, t), v :: st => if qq_tc v = t ∧ i + v.category ≤ ls.length then some (.inl (j + 1, qq_set ls i v, st, σ)) else none | _, _ => none)
  | 3 => (match st with | x :: st => (match qq_un e.2.1 x with | some v => some (.inl (j + 1, ls, v :: st, σ)) | none => none) | _ => none)
  | 4 => (match st with | y :: x :: st => (match qq_bin e.2.1 y x with | some v => some (.inl (j + 1, ls, v :: st, σ)) | none => none) | _ => none)
  | 5 => (match qq_shf e.2.1 st with | some st' => some (.inl (j + 1, ls, st', σ)) | none => none)
  | 6 => (match qq_br e.2.1 st, e.2.2.2 with | some (b, st'), [t] => some (.inl (if b then t else j + 1, ls, st', σ)) | _, _ => none)
  | 7 => (match st with | .int x :: st => (match qq_sw e.2.1 x with | some k => (match e.2.2.2[k]? with | some t => some (.inl (t, ls, st, σ)) | none => none) | none => none) | _ => none)
  | 8 => (match e.2.1 with | .iinc i n => (match ls[i]? with | some (some (.int x)) => some (.inl (j + 1, qq_set ls i (.int (x + Int32.ofInt n)), st, σ)) | _ => none) | _ => none)
  | 9 => (match qq_hp e.2.1 e.2.2.2 st σ with | some (st', σ') => some (.inl (j + 1, ls, st', σ')) | none => none)
  | 10 => (match qq_cal e.2.1 e.2.2.2 st σ with | some c => some (.inr (.inl c)) | none => none)
  | 11 => (match qq_rt m e.2.1 st with | some v => some (.inr (.inr (.inl v))) | none => none)
  | 12 => (match e.2.2.2 with | [1, x, _] => if (st.map fun v => v.category).sum ≤ 8 ∧ qq_hn m = [] then some (.inr (.inr (.inr x))) else none | _ => none)
  | _ => none
/-- the handler that takes an exception thrown by the call at place j: it puts it away first (its place, the local) -/
def qq_han (m j x : Nat) (ls : List (Option Value)) : Option (Nat × Nat) := (qq_hn m).findSome? (fun h => if h.1 ≤ j ∧ j < h.2.1 ∧ h.2.2.1 = x then (match qq_T m h.2.2.2 with
  | some e => (match qq_sti e.2.1 with | some (i, 4) => if i < ls.length then some (h.2.2.2, i) else none | _ => none)
  | none => none) else none)
noncomputable def qq_run : Nat → Nat → Nat → Nat → List (Option Value) → List Value → qq_S → Option (qq_O × qq_S)
  | 0, _, _, _, _, _, _ => none
  | n + 1, d, m, j, ls, st, σ => match qq_T m j with
    | none => none
    | some e => match qq_step m e j ls st σ with
      | none => none
      | some (.inl (j', ls', st', σ')) => qq_run n d m j' ls' st' σ'
      | some (.inr (.inl (c, args, rest))) => (match d with
        | 0 => none
        | d' + 1 => match qq_run n d' c 0 (qq_ent (qq_maxL c) args) [] σ with
          | none => none
          | some (.inl v, σ') => qq_run n (d' + 1) m (j + 1) ls (v.toList ++ rest) σ'
          | some (.inr x, σ') => (match qq_hn m with
            | [] => some (.inr x, σ')
            | _ => match qq_han m j x ls with
              | none => none
              | some h => qq_run n (d' + 1) m (h.1 + 1) ((qq_set ls h.2 (.ref 0)).set h.2 none) [] σ'))
      | some (.inr (.inr (.inl v))) => some (.inl v, σ)
      | some (.inr (.inr (.inr x))) => some (.inr x, nw_S σ 1 (201, 0) 6)
theorem qq_mono1 : ∀ (n d m j : Nat) (ls : List (Option Value)) (st : List Value) (σ : qq_S) (r : qq_O × qq_S), qq_run n d m j ls st σ = some r → qq_run (n + 1) d m j ls st σ = some r := by
  intro n
  induction n with
  | zero => intro d m j ls st σ r h; simp [qq_run] at h
  | succ n ih =>
    intro d m j ls st σ r h
    rw [qq_run] at h ⊢
    split at h
    · cases h
    · rename_i e he
      split at h
      · cases h
      · rename_i j' ls' st' σ' hs
        (try simp only [hs])
        exact ih _ _ _ _ _ _ _ h
      · rename_i c args rest hs
        (try simp only [hs])
        split at h
        · cases h
        · rename_i d'
          (try dsimp only)
          split at h
          · cases h
          · rename_i v σ' hr
            rw [ih _ _ _ _ _ _ _ hr]
            exact ih _ _ _ _ _ _ _ h
          · rename_i x σ' hr
            rw [ih _ _ _ _ _ _ _ hr]
            (try dsimp only)
            split at h
            · rename_i hh
              (try simp only [hh]); exact h
            · rename_i hh
              split at h
              · cases h
              · rename_i hd hhd
                (try simp only [hhd])
                exact ih _ _ _ _ _ _ _ h
      · rename_i v hs
        (try simp only [hs])
        exact h
      · rename_i x hs
        (try simp only [hs])
        exact h
theorem qq_mono {n k d m j : Nat} {ls : List (Option Value)} {st : List Value} {σ : qq_S} {r : qq_O × qq_S} (h : qq_run n d m j ls st σ = some r) (hk : n ≤ k) : qq_run k d m j ls st σ = some r := by
  obtain ⟨i, rfl⟩ := Nat.le.dest hk
  induction i with
  | zero => exact h
  | succ i ih => exact qq_mono1 _ _ _ _ _ _ _ _ (ih (Nat.le_add_right _ _))
end
section
/-! WHAT THE ABSTRACT STATE SAYS OF THE HEAP -/
/-- class ids, slots of fields, classes of arrays, addresses of the constants, the heap at the start -/
abbrev qq_X : Type := (Nat → ClassId) × (Nat → Nat → Nat) × (Nat → ClassId) × (Nat → Option Nat) × Heap
def xb_ (X : qq_X) : Nat := X.2.2.2.2.size
def ro_ (X : qq_X) (a : Nat) : Option Nat := if a < qq_K0 then X.2.2.2.1 a else some (xb_ X + (a - qq_K0))
def rv_ (X : qq_X) (v : Value) : Value := match v with
  | .ref a => va_rf (ro_ X a)
  | v => v
theorem rv_cat (X : qq_X) (v : Value) : (rv_ X v).category = v.category := by
  cases v with
  | ref a => simp only [rv_]; cases ro_ X a <;> rfl
  | _ => rfl
theorem rv_cats (X : qq_X) (st : List Value) : ((st.map (rv_ X)).map fun v => v.category) = st.map fun v => v.category := by
  rw [List.map_map]; exact List.map_congr_left (fun v _ => rv_cat X v)
def nestW : Jvm.Cond → Bool
  | .fieldLinkNest .. => true
  | .methodLinkNest .. => true
  | .declares _ => true
  | .castable .. => true
  | .arrayOver (.object _) => true
  | .arrayOver (.array _) => true
  | _ => false
/-- the kinds of the constants -/
def qq_ck (a : Nat) : Nat := qq_cks.getD a 200
/-- an array as it is read -/
def qq_Ar (U : State) (H : Heap) (p t n : Nat) (V : Nat → Value) : Prop := ∃ cell : Cell, H[p]? = some cell ∧ U.isArrayOf cell (qq_et t) ∧ cell.vm ≠ .unknown ∧ cell.vm.isStatics = false ∧ cell.slots.size = n ∧ ∀ j, j < n → cell.slots[j]? = some (V j)
/-- an object as it is read -/
def qq_Ob (H : Heap) (p : Nat) (cC : ClassId) (N : Nat) (iS : Nat → Nat) (V : Nat → Value) : Prop := ∃ cell : Cell, H[p]? = some cell ∧ cell.cls = cC ∧ cell.vm ≠ .unknown ∧ cell.vm.isStatics = false ∧ ∀ k, k < N → cell.slots[iS k]? = some (V k)
/-- what the tables say: of the state at a method's entry -/
def qq_Fx (X : qq_X) (U : State) : Prop :=
  (∀ (i : Nat) (w : Jvm.Cond), qq_tbl[i]? = some w → goodWord w = true → ∀ a' : Array Value, w.before a' U = true) ∧
  (∀ (i : Nat) (w : Jvm.Cond), qq_tbl[i]? = some w → nestW w = true → va_Nw w U) ∧
  (∀ (c : Nat) (q : vw_C), qq_cl[c]? = some q → U.vm.findClass q.1 = some (X.1 c) ∧ ∀ k, k < q.2.2 → ∃ cf kf fi fd, U.fieldFound? (q.2.1 k).1 (q.2.1 k).2.1 (q.2.1 k).2.2.1 = some (cf, kf, fi, fd) ∧ fd.isStatic = false ∧ fd.slot = X.2.1 c k) ∧
  (∀ t : Nat, qq_at t = true → ArrOfT U (X.2.2.1 t) (qq_et t) ∧ va_RA U (X.2.2.1 t) (qq_et t)) ∧
  (∀ (i : Nat) (q : String × Nat × String × Nat), qq_strs[i]? = some q → ∃ a : Nat, X.2.2.2.1 q.2.2.2 = some a ∧ vk_R q.1 q.2.1 q.2.2.1 a U) ∧
  (∀ a : Nat, a < qq_K0 → qq_at (qq_ck a) = true → ∃ (p : Nat) (cell : Cell), X.2.2.2.1 a = some p ∧ X.2.2.2.2[p]? = some cell ∧ U.isArrayOf cell (qq_et (qq_ck a)) ∧ cell.vm ≠ .unknown ∧ cell.vm.isStatics = false) ∧
  (∀ (i : Nat) (q : String × String × String × Value), qq_stat[i]? = some q → va_Z q.1 q.2.1 q.2.2.1 (rv_ X q.2.2.2) (fun z : Nat => xb_ X ≤ z) U X.2.2.2.2) ∧
  (∀ (i j : Nat) (q r : String × Nat × Nat × List String), qq_ex[i]? = some q → qq_ex[j]? = some r → i ≠ j → va_Nc q.1 r.1 U) ∧
  vx_Zq Bundle.tN "UNASSIGNED_STACK" Bundle.steD (fun z : Nat => xb_ X ≤ z) U X.2.2.2.2 ∧ vx_Zq Bundle.tN "SUPPRESSED_SENTINEL" Bundle.listD (fun z : Nat => xb_ X ≤ z) U X.2.2.2.2 ∧
  X.2.2.2.1 0 = none ∧ (∀ a : Nat, a ≠ 0 → a ≠ 2 → a < qq_K0 → ∃ q, X.2.2.2.1 a = some q)
/-- a cell as the abstract state has it -/
def qq_Ce (X : qq_X) (σ : qq_S) (a : Nat) (H : Heap) : Prop :=
  if (kd_S σ a).1 < 100 then (kd_S σ a).1 < qq_cl.length ∧ t_OB (xb_ X + (a - qq_K0)) (X.1 (kd_S σ a).1) (qq_nf (kd_S σ a).1) (X.2.1 (kd_S σ a).1) H (fun k => rv_ X (qq_val σ (qq_ty (kd_S σ a).1 k) a k))
  else if (kd_S σ a).1 < 200 then qq_at (kd_S σ a).1 = true ∧ H[xb_ X + (a - qq_K0)]? = some (arrV (X.2.2.1 (kd_S σ a).1) (kd_S σ a).2 (fun j => rv_ X (qq_val σ (qq_et (kd_S σ a).1) a j))) else True
/-- a constant's cell -/
def qq_Co (X : qq_X) (σ : qq_S) (a : Nat) : Prop := (kd_S σ a).1 = qq_ck a ∧
  if qq_ck a < 100 then ∃ p : Nat, X.2.2.2.1 a = some p ∧ qq_Ob X.2.2.2.2 p (X.1 (qq_ck a)) (qq_nr (qq_ck a)) (X.2.1 (qq_ck a)) (fun k => rv_ X (qq_val σ (qq_ty (qq_ck a) k) a k))
  else if qq_ck a < 200 then ∀ (p : Nat) (cell : Cell), X.2.2.2.1 a = some p → X.2.2.2.2[p]? = some cell → cell.slots.size = (kd_S σ a).2 ∧ ∀ j, j < (kd_S σ a).2 → cell.slots[j]? = some (rv_ X (qq_val σ (qq_et (qq_ck a)) a j)) else True
def qq_Hp (X : qq_X) (σ : qq_S) (H : Heap) : Prop :=
  qq_K0 ≤ sz_S σ ∧ H.size = xb_ X + (sz_S σ - qq_K0) ∧ (∀ q : Nat, q < xb_ X → H[q]? = X.2.2.2.2[q]?) ∧ (∀ a : Nat, sz_S σ ≤ a → (kd_S σ a).1 = 200) ∧
  (∀ a : Nat, a < qq_K0 → qq_Co X σ a) ∧ (∀ a : Nat, qq_K0 ≤ a → a < sz_S σ → qq_Ce X σ a H)
theorem ao_moved {t : FieldType} (ht : (match t with | .object _ => true | .array _ => true | _ => false) = true) {u U : State} (hvm : u.vm.Alike U.vm) (h : va_Nw (.arrayOver t) u) : va_Nw (.arrayOver t) U := by
  cases t with
  | object C => exact va_AO.moved hvm h
  | array t => exact Stand.arrayOver_alikeB hvm h
  | _ => cases ht
theorem Fx_word {X : qq_X} {U : State} (h : qq_Fx X U) {i : Nat} {w : Jvm.Cond} (hw : qq_tbl[i]? = some w) (hg : goodWord w = true) {a' : Array Value} : w.before a' U = true := h.1 i w hw hg a'
theorem Fx_nw {X : qq_X} {U : State} (h : qq_Fx X U) {i : Nat} {w : Jvm.Cond} (hw : qq_tbl[i]? = some w) (hg : nestW w = true) : va_Nw w U := h.2.1 i w hw hg
theorem Fx_moved {X : qq_X} {s U : State} (h : qq_Fx X s) (hW : s.WarmedH U.vm) : qq_Fx X U := by
  have hal := hW.alike
  obtain ⟨h1, h2, h3, h4, h5, h6, h7, h8, h9, h10, h11, h12⟩ := h
  refine ⟨fun i w hw hg a' => word_at (args := #[]) hW (good_of_word hg) (h1 i w hw hg #[]), fun i w hw hg => ?_, fun c q hq => ?_, fun t ht => ?_, fun i q hq => ?_, fun a ha hat => ?_, fun i q hq => va_Z.moved hal (h7 i q hq), fun i j q r hq hr hij => va_Nc.moved hal (h8 i j q r hq hr hij), vx_Zq.moved hal h9, vx_Zq.moved hal h10, h11, h12⟩
  · have h0 := h2 i w hw hg
    cases w <;> first | exact va_Nw.warmF hW h0 | exact va_Nw.warmM hW h0 | exact va_Nw.warmD hW h0 | exact va_Nw.warmC hW h0 | (rename_i t; cases t <;> first | (exact ao_moved rfl hal h0) | cases hg) | cases hg
  · obtain ⟨g1, g2⟩ := h3 c q hq
    refine ⟨by rw [hal.findClass]; exact g1, fun k hk => ?_⟩
    obtain ⟨cf, kf, fi, fd, e1, e2⟩ := g2 k hk
    obtain ⟨k', e3, -⟩ := State.fieldFound?_setVm hal e1
    exact ⟨cf, k', fi, fd, e3, e2⟩
  · obtain ⟨g1, g2⟩ := h4 t ht
    exact ⟨arrOfT_moved hal g1, g2.moved hal⟩
  · obtain ⟨a, g1, g2⟩ := h5 i q hq
    exact ⟨a, g1, g2.warm hW⟩
  · obtain ⟨q, cell, g1, g2, g3, g4⟩ := h6 a ha hat
    exact ⟨q, cell, g1, g2, State.isArrayOf_alike hal g3, g4⟩
end
section
/-! READING AND WRITING THE HEAP UNDER THE ABSTRACT STATE -/
theorem qq_nl : qq_tys.length = 13 ∧ qq_cl.length = 13 := ⟨rfl, rfl⟩
theorem qq_at_no {t : Nat} (h : qq_at t = true) : 100 ≤ t ∧ t < 120 ∧ t ≠ 200 := by
  simp only [qq_at, Bool.or_eq_true, decide_eq_true_eq] at h
  omega
theorem hp_lt {X : qq_X} {σ : qq_S} {H : Heap} (h : qq_Hp X σ H) {a : Nat} (hk : (kd_S σ a).1 ≠ 200) : a < sz_S σ := by
  rcases Nat.lt_or_ge a (sz_S σ) with q | q
  · exact q
  · exact absurd (h.2.2.2.1 a q) hk
theorem ro_own {X : qq_X} {a : Nat} (h : qq_K0 ≤ a) : ro_ X a = some (xb_ X + (a - qq_K0)) := if_neg (by omega)
theorem ro_con {X : qq_X} {a : Nat} (h : a < qq_K0) : ro_ X a = X.2.2.2.1 a := if_pos h
theorem hp_ar {X : qq_X} {σ : qq_S} {H : Heap} {s : State} (hF : qq_Fx X s) (h : qq_Hp X σ H) {a t : Nat} (hk : (kd_S σ a).1 = t) (ht : qq_at t = true) :
    ∃ p, ro_ X a = some p ∧ qq_Ar s H p t (kd_S σ a).2 (fun j => rv_ X (qq_val σ (qq_et t) a j)) := by
  obtain ⟨t1, t2, t3⟩ := qq_at_no ht
  have hlt := hp_lt h (a := a) (by rw [hk]; exact t3)
  obtain ⟨h0, hz, hq, hn, hc, ho⟩ := h
  by_cases hK : a < qq_K0
  · obtain ⟨e1, e2⟩ := hc a hK
    have hck : qq_ck a = t := e1.symm.trans hk
    rw [hck, if_neg (by omega), if_pos (by omega)] at e2
    obtain ⟨p, cell, g1, g2, g3, g4, g5⟩ := hF.2.2.2.2.2.1 a hK (by rw [hck]; exact ht)
    obtain ⟨g6, g7⟩ := e2 p cell g1 g2
    rw [hck] at g3
    exact ⟨p, by rw [ro_con hK]; exact g1, cell, by rw [hq p (Array.getElem?_eq_some_iff.mp g2).1]; exact g2, g3, g4, g5, g6, g7⟩
  · have hK' : qq_K0 ≤ a := by omega
    have hce := ho a hK' hlt
    rw [qq_Ce, hk, if_neg (by omega), if_pos (by omega)] at hce
    refine ⟨_, ro_own hK', _, hce.2, (hF.2.2.2.1 t ht).1 _ _, (fun q => by cases q), rfl, arrV_size _ _ _, fun j hj => ?_⟩
    rw [arrV_read _ _ hj]
theorem hp_ob {X : qq_X} {σ : qq_S} {H : Heap} (h : qq_Hp X σ H) {a c : Nat} (hk : (kd_S σ a).1 = c) (hc100 : c < 100) :
    ∃ p, ro_ X a = some p ∧ qq_Ob H p (X.1 c) (qq_nr c) (X.2.1 c) (fun k => rv_ X (qq_val σ (qq_ty c k) a k)) := by
  have hlt := hp_lt h (a := a) (by rw [hk]; omega)
  obtain ⟨h0, hz, hq, hn, hc, ho⟩ := h
  by_cases hK : a < qq_K0
  · obtain ⟨e1, e2⟩ := hc a hK
    have hck : qq_ck a = c := e1.symm.trans hk
    rw [hck, if_pos hc100] at e2
    obtain ⟨p, g1, cell, g2, g3⟩ := e2
    exact ⟨p, by rw [ro_con hK]; exact g1, cell, by rw [hq p (Array.getElem?_eq_some_iff.mp g2).1]; exact g2, g3⟩
  · have hK' : qq_K0 ≤ a := by omega
    have hce := ho a hK' hlt
    rw [qq_Ce, hk, if_pos hc100] at hce
    obtain ⟨-, cell, g1, g2, g3, g4⟩ := hce
    exact ⟨_, ro_own hK', cell, g1, g2, by rw [g3]; exact (fun q => nomatch q), by rw [g3]; rfl, fun k hk => g4 k (Nat.lt_of_lt_of_le hk nr_le)⟩
/-- a reference that is one -/
theorem hp_ref {X : qq_X} {σ : qq_S} {H : Heap} {s : State} (hF : qq_Fx X s) (h : qq_Hp X σ H) {a : Nat} (hk : (kd_S σ a).1 < 200) : ∃ p, ro_ X a = some p ∧ p < H.size := by
  have hlt := hp_lt h (a := a) (by omega)
  obtain ⟨h0, hz, hq, hn, hc, ho⟩ := h
  by_cases hK : a < qq_K0
  · obtain ⟨e1, e2⟩ := hc a hK
    rw [← e1] at e2
    by_cases hc1 : (kd_S σ a).1 < 100
    · rw [if_pos hc1] at e2
      obtain ⟨p, g1, cell, g2, g3⟩ := e2
      exact ⟨p, by rw [ro_con hK]; exact g1, by have := (Array.getElem?_eq_some_iff.mp g2).1; simp only [xb_] at hz; omega⟩
    · have hat : qq_at (qq_ck a) = true := by
        have key : ∀ b, b < qq_K0 → 100 ≤ qq_ck b → qq_ck b < 200 → qq_at (qq_ck b) = true := by decide +kernel
        exact key a hK (by rw [← e1]; omega) (by rw [← e1]; omega)
      obtain ⟨p, cell, g1, g2, -⟩ := hF.2.2.2.2.2.1 a hK hat
      exact ⟨p, by rw [ro_con hK]; exact g1, by have := (Array.getElem?_eq_some_iff.mp g2).1; simp only [xb_] at hz; omega⟩
  · have hK' : qq_K0 ≤ a := by omega
    exact ⟨_, ro_own hK', by omega⟩
theorem Co_same {X : qq_X} {σ σ' : qq_S} {a : Nat} (hk : kd_S σ' a = kd_S σ a) (hv : ∀ ty k, qq_val σ' ty a k = qq_val σ ty a k) (h : qq_Co X σ a) : qq_Co X σ' a := by
  unfold qq_Co at h ⊢
  rw [hk]
  simp only [hv]
  exact h
theorem Ce_same {X : qq_X} {σ σ' : qq_S} {a : Nat} {H H' : Heap} (hk : kd_S σ' a = kd_S σ a) (hv : ∀ ty k, qq_val σ' ty a k = qq_val σ ty a k) (hq : H'[xb_ X + (a - qq_K0)]? = H[xb_ X + (a - qq_K0)]?) (h : qq_Ce X σ a H) : qq_Ce X σ' a H' := by
  unfold qq_Ce at h ⊢
  rw [hk]
  simp only [hv]
  split at h
  · rename_i h1
    rw [if_pos h1]
    exact ⟨h.1, h.2.kept hq⟩
  · rename_i h1
    rw [if_neg h1]
    split at h
    · rename_i h2
      rw [if_pos h2]
      exact ⟨h.1, hq.trans h.2⟩
    · rename_i h2
      rw [if_neg h2]
      trivial
theorem hp_put {X : qq_X} {σ σ' : qq_S} {H H' : Heap} {a : Nat} (h : qq_Hp X σ H) (ha : qq_K0 ≤ a) (has : a < sz_S σ) (hk : ∀ b, kd_S σ' b = kd_S σ b) (hs : sz_S σ' = sz_S σ) (hv : ∀ b, b ≠ a → ∀ ty k, qq_val σ' ty b k = qq_val σ ty b k)
    (e : qq_Ce X σ' a H') (hz' : H'.size = H.size) (oq : ∀ q : Nat, q ≠ xb_ X + (a - qq_K0) → H'[q]? = H[q]?) : qq_Hp X σ' H' := by
  obtain ⟨h0, hz, hq, hn, hc, ho⟩ := h
  refine ⟨by rw [hs]; exact h0, by rw [hz', hs]; exact hz, fun q hq' => by rw [oq q (by omega)]; exact hq q hq', fun b hb => by rw [hk]; exact hn b (by rw [← hs]; exact hb), fun b hb => Co_same (hk b) (hv b (by omega)) (hc b hb), fun b hb hb2 => ?_⟩
  by_cases hba : b = a
  · subst hba; exact e
  · exact Ce_same (hk b) (hv b hba) (oq _ (by omega)) (ho b hb (by rw [← hs]; exact hb2))
theorem val_up {σ : qq_S} {a b : Nat} (h : b ≠ a) (k0 : Nat) (v : Int32) (ty : FieldType) (k : Nat) : qq_val (wr_I σ a k0 v) ty b k = qq_val σ ty b k := by
  have e : rd_I (wr_I σ a k0 v) b k = rd_I σ b k := if_neg (fun q => h q.1)
  cases ty <;> simp only [qq_val, e] <;> rfl
theorem val_upR {σ : qq_S} {a b : Nat} (h : b ≠ a) (k0 : Nat) (v : Nat) (ty : FieldType) (k : Nat) : qq_val (wr_R σ a k0 v) ty b k = qq_val σ ty b k := by
  have e : rd_R (wr_R σ a k0 v) b k = rd_R σ b k := if_neg (fun q => h q.1)
  cases ty <;> simp only [qq_val, e] <;> rfl
theorem val_upL {σ : qq_S} {a b : Nat} (h : b ≠ a) (k0 : Nat) (v : Int64) (ty : FieldType) (k : Nat) : qq_val (wr_L σ a k0 v) ty b k = qq_val σ ty b k := by
  have e : rd_L (wr_L σ a k0 v) b k = rd_L σ b k := if_neg (fun q => h q.1)
  cases ty <;> simp only [qq_val, e] <;> rfl
theorem val_upD {σ : qq_S} {a b : Nat} (h : b ≠ a) (k0 : Nat) (v : UInt64) (ty : FieldType) (k : Nat) : qq_val (wr_D σ a k0 v) ty b k = qq_val σ ty b k := by
  have e : rd_D (wr_D σ a k0 v) b k = rd_D σ b k := if_neg (fun q => h q.1)
  cases ty <;> simp only [qq_val, e] <;> rfl
/-- a new cell -/
theorem hp_new {X : qq_X} {σ : qq_S} {H H' : Heap} (h : qq_Hp X σ H) (kd : Nat × Nat) (n : Nat) (hz' : H'.size = H.size + 1) (oq : ∀ q : Nat, q < H.size → H'[q]? = H[q]?)
    (e : qq_Ce X (nw_S σ 1 kd n) (sz_S σ) H') : qq_Hp X (nw_S σ 1 kd n) H' := by
  obtain ⟨h0, hz, hq, hn, hc, ho⟩ := h
  have hs : sz_S (nw_S σ 1 kd n) = sz_S σ + 1 := rfl
  have hk : ∀ b, b ≠ sz_S σ → kd_S (nw_S σ 1 kd n) b = kd_S σ b := fun b hb => if_neg (by omega)
  have hv : ∀ b, b ≠ sz_S σ → ∀ ty k, qq_val (nw_S σ 1 kd n) ty b k = qq_val σ ty b k := by
    intro b hb ty k
    have e1 : rd_I (nw_S σ 1 kd n) b k = rd_I σ b k := if_neg (by omega)
    have e2 : rd_R (nw_S σ 1 kd n) b k = rd_R σ b k := if_neg (by omega)
    have e3 : rd_L (nw_S σ 1 kd n) b k = rd_L σ b k := if_neg (by omega)
    have e4 : rd_D (nw_S σ 1 kd n) b k = rd_D σ b k := if_neg (by omega)
    cases ty <;> simp only [qq_val, e1, e2, e3, e4]
  refine ⟨by rw [hs]; omega, by rw [hz', hs, hz]; omega, fun q hq' => by rw [oq q (by omega)]; exact hq q hq', fun b hb => by rw [hk b (by omega)]; exact hn b (by omega), fun b hb => Co_same (hk b (by omega)) (hv b (by omega)) (hc b hb), fun b hb hb2 => ?_⟩
  by_cases hba : b = sz_S σ
  · subst hba; exact e
  · exact Ce_same (hk b hba) (hv b hba) (oq _ (by omega)) (ho b hb (by omega))
theorem nw_val (σ : qq_S) (kd : Nat × Nat) (n : Nat) (ty : FieldType) (k : Nat) (m : Nat) : qq_val (nw_S σ (m + 1) kd n) ty (sz_S σ) k = (match ty with | .long => .long 0 | .double => .double 0 | .object _ => .ref 0 | .array _ => .ref 0 | .float => .float 0 | _ => .int 0) := by
  have hc : sz_S σ ≤ sz_S σ ∧ sz_S σ < sz_S σ + (m + 1) := by omega
  have e1 : rd_I (nw_S σ (m + 1) kd n) (sz_S σ) k = 0 := if_pos hc
  have e2 : rd_R (nw_S σ (m + 1) kd n) (sz_S σ) k = 0 := if_pos hc
  have e3 : rd_L (nw_S σ (m + 1) kd n) (sz_S σ) k = 0 := if_pos hc
  have e4 : rd_D (nw_S σ (m + 1) kd n) (sz_S σ) k = 0 := if_pos hc
  cases ty <;> simp only [qq_val, e1, e2, e3, e4]
end
section
/-! THE MACHINE DOES WHAT THE ABSTRACT MACHINE DOES: instructions that touch no heap -/
/-- the locals -/
def qq_Lr (X : qq_X) (al : List (Option Value)) (ls : Array Slot) : Prop := ls.size = al.length ∧ lv_wf ls ∧ ∀ (i : Nat) (v : Value), al[i]? = some (some v) → ls[i]? = some (.val (rv_ X v))
section QOPS
variable {p : Program} {l : Launch} {e : Env} {R : Room} {s : State} {m : MethodId} {args : Array Value} {below : List Frame} {meth : Method} {c : Code} {H : Heap} {locs : List Loc} {cells slots : Nat} {Q : State → Prop}
variable {cc : ByteArray} {pc : Nat} {ls : Array Slot} {rest : List Value} {X : qq_X}
theorem so_cst (hx : p.tables.exec = Jvm.exec) (hb : c.code = cc) {i : Instr} {v : Value} (hs : qq_cst i = some v) (h0 : ro_ X 0 = none) (hd : decode cc pc = .ok (i, qq_len i))
    (k : W p l e R s m args below meth c H locs cells slots Q (F0 m (pc + qq_len i) ls (rv_ X v :: rest))) : W p l e R s m args below meth c H locs cells slots Q (F0 m pc ls rest) := by
  unfold qq_cst at hs
  split at hs
  · cases hs; exact lv_iconst hx hb hd rfl k
  · cases hs; exact lv_bipush hx hb hd rfl k
  · cases hs; exact lv_sipush hx hb hd rfl k
  · cases hs; exact lv_lconst hx hb hd rfl k
  · cases hs
    have e1 : rv_ X (.ref 0) = .null := by simp only [rv_, h0]; rfl
    rw [e1] at k
    exact lv_null hx hb hd k
  · split at hs
    · rename_i h; subst h; cases hs; exact lv_fconst0 hx hb hd k
    · cases hs
  · split at hs
    · rename_i h; subst h; cases hs; exact lv_dconst0 hx hb hd k
    · cases hs
  · cases hs
theorem so_un (hx : p.tables.exec = Jvm.exec) (hb : c.code = cc) {i : Instr} {v x : Value} (hs : qq_un i x = some v) (hd : decode cc pc = .ok (i, qq_len i))
    (k : W p l e R s m args below meth c H locs cells slots Q (F0 m (pc + qq_len i) ls (rv_ X v :: rest))) : W p l e R s m args below meth c H locs cells slots Q (F0 m pc ls (rv_ X x :: rest)) := by
  unfold qq_un at hs
  split at hs
  · cases hs; exact lv_ineg hx hb hd k
  · cases hs; exact lv_i2l hx hb hd rfl k
  · cases hs; exact lv_l2i hx hb hd rfl k
  · cases hs; exact lv_i2b hx hb hd rfl k
  · cases hs; exact lv_i2c hx hb hd rfl k
  · cases hs; exact lv_i2d hx hb hd k
  · cases hs; exact lv_i2f hx hb hd k
  · obtain ⟨h1, rfl⟩ := qq_if_some hs; exact lv_f2d hx hb hd h1 k
  · cases hs
theorem so_bin (hx : p.tables.exec = Jvm.exec) (hb : c.code = cc) {i : Instr} {v x y : Value} (hs : qq_bin i y x = some v) (hd : decode cc pc = .ok (i, qq_len i))
    (k : W p l e R s m args below meth c H locs cells slots Q (F0 m (pc + qq_len i) ls (rv_ X v :: rest))) : W p l e R s m args below meth c H locs cells slots Q (F0 m pc ls (rv_ X y :: rv_ X x :: rest)) := by
  unfold qq_bin at hs
  split at hs
  · cases hs; exact lv_iadd hx hb hd k
  · cases hs; exact lv_isub hx hb hd k
  · cases hs; exact lv_imul hx hb hd k
  · obtain ⟨h1, rfl⟩ := qq_if_some hs; exact lv_idiv hx hb hd h1 k
  · obtain ⟨h1, rfl⟩ := qq_if_some hs; exact lv_irem hx hb hd h1 k
  · cases hs; exact lv_iand hx hb hd k
  · cases hs; exact lv_ior hx hb hd k
  · cases hs; exact lv_ixor hx hb hd k
  · cases hs; exact lv_ishl hx hb hd k
  · cases hs; exact lv_ishr hx hb hd k
  · cases hs; exact lv_iushr hx hb hd rfl k
  · cases hs; exact lv_ladd hx hb hd k
  · cases hs; exact lv_lsub hx hb hd k
  · cases hs; exact lv_land hx hb hd k
  · cases hs; exact lv_lor hx hb hd k
  · cases hs; exact lv_lshl hx hb hd rfl k
  · cases hs; exact lv_lshr hx hb hd rfl k
  · cases hs; exact W.lcmp hx hb hd k
  · obtain ⟨h1, rfl⟩ := qq_if_some hs; exact lv_ddiv hx hb hd h1 k
  · obtain ⟨h1, rfl⟩ := qq_if_some hs; exact lv_fdiv hx hb hd h1 k
  · cases hs; exact lv_dcmp hx hb hd k
  · cases hs; exact lv_fcmp hx hb hd k
  · cases hs
theorem so_shf (hx : p.tables.exec = Jvm.exec) (hb : c.code = cc) {i : Instr} {st st' : List Value} (hs : qq_shf i st = some st') (hd : decode cc pc = .ok (i, qq_len i))
    (k : W p l e R s m args below meth c H locs cells slots Q (F0 m (pc + qq_len i) ls (st'.map (rv_ X)))) : W p l e R s m args below meth c H locs cells slots Q (F0 m pc ls (st.map (rv_ X))) := by
  unfold qq_shf at hs
  split at hs
  · split at hs
    · rename_i h; cases hs; exact lv_pop hx hb hd (by rw [rv_cat]; exact h) k
    · cases hs
  · split at hs
    · rename_i h; cases hs; exact lv_dup hx hb hd (by rw [rv_cat]; exact h) k
    · cases hs
  · split at hs
    · rename_i h; cases hs; exact lv_dup_x1 hx hb hd (by rw [rv_cat]; exact h.1) (by rw [rv_cat]; exact h.2) k
    · cases hs
  · split at hs
    · rename_i h; cases hs; exact lv_dup2_11 hx hb hd (by rw [rv_cat]; exact h.1) (by rw [rv_cat]; exact h.2) k
    · cases hs
  · cases hs
theorem so_ld (hx : p.tables.exec = Jvm.exec) (hb : c.code = cc) {i : Instr} {k0 t : Nat} {v : Value} {al : List (Option Value)} (hs : qq_ldi i = some (k0, t)) (hv : al[k0]? = some (some v)) (ht : qq_tc v = t) (hL : qq_Lr X al ls) (hd : decode cc pc = .ok (i, qq_len i))
    (k : W p l e R s m args below meth c H locs cells slots Q (F0 m (pc + qq_len i) ls (rv_ X v :: rest))) : W p l e R s m args below meth c H locs cells slots Q (F0 m pc ls rest) := by
  have hl := hL.2.2 _ _ hv
  have h4 : ∀ a, v = .ref a → (rv_ X v = .null ∨ ∃ q, rv_ X v = .ref q) := by
    intro a ha; subst ha
    simp only [rv_]
    cases ro_ X a with
    | none => exact Or.inl rfl
    | some q => exact Or.inr ⟨q, rfl⟩
  unfold qq_ldi at hs
  split at hs <;> cases hs <;> cases v <;> cases ht
  · exact lv_iload_n hx hb hd rfl hl k
  · exact lv_iload hx hb hd hl k
  · exact lv_lload_n hx hb hd rfl hl k
  · exact lv_lload hx hb hd hl k
  · exact lv_fload_n hx hb hd rfl hl k
  · exact lv_fload hx hb hd hl k
  · exact lv_dload_n hx hb hd rfl hl k
  · exact lv_dload hx hb hd hl k
  · rcases h4 _ rfl with h | ⟨q, h⟩ <;> rw [h] at hl k
    · exact lv_aload_nN hx hb hd rfl hl k
    · exact lv_aload_n hx hb hd rfl hl k
  · rcases h4 _ rfl with h | ⟨q, h⟩ <;> rw [h] at hl k
    · exact lv_aloadN hx hb hd hl k
    · exact lv_aload hx hb hd hl k
theorem so_c0 (hx : p.tables.exec = Jvm.exec) (hb : c.code = cc) {cn : ClassFile.Cond} {o : Int} {x : Int32} {tgt : Nat} (hd : decode cc pc = .ok (.ifCond cn o, 3)) (ht : (pc : Int) + o = (tgt : Int))
    (k : W p l e R s m args below meth c H locs cells slots Q (F0 m (if qq_c0 cn x then tgt else pc + 3) ls rest)) : W p l e R s m args below meth c H locs cells slots Q (F0 m pc ls (.int x :: rest)) := by
  cases cn <;> simp only [qq_c0, decide_eq_true_eq] at k
  · exact lv_if_eq hx hb hd ht (fun h => by rw [if_pos h] at k; exact k) (fun h => by rw [if_neg h] at k; exact k)
  · exact lv_if_ne hx hb hd ht (fun h => by rw [if_pos h] at k; exact k) (fun h => by rw [if_neg (fun q => q h)] at k; exact k)
  · exact lv_if_lt hx hb hd ht (fun h => by rw [if_pos h] at k; exact k) (fun h => by rw [if_neg h] at k; exact k)
  · exact lv_if_ge hx hb hd ht (fun h => by rw [if_pos h] at k; exact k) (fun h => by rw [if_neg h] at k; exact k)
  · exact lv_if_gt hx hb hd ht (fun h => by rw [if_pos h] at k; exact k) (fun h => by rw [if_neg h] at k; exact k)
  · exact lv_if_le hx hb hd ht (fun h => by rw [if_pos h] at k; exact k) (fun h => by rw [if_neg h] at k; exact k)
theorem so_c2 (hx : p.tables.exec = Jvm.exec) (hb : c.code = cc) {cn : ClassFile.Cond} {o : Int} {x y : Int32} {tgt : Nat} (hd : decode cc pc = .ok (.if_icmp cn o, 3)) (ht : (pc : Int) + o = (tgt : Int))
    (k : W p l e R s m args below meth c H locs cells slots Q (F0 m (if qq_c2 cn x y then tgt else pc + 3) ls rest)) : W p l e R s m args below meth c H locs cells slots Q (F0 m pc ls (.int y :: .int x :: rest)) := by
  cases cn <;> simp only [qq_c2, decide_eq_true_eq] at k
  · exact lv_icmp_eq hx hb hd ht (fun h => by rw [if_pos h] at k; exact k) (fun h => by rw [if_neg h] at k; exact k)
  · exact lv_icmp_ne hx hb hd ht (fun h => by rw [if_pos h] at k; exact k) (fun h => by rw [if_neg (fun q => q h)] at k; exact k)
  · exact lv_icmp_lt hx hb hd ht (fun h => by rw [if_pos h] at k; exact k) (fun h => by rw [if_neg h] at k; exact k)
  · exact lv_icmp_ge hx hb hd ht (fun h => by rw [if_pos h] at k; exact k) (fun h => by rw [if_neg h] at k; exact k)
  · exact lv_icmp_gt hx hb hd ht (fun h => by rw [if_pos h] at k; exact k) (fun h => by rw [if_neg h] at k; exact k)
  · exact lv_icmp_le hx hb hd ht (fun h => by rw [if_pos h] at k; exact k) (fun h => by rw [if_neg h] at k; exact k)
end QOPS
theorem qq_set_len (al : List (Option Value)) (i : Nat) (v : Value) : (qq_set al i v).length = al.length := by
  simp only [qq_set, List.length_set]
  have h1 : (if v.category = 2 then al.set (i + 1) none else al).length = al.length := by split <;> simp
  cases i with
  | zero => exact h1
  | succ h =>
    dsimp only
    split
    · split
      · simp only [List.length_set]; exact h1
      · exact h1
    · exact h1
theorem qq_set_get {al : List (Option Value)} {i j : Nat} {v w : Value} (h : (qq_set al i v)[j]? = some (some w)) :
    (j = i ∧ w = v) ∨ (j ≠ i ∧ al[j]? = some (some w) ∧ (v.category = 2 → j ≠ i + 1) ∧ (j + 1 = i → w.category ≠ 2)) := by
  by_cases hj : j = i
  · subst hj
    left
    refine ⟨rfl, ?_⟩
    have key : ∀ L : List (Option Value), (L.set j (some v))[j]? = some (some w) → w = v := by
      intro L hL
      rw [List.getElem?_set, if_pos rfl] at hL
      split at hL
      · exact (Option.some.inj (Option.some.inj hL)).symm
      · cases hL
    exact key _ h
  · right
    have hl1 : ∀ u, (if v.category = 2 then al.set (i + 1) none else al)[j]? = some (some u) → al[j]? = some (some u) ∧ (v.category = 2 → j ≠ i + 1) := by
      intro u hu
      split at hu
      · rw [List.getElem?_set] at hu
        split at hu
        · split at hu <;> cases hu
        · rename_i q; exact ⟨hu, fun _ e => q e.symm⟩
      · rename_i q; exact ⟨hu, fun e => absurd e q⟩
    simp only [qq_set] at h
    rw [List.getElem?_set, if_neg (fun q => hj q.symm)] at h
    cases i with
    | zero =>
      obtain ⟨a1, a2⟩ := hl1 w h
      exact ⟨hj, a1, a2, fun e => by omega⟩
    | succ i =>
      dsimp only at h
      by_cases hji : j = i
      · subst hji
        split at h
        · rename_i u hu
          split at h
          · rw [List.getElem?_set, if_pos rfl] at h
            split at h <;> exact absurd h (by simp)
          · rename_i hc
            have hwu : u = w := by rw [hu] at h; cases h; rfl
            obtain ⟨a1, a2⟩ := hl1 w h
            exact ⟨hj, a1, a2, fun _ => by rw [← hwu]; exact hc⟩
        · rename_i hno
          exact absurd h (hno w)
      · have h2 : (if v.category = 2 then al.set (i + 1 + 1) none else al)[j]? = some (some w) := by
          split at h
          · split at h
            · rw [List.getElem?_set, if_neg (fun q => hji q.symm)] at h; exact h
            · exact h
          · exact h
        obtain ⟨a1, a2⟩ := hl1 w h2
        exact ⟨hj, a1, a2, fun e => absurd (by omega) hji⟩
/-- the known locals as the kit lists them -/
def qq_lv (X : qq_X) (al : List (Option Value)) : List (Nat × Value) := (List.range al.length).filterMap (fun j => match al[j]? with | some (some v) => some (j, rv_ X v) | _ => none)
theorem qq_lv_mem {X : qq_X} {al : List (Option Value)} {j : Nat} {v : Value} (h : al[j]? = some (some v)) : (j, rv_ X v) ∈ qq_lv X al := by
  refine List.mem_filterMap.mpr ⟨j, List.mem_range.mpr (List.getElem?_eq_some_iff.mp h).1, ?_⟩
  rw [h]
theorem Lr_has {X : qq_X} {al : List (Option Value)} {ls : Array Slot} (h : qq_Lr X al ls) : lv_has ls al.length (qq_lv X al) := by
  refine ⟨h.1, h.2.1, fun q hq => ?_⟩
  obtain ⟨j, -, hj⟩ := List.mem_filterMap.mp hq
  split at hj
  · rename_i v hv; cases hj; exact h.2.2 j v hv
  · cases hj
theorem Lr_set1 {X : qq_X} {al : List (Option Value)} {ls : Array Slot} {i nL : Nat} {v : Value} (hn : nL = al.length) (hc : v.category = 1)
    (h : lv_has ls nL ((i, rv_ X v) :: (qq_lv X al).filter (fun q => !(q.1 == i) && !(q.1 + 1 == i && q.2.category == 2)))) : qq_Lr X (qq_set al i v) ls := by
  refine ⟨by rw [qq_set_len, h.1, hn], h.2.1, fun j w hw => ?_⟩
  rcases qq_set_get hw with ⟨rfl, rfl⟩ | ⟨h1, h2, -, h4⟩
  · exact h.2.2 (j, rv_ X w) List.mem_cons_self
  · refine h.2.2 (j, rv_ X w) (List.mem_cons_of_mem _ (List.mem_filter.mpr ⟨qq_lv_mem h2, ?_⟩))
    simp only [Bool.and_eq_true, Bool.not_eq_true', beq_eq_false_iff_ne, Bool.and_eq_false_iff, rv_cat]
    refine ⟨h1, ?_⟩
    by_cases hji : j + 1 = i
    · exact Or.inr (h4 hji)
    · exact Or.inl hji
theorem Lr_set2 {X : qq_X} {al : List (Option Value)} {ls : Array Slot} {i nL : Nat} {v : Value} (hn : nL = al.length) (hc : v.category = 2)
    (h : lv_has ls nL ((i, rv_ X v) :: (qq_lv X al).filter (fun q => !(q.1 == i) && (!(q.1 == i + 1) && !(q.1 + 1 == i && q.2.category == 2))))) : qq_Lr X (qq_set al i v) ls := by
  refine ⟨by rw [qq_set_len, h.1, hn], h.2.1, fun j w hw => ?_⟩
  rcases qq_set_get hw with ⟨rfl, rfl⟩ | ⟨h1, h2, h3, h4⟩
  · exact h.2.2 (j, rv_ X w) List.mem_cons_self
  · refine h.2.2 (j, rv_ X w) (List.mem_cons_of_mem _ (List.mem_filter.mpr ⟨qq_lv_mem h2, ?_⟩))
    simp only [Bool.and_eq_true, Bool.not_eq_true', beq_eq_false_iff_ne, Bool.and_eq_false_iff, rv_cat]
    refine ⟨h1, h3 hc, ?_⟩
    by_cases hji : j + 1 = i
    · exact Or.inr (h4 hji)
    · exact Or.inl hji
section QST
variable {p : Program} {l : Launch} {e : Env} {R : Room} {s : State} {m : MethodId} {args : Array Value} {below : List Frame} {meth : Method} {c : Code} {H : Heap} {locs : List Loc} {cells slots : Nat} {Q : State → Prop}
variable {cc : ByteArray} {pc : Nat} {ls : Array Slot} {rest : List Value} {X : qq_X}
theorem so_st (hx : p.tables.exec = Jvm.exec) (hb : c.code = cc) {i : Instr} {k0 t : Nat} {v : Value} {al : List (Option Value)} (hs : qq_sti i = some (k0, t)) (ht : qq_tc v = t) (hk : k0 + v.category ≤ al.length) (hL : qq_Lr X al ls) (hd : decode cc pc = .ok (i, qq_len i))
    (k : ∀ ls' : Array Slot, qq_Lr X (qq_set al k0 v) ls' → W p l e R s m args below meth c H locs cells slots Q (F0 m (pc + qq_len i) ls' rest)) : W p l e R s m args below meth c H locs cells slots Q (F0 m pc ls (rv_ X v :: rest)) := by
  have hh := Lr_has hL
  have h4 : ∀ a, v = .ref a → (rv_ X v = .null ∨ ∃ q, rv_ X v = .ref q) := by
    intro a ha; subst ha
    simp only [rv_]
    cases ro_ X a with
    | none => exact Or.inl rfl
    | some q => exact Or.inr ⟨q, rfl⟩
  unfold qq_sti at hs
  split at hs <;> cases hs <;> cases v <;> cases ht <;> (try (have hk1 := hk; simp only [Value.category] at hk1))
  · exact lv_istore_n hx hb hd rfl hh (by omega) rfl (fun ls' h => k ls' (Lr_set1 rfl rfl h))
  · exact lv_istore hx hb hd hh (by omega) rfl (fun ls' h => k ls' (Lr_set1 rfl rfl h))
  · exact lv_lstore_n hx hb hd rfl hh (by omega) rfl (fun ls' h => k ls' (Lr_set2 rfl rfl h))
  · exact lv_lstore hx hb hd hh (by omega) rfl (fun ls' h => k ls' (Lr_set2 rfl rfl h))
  · exact lv_fstore_n hx hb hd rfl hh (by omega) rfl (fun ls' h => k ls' (Lr_set1 rfl rfl h))
  · exact lv_fstore hx hb hd hh (by omega) rfl (fun ls' h => k ls' (Lr_set1 rfl rfl h))
  · exact lv_dstore_n hx hb hd rfl hh (by omega) rfl (fun ls' h => k ls' (Lr_set2 rfl rfl h))
  · exact lv_dstore hx hb hd hh (by omega) rfl (fun ls' h => k ls' (Lr_set2 rfl rfl h))
  · rcases h4 _ rfl with h | ⟨q, h⟩ <;> rw [h]
    · exact lv_astore_nN hx hb hd rfl hh (by omega) rfl (fun ls' h' => k ls' (Lr_set1 rfl rfl (by rw [h]; exact h')))
    · exact lv_astore_n hx hb hd rfl hh (by omega) rfl (fun ls' h' => k ls' (Lr_set1 rfl rfl (by rw [h]; exact h')))
  · rcases h4 _ rfl with h | ⟨q, h⟩ <;> rw [h]
    · exact lv_astoreN hx hb hd hh (by omega) rfl (fun ls' h' => k ls' (Lr_set1 rfl rfl (by rw [h]; exact h')))
    · exact lv_astore hx hb hd hh (by omega) rfl (fun ls' h' => k ls' (Lr_set1 rfl rfl (by rw [h]; exact h')))
theorem so_iinc (hx : p.tables.exec = Jvm.exec) (hb : c.code = cc) {i : Nat} {n : Int} {x : Int32} {al : List (Option Value)} (hv : al[i]? = some (some (.int x))) (hL : qq_Lr X al ls) (hd : decode cc pc = .ok (.iinc i n, 3))
    (k : ∀ ls' : Array Slot, qq_Lr X (qq_set al i (.int (x + Int32.ofInt n))) ls' → W p l e R s m args below meth c H locs cells slots Q (F0 m (pc + 3) ls' rest)) : W p l e R s m args below meth c H locs cells slots Q (F0 m pc ls rest) := by
  have hh := Lr_has hL
  obtain ⟨q, hq⟩ := List.getElem?_of_mem (qq_lv_mem (X := X) hv)
  exact lv_iinc hx hb hd hh hq rfl (List.getElem?_eq_some_iff.mp hv).1 rfl (fun ls' h => k ls' (Lr_set1 (v := .int (x + Int32.ofInt n)) rfl rfl h))
end QST
end
section
/-! THE MACHINE DOES WHAT THE ABSTRACT MACHINE DOES: instructions of the heap -/
theorem hp_own {X : qq_X} {σ : qq_S} {H : Heap} (h : qq_Hp X σ H) {a t : Nat} (hk : (kd_S σ a).1 = t) (ht : qq_at t = true) (ha : qq_K0 ≤ a) :
    a < sz_S σ ∧ H[xb_ X + (a - qq_K0)]? = some (arrV (X.2.2.1 t) (kd_S σ a).2 (fun j => rv_ X (qq_val σ (qq_et t) a j))) := by
  obtain ⟨t1, t2, t3⟩ := qq_at_no ht
  have hlt := hp_lt h (a := a) (by rw [hk]; exact t3)
  have hce := h.2.2.2.2.2 a ha hlt
  rw [qq_Ce, hk, if_neg (by omega), if_pos (by omega)] at hce
  exact ⟨hlt, hce.2⟩
theorem ar_put {X : qq_X} {σ σ' : qq_S} {H H' : Heap} {a t j : Nat} {v : Value} (h : qq_Hp X σ H) (hk : (kd_S σ a).1 = t) (ht : qq_at t = true) (ha : qq_K0 ≤ a) (hkd : ∀ b, kd_S σ' b = kd_S σ b) (hs : sz_S σ' = sz_S σ) (hv : ∀ b, b ≠ a → ∀ ty k, qq_val σ' ty b k = qq_val σ ty b k)
    (hn : ∀ q, rv_ X (qq_val σ' (qq_et t) a q) = updV (fun q => rv_ X (qq_val σ (qq_et t) a q)) j v q)
    (e : H'[xb_ X + (a - qq_K0)]? = some ((arrV (X.2.2.1 t) (kd_S σ a).2 (fun j => rv_ X (qq_val σ (qq_et t) a j))).setSlot j v)) (hz' : H'.size = H.size) (oq : ∀ q : Nat, q ≠ xb_ X + (a - qq_K0) → H'[q]? = H[q]?) : qq_Hp X σ' H' := by
  obtain ⟨t1, t2, t3⟩ := qq_at_no ht
  refine hp_put h ha (hp_own h hk ht ha).1 hkd hs hv ?_ hz' oq
  rw [qq_Ce, hkd, hk, if_neg (by omega), if_pos (by omega)]
  refine ⟨ht, ?_⟩
  rw [e, arrV_store]
  exact congrArg some (congrArg (arrV _ _) (funext fun q => (hn q).symm))
section QHE
variable {p : Program} {l : Launch} {e : Env} {R : Room} {s : State} {m : MethodId} {args : Array Value} {below : List Frame} {meth : Method} {c : Code} {H : Heap} {locs : List Loc} {cells slots : Nat} {Q : State → Prop}
variable {cc : ByteArray} {pc : Nat} {ls : Array Slot} {rest : List Value} {X : qq_X} {σ : qq_S}
theorem lo_app {X : qq_X} {locs : List Loc} (hl : ∀ z ∈ locs, xb_ X ≤ z.base) {q k : Nat} (hq : xb_ X ≤ q) : ∀ z ∈ locs ++ [⟨q, k⟩], xb_ X ≤ z.base := by
  intro z hz
  rcases List.mem_append.mp hz with h | h
  · exact hl z h
  · rw [List.mem_singleton.mp h]; exact hq
theorem so_alen (hx : p.tables.exec = Jvm.exec) (hb : c.code = cc) (hF : qq_Fx X s) (hP : qq_Hp X σ H) {a : Nat} (hk : qq_at (kd_S σ a).1 = true) (hd : decode cc pc = .ok (.arraylength, 1))
    (k : W p l e R s m args below meth c H locs cells slots Q (F0 m (pc + 1) ls (.int (Int32.ofNat (kd_S σ a).2) :: rest))) : W p l e R s m args below meth c H locs cells slots Q (F0 m pc ls (rv_ X (.ref a) :: rest)) := by
  obtain ⟨q, h1, cell, h2, h3, h4, h5, h6, h7⟩ := hp_ar hF hP rfl hk
  have e1 : rv_ X (.ref a) = .ref q := by simp only [rv_, h1]; rfl
  rw [e1]
  exact W.alen (n := Int32.ofNat (kd_S σ a).2) hx hb h2 h3 (by rw [h6] <;> rfl) rfl rfl hd k
theorem so_iald (hx : p.tables.exec = Jvm.exec) (hb : c.code = cc) (hF : qq_Fx X s) (hP : qq_Hp X σ H) {a : Nat} {i : Int32} (hk : (kd_S σ a).1 = 100) (hin : vp_in i (kd_S σ a).2) (hd : decode cc pc = .ok (.iaload, 1))
    (k : W p l e R s m args below meth c H locs cells slots Q (F0 m (pc + 1) ls (.int (rd_I σ a i.toNatClampNeg) :: rest))) : W p l e R s m args below meth c H locs cells slots Q (F0 m pc ls (.int i :: rv_ X (.ref a) :: rest)) := by
  obtain ⟨q, h1, cell, h2, h3, h4, h5, h6, h7⟩ := hp_ar hF hP hk rfl
  have hlt : i.toNatClampNeg < (kd_S σ a).2 := Nat.not_le.mp fun q => hin (Or.inr q)
  have e1 : rv_ X (.ref a) = .ref q := by simp only [rv_, h1]; rfl
  rw [e1]
  exact W.iald hx hb h2 h3 h4 (by rw [h6]; exact hin) (h7 _ hlt) rfl rfl hd k
theorem so_bald (hx : p.tables.exec = Jvm.exec) (hb : c.code = cc) (hF : qq_Fx X s) (hP : qq_Hp X σ H) {a : Nat} {i : Int32} (hk : (kd_S σ a).1 = 101 ∨ (kd_S σ a).1 = 102) (hin : vp_in i (kd_S σ a).2) (hd : decode cc pc = .ok (.baload, 1))
    (k : W p l e R s m args below meth c H locs cells slots Q (F0 m (pc + 1) ls (.int (rd_I σ a i.toNatClampNeg) :: rest))) : W p l e R s m args below meth c H locs cells slots Q (F0 m pc ls (.int i :: rv_ X (.ref a) :: rest)) := by
  have hlt : i.toNatClampNeg < (kd_S σ a).2 := Nat.not_le.mp fun q => hin (Or.inr q)
  rcases hk with hk | hk
  · obtain ⟨q, h1, cell, h2, h3, h4, h5, h6, h7⟩ := hp_ar hF hP hk rfl
    have e1 : rv_ X (.ref a) = .ref q := by simp only [rv_, h1]; rfl
    rw [e1]
    exact W.zald hx hb h2 h3 h4 (by rw [h6]; exact hin) (h7 _ hlt) rfl rfl hd k
  · obtain ⟨q, h1, cell, h2, h3, h4, h5, h6, h7⟩ := hp_ar hF hP hk rfl
    have e1 : rv_ X (.ref a) = .ref q := by simp only [rv_, h1]; rfl
    rw [e1]
    exact W.bald hx hb h2 h3 h4 (by rw [h6]; exact hin) (h7 _ hlt) rfl rfl hd k
theorem so_lald (hx : p.tables.exec = Jvm.exec) (hb : c.code = cc) (hF : qq_Fx X s) (hP : qq_Hp X σ H) {a : Nat} {i : Int32} (hk : (kd_S σ a).1 = 105) (hin : vp_in i (kd_S σ a).2) (hd : decode cc pc = .ok (.laload, 1))
    (k : W p l e R s m args below meth c H locs cells slots Q (F0 m (pc + 1) ls (.long (rd_L σ a i.toNatClampNeg) :: rest))) : W p l e R s m args below meth c H locs cells slots Q (F0 m pc ls (.int i :: rv_ X (.ref a) :: rest)) := by
  obtain ⟨q, h1, cell, h2, h3, h4, h5, h6, h7⟩ := hp_ar hF hP hk rfl
  have hlt : i.toNatClampNeg < (kd_S σ a).2 := Nat.not_le.mp fun q => hin (Or.inr q)
  have e1 : rv_ X (.ref a) = .ref q := by simp only [rv_, h1]; rfl
  rw [e1]
  exact W.lald hx hb h2 h3 h4 (by rw [h6]; exact hin) (h7 _ hlt) rfl rfl hd k
theorem so_aald (hx : p.tables.exec = Jvm.exec) (hb : c.code = cc) (hF : qq_Fx X s) (hP : qq_Hp X σ H) {a : Nat} {i : Int32} (hk : 110 ≤ (kd_S σ a).1 ∧ (kd_S σ a).1 < 113) (hin : vp_in i (kd_S σ a).2) (hd : decode cc pc = .ok (.aaload, 1))
    (k : W p l e R s m args below meth c H locs cells slots Q (F0 m (pc + 1) ls (rv_ X (.ref (rd_R σ a i.toNatClampNeg)) :: rest))) : W p l e R s m args below meth c H locs cells slots Q (F0 m pc ls (.int i :: rv_ X (.ref a) :: rest)) := by
  have hlt : i.toNatClampNeg < (kd_S σ a).2 := Nat.not_le.mp fun q => hin (Or.inr q)
  have h3 : (kd_S σ a).1 = 110 ∨ (kd_S σ a).1 = 111 ∨ (kd_S σ a).1 = 112 := by omega
  rcases h3 with hk | hk | hk
  all_goals
    obtain ⟨q, h1, cell, h2, h3, h4, h5, h6, h7⟩ := hp_ar hF hP hk rfl
    have e1 : rv_ X (.ref a) = .ref q := by simp only [rv_, h1]; rfl
    rw [e1]
    exact W.aald hx hb h2 h3 rfl h4 (by rw [h6]; exact hin) (h7 _ hlt) rfl rfl hd k
theorem so_iast (hx : p.tables.exec = Jvm.exec) (hb : c.code = cc) (hF : qq_Fx X s) (hP : qq_Hp X σ H) (hl : ∀ z ∈ locs, xb_ X ≤ z.base) {a : Nat} {i x : Int32} (hk : (kd_S σ a).1 = 100) (hin : vp_in i (kd_S σ a).2) (ha : qq_K0 ≤ a) (hd : decode cc pc = .ok (.iastore, 1))
    (k : ∀ (H' : Heap) (locs' : List Loc), qq_Hp X (wr_I σ a i.toNatClampNeg x) H' → (∀ z ∈ locs', xb_ X ≤ z.base) → W p l e R s m args below meth c H' locs' cells slots Q (F0 m (pc + 1) ls rest)) : W p l e R s m args below meth c H locs cells slots Q (F0 m pc ls (.int x :: .int i :: rv_ X (.ref a) :: rest)) := by
  obtain ⟨hlt, hc⟩ := hp_own hP hk rfl ha
  have e1 : rv_ X (.ref a) = .ref (xb_ X + (a - qq_K0)) := by simp only [rv_, ro_own ha]; rfl
  rw [e1]
  refine W.iast hx hb hc ((hF.2.2.2.1 100 rfl).1 _ _) (fun q => by cases q) (by rw [arrV_size]; exact hin) rfl rfl hd fun H' g1 g2 g3 => k H' _ ?_ (lo_app hl (Nat.le_add_right _ _))
  refine ar_put hP hk rfl ha (fun _ => rfl) rfl (fun b hb ty k => val_up hb _ _ _ _) (fun q => ?_) g1 g2 g3
  show rv_ X (.int (up_2 σ.1 a i.toNatClampNeg x a q)) = _
  by_cases hq : q = i.toNatClampNeg
  · subst hq; simp [up_2, updV, rv_]
  · simp only [up_2, updV, hq, and_false, if_false]; rfl
theorem so_last (hx : p.tables.exec = Jvm.exec) (hb : c.code = cc) (hF : qq_Fx X s) (hP : qq_Hp X σ H) (hl : ∀ z ∈ locs, xb_ X ≤ z.base) {a : Nat} {i : Int32} {x : Int64} (hk : (kd_S σ a).1 = 105) (hin : vp_in i (kd_S σ a).2) (ha : qq_K0 ≤ a) (hd : decode cc pc = .ok (.lastore, 1))
    (k : ∀ (H' : Heap) (locs' : List Loc), qq_Hp X (wr_L σ a i.toNatClampNeg x) H' → (∀ z ∈ locs', xb_ X ≤ z.base) → W p l e R s m args below meth c H' locs' cells slots Q (F0 m (pc + 1) ls rest)) : W p l e R s m args below meth c H locs cells slots Q (F0 m pc ls (.long x :: .int i :: rv_ X (.ref a) :: rest)) := by
  obtain ⟨hlt, hc⟩ := hp_own hP hk rfl ha
  have e1 : rv_ X (.ref a) = .ref (xb_ X + (a - qq_K0)) := by simp only [rv_, ro_own ha]; rfl
  rw [e1]
  refine W.last hx hb hc ((hF.2.2.2.1 105 rfl).1 _ _) (fun q => by cases q) (by rw [arrV_size]; exact hin) rfl rfl hd fun H' g1 g2 g3 => k H' _ ?_ (lo_app hl (Nat.le_add_right _ _))
  refine ar_put hP hk rfl ha (fun _ => rfl) rfl (fun b hb ty k => val_upL hb _ _ _ _) (fun q => ?_) g1 g2 g3
  show rv_ X (.long (up_2 σ.2.2.1 a i.toNatClampNeg x a q)) = _
  by_cases hq : q = i.toNatClampNeg
  · subst hq; simp [up_2, updV, rv_]
  · simp only [up_2, updV, hq, and_false, if_false]; rfl
theorem vn_int (ty : FieldType) (x : Int32) (h : ty = .boolean ∨ ty = .byte) : narrow ty (.int x) = .int (vp_nar ty x) := by
  rcases h with rfl | rfl <;> rfl
theorem so_bast (hx : p.tables.exec = Jvm.exec) (hb : c.code = cc) (hF : qq_Fx X s) (hP : qq_Hp X σ H) (hl : ∀ z ∈ locs, xb_ X ≤ z.base) {a : Nat} {i x : Int32} (hk : (kd_S σ a).1 = 101 ∨ (kd_S σ a).1 = 102) (hin : vp_in i (kd_S σ a).2) (ha : qq_K0 ≤ a) (hd : decode cc pc = .ok (.bastore, 1))
    (k : ∀ (H' : Heap) (locs' : List Loc), qq_Hp X (wr_I σ a i.toNatClampNeg (vp_nar (if (kd_S σ a).1 = 101 then .boolean else .byte) x)) H' → (∀ z ∈ locs', xb_ X ≤ z.base) → W p l e R s m args below meth c H' locs' cells slots Q (F0 m (pc + 1) ls rest)) : W p l e R s m args below meth c H locs cells slots Q (F0 m pc ls (.int x :: .int i :: rv_ X (.ref a) :: rest)) := by
  have e1 : rv_ X (.ref a) = .ref (xb_ X + (a - qq_K0)) := by simp only [rv_, ro_own ha]; rfl
  rw [e1]
  rcases hk with hk | hk
  · obtain ⟨hlt, hc⟩ := hp_own hP hk rfl ha
    rw [if_pos hk] at k
    refine W.zast hx hb hc ((hF.2.2.2.1 101 rfl).1 _ _) (fun q => by cases q) (by rw [arrV_size]; exact hin) rfl rfl hd fun H' g1 g2 g3 => k H' _ ?_ (lo_app hl (Nat.le_add_right _ _))
    rw [vn_int _ _ (Or.inl rfl)] at g1
    refine ar_put hP hk rfl ha (fun _ => rfl) rfl (fun b hb ty k => val_up hb _ _ _ _) (fun q => ?_) g1 g2 g3
    show rv_ X (.int (up_2 σ.1 a i.toNatClampNeg _ a q)) = _
    by_cases hq : q = i.toNatClampNeg
    · subst hq; simp [up_2, updV, rv_]
    · simp only [up_2, updV, hq, and_false, if_false]; rfl
  · obtain ⟨hlt, hc⟩ := hp_own hP hk rfl ha
    rw [if_neg (by omega)] at k
    refine W.bast hx hb hc ((hF.2.2.2.1 102 rfl).1 _ _) (fun q => by cases q) (by rw [arrV_size]; exact hin) rfl rfl hd fun H' g1 g2 g3 => k H' _ ?_ (lo_app hl (Nat.le_add_right _ _))
    rw [vn_int _ _ (Or.inr rfl)] at g1
    refine ar_put hP hk rfl ha (fun _ => rfl) rfl (fun b hb ty k => val_up hb _ _ _ _) (fun q => ?_) g1 g2 g3
    show rv_ X (.int (up_2 σ.1 a i.toNatClampNeg _ a q)) = _
    by_cases hq : q = i.toNatClampNeg
    · subst hq; simp [up_2, updV, rv_]
    · simp only [up_2, updV, hq, and_false, if_false]; rfl
theorem so_aast (hx : p.tables.exec = Jvm.exec) (hb : c.code = cc) (hF : qq_Fx X s) (hP : qq_Hp X σ H) (hl : ∀ z ∈ locs, xb_ X ≤ z.base) {a b : Nat} {i : Int32} (hk : (kd_S σ a).1 = 111 ∧ (kd_S σ b).1 = 8 ∨ (kd_S σ a).1 = 112 ∧ (kd_S σ b).1 = 1) (hin : vp_in i (kd_S σ a).2) (ha : qq_K0 ≤ a) (hd : decode cc pc = .ok (.aastore, 1))
    (k : ∀ (H' : Heap) (locs' : List Loc), qq_Hp X (wr_R σ a i.toNatClampNeg b) H' → (∀ z ∈ locs', xb_ X ≤ z.base) → W p l e R s m args below meth c H' locs' cells slots Q (F0 m (pc + 1) ls rest)) : W p l e R s m args below meth c H locs cells slots Q (F0 m pc ls (rv_ X (.ref b) :: .int i :: rv_ X (.ref a) :: rest)) := by
  have e1 : rv_ X (.ref a) = .ref (xb_ X + (a - qq_K0)) := by simp only [rv_, ro_own ha]; rfl
  have hlt : i.toNatClampNeg < (kd_S σ a).2 := Nat.not_le.mp fun q => hin (Or.inr q)
  have h0 : ¬ i < 0 := fun q => hin (Or.inl q)
  rw [e1]
  have key : ∀ (t ci : Nat) (C : String) (T : u_T) (N : Nat), (kd_S σ a).1 = t → (kd_S σ b).1 = ci → ci < 100 → qq_at t = true → qq_et t = .object C → qq_cl[ci]? = some (C, T, N) →
      W p l e R s m args below meth c H locs cells slots Q (F0 m pc ls (rv_ X (.ref b) :: .int i :: .ref (xb_ X + (a - qq_K0)) :: rest)) := by
    intro t ci C T N hk hkb hci hat het hcl
    obtain ⟨hla, hc⟩ := hp_own hP hk hat ha
    obtain ⟨q, h1, cell, h2, h3, h4, h5, h6⟩ := hp_ob hP hkb hci
    have e2 : rv_ X (.ref b) = .ref q := by simp only [rv_, h1]; rfl
    have hra := (hF.2.2.2.1 t hat).2
    rw [het] at hra
    obtain ⟨kA, comp, k1, k2, k3, -⟩ := hra
    have hfc := (hF.2.2.1 ci _ hcl).1
    have hcomp : comp = _ := Option.some.inj (k3.symm.trans hfc)
    rw [e2]
    obtain ⟨kc, hkc, -⟩ := Vm.findClass_spec hfc
    refine W.aast hx hb hc (fun q h => by cases h) (fun h => by cases h) k1 k2 rfl (by rw [hcomp]; exact hkc) ⟨h0, by rw [arrV_size]; exact hlt⟩ h2 (fun q h => by rw [h] at h5; cases h5) (by rw [h3]; exact hkc) (by rw [h3, hcomp]; exact va_asg _ _) rfl rfl hd fun H' g1 g2 g3 => k H' _ ?_ (lo_app hl (Nat.le_add_right _ _))
    refine ar_put hP hk hat ha (fun _ => rfl) rfl (fun b hb ty k => val_upR hb _ _ _ _) (fun q => ?_) g1 g2 g3
    rw [het]
    show rv_ X (.ref (up_2 σ.2.1 a i.toNatClampNeg b a q)) = _
    by_cases hq : q = i.toNatClampNeg
    · subst hq; simp [up_2, updV, e2]
    · simp only [up_2, updV, hq, and_false, if_false]; rfl
  rcases hk with ⟨hk, hkb⟩ | ⟨hk, hkb⟩
  · exact key 111 8 _ _ _ hk hkb (by decide) rfl rfl rfl
  · exact key 112 1 _ _ _ hk hkb (by decide) rfl rfl rfl
end QHE
end
section
/-! FIELDS, STATICS, CONSTANTS, NEW CELLS -/
def qq_layw (c k : Nat) : Nat := (qq_lay.getD c []).getD k 0
theorem qq_lay_ok : ((List.range 13).all fun c => c == 1 || (match qq_cl[c]? with | some q => (List.range q.2.2).all fun k => (decide (qq_tbl[qq_layw c k]? = some (u_lay q.1 q.2.1 k)) && goodWord (u_lay q.1 q.2.1 k)) | none => false)) = true := by decide +kernel
theorem qq_ty_ok : ((List.range 13).all fun c => (match qq_cl[c]? with | some q => decide (q.2.2 = qq_nf c) && (List.range q.2.2).all fun k => (decide (parseFieldDescriptor (q.2.1 k).2.2.1 = some (qq_ty c k)) && (List.range q.2.2).all fun j => (decide (j = k) || decide ((q.2.1 j).2.1 ≠ (q.2.1 k).2.1))) | none => false)) = true := by decide +kernel
theorem cl_lt {c : Nat} {q : vw_C} (h : qq_cl[c]? = some q) : c < 13 := (List.getElem?_eq_some_iff.mp h).1
theorem lay_at {X : qq_X} {U : State} (hF : qq_Fx X U) {c : Nat} {q : vw_C} (hq : qq_cl[c]? = some q) (hc : c ≠ 1) {k : Nat} (hk : k < q.2.2) {a' : Array Value} : (u_lay q.1 q.2.1 k).before a' U = true := by
  have h := List.all_eq_true.mp qq_lay_ok c (List.mem_range.mpr (cl_lt hq))
  simp only [hq, Bool.or_eq_true, beq_iff_eq, hc, false_or] at h
  have h2 := List.all_eq_true.mp h k (List.mem_range.mpr hk)
  simp only [Bool.and_eq_true, decide_eq_true_eq] at h2
  exact Fx_word hF h2.1 h2.2
theorem ty_at {c : Nat} {q : vw_C} (hq : qq_cl[c]? = some q) : q.2.2 = qq_nf c ∧ ∀ k, k < q.2.2 → parseFieldDescriptor (q.2.1 k).2.2.1 = some (qq_ty c k) ∧ ∀ j, j < q.2.2 → j ≠ k → (q.2.1 j).2.1 ≠ (q.2.1 k).2.1 := by
  have h := List.all_eq_true.mp qq_ty_ok c (List.mem_range.mpr (cl_lt hq))
  simp only [hq, Bool.and_eq_true, decide_eq_true_eq] at h
  refine ⟨h.1, fun k hk => ?_⟩
  have h2 := List.all_eq_true.mp h.2 k (List.mem_range.mpr hk)
  simp only [Bool.and_eq_true, decide_eq_true_eq] at h2
  refine ⟨h2.1, fun j hj hjk => ?_⟩
  have h3 := List.all_eq_true.mp h2.2 j (List.mem_range.mpr hj)
  simp only [Bool.or_eq_true, decide_eq_true_eq] at h3
  exact h3.resolve_left hjk
theorem lay_or {X : qq_X} {U : State} (hF : qq_Fx X U) {c : Nat} {q : vw_C} (hq : qq_cl[c]? = some q) (hc : c ≠ 1) {k : Nat} (hk : k < q.2.2) {a' : Array Value} :
    (Cond.lays q.1 (q.2.1 k).1 (q.2.1 k).2.1 (q.2.1 k).2.2.1).before a' U = true ∨ (Cond.laysFinal q.1 (q.2.1 k).1 (q.2.1 k).2.1 (q.2.1 k).2.2.1).before a' U = true :=
  u_lays (ws := u_ws q.1 q.2.1 q.2.2) (args := a') (fun w hw => by
    obtain ⟨j, hj, rfl⟩ := List.mem_map.mp hw
    exact lay_at hF hq hc (List.mem_range.mp hj)) (fun w hw => hw) hk
/-- the slots of one class are apart -/
theorem slot_apart {X : qq_X} {U : State} (hF : qq_Fx X U) {c : Nat} {q : vw_C} (hq : qq_cl[c]? = some q) (hc : c ≠ 1) {x y : Nat} (hx : x < q.2.2) (hy : y < q.2.2) (hne : x ≠ y) : X.2.1 c x ≠ X.2.1 c y := by
  obtain ⟨-, hS⟩ := hF.2.2.1 c q hq
  obtain ⟨_, _, _, fa, hia, -, ea⟩ := hS x hx
  obtain ⟨_, _, _, fb, hib, -, eb⟩ := hS y hy
  rw [← ea, ← eb]
  refine u_apart (args := #[]) (lay_or hF hq hc hx) (lay_or hF hq hc hy) hia hib ?_
  rw [(State.fieldFound?_type hia ((ty_at hq).2 x hx).1).1, (State.fieldFound?_type hib ((ty_at hq).2 y hy).1).1]
  exact ((ty_at hq).2 y hy).2 x hx hne
/-- the classes that are made here are ordinary -/
theorem qq_ins_ok : ((List.range 13).all fun c => decide (c = 1) || (match qq_cl[c]? with | some q => decide (qq_tbl[qq_ins_w.getD c 0]? = some (.instantiable q.1 q.2.2)) | none => false)) = true := by decide +kernel
theorem qq_ord {X : qq_X} {U : State} (hF : qq_Fx X U) {c : Nat} {q : vw_C} (hq : qq_cl[c]? = some q) (hc : c ≠ 1) : ∃ kC : Class, U.vm.classes[X.1 c]? = some kC ∧ kC.kind = .ordinary ∧ (Cond.instantiable q.1 q.2.2).before #[] U = true := by
  have h := List.all_eq_true.mp qq_ins_ok c (List.mem_range.mpr (cl_lt hq))
  simp only [hq, Bool.or_eq_true, decide_eq_true_eq] at h
  have h1 := h.resolve_left (by omega)
  have h2 := Fx_word hF h1 (by rfl) (a' := #[])
  obtain ⟨cC, kC, g1, g2, g3, -⟩ := Cond.instantiable_spec h2
  cases g1.symm.trans (hF.2.2.1 c q hq).1
  exact ⟨kC, g2, g3, h2⟩
section QHF
variable {p : Program} {l : Launch} {e : Env} {R : Room} {s : State} {m : MethodId} {args : Array Value} {below : List Frame} {meth : Method} {c : Code} {H : Heap} {locs : List Loc} {cells slots : Nat} {Q : State → Prop}
variable {cc : ByteArray} {pc : Nat} {ls : Array Slot} {rest : List Value} {X : qq_X} {σ : qq_S}
theorem so_get (hx : p.tables.exec = Jvm.exec) (hb : c.code = cc) (hF : qq_Fx X s) (hP : qq_Hp X σ H) {own : String} (hown : s.vm.findClass own = some m.cls) {a ci k ix : Nat} {q : vw_C} (hq : qq_cl[ci]? = some q) (hk : (kd_S σ a).1 = ci) (hkn : k < qq_nr ci)
    (hlink : (Cond.fieldLink own ix (q.2.1 k).1 (q.2.1 k).2.1 (q.2.1 k).2.2.1).before args s = true ∨ ∃ host, (Cond.fieldLinkNest own ix (q.2.1 k).1 (q.2.1 k).2.1 (q.2.1 k).2.2.1 host).before args s = true) (hd : decode cc pc = .ok (.getfield ix, 3))
    (kk : W p l e R s m args below meth c H locs cells slots Q (F0 m (pc + 3) ls (rv_ X (qq_val σ (qq_ty ci k) a k) :: rest))) : W p l e R s m args below meth c H locs cells slots Q (F0 m pc ls (rv_ X (.ref a) :: rest)) := by
  have hc14 := cl_lt hq
  obtain ⟨w, h1, cell, h2, h3, h4, h5, h6⟩ := hp_ob hP hk (by omega)
  have e1 : rv_ X (.ref a) = .ref w := by simp only [rv_, h1]; rfl
  rw [e1]
  obtain ⟨cf, kf, fi, fd, g1, g2, g3⟩ := (hF.2.2.1 ci q hq).2 k (by rw [(ty_at hq).1]; exact Nat.lt_of_lt_of_le hkn nr_le)
  rcases hlink with hl | ⟨host, hl⟩
  · exact W.getf hx hb hown hl g1 g2 h2 h4 (by rw [g3]; exact h6 k hkn) rfl rfl hd kk
  · exact va_Wgetf hx hb hown hl g1 g2 h2 h4 (by rw [g3]; exact h6 k hkn) rfl rfl hd kk
theorem put_val {σ σ' : qq_S} {ty : FieldType} {a k : Nat} {v : Value} (h : qq_put σ ty a k v = some σ') :
    (∀ b, kd_S σ' b = kd_S σ b) ∧ sz_S σ' = sz_S σ ∧ su_S σ' = su_S σ ∧ (∀ b, b ≠ a → ∀ ty k, qq_val σ' ty b k = qq_val σ ty b k) ∧ (∀ ty' j, j ≠ k → qq_val σ' ty' a j = qq_val σ ty' a j) ∧ qq_val σ' ty a k = v ∧ ∀ X : qq_X, narrow ty (rv_ X v) = rv_ X v ∧ fits ty (rv_ X v) = true := by
  have hI : ∀ x, (∀ ty' j, j ≠ k → qq_val (wr_I σ a k x) ty' a j = qq_val σ ty' a j) := by
    intro x ty' j hj
    have e : rd_I (wr_I σ a k x) a j = rd_I σ a j := if_neg (fun q => hj q.2)
    cases ty' <;> simp only [qq_val, e] <;> rfl
  have hL : ∀ x, (∀ ty' j, j ≠ k → qq_val (wr_L σ a k x) ty' a j = qq_val σ ty' a j) := by
    intro x ty' j hj
    have e : rd_L (wr_L σ a k x) a j = rd_L σ a j := if_neg (fun q => hj q.2)
    cases ty' <;> simp only [qq_val, e] <;> rfl
  have hD : ∀ x, (∀ ty' j, j ≠ k → qq_val (wr_D σ a k x) ty' a j = qq_val σ ty' a j) := by
    intro x ty' j hj
    have e : rd_D (wr_D σ a k x) a j = rd_D σ a j := if_neg (fun q => hj q.2)
    cases ty' <;> simp only [qq_val, e] <;> rfl
  have hR : ∀ x, (∀ ty' j, j ≠ k → qq_val (wr_R σ a k x) ty' a j = qq_val σ ty' a j) := by
    intro x ty' j hj
    have e : rd_R (wr_R σ a k x) a j = rd_R σ a j := if_neg (fun q => hj q.2)
    cases ty' <;> simp only [qq_val, e] <;> rfl
  have hIs : ∀ x, rd_I (wr_I σ a k x) a k = x := fun x => if_pos ⟨rfl, rfl⟩
  have hLs : ∀ x, rd_L (wr_L σ a k x) a k = x := fun x => if_pos ⟨rfl, rfl⟩
  have hDs : ∀ x, rd_D (wr_D σ a k x) a k = x := fun x => if_pos ⟨rfl, rfl⟩
  have hRs : ∀ x, rd_R (wr_R σ a k x) a k = x := fun x => if_pos ⟨rfl, rfl⟩
  have hrf : ∀ (X : qq_X) (x : Nat), rv_ X (.ref x) = .null ∨ ∃ z, rv_ X (.ref x) = .ref z := by
    intro X x
    simp only [rv_]
    cases ro_ X x with
    | none => exact Or.inl rfl
    | some z => exact Or.inr ⟨z, rfl⟩
  cases ty <;> simp only [qq_put] at h <;> (try cases h) <;> cases v <;> (try cases h) <;> (try (obtain ⟨h1, h2⟩ := qq_if_some h; subst h2))
  all_goals first
    | exact ⟨fun _ => rfl, rfl, rfl, fun b hb ty k => val_up hb _ _ _ _, hI _, congrArg Value.int (hIs _), fun X => h1⟩
    | exact ⟨fun _ => rfl, rfl, rfl, fun b hb ty k => val_up hb _ _ _ _, hI _, congrArg Value.int (hIs _), fun X => ⟨rfl, rfl⟩⟩
    | exact ⟨fun _ => rfl, rfl, rfl, fun b hb ty k => val_upL hb _ _ _ _, hL _, congrArg Value.long (hLs _), fun X => ⟨rfl, rfl⟩⟩
    | exact ⟨fun _ => rfl, rfl, rfl, fun b hb ty k => val_upD hb _ _ _ _, hD _, congrArg Value.double (hDs _), fun X => ⟨rfl, rfl⟩⟩
    | exact ⟨fun _ => rfl, rfl, rfl, fun b hb ty k => val_upR hb _ _ _ _, hR _, congrArg Value.ref (hRs _), fun X => by rcases hrf X _ with q | ⟨z, q⟩ <;> rw [q] <;> exact ⟨rfl, rfl⟩⟩
theorem so_put (hx : p.tables.exec = Jvm.exec) (hb : c.code = cc) (hF : qq_Fx X s) (hP : qq_Hp X σ H) (hlo : ∀ z ∈ locs, xb_ X ≤ z.base) {own : String} (hown : s.vm.findClass own = some m.cls) {a ci k ix : Nat} {v : Value} {σ' : qq_S} {q : vw_C} (hq : qq_cl[ci]? = some q) (hc1 : ci ≠ 1) (hk : (kd_S σ a).1 = ci) (hkn : k < qq_nf ci) (ha : qq_K0 ≤ a) (hput : qq_put σ (qq_ty ci k) a k v = some σ')
    (hlink : ((q.2.1 k).2.2.2 = false ∧ ((Cond.fieldLink own ix (q.2.1 k).1 (q.2.1 k).2.1 (q.2.1 k).2.2.1).before args s = true ∨ ∃ host, (Cond.fieldLinkNest own ix (q.2.1 k).1 (q.2.1 k).2.1 (q.2.1 k).2.2.1 host).before args s = true)) ∨
      ((q.2.1 k).2.2.2 = true ∧ (q.2.1 k).1 = own ∧ meth.name = "<init>" ∧ (Cond.fieldLink own ix (q.2.1 k).1 (q.2.1 k).2.1 (q.2.1 k).2.2.1).before args s = true)) (hd : decode cc pc = .ok (.putfield ix, 3))
    (kk : ∀ (H' : Heap) (locs' : List Loc), qq_Hp X σ' H' → (∀ z ∈ locs', xb_ X ≤ z.base) → W p l e R s m args below meth c H' locs' cells slots Q (F0 m (pc + 3) ls rest)) : W p l e R s m args below meth c H locs cells slots Q (F0 m pc ls (rv_ X v :: rv_ X (.ref a) :: rest)) := by
  have hc14 := cl_lt hq
  have e1 : rv_ X (.ref a) = .ref (xb_ X + (a - qq_K0)) := by simp only [rv_, ro_own ha]; rfl
  rw [e1]
  have hlt := hp_lt hP (a := a) (by omega)
  have hce := hP.2.2.2.2.2 a ha hlt
  rw [qq_Ce, hk, if_pos (by omega)] at hce
  obtain ⟨hcl, cell, h2, h3, h4, h6⟩ := hce
  have hkq : k < q.2.2 := by rw [(ty_at hq).1]; exact hkn
  obtain ⟨hfc, hS⟩ := hF.2.2.1 ci q hq
  obtain ⟨cf, kf, fi, fd, g1, g2, g3⟩ := hS k hkq
  obtain ⟨e2, e3, -, e4, e5, e6, e7⟩ := put_val hput
  obtain ⟨hnar, hfit⟩ := e7 X
  have hlay := lay_at hF hq (by omega) hkq (a' := args)
  have hdty := ((ty_at hq).2 k hkq).1
  -- the class as the tables have it
  obtain ⟨kC, hkC, hkind, -⟩ := qq_ord hF hq hc1
  have hend : ∀ H' : Heap, H'[xb_ X + (a - qq_K0)]? = some (cell.setSlot fd.slot (rv_ X v)) → H'.size = H.size → (∀ z : Nat, z ≠ xb_ X + (a - qq_K0) → H'[z]? = H[z]?) → qq_Hp X σ' H' := by
    intro H' w1 w2 w3
    refine hp_put hP ha hlt e2 e3 e4 ?_ w2 w3
    rw [qq_Ce, e2, hk, if_pos (by omega)]
    refine ⟨hcl, _, w1, h3, h4, ?_⟩
    intro j hj
    rw [g3]
    by_cases hjk : j = k
    · subst hjk
      dsimp only
      rw [e6]
      have hs0 : X.2.1 ci j < cell.slots.size := (Array.getElem?_eq_some_iff.mp (h6 j hj)).1
      simp [Cell.setSlot, hs0]
    · have h8 := h6 j hj
      dsimp only at h8 ⊢
      rw [e5 _ j hjk, ← h8]
      exact slot_ne cell _ (slot_apart hF hq (by omega) hkq (by rw [(ty_at hq).1]; exact hj) (fun w => hjk w.symm))
  have hb0 : xb_ X ≤ xb_ X + (a - qq_K0) := Nat.le_add_right _ _
  have hsl : fd.slot < cell.slots.size := by rw [g3]; exact (Array.getElem?_eq_some_iff.mp (h6 k hkn)).1
  rcases hlink with ⟨hfin, hl⟩ | ⟨hfin, hdecl, hini, hl⟩
  · unfold u_lay at hlay
    rw [if_neg (by rw [hfin]; decide)] at hlay
    have h7 := u_store hfc hkC hkind hlay g1 hdty hnar hfit
    rcases hl with hl | ⟨host, hl⟩
    · exact W.putK hx hb (f := fd) ⟨hown, hl, ⟨_, _, _, g1⟩, g2⟩ (by rw [h3]; exact h7) h2 h4 hsl rfl rfl hd fun H' w1 w2 w3 => kk H' _ (hend H' w1 w2 w3) (lo_app hlo hb0)
    · exact va_WputK hx hb (f := fd) hown hl g1 g2 (by rw [h3]; exact h7) h2 h4 hsl rfl rfl hd fun H' w1 w2 w3 => kk H' _ (hend H' w1 w2 w3) (lo_app hlo hb0)
  · unfold u_lay at hlay
    rw [if_pos hfin] at hlay
    have h7 := u_fits hfc hkC hkind (Or.inr hlay) g1 hdty hnar hfit
    have hcf : m.cls = cf := by
      obtain ⟨_, _, c', _, _, _, -, -, hf', -, -, -, hown2, -⟩ := Cond.laysFinal_spec hlay
      have e8 : c' = cf := by have := g1.symm.trans hf'; simp at this; exact this.1.symm
      rw [hdecl] at hown2
      rw [← e8]; exact Option.some.inj (hown.symm.trans hown2)
    exact W.putFinK hx hb hown hl g1 g2 hcf hini (by rw [h3]; exact h7) h2 h4 hsl rfl rfl hd fun H' w1 w2 w3 => kk H' _ (hend H' w1 w2 w3) (lo_app hlo hb0)
theorem so_gets (hx : p.tables.exec = Jvm.exec) (hb : c.code = cc) (hF : qq_Fx X s) (hP : qq_Hp X σ H) {own : String} (hown : s.vm.findClass own = some m.cls) {i ix : Nat} {q : String × String × String × Value} (hq : qq_stat[i]? = some q)
    (hlink : (Cond.fieldLink own ix q.1 q.2.1 q.2.2.1).before args s = true ∨ ∃ host, (Cond.fieldLinkNest own ix q.1 q.2.1 q.2.2.1 host).before args s = true) (hd : decode cc pc = .ok (.getstatic ix, 3))
    (kk : W p l e R s m args below meth c H locs cells slots Q (F0 m (pc + 3) ls (rv_ X q.2.2.2 :: rest))) : W p l e R s m args below meth c H locs cells slots Q (F0 m pc ls rest) := by
  obtain ⟨cf, kf, fi, f, a, cell, h1, h2, h3, h4, h5, h6, h7, h8⟩ := hF.2.2.2.2.2.2.1 i q hq
  have hal : a < xb_ X := (Array.getElem?_eq_some_iff.mp h5).1
  have hH : H[a]? = some cell := by rw [hP.2.2.1 a hal]; exact h5
  rcases hlink with hl | ⟨host, hl⟩
  · exact W.gets hx hb hown hl h1 h2 h3 h4 hH (fun e => by rw [e] at h6; cases h6) h7 rfl hd kk
  · exact va_WgetsN hx hb hown hl h1 h2 h3 h4 hH (fun e => by rw [e] at h6; cases h6) h7 rfl hd kk
theorem so_ldcS (hx : p.tables.exec = Jvm.exec) (hb : c.code = cc) (hF : qq_Fx X s) {own : String} (hown : s.vm.findClass own = some m.cls) {i ix : Nat} {q : String × Nat × String × Nat} (hq : qq_strs[i]? = some q) (ho : q.1 = own) (hi : q.2.1 = ix) (hid : q.2.2.2 < qq_K0) (hd : decode cc pc = .ok (.ldc ix, 2))
    (kk : W p l e R s m args below meth c H locs cells slots Q (F0 m (pc + 2) ls (rv_ X (.ref q.2.2.2) :: rest))) : W p l e R s m args below meth c H locs cells slots Q (F0 m pc ls rest) := by
  obtain ⟨a, h1, h2⟩ := hF.2.2.2.2.1 i q hq
  have e1 : rv_ X (.ref q.2.2.2) = .ref a := by simp only [rv_, ro_con hid, h1]; rfl
  rw [e1] at kk
  rw [ho, hi] at h2
  exact va_ldcS hx hb hown h2 hd kk
theorem so_new (hx : p.tables.exec = Jvm.exec) (hb : c.code = cc) (hF : qq_Fx X s) (hP : qq_Hp X σ H) {own : String} (hown : s.vm.findClass own = some m.cls) {ci ix : Nat} {q : vw_C} (hq : qq_cl[ci]? = some q) (hc1 : ci ≠ 1) (hlink : (Cond.classLink own ix q.1).before args s = true) (hini : (Cond.initialized q.1).before args s = true)
    (hc : cells + 1 ≤ R.cells) (hs : slots + qq_nf ci ≤ R.slots) (hd : decode cc pc = .ok (.new ix, 3))
    (kk : ∀ H' : Heap, qq_Hp X (nw_S σ 1 (ci, 0) (qq_nf ci)) H' → W p l e R s m args below meth c H' locs (cells + 1) (slots + qq_nf ci) Q (F0 m (pc + 3) ls (rv_ X (.ref (sz_S σ)) :: rest))) : W p l e R s m args below meth c H locs cells slots Q (F0 m pc ls rest) := by
  have hc14 := cl_lt hq
  obtain ⟨kC, hkC, hkind, hins⟩ := qq_ord hF hq hc1
  obtain ⟨hfc, hS⟩ := hF.2.2.1 ci q hq
  have hn := (ty_at hq).1
  have e1 : rv_ X (.ref (sz_S σ)) = .ref H.size := by
    simp only [rv_, ro_own hP.1]
    rw [hP.2.1]; rfl
  rw [e1] at kk
  have hins' : (Cond.instantiable q.1 (qq_nf ci)).before args s = true := by
    rw [← hn]
    have h := List.all_eq_true.mp qq_ins_ok ci (List.mem_range.mpr hc14)
    simp only [hq, Bool.or_eq_true, decide_eq_true_eq] at h
    exact Fx_word hF (h.resolve_left (by omega)) (by rfl)
  refine W.newcK hx hb hown hlink hins' hini rfl hd hc hs hfc rfl fun H1 kC1 hkC1 w1 w2 w3 => kk H1 (hp_new hP _ _ w2 w3 ?_)
  have hsz : (kd_S (nw_S σ 1 (ci, 0) (qq_nf ci)) (sz_S σ)) = (ci, 0) := if_pos ⟨Nat.le_refl _, Nat.lt_succ_self _⟩
  rw [qq_Ce, hsz]
  dsimp only
  rw [if_pos (show ci < 100 by omega)]
  refine ⟨by rw [qq_nl.2]; exact hc14, ?_⟩
  have hb0 : t_OB H.size (X.1 ci) q.2.2 (X.2.1 ci) H1 (fun k => defaultValue (qq_ty ci k)) := by
    refine u_born (ws := u_ws q.1 q.2.1 q.2.2) (args := args) (T := q.2.1) (C := q.1) (qq_ty ci) (fun w hw => ?_) (fun w hw => hw) ⟨fun k hk => ?_, hfc, kC, hkC, hkind⟩ hkC1 w1 (fun k hk => ((ty_at hq).2 k hk).1)
    · obtain ⟨j, hj, rfl⟩ := List.mem_map.mp hw
      exact lay_at hF hq (by omega) (List.mem_range.mp hj)
    · obtain ⟨cf, kf, fi, fd, g1, g2, g3⟩ := hS k hk
      exact ⟨cf, kf, fi, fd, g1, g3⟩
  rw [hn, hP.2.1] at hb0
  refine hb0.to fun k _ => ?_
  have h0 : rv_ X (.ref 0) = .null := by simp only [rv_, ro_con (show 0 < qq_K0 by decide), hF.2.2.2.2.2.2.2.2.2.2.1]; rfl
  rw [nw_val σ (ci, 0) (qq_nf ci) (qq_ty ci k) k 0]
  cases qq_ty ci k <;> first | rfl | exact h0.symm
theorem so_newa (hx : p.tables.exec = Jvm.exec) (hb : c.code = cc) (hF : qq_Fx X s) (hP : qq_Hp X σ H) {t : Nat} {at_ : ArrayType} (hat : qq_at t = true) (het : qq_et t = newarray.typeOf at_) (hw : (Cond.arrayClass (newarray.typeOf at_)).before args s = true) {n : Int32} (hn0 : ¬ n < 0) (hn : n.toNatClampNeg ≤ 65536)
    (hc : cells + 1 ≤ R.cells) (hs : slots + n.toNatClampNeg ≤ R.slots) (hd : decode cc pc = .ok (.newarray at_, 2))
    (kk : ∀ H' : Heap, qq_Hp X (nw_S σ 1 (t, n.toNatClampNeg) n.toNatClampNeg) H' → W p l e R s m args below meth c H' locs (cells + 1) (slots + n.toNatClampNeg) Q (F0 m (pc + 2) ls (rv_ X (.ref (sz_S σ)) :: rest))) : W p l e R s m args below meth c H locs cells slots Q (F0 m pc ls (.int n :: rest)) := by
  obtain ⟨t1, t2, t3⟩ := qq_at_no hat
  have e1 : rv_ X (.ref (sz_S σ)) = .ref H.size := by
    simp only [rv_, ro_own hP.1]
    rw [hP.2.1]; rfl
  rw [e1] at kk
  refine va_newaK hx hb hw rfl hd rfl hn0 rfl (by have : componentBytes (newarray.typeOf at_) ≤ 8 := (by cases at_ <;> decide); have := Nat.mul_le_mul hn this; omega) hc hs rfl fun H1 cA w1 w2 w3 w4 w5 => kk H1 (hp_new hP _ _ w2 w3 ?_)
  have hsz : (kd_S (nw_S σ 1 (t, n.toNatClampNeg) n.toNatClampNeg) (sz_S σ)) = (t, n.toNatClampNeg) := if_pos ⟨Nat.le_refl _, Nat.lt_succ_self _⟩
  rw [qq_Ce, hsz]
  dsimp only
  rw [if_neg (by omega), if_pos (by omega)]
  have hra := (hF.2.2.2.1 t hat).2
  rw [het] at hra
  have hcA : X.2.2.1 t = cA := by
    have h9 : s.vm.findClass ("[" ++ (newarray.typeOf at_).toString) = some (X.2.2.1 t) := by cases at_ <;> exact hra
    exact Option.some.inj (h9.symm.trans w5)
  refine ⟨hat, ?_⟩
  rw [hP.2.1] at w1
  rw [w1, hcA, het]
  refine congrArg some (congrArg (arrV _ _) (funext fun j => ?_))
  rw [nw_val σ (t, n.toNatClampNeg) n.toNatClampNeg _ j 0]
  cases at_ <;> rfl
theorem so_anew (hx : p.tables.exec = Jvm.exec) (hb : c.code = cc) (hF : qq_Fx X s) (hP : qq_Hp X σ H) {own C : String} (hown : s.vm.findClass own = some m.cls) {t ix : Nat} (hat : qq_at t = true) (het : qq_et t = .object C) (hw : (Cond.classLink own ix C).before args s = true) (hw2 : (Cond.arrayOver (.object C)).before args s = true) {n : Int32} (hn0 : ¬ n < 0) (hn : n.toNatClampNeg ≤ 65536)
    (hc : cells + 1 ≤ R.cells) (hs : slots + n.toNatClampNeg ≤ R.slots) (hd : decode cc pc = .ok (.anewarray ix, 3))
    (kk : ∀ H' : Heap, qq_Hp X (nw_S σ 1 (t, n.toNatClampNeg) n.toNatClampNeg) H' → W p l e R s m args below meth c H' locs (cells + 1) (slots + n.toNatClampNeg) Q (F0 m (pc + 3) ls (rv_ X (.ref (sz_S σ)) :: rest))) : W p l e R s m args below meth c H locs cells slots Q (F0 m pc ls (.int n :: rest)) := by
  obtain ⟨t1, t2, t3⟩ := qq_at_no hat
  have e1 : rv_ X (.ref (sz_S σ)) = .ref H.size := by
    simp only [rv_, ro_own hP.1]
    rw [hP.2.1]; rfl
  rw [e1] at kk
  refine W.anew hx hb hown hw hw2 rfl hd rfl hn0 (by omega) hc hs fun cA kA comp w1 w2 w3 w4 => kk _ (hp_new hP _ _ (by simp) (fun q hq => by rw [Array.getElem?_push, if_neg (Nat.ne_of_lt hq)]) ?_)
  have hsz : (kd_S (nw_S σ 1 (t, n.toNatClampNeg) n.toNatClampNeg) (sz_S σ)) = (t, n.toNatClampNeg) := if_pos ⟨Nat.le_refl _, Nat.lt_succ_self _⟩
  rw [qq_Ce, hsz]
  dsimp only
  rw [if_neg (by omega), if_pos (by omega)]
  have hra := (hF.2.2.2.1 t hat).2
  rw [het] at hra
  obtain ⟨_, _, _, _, _, h9⟩ := hra
  have hcA : X.2.2.1 t = cA := Option.some.inj (h9.symm.trans w1)
  refine ⟨hat, ?_⟩
  rw [← hP.2.1, Array.getElem?_push_size, arrV_new, hcA, het]
  refine congrArg some (congrArg (arrV _ _) (funext fun j => ?_))
  rw [nw_val σ (t, n.toNatClampNeg) n.toNatClampNeg _ j 0]
  have h0 : rv_ X (.ref 0) = .null := by simp only [rv_, ro_con (show 0 < qq_K0 by decide), hF.2.2.2.2.2.2.2.2.2.2.1]; rfl
  exact h0.symm
end QHF
end
section
/-! ROWS OF ROWS, COPIES, Object's CONSTRUCTOR -/
theorem vo_outer (c : ClassId) (N h0 : Nat) : ∀ i : Nat, Jvm.Free.Multi.outerC c N h0 i = arrV c N (fun j => if j < i then .ref (h0 + 1 + j) else .null)
  | 0 => by
    show ({ cls := c, slots := Array.replicate N .null, vm := .none } : Cell) = _
    rw [arrV_new]
    exact congrArg (arrV c N) (funext fun j => by simp)
  | i + 1 => by
    show (Jvm.Free.Multi.outerC c N h0 i).setSlot i (.ref (h0 + 1 + i)) = _
    rw [vo_outer c N h0 i, arrV_store]
    refine congrArg (arrV c N) (funext fun j => ?_)
    by_cases e : j = i
    · subst e; simp [updV]
    · by_cases h : j < i
      · simp [updV, e, h, Nat.lt_succ_of_lt h]
      · simp [updV, e, h, show ¬ j < i + 1 by omega]
theorem cl_arr {c : ClassId} {n : Nat} {F G : Nat → Value} (h : ∀ j, j < n → F j = G j) : arrV c n F = arrV c n G := by
  show ({ cls := c, slots := Array.ofFn (n := n) fun j => F j.val, vm := .none } : Cell) = ({ cls := c, slots := Array.ofFn (n := n) fun j => G j.val, vm := .none } : Cell)
  have e : (fun j : Fin n => F j.val) = fun j : Fin n => G j.val := funext fun j => h j.val j.isLt
  rw [e]
section QHM
variable {p : Program} {l : Launch} {e : Env} {R : Room} {s : State} {m : MethodId} {args : Array Value} {below : List Frame} {meth : Method} {c : Code} {H : Heap} {locs : List Loc} {cells slots : Nat} {Q : State → Prop}
variable {cc : ByteArray} {pc : Nat} {ls : Array Slot} {rest : List Value} {X : qq_X} {σ : qq_S}
theorem so_obj (hx : p.tables.exec = Jvm.exec) (hb : c.code = cc) (hF : qq_Fx X s) (hP : qq_Hp X σ H) {own : String} (hown : s.vm.findClass own = some m.cls) {a ix : Nat} (hk : (kd_S σ a).1 < 200) (hlink : (Cond.methodLink own ix Lib.objectInit).before args s = true) (hinst : (Cond.instanceMethod Lib.objectInit).before args s = true) (hcode : (Cond.code Lib.objectInit ⟨#[0xb1]⟩ 1 none).before args s = true)
    (hsz : ls.size = c.maxLocals) (hcat : (rest.map fun v => v.category).sum ≤ 8) (hf : 1 ≤ R.frames) (hl : 20 ≤ R.locals) (hd : decode cc pc = .ok (.invokespecial ix, 3))
    (kk : W p l e R s m args below meth c H locs cells slots Q (F0 m (pc + 3) ls rest)) : W p l e R s m args below meth c H locs cells slots Q (F0 m pc ls (rv_ X (.ref a) :: rest)) := by
  obtain ⟨w, h1, -⟩ := hp_ref hF hP hk
  have e1 : rv_ X (.ref a) = .ref w := by simp only [rv_, h1]; rfl
  rw [e1]
  exact W.objInit hx hb hown hlink hinst hcode rfl hsz rfl hd hf (by show 2 * 0 + _ + _ ≤ _; omega) kk
theorem cp_val (σ : qq_S) (a sp b dp n : Nat) (ty : FieldType) (x k : Nat) (h : x ≠ b) : qq_val (cp_S σ a sp b dp n) ty x k = qq_val σ ty x k := by
  have e : rd_I (cp_S σ a sp b dp n) x k = rd_I σ x k := if_neg (fun q => h q.1)
  cases ty <;> simp only [qq_val, e] <;> rfl
theorem so_copy (hx : p.tables.exec = Jvm.exec) (hb : c.code = cc) (hF : qq_Fx X s) (hP : qq_Hp X σ H) (hlo : ∀ z ∈ locs, xb_ X ≤ z.base) {own : String} (hown : s.vm.findClass own = some m.cls) {a b t ix : Nat} (hka : (kd_S σ a).1 = t) (hkb : (kd_S σ b).1 = t) (ht : t = 100 ∨ t = 102) (hK : qq_K0 ≤ b)
    {sp dp n : Int32} (h1 : ¬ sp < 0) (h2 : ¬ dp < 0) (h3 : ¬ n < 0) (h4 : sp.toNatClampNeg + n.toNatClampNeg ≤ (kd_S σ a).2) (h5 : dp.toNatClampNeg + n.toNatClampNeg ≤ (kd_S σ b).2)
    (hfit : t = 102 → ∀ i, i < n.toNatClampNeg → fits .byte (.int (rd_I σ a (sp.toNatClampNeg + i))) = true)
    (hlink : (Cond.methodLink own ix arraycopyName).before args s = true) (hnat : (Cond.native arraycopyName).before args s = true) (hstat : (Cond.static arraycopyName).before args s = true) (hini : (Cond.initialized "java/lang/System").before args s = true)
    (hsz : ls.size = c.maxLocals) (hcat : (rest.map fun v => v.category).sum ≤ 8) (hf : 1 ≤ R.frames) (hl : 60 ≤ R.locals) (hd : decode cc pc = .ok (.invokestatic ix, 3))
    (kk : ∀ (H' : Heap) (locs' : List Loc), qq_Hp X (cp_S σ a sp.toNatClampNeg b dp.toNatClampNeg n.toNatClampNeg) H' → (∀ z ∈ locs', xb_ X ≤ z.base) → W p l e R s m args below meth c H' locs' cells slots Q (F0 m (pc + 3) ls rest)) :
    W p l e R s m args below meth c H locs cells slots Q (F0 m pc ls (.int n :: .int dp :: rv_ X (.ref b) :: .int sp :: rv_ X (.ref a) :: rest)) := by
  have hat : qq_at t = true := by rcases ht with rfl | rfl <;> rfl
  have hprim : refKind (qq_et t) = false := by rcases ht with rfl | rfl <;> rfl
  have hint : ∀ x k, qq_val σ (qq_et t) x k = .int (rd_I σ x k) := by rcases ht with rfl | rfl <;> exact fun _ _ => rfl
  have hint2 : ∀ x k, qq_val (cp_S σ a sp.toNatClampNeg b dp.toNatClampNeg n.toNatClampNeg) (qq_et t) x k = .int (rd_I (cp_S σ a sp.toNatClampNeg b dp.toNatClampNeg n.toNatClampNeg) x k) := by rcases ht with rfl | rfl <;> exact fun _ _ => rfl
  obtain ⟨q, a1, cs, a2, a3, a4, a5, a6, a7⟩ := hp_ar hF hP hka hat
  obtain ⟨hlb, b2⟩ := hp_own hP hkb hat hK
  have e1 : rv_ X (.ref a) = .ref q := by simp only [rv_, a1]; rfl
  have e2 : rv_ X (.ref b) = .ref (xb_ X + (b - qq_K0)) := by simp only [rv_, ro_own hK]; rfl
  rw [e1, e2]
  have nn : ∀ z : Int32, ¬ z < 0 → z.toInt = (z.toNatClampNeg : Int) := by
    intro z hz
    have hz0 : (0 : Int) ≤ z.toInt := by
      have := Int32.not_lt.mp hz
      simpa using Int32.le_iff_toInt_le.mp this
    show z.toInt = ((z.toInt.toNat : Nat) : Int)
    omega
  obtain ⟨-, k0, hk0, cm0, hkk0⟩ := a3
  obtain ⟨-, k1, hk1, cm1, hkk1⟩ := (hF.2.2.2.1 t hat).1 (kd_S σ b).2 (fun j => rv_ X (qq_val σ (qq_et t) b j))
  intro T hT Xs
  have hfv : ∀ i, i < n.toNatClampNeg → cs.slots.getD (sp.toNatClampNeg + i) .null = .int (rd_I σ a (sp.toNatClampNeg + i)) := by
    intro i hi
    have := a7 (sp.toNatClampNeg + i) (by omega)
    dsimp only at this
    rw [hint] at this
    rw [Array.getD_eq_getD_getElem?, this]
    rfl
  have hnw : nativeFrameWords "java/lang/System" "arraycopy" 5 ≤ 40 := by decide +kernel
  obtain ⟨vm', X', step⟩ := Xs.arraycopy hx hown hlink hnat hstat hini (src := q) (dst := xb_ X + (b - qq_K0)) (cs := cs) (cd := arrV (X.2.2.1 t) (kd_S σ b).2 (fun j => rv_ X (qq_val σ (qq_et t) b j))) (srcPos := sp) (destPos := dp) (n := n) (by rw [hT]; exact a2) (by rw [hT]; exact b2)
    (fun _ h => by rw [h] at a5; cases a5) (fun _ h => by cases h) a4 (fun h => by cases h) hk0 hk1 hkk0 hkk1 (by simp [hprim]) h1 h2 h3
    (by rw [nn sp h1, nn n h3, a6]; omega)
    (by rw [nn dp h2, nn n h3, arrV_size]; omega)
    (fun vm₁ _ i hi => by
      rw [hfv i hi]
      refine ⟨?_, trivial⟩
      rcases ht with rfl | rfl
      · rfl
      · exact hfit rfl i hi)
    (g := F0 m pc ls (.int n :: .int dp :: .ref (xb_ X + (b - qq_K0)) :: .int sp :: .ref q :: rest)) rfl hsz (rest := rest) rfl (by rw [hb]; exact hd) hf (by show 2 * 0 + _ + _ ≤ _; omega)
  have ecd : (arrV (X.2.2.1 t) (kd_S σ b).2 (fun j => rv_ X (qq_val σ (qq_et t) b j))) = arrV (X.2.2.1 t) (kd_S σ b).2 (fun j => .int (rd_I σ b j)) := congrArg (arrV _ _) (funext fun j => by rw [hint]; rfl)
  have ecp : copied cs (arrV (X.2.2.1 t) (kd_S σ b).2 (fun j => rv_ X (qq_val σ (qq_et t) b j))) sp dp n = arrV (X.2.2.1 t) (kd_S σ b).2 (fun j => rv_ X (qq_val (cp_S σ a sp.toNatClampNeg b dp.toNatClampNeg n.toNatClampNeg) (qq_et t) b j)) := by
    rw [ecd]
    refine (va_copiedX (fun z => .int z) cs (X.2.2.1 t) (fun j => rd_I σ a j) (fun j => rd_I σ b j) (fun j hj => by have := a7 j hj; dsimp only at this; rw [hint] at this; exact this) h4).trans (congrArg (arrV _ _) (funext fun j => ?_))
    rw [hint2]
    show Value.int (va_cpy _ _ _ _ _ j) = Value.int _
    refine congrArg Value.int ?_
    by_cases h : dp.toNatClampNeg ≤ j ∧ j < dp.toNatClampNeg + n.toNatClampNeg
    · simp [va_cpy, rd_I, cp_S, h]
    · simp [va_cpy, rd_I, cp_S, h]
  rw [ecp] at X' step
  have hl2 : xb_ X + (b - qq_K0) < H.size := (Array.getElem?_eq_some_iff.mp b2).1
  have hend : qq_Hp X (cp_S σ a sp.toNatClampNeg b dp.toNatClampNeg n.toNatClampNeg) (H.setIfInBounds (xb_ X + (b - qq_K0)) (arrV (X.2.2.1 t) (kd_S σ b).2 (fun j => rv_ X (qq_val (cp_S σ a sp.toNatClampNeg b dp.toNatClampNeg n.toNatClampNeg) (qq_et t) b j)))) := by
    obtain ⟨t1, t2, t3⟩ := qq_at_no hat
    refine hp_put hP hK hlb (fun _ => rfl) rfl (fun x hx ty k => cp_val σ a _ b _ _ ty x k hx) ?_ (by simp) (fun z hz => by simp [Array.getElem?_setIfInBounds, Ne.symm hz])
    rw [qq_Ce, show kd_S (cp_S σ a sp.toNatClampNeg b dp.toNatClampNeg n.toNatClampNeg) b = kd_S σ b from rfl, hkb, if_neg (by omega), if_pos (by omega)]
    exact ⟨hat, by simp [Array.getElem?_setIfInBounds, hl2]⟩
  obtain ⟨t9, a1, b1⟩ := kk _ _ hend (fun z hz => by
    rcases List.mem_append.mp hz with h | h
    · exact hlo z h
    · obtain ⟨y, -, hy⟩ := List.mem_map.mp h
      rw [← hy]
      exact Nat.le_add_right _ _) _ (show ((T.setVm vm').setCell _ _).heap = _ by rw [← hT]; rfl) X'
  exact ⟨t9, step t9 a1, b1⟩
theorem so_mna (hx : p.tables.exec = Jvm.exec) (hb : c.code = cc) (hF : qq_Fx X s) (hP : qq_Hp X σ H) {own : String} (hown : s.vm.findClass own = some m.cls) {ix : Nat} (hw : (Cond.classLink own ix "[[I").before args s = true) (hw2 : (Cond.arrayOver (.array .int)).before args s = true) (hw3 : (Cond.arrayClass .int).before args s = true)
    {n k : Int32} (hn0 : ¬ n < 0) (hn : n.toNatClampNeg ≤ 65536) (hk0 : ¬ k < 0) (hk : k.toNatClampNeg ≤ 65536)
    (hc : cells + (1 + n.toNatClampNeg) ≤ R.cells) (hs : slots + (n.toNatClampNeg + n.toNatClampNeg * k.toNatClampNeg) ≤ R.slots) (hd : decode cc pc = .ok (.multianewarray ix 2, 4))
    (kk : ∀ H' : Heap, qq_Hp X (gr_S (nw_S (nw_S σ 1 (110, n.toNatClampNeg) n.toNatClampNeg) n.toNatClampNeg (100, k.toNatClampNeg) (n.toNatClampNeg * k.toNatClampNeg)) (sz_S σ) n.toNatClampNeg) H' →
      W p l e R s m args below meth c H' locs (cells + 1 + n.toNatClampNeg) (slots + n.toNatClampNeg + n.toNatClampNeg * k.toNatClampNeg) Q (F0 m (pc + 4) ls (rv_ X (.ref (sz_S σ)) :: rest))) : W p l e R s m args below meth c H locs cells slots Q (F0 m pc ls (.int k :: .int n :: rest)) := by
  have e1 : rv_ X (.ref (sz_S σ)) = .ref H.size := by
    simp only [rv_, ro_own hP.1]
    rw [hP.2.1]; rfl
  rw [e1] at kk
  intro T hT Xs
  obtain ⟨vm₁, cA, comp, -, fA, fC, -, -, X', step⟩ := Xs.multianewarray2F hx hown (ty := .int) hw hw2 hw3 (g := F0 m pc ls (.int k :: .int n :: rest)) rfl (by rw [hb]; exact hd) rfl hn0 hk0 (by omega) (by rw [show componentBytes FieldType.int = 4 from rfl]; omega) (by omega) rfl rfl hc hs
  generalize hF9 : Jvm.Free.Multi.fill (T.setVm vm₁) cA comp n.toNatClampNeg k.toNatClampNeg (defaultValue .int) n.toNatClampNeg = F9 at X' step
  have hTh : (T.setVm vm₁).heap = H := hT
  obtain ⟨f1, f2, -, -⟩ := Jvm.Free.Multi.fill_facts (T.setVm vm₁) cA comp n.toNatClampNeg k.toNatClampNeg (defaultValue .int) n.toNatClampNeg
  rw [hF9, hTh] at f1 f2
  have hold : ∀ x : Nat, x < H.size → F9.heap[x]? = H[x]? := fun x hx => by
    have := Jvm.Free.Multi.fill_old (T.setVm vm₁) cA comp n.toNatClampNeg k.toNatClampNeg (defaultValue .int) (a := x) (by rw [hTh]; exact hx) n.toNatClampNeg
    rw [hF9, hTh] at this
    exact this
  have hrow : ∀ j : Nat, j < n.toNatClampNeg → F9.heap[H.size + 1 + j]? = some (arrV comp k.toNatClampNeg (fun _ => .int 0)) := fun j hj => by
    have := Jvm.Free.Multi.fill_inner (T.setVm vm₁) cA comp n.toNatClampNeg k.toNatClampNeg (defaultValue .int) n.toNatClampNeg j hj
    rw [hF9, hTh] at this
    rw [this]
    exact congrArg some (arrV_new _ _ _)
  rw [vo_outer] at f2
  have hcA : X.2.2.1 110 = cA := Option.some.inj ((show s.vm.findClass "[[I" = some (X.2.2.1 110) from (hF.2.2.2.1 110 rfl).2).symm.trans fA)
  have hcI : X.2.2.1 100 = comp := Option.some.inj ((show s.vm.findClass "[I" = some (X.2.2.1 100) from (hF.2.2.2.1 100 rfl).2).symm.trans fC)
  have hT2 : qq_Hp X (gr_S (nw_S (nw_S σ 1 (110, n.toNatClampNeg) n.toNatClampNeg) n.toNatClampNeg (100, k.toNatClampNeg) (n.toNatClampNeg * k.toNatClampNeg)) (sz_S σ) n.toNatClampNeg) F9.heap := by
    obtain ⟨h0, hz, hq, hno, hco, ho⟩ := hP
    generalize hN : n.toNatClampNeg = N at *
    generalize hM : k.toNatClampNeg = M at *
    generalize hσ' : gr_S (nw_S (nw_S σ 1 (110, N) N) N (100, M) (N * M)) (sz_S σ) N = σ'
    have hs : sz_S σ' = sz_S σ + 1 + N := by rw [← hσ']; rfl
    have hkO : ∀ b, b < sz_S σ ∨ sz_S σ + 1 + N ≤ b → kd_S σ' b = kd_S σ b := by
      intro b hb
      rw [← hσ']
      show (if sz_S σ + 1 ≤ b ∧ b < sz_S σ + 1 + N then (100, M) else if sz_S σ ≤ b ∧ b < sz_S σ + 1 then (110, N) else kd_S σ b) = _
      rw [if_neg (by omega), if_neg (by omega)]
    have hk1 : kd_S σ' (sz_S σ) = (110, N) := by
      rw [← hσ']
      show (if sz_S σ + 1 ≤ sz_S σ ∧ sz_S σ < sz_S σ + 1 + N then (100, M) else if sz_S σ ≤ sz_S σ ∧ sz_S σ < sz_S σ + 1 then (110, N) else kd_S σ (sz_S σ)) = _
      rw [if_neg (by omega), if_pos (by omega)]
    have hk2 : ∀ j, j < N → kd_S σ' (sz_S σ + 1 + j) = (100, M) := by
      intro j hj
      rw [← hσ']
      show (if sz_S σ + 1 ≤ sz_S σ + 1 + j ∧ sz_S σ + 1 + j < sz_S σ + 1 + N then (100, M) else _) = _
      rw [if_pos (by omega)]
    have hv : ∀ b, b < sz_S σ → ∀ ty k, qq_val σ' ty b k = qq_val σ ty b k := by
      intro b hb ty k
      have e1 : rd_I σ' b k = rd_I σ b k := by rw [← hσ']; show (if sz_S σ + 1 ≤ b ∧ b < sz_S σ + 1 + N then _ else if sz_S σ ≤ b ∧ b < sz_S σ + 1 then _ else σ.1 b k) = _; rw [if_neg (by omega), if_neg (by omega)]; rfl
      have e2 : rd_R σ' b k = rd_R σ b k := by rw [← hσ']; show (if b = sz_S σ ∧ k < N then _ else if sz_S σ + 1 ≤ b ∧ b < sz_S σ + 1 + N then _ else if sz_S σ ≤ b ∧ b < sz_S σ + 1 then _ else σ.2.1 b k) = _; rw [if_neg (by omega), if_neg (by omega), if_neg (by omega)]; rfl
      have e3 : rd_L σ' b k = rd_L σ b k := by rw [← hσ']; show (if sz_S σ + 1 ≤ b ∧ b < sz_S σ + 1 + N then _ else if sz_S σ ≤ b ∧ b < sz_S σ + 1 then _ else σ.2.2.1 b k) = _; rw [if_neg (by omega), if_neg (by omega)]; rfl
      have e4 : rd_D σ' b k = rd_D σ b k := by rw [← hσ']; show (if sz_S σ + 1 ≤ b ∧ b < sz_S σ + 1 + N then _ else if sz_S σ ≤ b ∧ b < sz_S σ + 1 then _ else σ.2.2.2.1 b k) = _; rw [if_neg (by omega), if_neg (by omega)]; rfl
      cases ty <;> simp only [qq_val, e1, e2, e3, e4]
    refine ⟨by rw [hs]; omega, by rw [hs, f1, hz]; omega, fun q hq' => by rw [hold q (by omega)]; exact hq q hq', fun b hb => by rw [hkO b (by omega)]; exact hno b (by omega), fun b hb => Co_same (hkO b (by omega)) (hv b (by omega)) (hco b hb), fun b hb hb2 => ?_⟩
    by_cases h1 : b < sz_S σ
    · exact Ce_same (hkO b (Or.inl h1)) (hv b h1) (hold _ (by omega)) (ho b hb h1)
    · by_cases h2 : b = sz_S σ
      · subst h2
        rw [qq_Ce, hk1]
        dsimp only
        rw [if_neg (by decide), if_pos (by decide)]
        refine ⟨rfl, ?_⟩
        rw [← hz, f2, hcA]
        refine congrArg some (congrArg (arrV _ _) (funext fun j => ?_))
        have e2 : rd_R σ' (sz_S σ) j = if j < N then sz_S σ + 1 + j else 0 := by
          rw [← hσ']
          show (if sz_S σ = sz_S σ ∧ j < N then _ else if sz_S σ + 1 ≤ sz_S σ ∧ sz_S σ < sz_S σ + 1 + N then _ else if sz_S σ ≤ sz_S σ ∧ sz_S σ < sz_S σ + 1 then 0 else _) = _
          by_cases hj : j < N
          · rw [if_pos ⟨rfl, hj⟩, if_pos hj]
          · rw [if_neg (by omega), if_neg (by omega), if_pos (by omega), if_neg hj]
        show _ = rv_ X (.ref (rd_R σ' (sz_S σ) j))
        rw [e2]
        by_cases hj : j < N
        · rw [if_pos hj, if_pos hj]
          simp only [rv_, ro_own (show qq_K0 ≤ sz_S σ + 1 + j by omega)]
          show Value.ref (H.size + 1 + j) = Value.ref (xb_ X + (sz_S σ + 1 + j - qq_K0))
          have e9 : H.size + 1 + j = xb_ X + (sz_S σ + 1 + j - qq_K0) := by rw [hz]; omega
          rw [e9]
        · rw [if_neg hj, if_neg hj]
          simp only [rv_, ro_con (show 0 < qq_K0 by decide), hF.2.2.2.2.2.2.2.2.2.2.1]
          rfl
      · obtain ⟨j, hj, rfl⟩ : ∃ j, j < N ∧ b = sz_S σ + 1 + j := ⟨b - (sz_S σ + 1), by omega, by omega⟩
        rw [qq_Ce, hk2 j hj]
        dsimp only
        rw [if_neg (by decide), if_pos (by decide)]
        refine ⟨rfl, ?_⟩
        rw [show xb_ X + (sz_S σ + 1 + j - qq_K0) = H.size + 1 + j by rw [hz]; omega, hrow j hj, hcI]
        refine congrArg some (congrArg (arrV _ _) (funext fun i => ?_))
        have e1 : rd_I σ' (sz_S σ + 1 + j) i = 0 := by
          rw [← hσ']
          show (if sz_S σ + 1 ≤ sz_S σ + 1 + j ∧ sz_S σ + 1 + j < sz_S σ + 1 + N then 0 else _) = _
          rw [if_pos (by omega)]
        show Value.int 0 = rv_ X (.int (rd_I σ' (sz_S σ + 1 + j) i))
        rw [e1]; rfl
  rw [show T.heap.size = H.size by rw [hT]] at step
  obtain ⟨t9, a1, b1⟩ := kk F9.heap hT2 F9 rfl X'
  exact ⟨t9, step t9 a1, b1⟩
theorem cl_grow {σ : qq_S} {a : Nat} : sz_S σ ≤ sz_S (cl_S σ a) ∧ su_S σ ≤ su_S (cl_S σ a) := ⟨Nat.le_succ _, Nat.le_add_right _ _⟩
theorem so_clone (hx : p.tables.exec = Jvm.exec) (hb : c.code = cc) (hF : qq_Fx X s) (hP : qq_Hp X σ H) {own : String} (hown : s.vm.findClass own = some m.cls) {a ix : Nat} (hk : (kd_S σ a).1 = 102) (ha : qq_K0 ≤ a) (hfit : ∀ i, i < (kd_S σ a).2 → fits .byte (.int (rd_I σ a i)) = true)
    (hlink : (Cond.methodLink own ix ⟨"[B", "clone", "()Ljava/lang/Object;"⟩).before args s = true) (hsame : (Cond.sameMethod "[B" "java/lang/Object" "clone" "()Ljava/lang/Object;").before args s = true)
    (hnat : (Cond.native ⟨"java/lang/Object", "clone", "()Ljava/lang/Object;"⟩).before args s = true) (hinst : (Cond.instanceMethod ⟨"java/lang/Object", "clone", "()Ljava/lang/Object;"⟩).before args s = true)
    (hsel : (Cond.selects "[B" ⟨"[B", "clone", "()Ljava/lang/Object;"⟩ ⟨"java/lang/Object", "clone", "()Ljava/lang/Object;"⟩).before args s = true) (hcl : va_Nw (.castable "[B" "java/lang/Cloneable") s)
    (hsz : ls.size = c.maxLocals) (hcat : (rest.map fun v => v.category).sum ≤ 8) (hf : 1 ≤ R.frames) (hl : 60 ≤ R.locals) (hc : cells + 1 ≤ R.cells) (hs : slots + (kd_S σ a).2 ≤ R.slots) (hd : decode cc pc = .ok (.invokevirtual ix, 3))
    (kk : ∀ H' : Heap, qq_Hp X (cl_S σ a) H' → W p l e R s m args below meth c H' locs (cells + 1) (slots + (kd_S σ a).2) Q (F0 m (pc + 3) ls (rv_ X (.ref (sz_S σ)) :: rest))) : W p l e R s m args below meth c H locs cells slots Q (F0 m pc ls (rv_ X (.ref a) :: rest)) := by
  obtain ⟨hla, hcell⟩ := hp_own hP hk rfl ha
  have e1 : rv_ X (.ref a) = .ref (xb_ X + (a - qq_K0)) := by simp only [rv_, ro_own ha]; rfl
  have e2 : rv_ X (.ref (sz_S σ)) = .ref H.size := by
    simp only [rv_, ro_own hP.1]
    rw [hP.2.1]; rfl
  rw [e1]
  rw [e2] at kk
  have hnm : s.vm.findClass "[B" = some (X.2.2.1 102) := va_nm_byte (hF.2.2.2.1 102 rfl).2
  obtain ⟨c0, t0', f1, f2, f3⟩ := Cond.castable_spec (va_Nw.use (A := args) rfl hcl)
  cases hnm.symm.trans f1
  generalize hV : (fun j => rv_ X (qq_val σ (qq_et 102) a j)) = V at hcell
  have hVf : ∀ i, i < (kd_S σ a).2 → fits .byte (V i) = true := fun i hi => by rw [← hV]; exact hfit i hi
  intro T hT Xs
  have hcellT : T.heap[xb_ X + (a - qq_K0)]? = some (arrV (X.2.2.1 102) (kd_S σ a).2 V) := by rw [hT]; exact hcell
  obtain ⟨-, kA, hkA, comp, hkind⟩ := State.isArrayOf_alike Xs.warmed.alike ((hF.2.2.2.1 102 rfl).1 0 (fun _ => .null))
  obtain ⟨-, kS, hkS, compS, hkindS⟩ := (hF.2.2.2.1 102 rfl).1 0 (fun _ => .null)
  obtain ⟨vm', X', st⟩ := Xs.cloneArray hx hown hlink hsame hnat hinst hsel (a := xb_ X + (a - qq_K0)) (cell := arrV (X.2.2.1 102) (kd_S σ a).2 V) hcellT (fun k h => by cases h) (fun h => by cases h) hnm f2 f3
    (fun i v hv => by
      have hk' : T.vm.classes[X.2.2.1 102]? = some kA := hkA
      have h9 : fits (qq_et 102) v = true := va_fit hVf i v hv
      rw [show (arrV (X.2.2.1 102) (kd_S σ a).2 V).cls = X.2.2.1 102 from rfl]
      simpa [State.fitsSlot, State.slotType?, hk', hkind] using h9)
    (g := F0 m pc ls (.ref (xb_ X + (a - qq_K0)) :: rest)) rfl hsz rfl (by rw [hb]; exact hd) hf (by show 2 * 0 + _ + 14 ≤ _; omega) hc (by rw [arrV_size]; exact hs) (hloader := Vm.clonesLoader_of_array hkS hkindS)
  have hcellE : ({ cls := (arrV (X.2.2.1 102) (kd_S σ a).2 V).cls, slots := (arrV (X.2.2.1 102) (kd_S σ a).2 V).slots } : Cell) = arrV (X.2.2.1 102) (kd_S σ a).2 V := rfl
  rw [hcellE, arrV_size] at X'
  -- first a new array, then what it holds
  have hz2 : xb_ X + (sz_S σ - qq_K0) = H.size := hP.2.1.symm
  have hK0 := hP.1
  have h1 : qq_Hp X (nw_S σ 1 (102, (kd_S σ a).2) (kd_S σ a).2) (H.push (arrV (X.2.2.1 102) (kd_S σ a).2 (fun _ => .int 0))) := by
    refine hp_new hP (102, (kd_S σ a).2) (kd_S σ a).2 (by rw [Array.size_push]) (fun q hq => by rw [Array.getElem?_push, if_neg (Nat.ne_of_lt hq)]) ?_
    have hkd : kd_S (nw_S σ 1 (102, (kd_S σ a).2) (kd_S σ a).2) (sz_S σ) = (102, (kd_S σ a).2) := if_pos ⟨Nat.le_refl _, Nat.lt_succ_self _⟩
    rw [qq_Ce, hkd]
    dsimp only
    rw [if_neg (by decide), if_pos (by decide)]
    refine ⟨rfl, ?_⟩
    rw [hz2, Array.getElem?_push_size]
    refine congrArg some (congrArg (arrV _ _) (funext fun j => ?_))
    rw [nw_val σ (102, (kd_S σ a).2) (kd_S σ a).2 (qq_et 102) j 0]
    rfl
  have h2 : qq_Hp X (cl_S σ a) (H.push (arrV (X.2.2.1 102) (kd_S σ a).2 V)) := by
    refine hp_put h1 hK0 (by show sz_S σ < sz_S σ + 1; omega) (fun _ => rfl) rfl (fun x hx ty k => cp_val _ a _ (sz_S σ) _ _ ty x k hx) ?_ (by rw [Array.size_push, Array.size_push]) (fun z hz => ?_)
    · have hkd : kd_S (cl_S σ a) (sz_S σ) = (102, (kd_S σ a).2) := if_pos ⟨Nat.le_refl _, Nat.lt_succ_self _⟩
      rw [qq_Ce, hkd]
      dsimp only
      rw [if_neg (by decide), if_pos (by decide)]
      refine ⟨rfl, ?_⟩
      rw [hz2, Array.getElem?_push_size]
      refine congrArg some (cl_arr fun j hj => ?_)
      rw [← hV]
      show rv_ X (.int (rd_I σ a j)) = rv_ X (.int (rd_I (cl_S σ a) (sz_S σ) j))
      have : rd_I (cl_S σ a) (sz_S σ) j = rd_I σ a j := by
        show (if sz_S σ = sz_S σ ∧ 0 ≤ j ∧ j < 0 + (kd_S σ a).2 then (if sz_S σ ≤ a ∧ a < sz_S σ + 1 then (0 : Int32) else σ.1 a (0 + (j - 0))) else _) = _
        rw [if_pos ⟨rfl, Nat.zero_le _, by omega⟩, if_neg (by omega), Nat.zero_add, Nat.sub_zero]
        rfl
      rw [this]
    · have hz' : z ≠ H.size := by rw [← hz2]; exact hz
      rw [Array.getElem?_push, Array.getElem?_push, if_neg hz', if_neg hz']
  obtain ⟨t, b1, b2⟩ := kk _ h2 ((T.setVm vm').pushCell (arrV (X.2.2.1 102) (kd_S σ a).2 V)) (by rw [← hT]; rfl) X'
  refine ⟨t, st t ?_, b2⟩
  rw [hcellE, hT]
  exact b1
theorem so_castB (hx : p.tables.exec = Jvm.exec) (hb : c.code = cc) (hF : qq_Fx X s) (hP : qq_Hp X σ H) {own : String} (hown : s.vm.findClass own = some m.cls) {a ix : Nat} (hk : (kd_S σ a).1 = 102) (ha : qq_K0 ≤ a)
    (hlink : (Cond.classLink own ix "[B").before args s = true) (hd : decode cc pc = .ok (.checkcast ix, 3))
    (kk : W p l e R s m args below meth c H locs cells slots Q (F0 m (pc + 3) ls (rv_ X (.ref a) :: rest))) : W p l e R s m args below meth c H locs cells slots Q (F0 m pc ls (rv_ X (.ref a) :: rest)) := by
  obtain ⟨hla, hcell⟩ := hp_own hP hk rfl ha
  have e1 : rv_ X (.ref a) = .ref (xb_ X + (a - qq_K0)) := by simp only [rv_, ro_own ha]; rfl
  rw [e1] at kk ⊢
  have hnm : s.vm.findClass "[B" = some (X.2.2.1 102) := va_nm_byte (hF.2.2.2.1 102 rfl).2
  intro T hT Xs
  obtain ⟨vm', X', st⟩ := Xs.checkcastYes hx hown hlink (by rw [hT]; exact hcell) rfl hnm (va_asg _ _) (g := F0 m pc ls (.ref (xb_ X + (a - qq_K0)) :: rest)) rfl rfl (by rw [hb]; exact hd)
  obtain ⟨t, a1, b1⟩ := kk (T.setVm vm') hT X'
  exact ⟨t, st t a1, b1⟩
end QHM
end
section
/-! CALLS: contracts by the abstract run, and what the tables must hold -/
def qq_y (m : Nat) : MethodName := match qq_me[m]? with | some x => x.1 | none => ⟨"", "", ""⟩
def qq_cd (m : Nat) : ByteArray := match qq_me[m]? with | some x => x.2.1 | none => ⟨#[]⟩
def qq_hh (m : Nat) : List (Nat × Nat × Nat × Nat) := match qq_me[m]? with | some x => x.2.2.2.2.1 | none => []
def qq_pc (m j : Nat) : Nat := match qq_T m j with | some e => e.1 | none => 0
def qq_rm (d mc ms : Nat) : Room := { frames := d + 8, cells := mc, slots := ms, locals := 46 * d + 110 }
def qq_Pc (X : qq_X) (av : List Value) (σ : qq_S) : Array Value → State → Prop := fun v U => v = (av.map (rv_ X)).toArray ∧ qq_Fx X U ∧ qq_Hp X σ U.heap
def qq_Qc (X : qq_X) (o : qq_O) (σ : qq_S) : Array Value → State → Outcome → State → Prop := fun _ _ oc t => (∃ r, o = .inl r ∧ oc = .returned (r.map (rv_ X))) ∧ qq_Hp X σ t.heap
def qq_XC (X : qq_X) (o : qq_O) (σ : qq_S) : String → State → State → Prop := fun E _ t => (∃ x q, o = .inr x ∧ qq_ex[x]? = some q ∧ q.1 = E) ∧ qq_Hp X σ t.heap
theorem Pc_blind (X : qq_X) (av : List Value) (σ : qq_S) : FrameBlind (qq_Pc X av σ) := fun a U g mk h => ⟨h.1, Fx_moved (U := U.calling g mk a) h.2.1 (State.WarmedH.refl U), h.2.2⟩
/-- a method's contract at one state: with its own words alone -/
def qq_Met (l : Launch) (X : qq_X) (d m : Nat) (av : List Value) (σ : qq_S) (o : qq_O) (σ' : qq_S) : Prop :=
  vx_Met l (qq_y m) [Cond.code (qq_y m) (qq_cd m) (qq_maxL m) (qq_ret m)] (qq_rm d (sz_S σ' - sz_S σ) (su_S σ' - su_S σ)) (qq_Pc X av σ) (qq_Qc X o σ') (qq_XC X o σ') (sz_S σ' - sz_S σ) (su_S σ' - su_S σ) (fun q : Nat => xb_ X ≤ q)
def qq_MetW (l : Launch) (X : qq_X) (d m : Nat) (av : List Value) (σ : qq_S) (o : qq_O) (σ' : qq_S) : Prop :=
  Met l (qq_y m) [Cond.codeWith (qq_y m) (qq_cd m) (qq_maxL m) (qq_ret m) (qq_hh m)] (qq_rm d (sz_S σ' - sz_S σ) (su_S σ' - su_S σ)) (qq_Pc X av σ) (qq_Qc X o σ') (sz_S σ' - sz_S σ) (su_S σ' - su_S σ) (fun q : Nat => xb_ X ≤ q)
section QCA
variable {p : Program} {l : Launch} {e : Env} {R : Room} {s : State} {m : MethodId} {args : Array Value} {below : List Frame} {meth : Method} {c : Code} {H : Heap} {locs : List Loc} {cells slots : Nat} {Q : State → Prop}
variable {cc : ByteArray} {pc : Nat} {ls : Array Slot} {rest st0 : List Value} {X : qq_X} {σ σ' : qq_S} {mc ms : Nat} {o : qq_O} {av : Array Value}
theorem so_ldcwS (hx : p.tables.exec = Jvm.exec) (hb : c.code = cc) (hF : qq_Fx X s) {own : String} (hown : s.vm.findClass own = some m.cls) {i ix : Nat} {q : String × Nat × String × Nat} (hq : qq_strs[i]? = some q) (ho : q.1 = own) (hi : q.2.1 = ix) (hid : q.2.2.2 < qq_K0) (hd : decode cc pc = .ok (.ldc_w ix, 3))
    (kk : W p l e R s m args below meth c H locs cells slots Q (F0 m (pc + 3) ls (rv_ X (.ref q.2.2.2) :: rest))) : W p l e R s m args below meth c H locs cells slots Q (F0 m pc ls rest) := by
  obtain ⟨a, h1, h2⟩ := hF.2.2.2.2.1 i q hq
  have e1 : rv_ X (.ref q.2.2.2) = .ref a := by simp only [rv_, ro_con hid, h1]; rfl
  rw [e1] at kk
  rw [ho, hi] at h2
  obtain ⟨k, cf, i9, a', hk, hcf, hcp, -, hr, hev'⟩ := Cond.stringRef_spec (args := #[]) hown h2.1
  cases h2.2.symm.trans hev'
  intro T hT Xs
  obtain ⟨t, a1, b1⟩ := kk T hT Xs
  refine ⟨t, ?_, b1⟩
  obtain ⟨k', hk', he⟩ := Xs.warmed.alike.2.2 _ _ hk
  have hr' : k'.resolved[ix]? = some (some (.string a)) := by
    rcases Xs.warmed.entry hk hk' ix with h | ⟨h, -⟩
    · rw [h]; exact hr
    · rw [hr] at h; cases h
  have hdg : decode c.code pc = .ok (.ldc_w ix, 3) := by rw [hb]; exact hd
  jvm_step Xs.here [hx, hdg, ldc_w.wp_string (e := e) (s := T) (f := F0 m pc ls rest) Xs.here.top hk' (by rw [he]; exact hcf) hcp hr']
  exact a1
/-- behind a call -/
theorem so_back (hr : vx_Run p l e R s m args below meth c H locs cells slots mc ms (F0 m pc ls st0) (rest.map (rv_ X)) (qq_Qc X o σ' av) (qq_XC X o σ') (fun q : Nat => xb_ X ≤ q)) (hlo : ∀ z ∈ locs, xb_ X ≤ z.base)
    (kr : ∀ (v : Option Value) (H' : Heap) (locs' : List Loc), o = .inl v → qq_Hp X σ' H' → (∀ z ∈ locs', xb_ X ≤ z.base) → W p l e R s m args below meth c H' locs' (cells + mc) (slots + ms) Q (F0 m (pc + 3) ls ((v.toList ++ rest).map (rv_ X))))
    (kx : ∀ (x : Nat) (q9 : String × Nat × Nat × List String) (z : Addr) (ce : Cell) (H' : Heap) (locs' : List Loc), o = .inr x → qq_ex[x]? = some q9 → qq_Hp X σ' H' → (∀ z ∈ locs', xb_ X ≤ z.base) → H'[z]? = some ce → ce.vm = .none → s.vm.findClass q9.1 = some ce.cls → vx_W p l e R s m args below meth c H' locs' (cells + mc) (slots + ms) Q (F0 m pc ls (rest.map (rv_ X))) z) :
    W p l e R s m args below meth c H locs cells slots Q (F0 m pc ls st0) := by
  intro T hT Xs
  rcases hr T hT Xs with ⟨v, st₀, t, T', L, h0, X', hL, e1, e2, ⟨⟨r, ho, hv⟩, hp⟩, st⟩ | ⟨q, st₀, t, T', L, E, ce, h0, X', hL, e1, e2, ⟨⟨x, q9, ho, hq9, hE⟩, hp⟩, hce, hcv, hcl, st⟩
  · cases hv
    obtain ⟨t2, a1, b1⟩ := kr r T'.heap (locs ++ L) ho (by rw [e1]; exact hp) (fun z hz => by
      rcases List.mem_append.mp hz with h | h
      · exact hlo z h
      · exact hL z h) T' rfl X'
    refine ⟨t2, st t2 ?_, b1⟩
    rw [List.map_append] at a1
    cases r <;> exact a1
  · subst hE
    obtain ⟨t2, a1, b1⟩ := kx x q9 q ce T'.heap (locs ++ L) ho hq9 (by rw [e1]; exact hp) (fun z hz => by
      rcases List.mem_append.mp hz with h | h
      · exact hlo z h
      · exact hL z h) (by rw [e1]; exact hce) hcv hcl T' rfl X'
    exact ⟨t2, st.trans a1, b1⟩
theorem so_backW (hr : va_Run p l e R s m args below meth c H locs cells slots mc ms (F0 m pc ls st0) (rest.map (rv_ X)) (qq_Qc X o σ' av) (fun q : Nat => xb_ X ≤ q)) (hlo : ∀ z ∈ locs, xb_ X ≤ z.base)
    (kr : ∀ (v : Option Value) (H' : Heap) (locs' : List Loc), o = .inl v → qq_Hp X σ' H' → (∀ z ∈ locs', xb_ X ≤ z.base) → W p l e R s m args below meth c H' locs' (cells + mc) (slots + ms) Q (F0 m (pc + 3) ls ((v.toList ++ rest).map (rv_ X)))) :
    W p l e R s m args below meth c H locs cells slots Q (F0 m pc ls st0) := by
  intro T hT Xs
  obtain ⟨v, st₀, t, T', L, h0, X', hL, e1, e2, ⟨⟨r, ho, hv⟩, hp⟩, st⟩ := hr T hT Xs
  cases hv
  obtain ⟨t2, a1, b1⟩ := kr r T'.heap (locs ++ L) ho (by rw [e1]; exact hp) (fun z hz => by
    rcases List.mem_append.mp hz with h | h
    · exact hlo z h
    · exact hL z h) T' rfl X'
  refine ⟨t2, st t2 ?_, b1⟩
  rw [List.map_append] at a1
  cases r <;> exact a1
end QCA
end
section
/-! WHAT THE TABLES MUST HOLD, AND ONE STEP -/
def qq_is (w : Nat) (cn : Jvm.Cond) : Bool := decide (qq_tbl[w]? = some cn)
def qq_fl (own : String) (ix : Nat) (r n d : String) (w : Nat) : Bool := qq_is w (.fieldLink own ix r n d) || qq_is w (.fieldLinkNest own ix r n d "StatueChancery")
theorem is_word {X : qq_X} {U : State} (hF : qq_Fx X U) {w : Nat} {cn : Jvm.Cond} (h : qq_is w cn = true) (hg : goodWord cn = true) {a' : Array Value} : cn.before a' U = true := Fx_word hF (of_decide_eq_true h) hg
theorem is_nw {X : qq_X} {U : State} (hF : qq_Fx X U) {w : Nat} {cn : Jvm.Cond} (h : qq_is w cn = true) (hg : nestW cn = true) : va_Nw cn U := Fx_nw hF (of_decide_eq_true h) hg
theorem fl_word {X : qq_X} {U : State} (hF : qq_Fx X U) {own r n d : String} {ix w : Nat} (h : qq_fl own ix r n d w = true) {a' : Array Value} : (Cond.fieldLink own ix r n d).before a' U = true ∨ ∃ host, (Cond.fieldLinkNest own ix r n d host).before a' U = true := by
  simp only [qq_fl, Bool.or_eq_true] at h
  rcases h with h | h
  · exact Or.inl (is_word hF h rfl)
  · exact Or.inr ⟨_, va_Nw.use rfl (is_nw hF h rfl)⟩
def qq_ok9 (m : Nat) (i : Instr) (lk : List Nat) : Bool := match i, lk with
  | .getfield ix, [c, k, w, _] => (match qq_cl[c]? with | some q => qq_fl (qq_y m).cls ix (q.2.1 k).1 (q.2.1 k).2.1 (q.2.1 k).2.2.1 w | none => false)
  | .putfield ix, [c, k, w, _] => (match qq_cl[c]? with
    | some q => decide (c ≠ 1) && (if (q.2.1 k).2.2.2 = true then decide ((q.2.1 k).1 = (qq_y m).cls) && decide ((qq_y m).name = "<init>") && qq_is w (.fieldLink (qq_y m).cls ix (q.2.1 k).1 (q.2.1 k).2.1 (q.2.1 k).2.2.1) else qq_fl (qq_y m).cls ix (q.2.1 k).1 (q.2.1 k).2.1 (q.2.1 k).2.2.1 w)
    | none => false)
  | .getstatic ix, [i, w] => (match qq_stat[i]? with | some q => qq_fl (qq_y m).cls ix q.1 q.2.1 q.2.2.1 w | none => false)
  | .ldc ix, [0, n, w] => qq_is w (.constant (qq_y m).cls ix (Int32.ofNat n))
  | .ldc ix, [1, id, _] => decide (id < qq_K0) && qq_strs.any fun q => decide (q.1 = (qq_y m).cls) && decide (q.2.1 = ix) && decide (q.2.2.2 = id)
  | .ldc_w ix, [1, id, _] => decide (id < qq_K0) && qq_strs.any fun q => decide (q.1 = (qq_y m).cls) && decide (q.2.1 = ix) && decide (q.2.2.2 = id)
  | .ldc_w ix, [0, n, w] => qq_is w (.constant (qq_y m).cls ix (Int32.ofNat n))
  | .new ix, [0, c, w1, _, w3] => (match qq_cl[c]? with | some q => decide (c ≠ 1) && qq_is w1 (.classLink (qq_y m).cls ix q.1) && qq_is w3 (.initialized q.1) | none => false)
  | .newarray at_, [t, w] => qq_at t && decide (qq_et t = newarray.typeOf at_) && qq_is w (.arrayClass (newarray.typeOf at_))
  | .anewarray ix, [t, w1, w2] => qq_at t && (match qq_et t with | .object C => qq_is w1 (.classLink (qq_y m).cls ix C) && qq_is w2 (.arrayOver (.object C)) | _ => false)
  | .multianewarray ix 2, [110, w1, w2, w3] => qq_is w1 (.classLink (qq_y m).cls ix "[[I") && qq_is w2 (.arrayOver (.array .int)) && qq_is w3 (.arrayClass .int)
  | .invokestatic ix, [20, w1, w2, w3, w4] => qq_is w1 (.methodLink (qq_y m).cls ix arraycopyName) && qq_is w2 (.native arraycopyName) && qq_is w3 (.static arraycopyName) && qq_is w4 (.initialized "java/lang/System")
  | .invokestatic ix, [22, w1, w2, w3, w4] => qq_is w1 (.methodLink (qq_y m).cls ix Lib.Math.max.name) && qq_is w2 (.static Lib.Math.max.name) && qq_is w3 (.initialized "java/lang/Math") && qq_is w4 (.code Lib.Math.max.name Lib.Math.max.code 2 (some .int))
  | .invokestatic ix, [23, w1, w2, w3, w4] => qq_is w1 (.methodLink (qq_y m).cls ix Lib.Math.min.name) && qq_is w2 (.static Lib.Math.min.name) && qq_is w3 (.initialized "java/lang/Math") && qq_is w4 (.code Lib.Math.min.name Lib.Math.min.code 2 (some .int))
  | .invokespecial ix, [21, w1, w2, w3] => qq_is w1 (.methodLink (qq_y m).cls ix Lib.objectInit) && qq_is w2 (.instanceMethod Lib.objectInit) && qq_is w3 (.code Lib.objectInit ⟨#[0xb1]⟩ 1 none)
  | .invokevirtual ix, [24, w1, w2, w3, w4, w5, w6] => qq_is w1 (.methodLink (qq_y m).cls ix ⟨"[B", "clone", "()Ljava/lang/Object;"⟩) && qq_is w2 (.sameMethod "[B" "java/lang/Object" "clone" "()Ljava/lang/Object;") && qq_is w3 (.native ⟨"java/lang/Object", "clone", "()Ljava/lang/Object;"⟩) && qq_is w4 (.instanceMethod ⟨"java/lang/Object", "clone", "()Ljava/lang/Object;"⟩) && qq_is w5 (.selects "[B" ⟨"[B", "clone", "()Ljava/lang/Object;"⟩ ⟨"java/lang/Object", "clone", "()Ljava/lang/Object;"⟩) && qq_is w6 (.castable "[B" "java/lang/Cloneable")
  | .checkcast ix, [25, w1] => qq_is w1 (.classLink (qq_y m).cls ix "[B")
  | _, _ => true
section QG9
variable {p : Program} {l : Launch} {e : Env} {R : Room} {s : State} {m : MethodId} {args : Array Value} {below : List Frame} {meth : Method} {c : Code} {H : Heap} {locs : List Loc} {cells slots : Nat} {Q : State → Prop}
variable {cc : ByteArray} {pc : Nat} {ls : Array Slot} {rest : List Value} {X : qq_X} {σ σ' : qq_S}
theorem qq_put_su {ty : FieldType} {a k : Nat} {v : Value} (h : qq_put σ ty a k v = some σ') : sz_S σ' = sz_S σ ∧ su_S σ' = su_S σ := by
  obtain ⟨-, h2, h3, -⟩ := put_val h
  exact ⟨h2, h3⟩
theorem qq_if_some2 {α : Type} {P : Prop} {x : Option α} {y : α} (h : qq_if P x none = some y) : P ∧ x = some y := by
  by_cases hP : P
  · rw [qq_if_t hP] at h; exact ⟨hP, h⟩
  · rw [qq_if_f hP] at h; cases h
/-- what a step of the heap adds -/
theorem hp_grow {i : Instr} {lk : List Nat} {st st' : List Value} (hs : qq_hp i lk st σ = some (st', σ')) : sz_S σ ≤ sz_S σ' ∧ su_S σ ≤ su_S σ' := by
  unfold qq_hp at hs
  split at hs
  all_goals first
    | (obtain ⟨-, h2⟩ := qq_if_some hs; cases h2; exact ⟨Nat.le_refl _, Nat.le_refl _⟩)
    | (obtain ⟨-, h2⟩ := qq_if_some hs; cases h2; exact ⟨Nat.le_add_right _ _, Nat.le_add_right _ _⟩)
    | (obtain ⟨-, h2⟩ := qq_if_some hs; cases h2; exact ⟨Nat.le_trans (Nat.le_add_right _ _) (Nat.le_add_right _ _), Nat.le_trans (Nat.le_add_right _ _) (Nat.le_add_right _ _)⟩)
    | (obtain ⟨-, h2⟩ := qq_if_some hs; cases h2; exact cl_grow)
    | (cases hs; exact ⟨Nat.le_refl _, Nat.le_refl _⟩)
    | (cases hs; exact ⟨Nat.le_add_right _ _, Nat.le_add_right _ _⟩)
    | (cases hs; done)
    | skip
  · obtain ⟨-, h1⟩ := qq_if_some2 hs
    obtain ⟨σ9, h1, h2⟩ := Option.map_eq_some_iff.mp h1
    cases h2
    obtain ⟨h3, h4⟩ := qq_put_su h1
    exact ⟨Nat.le_of_eq h3.symm, Nat.le_of_eq h4.symm⟩
  · obtain ⟨x, -, h2⟩ := Option.map_eq_some_iff.mp hs
    cases h2; exact ⟨Nat.le_refl _, Nat.le_refl _⟩
theorem k_same {H' : Heap} {locs' : List Loc} {g : JFrame} (h1 : sz_S σ' = sz_S σ) (h2 : su_S σ' = su_S σ) (k : W p l e R s m args below meth c H' locs' (cells + (sz_S σ' - sz_S σ)) (slots + (su_S σ' - su_S σ)) Q g) : W p l e R s m args below meth c H' locs' cells slots Q g :=
  W.cs (by omega) (by omega) k
theorem k_to {H' : Heap} {locs' : List Loc} {g : JFrame} {c1 s1 : Nat} (h1 : c1 = cells + (sz_S σ' - sz_S σ)) (h2 : s1 = slots + (su_S σ' - su_S σ)) (k : W p l e R s m args below meth c H' locs' (cells + (sz_S σ' - sz_S σ)) (slots + (su_S σ' - su_S σ)) Q g) : W p l e R s m args below meth c H' locs' c1 s1 Q g :=
  W.cs h1 h2 k
theorem so_g9 {mi : Nat} {i : Instr} {lk : List Nat} {st st' : List Value} (hx : p.tables.exec = Jvm.exec) (hb : c.code = cc) (hF : qq_Fx X s) (hP : qq_Hp X σ H) (hlo : ∀ z ∈ locs, xb_ X ≤ z.base) (hown : s.vm.findClass (qq_y mi).cls = some m.cls) (hname : meth.name = (qq_y mi).name)
    (hs : qq_hp i lk st σ = some (st', σ')) (hok : qq_ok9 mi i lk = true) (hd : decode cc pc = .ok (i, qq_len i)) (hsz : ls.size = c.maxLocals) (hf : 1 ≤ R.frames) (hl : 60 ≤ R.locals) (hc : cells + (sz_S σ' - sz_S σ) ≤ R.cells) (hsl : slots + (su_S σ' - su_S σ) ≤ R.slots)
    (kk : ∀ (H' : Heap) (locs' : List Loc), qq_Hp X σ' H' → (∀ z ∈ locs', xb_ X ≤ z.base) → W p l e R s m args below meth c H' locs' (cells + (sz_S σ' - sz_S σ)) (slots + (su_S σ' - su_S σ)) Q (F0 m (pc + qq_len i) ls (st'.map (rv_ X)))) :
    W p l e R s m args below meth c H locs cells slots Q (F0 m pc ls (st.map (rv_ X))) := by
  unfold qq_hp at hs
  split at hs
  · -- getfield
    rename_i ix ci k w1 w2 a st
    obtain ⟨⟨h1, h2⟩, h3⟩ := qq_if_some2 hs
    cases h3
    simp only [qq_ok9] at hok
    split at hok
    · rename_i q hq
      exact so_get hx hb hF hP hown hq h1 h2 (fl_word hF hok) hd (k_same rfl rfl (kk H locs hP hlo))
    · cases hok
  · -- putfield
    rename_i ix ci k w1 w2 v a st
    obtain ⟨⟨h1, h2, h3⟩, h4⟩ := qq_if_some2 hs
    obtain ⟨σ9, h5, h6⟩ := Option.map_eq_some_iff.mp h4
    cases h6
    obtain ⟨g1, g2⟩ := qq_put_su h5
    simp only [qq_ok9] at hok
    split at hok
    · rename_i q hq
      simp only [Bool.and_eq_true, decide_eq_true_eq] at hok
      obtain ⟨hc2, hok⟩ := hok
      refine so_put hx hb hF hP hlo hown hq hc2 h1 h2 h3 h5 ?_ hd (fun H' locs' u1 u2 => k_same g1 g2 (kk H' locs' u1 u2))
      split at hok
      · rename_i hfin
        simp only [Bool.and_eq_true, decide_eq_true_eq] at hok
        exact Or.inr ⟨hfin, hok.1.1, hname.trans hok.1.2, is_word hF hok.2 rfl⟩
      · rename_i hfin
        exact Or.inl ⟨by simpa using hfin, fl_word hF hok⟩
    · cases hok
  · -- getstatic
    rename_i ix i0 w1 st
    obtain ⟨q, h1, h2⟩ := Option.map_eq_some_iff.mp hs
    cases h2
    simp only [qq_ok9, h1] at hok
    exact so_gets hx hb hF hP hown h1 (fl_word hF hok) hd (k_same rfl rfl (kk H locs hP hlo))
  · -- ldc of a number
    cases hs
    simp only [qq_ok9] at hok
    exact lv_ldc hx hb hown (is_word hF hok rfl) hd (k_same rfl rfl (kk H locs hP hlo))
  · -- ldc of a text
    cases hs
    simp only [qq_ok9, Bool.and_eq_true, decide_eq_true_eq, List.any_eq_true] at hok
    obtain ⟨h1, q, hq, ⟨h2, h3⟩, h4⟩ := hok
    obtain ⟨i1, hi1⟩ := List.getElem?_of_mem hq
    have k1 := k_same rfl rfl (kk H locs hP hlo)
    rw [List.map_cons, ← h4] at k1
    exact so_ldcS hx hb hF hown hi1 h2 h3 (by rw [h4]; exact h1) hd k1
  · cases hs
    simp only [qq_ok9, Bool.and_eq_true, decide_eq_true_eq, List.any_eq_true] at hok
    obtain ⟨h1, q, hq, ⟨h2, h3⟩, h4⟩ := hok
    obtain ⟨i1, hi1⟩ := List.getElem?_of_mem hq
    have k1 := k_same rfl rfl (kk H locs hP hlo)
    rw [List.map_cons, ← h4] at k1
    exact so_ldcwS hx hb hF hown hi1 h2 h3 (by rw [h4]; exact h1) hd k1
  · cases hs
    simp only [qq_ok9] at hok
    exact lv_ldcw hx hb hown (is_word hF hok rfl) hd (k_same rfl rfl (kk H locs hP hlo))
  · obtain ⟨h1, h3⟩ := qq_if_some2 hs
    cases h3
    exact so_alen hx hb hF hP h1 hd (k_same rfl rfl (kk H locs hP hlo))
  · obtain ⟨h1, h3⟩ := qq_if_some2 hs
    cases h3
    exact so_iald hx hb hF hP h1.1 h1.2 hd (k_same rfl rfl (kk H locs hP hlo))
  · obtain ⟨h1, h3⟩ := qq_if_some2 hs
    cases h3
    exact so_bald hx hb hF hP h1.1 h1.2 hd (k_same rfl rfl (kk H locs hP hlo))
  · obtain ⟨h1, h3⟩ := qq_if_some2 hs
    cases h3
    exact so_lald hx hb hF hP h1.1 h1.2 hd (k_same rfl rfl (kk H locs hP hlo))
  · obtain ⟨h1, h3⟩ := qq_if_some2 hs
    cases h3
    exact so_aald hx hb hF hP h1.1 h1.2 hd (k_same rfl rfl (kk H locs hP hlo))
  · obtain ⟨h1, h3⟩ := qq_if_some2 hs
    cases h3
    exact so_iast hx hb hF hP hlo h1.1 h1.2.1 h1.2.2 hd (fun H' locs' u1 u2 => k_same rfl rfl (kk H' locs' u1 u2))
  · obtain ⟨h1, h3⟩ := qq_if_some2 hs
    cases h3
    exact so_bast hx hb hF hP hlo h1.1 h1.2.1 h1.2.2 hd (fun H' locs' u1 u2 => k_same rfl rfl (kk H' locs' u1 u2))
  · obtain ⟨h1, h3⟩ := qq_if_some2 hs
    cases h3
    exact so_last hx hb hF hP hlo h1.1 h1.2.1 h1.2.2 hd (fun H' locs' u1 u2 => k_same rfl rfl (kk H' locs' u1 u2))
  · obtain ⟨h1, h3⟩ := qq_if_some2 hs
    cases h3
    exact so_aast hx hb hF hP hlo h1.1 h1.2.1 h1.2.2 hd (fun H' locs' u1 u2 => k_same rfl rfl (kk H' locs' u1 u2))
  · -- new
    rename_i ix ci w1 w2 w3
    cases hs
    simp only [qq_ok9] at hok
    split at hok
    · rename_i q hq
      simp only [Bool.and_eq_true, decide_eq_true_eq] at hok
      have e1 : sz_S (nw_S σ 1 (ci, 0) (qq_nf ci)) - sz_S σ = 1 := by show sz_S σ + 1 - sz_S σ = 1; omega
      have e2 : su_S (nw_S σ 1 (ci, 0) (qq_nf ci)) - su_S σ = qq_nf ci := by show su_S σ + qq_nf ci - su_S σ = _; omega
      rw [e1] at hc
      rw [e2] at hsl
      exact so_new hx hb hF hP hown hq hok.1.1 (is_word hF hok.1.2 rfl) (is_word hF hok.2 rfl) hc hsl hd (fun H' u1 => k_to (by rw [e1]) (by rw [e2]) (kk H' locs u1 hlo))
    · cases hok
  · -- newarray
    rename_i at_ t w1 n st
    obtain ⟨h1, h3⟩ := qq_if_some2 hs
    cases h3
    simp only [qq_ok9, Bool.and_eq_true, decide_eq_true_eq] at hok
    have e1 : sz_S (nw_S σ 1 (t, n.toNatClampNeg) n.toNatClampNeg) - sz_S σ = 1 := by show sz_S σ + 1 - sz_S σ = 1; omega
    have e2 : su_S (nw_S σ 1 (t, n.toNatClampNeg) n.toNatClampNeg) - su_S σ = n.toNatClampNeg := by show su_S σ + n.toNatClampNeg - su_S σ = _; omega
    rw [e1] at hc
    rw [e2] at hsl
    exact so_newa hx hb hF hP hok.1.1 hok.1.2 (is_word hF hok.2 rfl) h1.1 h1.2 hc hsl hd (fun H' u1 => k_to (by rw [e1]) (by rw [e2]) (kk H' locs u1 hlo))
  · -- anewarray
    rename_i ix t w1 w2 n st
    obtain ⟨h1, h3⟩ := qq_if_some2 hs
    cases h3
    simp only [qq_ok9, Bool.and_eq_true] at hok
    obtain ⟨g1, hok⟩ := hok
    split at hok
    · rename_i C hC
      simp only [Bool.and_eq_true] at hok
      have e1 : sz_S (nw_S σ 1 (t, n.toNatClampNeg) n.toNatClampNeg) - sz_S σ = 1 := by show sz_S σ + 1 - sz_S σ = 1; omega
      have e2 : su_S (nw_S σ 1 (t, n.toNatClampNeg) n.toNatClampNeg) - su_S σ = n.toNatClampNeg := by show su_S σ + n.toNatClampNeg - su_S σ = _; omega
      rw [e1] at hc
      rw [e2] at hsl
      exact so_anew hx hb hF hP hown g1 hC (is_word hF hok.1 rfl) (va_AO.use (is_nw hF hok.2 rfl)) h1.1 h1.2 hc hsl hd (fun H' u1 => k_to (by rw [e1]) (by rw [e2]) (kk H' locs u1 hlo))
    · cases hok
  · -- multianewarray
    rename_i ix w1 w2 w3 k n st
    obtain ⟨h1, h3⟩ := qq_if_some2 hs
    cases h3
    simp only [qq_ok9, Bool.and_eq_true] at hok
    obtain ⟨e1, he1⟩ : ∃ z, z = sz_S (gr_S (nw_S (nw_S σ 1 (110, n.toNatClampNeg) n.toNatClampNeg) n.toNatClampNeg (100, k.toNatClampNeg) (n.toNatClampNeg * k.toNatClampNeg)) (sz_S σ) n.toNatClampNeg) - sz_S σ := ⟨_, rfl⟩
    have e1 : sz_S (gr_S (nw_S (nw_S σ 1 (110, n.toNatClampNeg) n.toNatClampNeg) n.toNatClampNeg (100, k.toNatClampNeg) (n.toNatClampNeg * k.toNatClampNeg)) (sz_S σ) n.toNatClampNeg) - sz_S σ = 1 + n.toNatClampNeg := by show sz_S σ + 1 + n.toNatClampNeg - sz_S σ = _; omega
    have e2 : su_S (gr_S (nw_S (nw_S σ 1 (110, n.toNatClampNeg) n.toNatClampNeg) n.toNatClampNeg (100, k.toNatClampNeg) (n.toNatClampNeg * k.toNatClampNeg)) (sz_S σ) n.toNatClampNeg) - su_S σ = n.toNatClampNeg + n.toNatClampNeg * k.toNatClampNeg := by show su_S σ + n.toNatClampNeg + n.toNatClampNeg * k.toNatClampNeg - su_S σ = _; omega
    rw [e1] at hc
    rw [e2] at hsl
    exact so_mna hx hb hF hP hown (is_word hF hok.1.1 rfl) (show (Cond.arrayOver (.array .int)).before args s = true from is_nw hF hok.1.2 rfl) (is_word hF hok.2 rfl) h1.1.1 h1.1.2 h1.2.1 h1.2.2 hc hsl hd (fun H' u1 => k_to (c1 := cells + 1 + n.toNatClampNeg) (s1 := slots + n.toNatClampNeg + n.toNatClampNeg * k.toNatClampNeg) (by rw [e1]; omega) (by rw [e2]; omega) (kk H' locs u1 hlo))
  · -- arraycopy
    obtain ⟨⟨⟨h1, h2⟩, h3, h4, ⟨h5, h6, h7⟩, h8, h9, h10⟩, h11⟩ := qq_if_some2 hs
    cases h11
    simp only [qq_ok9, Bool.and_eq_true] at hok
    refine so_copy hx hb hF hP hlo hown rfl h1.symm (h2.imp id (fun z => z.1)) h4 h5 h6 h7 h8 h9 (fun z => by
      rcases h2 with h2 | h2
      · omega
      · exact h2.2) (is_word hF hok.1.1.1 rfl) (is_word hF hok.1.1.2 rfl) (is_word hF hok.1.2 rfl) (is_word hF hok.2 rfl) hsz (by rw [rv_cats]; exact h10) hf hl hd (fun H' locs' u1 u2 => k_same rfl rfl (kk H' locs' u1 u2))
  · -- Math.max
    obtain ⟨h1, h3⟩ := qq_if_some2 hs
    cases h3
    simp only [qq_ok9, Bool.and_eq_true] at hok
    exact va_mmax hx hb hsz.symm hown (is_word hF hok.1.1.1 rfl) (is_word hF hok.1.1.2 rfl) (is_word hF hok.1.2 rfl) (is_word hF hok.2 rfl) hf (by rw [rv_cats]; omega) (by omega) (by omega) hd (k_same rfl rfl (kk H locs hP hlo))
  · -- Math.min
    obtain ⟨h1, h3⟩ := qq_if_some2 hs
    cases h3
    simp only [qq_ok9, Bool.and_eq_true] at hok
    exact va_mmin hx hb hsz.symm hown (is_word hF hok.1.1.1 rfl) (is_word hF hok.1.1.2 rfl) (is_word hF hok.1.2 rfl) (is_word hF hok.2 rfl) hf (by rw [rv_cats]; omega) (by omega) (by omega) hd (k_same rfl rfl (kk H locs hP hlo))
  · -- Object's constructor
    obtain ⟨h1, h3⟩ := qq_if_some2 hs
    cases h3
    simp only [qq_ok9, Bool.and_eq_true] at hok
    exact so_obj hx hb hF hP hown h1.1 (is_word hF hok.1.1 rfl) (is_word hF hok.1.2 rfl) (is_word hF hok.2 rfl) hsz (by rw [rv_cats]; exact h1.2) hf (by omega) hd (k_same rfl rfl (kk H locs hP hlo))
  · -- a byte array's clone
    rename_i ix w1 w2 w3 w4 w5 w6 a st
    obtain ⟨h1, h3⟩ := qq_if_some2 hs
    cases h3
    simp only [qq_ok9, Bool.and_eq_true] at hok
    obtain ⟨⟨⟨⟨⟨g1, g2⟩, g3⟩, g4⟩, g5⟩, g6⟩ := hok
    have e1 : sz_S (cl_S σ a) - sz_S σ = 1 := by show sz_S σ + 1 - sz_S σ = 1; omega
    have e2 : su_S (cl_S σ a) - su_S σ = (kd_S σ a).2 := by show su_S σ + (kd_S σ a).2 - su_S σ = _; omega
    rw [e1] at hc
    rw [e2] at hsl
    exact so_clone hx hb hF hP hown h1.1.1 h1.1.2.1 h1.1.2.2 (is_word hF g1 rfl) (is_word hF g2 rfl) (is_word hF g3 rfl) (is_word hF g4 rfl) (is_word hF g5 rfl) (is_nw hF g6 rfl) hsz (by rw [rv_cats]; exact h1.2) hf hl hc hsl hd (fun H' u1 => k_to (by rw [e1]) (by rw [e2]) (kk H' locs u1 hlo))
  · -- a cast to a byte array
    rename_i ix w1 a st
    obtain ⟨h1, h3⟩ := qq_if_some2 hs
    cases h3
    simp only [qq_ok9] at hok
    exact so_castB hx hb hF hP hown h1.1 h1.2 (is_word hF hok rfl) hd (k_same rfl rfl (kk H locs hP hlo))
  · cases hs
end QG9
end
section
section VXIA
variable {p : Program} {l : Launch} {e : Env} {R : Room} {s : State} {m : MethodId} {args : Array Value} {below : List Frame} {meth : Method} {c : Code} {T : State} {locs : List Loc} {cells slots : Nat}
theorem vx_callI (X : Stand p l e R s m args below meth c T locs cells slots) (hexec : p.tables.exec = Jvm.exec) {own : String} {index : Nat} {y : MethodName} {bytes : ByteArray} {maxL : Nat}
    (hown : s.vm.findClass own = some m.cls) (hy1 : y.name = "<init>") (hlink : (Cond.methodLink own index y).before args s = true) (hinst : (Cond.instanceMethod y).before args s = true)
    (hcode : (Cond.code y bytes maxL none).before args s = true) (hy : y.cls ≠ "java/lang/invoke/MethodHandle" ∧ y.cls ≠ "java/lang/invoke/VarHandle")
    {W9 : Nat} {Pre : Pt → Array Value → Prop} {Post : Pt → Array Value → Option Value → Pt → Prop} {PostX : Pt → Array Value → Addr → Pt → Prop} (hK : vx_Back l R p e below s args y 3 W9 Pre Post PostX)
    {g : JFrame} (hg : g.method = m) (hsize : g.locals.size = c.maxLocals) {a : Addr} {argsL rest : List Value} (hlen : ∀ sig, parseMethodDescriptor y.desc = some sig → argsL.length = sig.parameters.length)
    (hstack : g.stack = argsL.reverse ++ .ref a :: rest) (hW : 2 * g.monitorRoom + (rest.map fun v => v.category).sum ≤ W9) (hdg : decode c.code g.pc = .ok (.invokespecial index, 3))
    (hpre : ∀ vm₁, s.WarmedH vm₁ → Pre ⟨T.setVm vm₁, locs, cells, slots⟩ (Value.ref a :: argsL).toArray) :
    (∃ (v : Option Value) (vm₁ : Vm) (B : Pt), s.WarmedH vm₁ ∧ Stand p l e R s m args below meth c B.U B.locs B.cells B.slots ∧ Post ⟨T.setVm vm₁, locs, cells, slots⟩ (Value.ref a :: argsL).toArray v B ∧
      ∀ target, Steps p.tables e below (B.U.setTop { g with pc := g.pc + 3, stack := v.toList ++ rest }) target → Steps p.tables e below (T.setTop g) target) ∨
    (∃ (q : Addr) (vm₁ : Vm) (B : Pt), s.WarmedH vm₁ ∧ Stand p l e R s m args below meth c B.U B.locs B.cells B.slots ∧ PostX ⟨T.setVm vm₁, locs, cells, slots⟩ (Value.ref a :: argsL).toArray q B ∧
      Steps p.tables e below (T.setTop g) ((B.U.setTop { g with stack := rest }).pushFrame (.throwing q))) := by
  subst hg
  have hpl : e.platform.magicAccessors = ({} : Platform).magicAccessors := by rw [X.admits.platform]
  obtain ⟨mk, methM, cM, kP, vm₁, hnamed, hmethM, hcodeM, -, hlocalsM, -, hkP, -, hW₁, hstep₁⟩ := Steps.initColdArgs (e := e) X.here hexec X.warmed hpl hown hy1 hy hlink hinst hcode (f := g) rfl hlen hstack hdg
  have X₁ := X.noted hW₁
  rcases hK g.method meth c ⟨T.setVm vm₁, locs, cells, slots⟩ { g with stack := rest } (.invokespecial index) mk (Value.ref a :: argsL).toArray X₁ rfl hsize hdg hW (X₁.named hnamed) (hpre vm₁ X₁.warmed) with ⟨v, B, X', hpost, hsteps⟩ | ⟨q, B, X', hpost, hsteps⟩
  · exact Or.inl ⟨v, vm₁, B, X₁.warmed, X', hpost, fun target h => hstep₁ _ fun acts => by rw [doInvoke_state]; exact hsteps.trans h⟩
  · exact Or.inr ⟨q, vm₁, B, X₁.warmed, X', hpost, hstep₁ _ fun acts => by rw [doInvoke_state]; exact hsteps⟩
end VXIA
section VXIB
variable {p : Program} {l : Launch} {e : Env} {R : Room} {s : State} {m : MethodId} {args : Array Value} {below : List Frame} {meth : Method} {c : Code} {H : Heap} {locs : List Loc} {cells slots : Nat}
variable {y : MethodName} {bytes cc : ByteArray} {maxL nL mc ms n index : Nat} {ret : Option FieldType} {ws : List Cond} {rm : Room} {Pc : Array Value → State → Prop} {Qc : Array Value → State → Outcome → State → Prop} {XC : String → State → State → Prop} {free : Addr → Prop} {Ts : List Cond} {own C : String} {b : Addr} {As rest : List Value} {g : JFrame}
theorem vx_runI (S : CallFix p m c cc nL s args Ts own) (hM : vx_Met l y ws rm Pc Qc XC mc ms free) (cw : CallB R s args own index y bytes maxL none ws rm mc ms n ∧ y.name = "<init>" ∧ (Cond.instanceMethod y).before args s = true) (hp : PreS s H Pc (.ref b :: As))
    (hg : g.method = m) (hn : As.length = n) (hsize : g.locals.size = nL) (hstack : g.stack = As.reverse ++ .ref b :: rest) (hW : 2 * g.monitorRoom + (rest.map fun v => v.category).sum ≤ 8) (hdg : decode cc g.pc = .ok (.invokespecial index, 3)) (hf : cells + mc ≤ R.cells ∧ slots + ms ≤ R.slots) :
    vx_Run p l e R s m args below meth c H locs cells slots mc ms g rest (Qc (Value.ref b :: As).toArray) XC free := by
  have hK : vx_Back l R p e below s args y 3 8 (PreOf R mc ms Pc) (PostOf Qc mc ms free) (vx_Post XC mc ms free) := vx_callBack cw.1 hM hp.1
  obtain ⟨⟨-, -, -, -, -, -, hcode, -, hy, hlen, hl⟩, hy1, hin⟩ := cw
  obtain ⟨hx, hb, hml, ho, -⟩ := S
  have hPc := hp.2
  intro T hT X
  rcases vx_callI X hx (bytes := bytes) (maxL := maxL) ho hy1 hl hin hcode hy hK hg (hsize.trans hml.symm) (a := b) (argsL := As) (rest := rest) (fun sig h => hn.trans (hlen sig h)) hstack hW (by rw [hb]; exact hdg)
    (fun vm₁ hW₁ => ⟨hf.1, hf.2, hPc (T.setVm vm₁) hT hW₁⟩) with ⟨v, vm₁, ⟨U', l2, c2, s2⟩, hW₁, X', ⟨g', mk, t, L, e1, e2, hq, h1, hL, h2, h3⟩, st⟩ | ⟨q, vm₁, ⟨U', l2, c2, s2⟩, hW₁, X', ⟨g', mk, t, L, E, ce, e1, e2, hq, hce, hcv, hcl, h1, hL, h2, h3⟩, st⟩
  · dsimp only [Pt.U, Pt.locs, Pt.cells, Pt.slots] at X' e1 e2 h1 h2 h3 st
    subst h1; subst h2; subst h3
    exact Or.inl ⟨v, (T.setVm vm₁).calling g' mk (Value.ref b :: As).toArray, t, U', L, hT, X', hL, e1, e2, hq, st⟩
  · dsimp only [Pt.U, Pt.locs, Pt.cells, Pt.slots] at X' e1 e2 h1 h2 h3 st hcl
    subst h1; subst h2; subst h3
    exact Or.inr ⟨q, (T.setVm vm₁).calling g' mk (Value.ref b :: As).toArray, t, U', L, E, ce, hT, X', hL, e1, e2, hq, hce, hcv, vx_cls hW₁ hcl, st⟩
end VXIB
section VXIC
variable {p : Program} {l : Launch} {e : Env} {R : Room} {s : State} {m : MethodId} {args : Array Value} {below : List Frame} {meth : Method} {c : Code} {T : State} {locs : List Loc} {cells slots : Nat}
theorem vx_callIN (X : Stand p l e R s m args below meth c T locs cells slots) (hexec : p.tables.exec = Jvm.exec) {own : String} {index : Nat} {host : String} {y : MethodName} {bytes : ByteArray} {maxL : Nat}
    (hown : s.vm.findClass own = some m.cls) (hy1 : y.name = "<init>") (hlink : (Cond.methodLinkNest own index y host).before args s = true) (hinst : (Cond.instanceMethod y).before args s = true)
    (hcode : (Cond.code y bytes maxL none).before args s = true) (hy : y.cls ≠ "java/lang/invoke/MethodHandle" ∧ y.cls ≠ "java/lang/invoke/VarHandle")
    {W9 : Nat} {Pre : Pt → Array Value → Prop} {Post : Pt → Array Value → Option Value → Pt → Prop} {PostX : Pt → Array Value → Addr → Pt → Prop} (hK : vx_Back l R p e below s args y 3 W9 Pre Post PostX)
    {g : JFrame} (hg : g.method = m) (hsize : g.locals.size = c.maxLocals) {a : Addr} {argsL rest : List Value} (hlen : ∀ sig, parseMethodDescriptor y.desc = some sig → argsL.length = sig.parameters.length)
    (hstack : g.stack = argsL.reverse ++ .ref a :: rest) (hW : 2 * g.monitorRoom + (rest.map fun v => v.category).sum ≤ W9) (hdg : decode c.code g.pc = .ok (.invokespecial index, 3))
    (hpre : ∀ vm₁, s.WarmedH vm₁ → Pre ⟨T.setVm vm₁, locs, cells, slots⟩ (Value.ref a :: argsL).toArray) :
    (∃ (v : Option Value) (vm₁ : Vm) (B : Pt), s.WarmedH vm₁ ∧ Stand p l e R s m args below meth c B.U B.locs B.cells B.slots ∧ Post ⟨T.setVm vm₁, locs, cells, slots⟩ (Value.ref a :: argsL).toArray v B ∧
      ∀ target, Steps p.tables e below (B.U.setTop { g with pc := g.pc + 3, stack := v.toList ++ rest }) target → Steps p.tables e below (T.setTop g) target) ∨
    (∃ (q : Addr) (vm₁ : Vm) (B : Pt), s.WarmedH vm₁ ∧ Stand p l e R s m args below meth c B.U B.locs B.cells B.slots ∧ PostX ⟨T.setVm vm₁, locs, cells, slots⟩ (Value.ref a :: argsL).toArray q B ∧
      Steps p.tables e below (T.setTop g) ((B.U.setTop { g with stack := rest }).pushFrame (.throwing q))) := by
  subst hg
  have hpl : e.platform.magicAccessors = ({} : Platform).magicAccessors := by rw [X.admits.platform]
  obtain ⟨mk, methM, cM, kP, vm₁, hnamed, hmethM, hcodeM, -, hlocalsM, -, hkP, -, hW₁, hstep₁⟩ := Steps.initColdArgsNest (e := e) X.here hexec X.warmed hpl hown hy1 hy hlink hinst hcode (f := g) rfl hlen hstack hdg
  have X₁ := X.noted hW₁
  rcases hK g.method meth c ⟨T.setVm vm₁, locs, cells, slots⟩ { g with stack := rest } (.invokespecial index) mk (Value.ref a :: argsL).toArray X₁ rfl hsize hdg hW (X₁.named hnamed) (hpre vm₁ X₁.warmed) with ⟨v, B, X', hpost, hsteps⟩ | ⟨q, B, X', hpost, hsteps⟩
  · exact Or.inl ⟨v, vm₁, B, X₁.warmed, X', hpost, fun target h => hstep₁ _ fun acts => by rw [doInvoke_state]; exact hsteps.trans h⟩
  · exact Or.inr ⟨q, vm₁, B, X₁.warmed, X', hpost, hstep₁ _ fun acts => by rw [doInvoke_state]; exact hsteps⟩
end VXIC
section VXID
variable {p : Program} {l : Launch} {e : Env} {R : Room} {s : State} {m : MethodId} {args : Array Value} {below : List Frame} {meth : Method} {c : Code} {H : Heap} {locs : List Loc} {cells slots : Nat}
theorem vx_runIN {y : MethodName} {bytes cc : ByteArray} {maxL nL mc ms n index : Nat} {ws : List Cond} {rm : Room} {Pc : Array Value → State → Prop} {Qc : Array Value → State → Outcome → State → Prop} {XC : String → State → State → Prop} {free : Addr → Prop} {Ts : List Cond} {own host : String} {b : Addr} {As rest : List Value} {g : JFrame}
    (S : CallFix p m c cc nL s args Ts own) (hM : vx_Met l y ws rm Pc Qc XC mc ms free) (cw : va_CN R s args own index y host bytes maxL none ws rm mc ms n ∧ y.name = "<init>" ∧ (Cond.instanceMethod y).before args s = true) (hp : PreS s H Pc (.ref b :: As))
    (hg : g.method = m) (hn : As.length = n) (hsize : g.locals.size = nL) (hstack : g.stack = As.reverse ++ .ref b :: rest) (hW : 2 * g.monitorRoom + (rest.map fun v => v.category).sum ≤ 8) (hdg : decode cc g.pc = .ok (.invokespecial index, 3)) (hf : cells + mc ≤ R.cells ∧ slots + ms ≤ R.slots) :
    vx_Run p l e R s m args below meth c H locs cells slots mc ms g rest (Qc (Value.ref b :: As).toArray) XC free := by
  obtain ⟨⟨⟨hrc, hrs, hfr, hlo, hws, hcw⟩, hcode, hini, hy, hlen, hl⟩, hx1, hx2⟩ := cw
  have hK : vx_Back l R p e below s args y 3 8 (PreOf R mc ms Pc) (PostOf Qc mc ms free) (vx_Post XC mc ms free) := vx_back (bytes := bytes) (maxL := maxL) (ret := none) hM hp.1 hrc hrs hfr hlo hws hcw (fun a' U hW => word_at hW (Or.inl (by first | rfl | simp [Cond.onTables, Cond.keeps, Cond.steady])) hini)
  obtain ⟨hx, hb, hml, ho, -⟩ := S
  have hPc := hp.2
  intro T hT X
  rcases vx_callIN X hx (bytes := bytes) (maxL := maxL) ho hx1 hl hx2 hcode hy hK hg (hsize.trans hml.symm) (a := b) (argsL := As) (rest := rest) (fun sig h => hn.trans (hlen sig h)) hstack hW (by rw [hb]; exact hdg)
    (fun vm₁ hW₁ => ⟨hf.1, hf.2, hPc (T.setVm vm₁) hT hW₁⟩) with ⟨v, vm₁, ⟨U', l2, c2, s2⟩, hW₁, X', ⟨g', mk, t, L, e1, e2, hq, h1, hL, h2, h3⟩, st⟩ | ⟨q, vm₁, ⟨U', l2, c2, s2⟩, hW₁, X', ⟨g', mk, t, L, E, ce, e1, e2, hq, hce, hcv, hcl, h1, hL, h2, h3⟩, st⟩
  · dsimp only [Pt.U, Pt.locs, Pt.cells, Pt.slots] at X' e1 e2 h1 h2 h3 st
    subst h1; subst h2; subst h3
    exact Or.inl ⟨v, (T.setVm vm₁).calling g' mk (Value.ref b :: As).toArray, t, U', L, hT, X', hL, e1, e2, hq, st⟩
  · dsimp only [Pt.U, Pt.locs, Pt.cells, Pt.slots] at X' e1 e2 h1 h2 h3 st hcl
    subst h1; subst h2; subst h3
    exact Or.inr ⟨q, (T.setVm vm₁).calling g' mk (Value.ref b :: As).toArray, t, U', L, E, ce, hT, X', hL, e1, e2, hq, hce, hcv, vx_cls hW₁ hcl, st⟩
end VXID
section
variable {p : Program} {l : Launch} {e : Env} {R : Room} {s : State} {m : MethodId} {args : Array Value} {below : List Frame} {meth : Method} {c : Code} {H : Heap} {locs : List Loc} {cells slots : Nat}
theorem vx_callVU {T : State} {locs : List Loc} {cells slots : Nat} (X : Stand p l e R s m args below meth c T locs cells slots) (hexec : p.tables.exec = Jvm.exec) {own C owner : String} {index : Nat} {x y : MethodName} {bytes : ByteArray} {maxL : Nat} {ret : Option FieldType}
    (hown : s.vm.findClass own = some m.cls) (hlink : (Cond.methodLink own index x).before args s = true) (hsame : (Cond.sameMethod x.cls owner x.name x.desc).before args s = true)
    (hd0 : va_Decl s ⟨owner, x.name, x.desc⟩) (howner : owner ≠ "java/lang/invoke/MethodHandle" ∧ owner ≠ "java/lang/invoke/VarHandle")
    (hsel : (Cond.selects C x y).before args s = true) (hinst : (Cond.instanceMethod y).before args s = true) (hcode : (Cond.code y bytes maxL ret).before args s = true)
    {W : Nat} {Pre : Pt → Array Value → Prop} {Post : Pt → Array Value → Option Value → Pt → Prop} {PostX : Pt → Array Value → Addr → Pt → Prop} (hK : vx_Back l R p e below s args y 3 W Pre Post PostX)
    {b : Addr} {cellB : Cell} (hcell : T.heap[b]? = some cellB) (hobj : cellB.vm.isStatics = false) (hcls : s.vm.findClass C = some cellB.cls)
    {g : JFrame} (hg : g.method = m) (hsize : g.locals.size = c.maxLocals) {argsL rest : List Value} (hlen : ∀ sig, parseMethodDescriptor x.desc = some sig → argsL.length = sig.parameters.length)
    (hstack : g.stack = argsL.reverse ++ .ref b :: rest) (hW : 2 * g.monitorRoom + (rest.map fun v => v.category).sum ≤ W) (hdg : decode c.code g.pc = .ok (.invokevirtual index, 3))
    (hpre : ∀ vm₁, s.WarmedH vm₁ → Pre ⟨T.setVm vm₁, locs, cells, slots⟩ (Value.ref b :: argsL).toArray) :
    (∃ (v : Option Value) (vm₁ : Vm) (B : Pt), s.WarmedH vm₁ ∧ Stand p l e R s m args below meth c B.U B.locs B.cells B.slots ∧ Post ⟨T.setVm vm₁, locs, cells, slots⟩ (Value.ref b :: argsL).toArray v B ∧
      ∀ target, Steps p.tables e below (B.U.setTop { g with pc := g.pc + 3, stack := v.toList ++ rest }) target → Steps p.tables e below (T.setTop g) target) ∨
    (∃ (q : Addr) (vm₁ : Vm) (B : Pt), s.WarmedH vm₁ ∧ Stand p l e R s m args below meth c B.U B.locs B.cells B.slots ∧ PostX ⟨T.setVm vm₁, locs, cells, slots⟩ (Value.ref b :: argsL).toArray q B ∧
      Steps p.tables e below (T.setTop g) ((B.U.setTop { g with stack := rest }).pushFrame (.throwing q))) := by
  obtain ⟨r0, r, hn, hrm, hstR, hsigR⟩ := hd0
  obtain ⟨cn, ck, r1, hcn, hck, hni, hf, hn1⟩ := Cond.sameMethod_found hsame
  cases hn.symm.trans hn1
  obtain ⟨mk, methM, hnamed, hmethM, -, habM⟩ := Cond.instanceMethod_spec hinst
  obtain ⟨c2, r2, m2, q1, q2, q3, q4, kP, hkP, hkPi⟩ := Cond.selects_spec hsel
  cases hcls.symm.trans q1
  cases hf.symm.trans q2
  cases hnamed.symm.trans q3
  have hselP : selectMethod e.platform s.vm cellB.cls r0 = .method mk := by rw [Launch.admits_selectMethod X.admits]; exact q4
  obtain ⟨vm₁, X₁, hstep₁⟩ := X.invokevirtualUp hexec hown hlink hsame howner hn hrm hstR (a := b) (cell := cellB) hcell
    (fun z h => by rw [h] at hobj; cases hobj) hselP hmethM habM hkP hkPi (g := g) hg (argsL := argsL) (rest := rest) (hlen _ hsigR) hstack hdg
  rcases hK m meth c ⟨T.setVm vm₁, locs, cells, slots⟩ { g with stack := rest } (.invokevirtual index) mk (Value.ref b :: argsL).toArray X₁ hg hsize hdg hW (X₁.named hnamed) (hpre vm₁ X₁.warmed) with ⟨v, B, X', hpost, hsteps⟩ | ⟨q, B, X', hpost, hsteps⟩
  · exact Or.inl ⟨v, vm₁, B, X₁.warmed, X', hpost, fun target h => hstep₁ _ fun acts => by rw [doInvoke_state]; exact hsteps.trans h⟩
  · exact Or.inr ⟨q, vm₁, B, X₁.warmed, X', hpost, hstep₁ _ fun acts => by rw [doInvoke_state]; exact hsteps⟩
theorem vx_runU {x y : MethodName} {bytes cc : ByteArray} {maxL nL mc ms n index : Nat} {ret : Option FieldType} {ws : List Cond} {rm : Room} {Pc : Array Value → State → Prop} {Qc : Array Value → State → Outcome → State → Prop} {XC : String → State → State → Prop} {free : Addr → Prop} {Ts : List Cond} {own C owner : String} {b : Addr} {As rest : List Value} {g : JFrame}
    (S : CallFix p m c cc nL s args Ts own) (hM : vx_Met l y ws rm Pc Qc XC mc ms free) (cw : va_CU R s args own C owner index x y bytes maxL ret ws rm mc ms n) (hp : PreV s H C b Pc As)
    (hg : g.method = m) (hn : As.length = n) (hsize : g.locals.size = nL) (hstack : g.stack = As.reverse ++ .ref b :: rest) (hW : 2 * g.monitorRoom + (rest.map fun v => v.category).sum ≤ 8) (hdg : decode cc g.pc = .ok (.invokevirtual index, 3)) (hf : cells + mc ≤ R.cells ∧ slots + ms ≤ R.slots) :
    vx_Run p l e R s m args below meth c H locs cells slots mc ms g rest (Qc (Value.ref b :: As).toArray) XC free := by
  obtain ⟨hrc, hrs, hfr, hlo, hws, hcw⟩ := cw.back
  have hini := cw.init
  have hK : vx_Back l R p e below s args y 3 8 (PreOf R mc ms Pc) (PostOf Qc mc ms free) (vx_Post XC mc ms free) := vx_back (bytes := bytes) (maxL := maxL) (ret := ret) hM hp.1 hrc hrs hfr hlo hws hcw (fun a' U hW => word_at hW (Or.inl (by first | rfl | simp [Cond.onTables, Cond.keeps, Cond.steady])) hini)
  obtain ⟨hx, hb, hml, ho, -⟩ := S
  obtain ⟨-, ⟨cellB, hcB, hoB, hclB⟩, hPc⟩ := hp
  intro T hT X
  rcases vx_callVU X hx (C := C) (owner := owner) (bytes := bytes) (maxL := maxL) (ret := ret) ho cw.link cw.same cw.decl cw.notMH cw.sel cw.inst cw.code hK (by rw [hT]; exact hcB) hoB hclB hg (hsize.trans hml.symm) (argsL := As) (rest := rest) (fun sig h => hn.trans (cw.len sig h)) hstack hW (by rw [hb]; exact hdg)
    (fun vm₁ hW₁ => ⟨hf.1, hf.2, hPc (T.setVm vm₁) hT hW₁⟩) with ⟨v, vm₁, ⟨U', l2, c2, s2⟩, hW₁, X', ⟨g', mk, t, L, e1, e2, hq, h1, hL, h2, h3⟩, st⟩ | ⟨q, vm₁, ⟨U', l2, c2, s2⟩, hW₁, X', ⟨g', mk, t, L, E, ce, e1, e2, hq, hce, hcv, hcl, h1, hL, h2, h3⟩, st⟩
  · dsimp only [Pt.U, Pt.locs, Pt.cells, Pt.slots] at X' e1 e2 h1 h2 h3 st
    subst h1; subst h2; subst h3
    exact Or.inl ⟨v, (T.setVm vm₁).calling g' mk (Value.ref b :: As).toArray, t, U', L, hT, X', hL, e1, e2, hq, st⟩
  · dsimp only [Pt.U, Pt.locs, Pt.cells, Pt.slots] at X' e1 e2 h1 h2 h3 st hcl
    subst h1; subst h2; subst h3
    exact Or.inr ⟨q, (T.setVm vm₁).calling g' mk (Value.ref b :: As).toArray, t, U', L, E, ce, hT, X', hL, e1, e2, hq, hce, hcv, vx_cls hW₁ hcl, st⟩
end
section
variable {p : Program} {l : Launch} {e : Env} {R : Room} {s : State} {m : MethodId} {args : Array Value} {below : List Frame} {meth : Method} {c : Code} {H : Heap} {locs : List Loc} {cells slots : Nat}
theorem vx_callSU {T : State} {locs : List Loc} {cells slots : Nat} (X : Stand p l e R s m args below meth c T locs cells slots) (hexec : p.tables.exec = Jvm.exec) {own : String} {index : Nat} {y : MethodName} {bytes : ByteArray} {maxL : Nat} {ret : Option FieldType}
    (hown : s.vm.findClass own = some m.cls) (hlink : (Cond.methodLink own index y).before args s = true) (hsame : (Cond.sameMethod y.cls y.cls y.name y.desc).before args s = true) (hsup : (Cond.superclass own y.cls).before args s = true)
    (hinst : (Cond.instanceMethod y).before args s = true) (hcode : (Cond.code y bytes maxL ret).before args s = true) (hno : y.name ≠ "<init>")
    {W : Nat} {Pre : Pt → Array Value → Prop} {Post : Pt → Array Value → Option Value → Pt → Prop} {PostX : Pt → Array Value → Addr → Pt → Prop} (hK : vx_Back l R p e below s args y 3 W Pre Post PostX)
    {b : Addr} {cellB : Cell} {kB : Class} (hcell : T.heap[b]? = some cellB) (hobj : cellB.vm.isStatics = false) (hkB : s.vm.classes[cellB.cls]? = some kB)
    {g : JFrame} (hg : g.method = m) (hsize : g.locals.size = c.maxLocals) {argsL rest : List Value} (hlen : ∀ sig, parseMethodDescriptor y.desc = some sig → argsL.length = sig.parameters.length)
    (hstack : g.stack = argsL.reverse ++ .ref b :: rest) (hW : 2 * g.monitorRoom + (rest.map fun v => v.category).sum ≤ W) (hdg : decode c.code g.pc = .ok (.invokespecial index, 3))
    (hpre : ∀ vm₁, s.WarmedH vm₁ → Pre ⟨T.setVm vm₁, locs, cells, slots⟩ (Value.ref b :: argsL).toArray) :
    (∃ (v : Option Value) (vm₁ : Vm) (B : Pt), s.WarmedH vm₁ ∧ Stand p l e R s m args below meth c B.U B.locs B.cells B.slots ∧ Post ⟨T.setVm vm₁, locs, cells, slots⟩ (Value.ref b :: argsL).toArray v B ∧
      ∀ target, Steps p.tables e below (B.U.setTop { g with pc := g.pc + 3, stack := v.toList ++ rest }) target → Steps p.tables e below (T.setTop g) target) ∨
    (∃ (q : Addr) (vm₁ : Vm) (B : Pt), s.WarmedH vm₁ ∧ Stand p l e R s m args below meth c B.U B.locs B.cells B.slots ∧ PostX ⟨T.setVm vm₁, locs, cells, slots⟩ (Value.ref b :: argsL).toArray q B ∧
      Steps p.tables e below (T.setTop g) ((B.U.setTop { g with stack := rest }).pushFrame (.throwing q))) := by
  obtain ⟨mk, methM, hnamed, hmethM, hstM, habM⟩ := Cond.instanceMethod_spec hinst
  obtain ⟨methM', cM, hmethM', -, -, -, -, -, -, hsigM⟩ := Cond.code_spec hnamed hcode
  cases hmethM.symm.trans hmethM'
  obtain ⟨ps, dk, kp, hps, hdk, hkp, hsuper, -, -, hnid⟩ := Cond.superclass_spec hown hsup
  have hn : s.methodNamed? ⟨y.cls, y.name, y.desc⟩ = some mk := hnamed
  have hpm : ps = mk.cls := Option.some.inj (hps.symm.trans (findClass_of_methodNamed hnamed))
  have hsub : s.vm.isSubclass ps mk.cls = true := by rw [hpm]; simp [Vm.isSubclass, Vm.isSubclassAux]
  obtain ⟨vm₁, X₁, hstep₁⟩ := X.invokespecialUp hexec hown hlink hsame hn hmethM hstM habM hno hdk hnid hps hsuper hsub (a := b) (cell := cellB) hcell
    (fun z h => by rw [h] at hobj; cases hobj) hkB (g := g) hg (argsL := argsL) (rest := rest) (hlen _ hsigM) hstack hdg
  rcases hK m meth c ⟨T.setVm vm₁, locs, cells, slots⟩ { g with stack := rest } (.invokespecial index) mk (Value.ref b :: argsL).toArray X₁ hg hsize hdg hW (X₁.named hnamed) (hpre vm₁ X₁.warmed) with ⟨v, B, X', hpost, hsteps⟩ | ⟨q, B, X', hpost, hsteps⟩
  · exact Or.inl ⟨v, vm₁, B, X₁.warmed, X', hpost, fun target h => hstep₁ _ (by rw [doInvoke_state]; exact hsteps.trans h)⟩
  · exact Or.inr ⟨q, vm₁, B, X₁.warmed, X', hpost, hstep₁ _ (by rw [doInvoke_state]; exact hsteps)⟩
theorem vx_runSU {y : MethodName} {bytes cc : ByteArray} {maxL nL mc ms n index : Nat} {ret : Option FieldType} {ws : List Cond} {rm : Room} {Pc : Array Value → State → Prop} {Qc : Array Value → State → Outcome → State → Prop} {XC : String → State → State → Prop} {free : Addr → Prop} {Ts : List Cond} {own C : String} {cC : ClassId} {b : Addr} {As rest : List Value} {g : JFrame}
    (hat : ClassAt s C cC) (S : CallFix p m c cc nL s args Ts own) (hM : vx_Met l y ws rm Pc Qc XC mc ms free) (cw : va_CS R s args own index y bytes maxL ret ws rm mc ms n) (hp : PreV s H C b Pc As)
    (hg : g.method = m) (hn : As.length = n) (hsize : g.locals.size = nL) (hstack : g.stack = As.reverse ++ .ref b :: rest) (hW : 2 * g.monitorRoom + (rest.map fun v => v.category).sum ≤ 8) (hdg : decode cc g.pc = .ok (.invokespecial index, 3)) (hf : cells + mc ≤ R.cells ∧ slots + ms ≤ R.slots) :
    vx_Run p l e R s m args below meth c H locs cells slots mc ms g rest (Qc (Value.ref b :: As).toArray) XC free := by
  obtain ⟨⟨hrc, hrs, hfr, hlo, hws, hcw⟩, hl1, hl2, hl3, hl4, hini, hcode, hno, hlen⟩ := cw
  have hK : vx_Back l R p e below s args y 3 8 (PreOf R mc ms Pc) (PostOf Qc mc ms free) (vx_Post XC mc ms free) := vx_back (bytes := bytes) (maxL := maxL) (ret := ret) hM hp.1 hrc hrs hfr hlo hws hcw (fun a' U hW => word_at hW (Or.inl (by first | rfl | simp [Cond.onTables, Cond.keeps, Cond.steady])) hini)
  obtain ⟨hx, hb, hml, ho, -⟩ := S
  obtain ⟨-, ⟨cellB, hcB, hoB, hclB⟩, hPc⟩ := hp
  obtain ⟨hfc, kB, hkB, -⟩ := hat
  cases hfc.symm.trans hclB
  intro T hT X
  rcases vx_callSU X hx (bytes := bytes) (maxL := maxL) (ret := ret) ho hl1 hl2 hl3 hl4 hcode hno hK (by rw [hT]; exact hcB) hoB hkB hg (hsize.trans hml.symm) (argsL := As) (rest := rest) (fun sig h => hn.trans (hlen sig h)) hstack hW (by rw [hb]; exact hdg)
    (fun vm₁ hW₁ => ⟨hf.1, hf.2, hPc (T.setVm vm₁) hT hW₁⟩) with ⟨v, vm₁, ⟨U', l2, c2, s2⟩, hW₁, X', ⟨g', mk, t, L, e1, e2, hq, h1, hL, h2, h3⟩, st⟩ | ⟨q, vm₁, ⟨U', l2, c2, s2⟩, hW₁, X', ⟨g', mk, t, L, E, ce, e1, e2, hq, hce, hcv, hcl, h1, hL, h2, h3⟩, st⟩
  · dsimp only [Pt.U, Pt.locs, Pt.cells, Pt.slots] at X' e1 e2 h1 h2 h3 st
    subst h1; subst h2; subst h3
    exact Or.inl ⟨v, (T.setVm vm₁).calling g' mk (Value.ref b :: As).toArray, t, U', L, hT, X', hL, e1, e2, hq, st⟩
  · dsimp only [Pt.U, Pt.locs, Pt.cells, Pt.slots] at X' e1 e2 h1 h2 h3 st hcl
    subst h1; subst h2; subst h3
    exact Or.inr ⟨q, (T.setVm vm₁).calling g' mk (Value.ref b :: As).toArray, t, U', L, E, ce, hT, X', hL, e1, e2, hq, hce, hcv, vx_cls hW₁ hcl, st⟩
end
section
variable {p : Program} {l : Launch} {e : Env} {R : Room} {s : State} {m : MethodId} {args : Array Value} {below : List Frame} {meth : Method} {c : Code} {H : Heap} {locs : List Loc} {cells slots : Nat}
variable {T : State}
theorem vx_callVN (X : Stand p l e R s m args below meth c T locs cells slots) (hexec : p.tables.exec = Jvm.exec) {own C : String} {index : Nat} {host : String} {y : MethodName} {bytes : ByteArray} {maxL : Nat} {ret : Option FieldType}
    (hown : s.vm.findClass own = some m.cls) (hlink : (Cond.methodLinkNest own index y host).before args s = true) (hinst : (Cond.instanceMethod y).before args s = true) (hsel : (Cond.selects C y y).before args s = true)
    (hcode : (Cond.code y bytes maxL ret).before args s = true) (hy : y.cls ≠ "java/lang/invoke/MethodHandle" ∧ y.cls ≠ "java/lang/invoke/VarHandle")
    {W : Nat} {Pre : Pt → Array Value → Prop} {Post : Pt → Array Value → Option Value → Pt → Prop} {PostX : Pt → Array Value → Addr → Pt → Prop} (hK : vx_Back l R p e below s args y 3 W Pre Post PostX)
    {b : Addr} {cellB : Cell} (hcell : T.heap[b]? = some cellB) (hobj : cellB.vm.isStatics = false) (hcls : s.vm.findClass C = some cellB.cls)
    {g : JFrame} (hg : g.method = m) (hsize : g.locals.size = c.maxLocals) {argsL rest : List Value} (hlen : ∀ sig, parseMethodDescriptor y.desc = some sig → argsL.length = sig.parameters.length)
    (hstack : g.stack = argsL.reverse ++ .ref b :: rest) (hW : 2 * g.monitorRoom + (rest.map fun v => v.category).sum ≤ W) (hdg : decode c.code g.pc = .ok (.invokevirtual index, 3))
    (hpre : ∀ vm₁, s.WarmedH vm₁ → Pre ⟨T.setVm vm₁, locs, cells, slots⟩ (Value.ref b :: argsL).toArray) :
    (∃ (v : Option Value) (vm₁ : Vm) (B : Pt), s.WarmedH vm₁ ∧ Stand p l e R s m args below meth c B.U B.locs B.cells B.slots ∧ Post ⟨T.setVm vm₁, locs, cells, slots⟩ (Value.ref b :: argsL).toArray v B ∧
      ∀ target, Steps p.tables e below (B.U.setTop { g with pc := g.pc + 3, stack := v.toList ++ rest }) target → Steps p.tables e below (T.setTop g) target) ∨
    (∃ (q : Addr) (vm₁ : Vm) (B : Pt), s.WarmedH vm₁ ∧ Stand p l e R s m args below meth c B.U B.locs B.cells B.slots ∧ PostX ⟨T.setVm vm₁, locs, cells, slots⟩ (Value.ref b :: argsL).toArray q B ∧
      Steps p.tables e below (T.setTop g) ((B.U.setTop { g with stack := rest }).pushFrame (.throwing q))) := by
  obtain ⟨mk, methM, hnamed, hmethM, hstM, habM⟩ := Cond.instanceMethod_spec hinst
  obtain ⟨methM', cM, hmethM', -, -, -, -, -, -, hsigM⟩ := Cond.code_spec hnamed hcode
  cases hmethM.symm.trans hmethM'
  obtain ⟨c2, r2, m2, q1, q2, q3, q4, kP, hkP, hkPi⟩ := Cond.selects_spec hsel
  cases hcls.symm.trans q1
  cases (State.methodFound?_of_named hnamed hy).symm.trans q2
  cases hnamed.symm.trans q3
  have hselP : selectMethod e.platform s.vm cellB.cls mk = .method mk := by rw [Launch.admits_selectMethod X.admits]; exact q4
  obtain ⟨vm₁, X₁, hstep₁⟩ := X.invokevirtualNest hexec hown hlink hnamed hmethM hstM hkP hkPi hy (a := b) (cell := cellB) hcell
    (fun z h => by rw [h] at hobj; cases hobj) hselP hmethM habM hkP hkPi (g := g) hg (argsL := argsL) (rest := rest) (hlen _ hsigM) hstack hdg
  rcases hK m meth c ⟨T.setVm vm₁, locs, cells, slots⟩ { g with stack := rest } (.invokevirtual index) mk (Value.ref b :: argsL).toArray X₁ hg hsize hdg hW (X₁.named hnamed) (hpre vm₁ X₁.warmed) with ⟨v, B, X', hpost, hsteps⟩ | ⟨q, B, X', hpost, hsteps⟩
  · exact Or.inl ⟨v, vm₁, B, X₁.warmed, X', hpost, fun target h => hstep₁ _ fun acts => by rw [doInvoke_state]; exact hsteps.trans h⟩
  · exact Or.inr ⟨q, vm₁, B, X₁.warmed, X', hpost, hstep₁ _ fun acts => by rw [doInvoke_state]; exact hsteps⟩
theorem vx_callSN (X : Stand p l e R s m args below meth c T locs cells slots) (hexec : p.tables.exec = Jvm.exec) {own : String} {index : Nat} {host : String} {y : MethodName} {bytes : ByteArray} {maxL : Nat} {ret : Option FieldType}
    (hown : s.vm.findClass own = some m.cls) (hlink : (Cond.methodLinkNest own index y host).before args s = true) (hstat : (Cond.static y).before args s = true) (hinit : (Cond.initialized y.cls).before args s = true)
    (hcode : (Cond.code y bytes maxL ret).before args s = true) (hy : y.cls ≠ "java/lang/invoke/MethodHandle" ∧ y.cls ≠ "java/lang/invoke/VarHandle")
    {W : Nat} {Pre : Pt → Array Value → Prop} {Post : Pt → Array Value → Option Value → Pt → Prop} {PostX : Pt → Array Value → Addr → Pt → Prop} (hK : vx_Back l R p e below s args y 3 W Pre Post PostX)
    {g : JFrame} (hg : g.method = m) (hsize : g.locals.size = c.maxLocals) {argsL rest : List Value} (hlen : ∀ sig, parseMethodDescriptor y.desc = some sig → argsL.length = sig.parameters.length)
    (hstack : g.stack = argsL.reverse ++ rest) (hW : 2 * g.monitorRoom + (rest.map fun v => v.category).sum ≤ W) (hdg : decode c.code g.pc = .ok (.invokestatic index, 3))
    (hpre : ∀ vm₁, s.WarmedH vm₁ → Pre ⟨T.setVm vm₁, locs, cells, slots⟩ argsL.toArray) :
    (∃ (v : Option Value) (vm₁ : Vm) (B : Pt), s.WarmedH vm₁ ∧ Stand p l e R s m args below meth c B.U B.locs B.cells B.slots ∧ Post ⟨T.setVm vm₁, locs, cells, slots⟩ argsL.toArray v B ∧
      ∀ target, Steps p.tables e below (B.U.setTop { g with pc := g.pc + 3, stack := v.toList ++ rest }) target → Steps p.tables e below (T.setTop g) target) ∨
    (∃ (q : Addr) (vm₁ : Vm) (B : Pt), s.WarmedH vm₁ ∧ Stand p l e R s m args below meth c B.U B.locs B.cells B.slots ∧ PostX ⟨T.setVm vm₁, locs, cells, slots⟩ argsL.toArray q B ∧
      Steps p.tables e below (T.setTop g) ((B.U.setTop { g with stack := rest }).pushFrame (.throwing q))) := by
  obtain ⟨mk, hnamed⟩ := Cond.code_named hcode
  obtain ⟨methM, cM, hmethM, -, -, -, -, -, -, hsigM⟩ := Cond.code_spec hnamed hcode
  have hstatic : methM.isStatic = true := Cond.static_spec hnamed hmethM hstat
  obtain ⟨kP, hkP, -⟩ := className_of_methodNamed hnamed
  have hinitP : kP.init = .initialized := Cond.initialized_spec (findClass_of_methodNamed hnamed) hkP hinit
  obtain ⟨vm₁, X₁, hstep₁⟩ := X.invokestaticNest hexec hown hlink hnamed hmethM hstatic hkP hinitP hy (g := g) hg (argsL := argsL) (rest := rest) (hlen _ hsigM) hstack hdg
  rcases hK m meth c ⟨T.setVm vm₁, locs, cells, slots⟩ { g with stack := rest } (.invokestatic index) mk argsL.toArray X₁ hg hsize hdg hW (X₁.named hnamed) (hpre vm₁ X₁.warmed) with ⟨v, B, X', hpost, hsteps⟩ | ⟨q, B, X', hpost, hsteps⟩
  · exact Or.inl ⟨v, vm₁, B, X₁.warmed, X', hpost, fun target h => hstep₁ _ fun acts => by rw [doInvoke_state]; exact hsteps.trans h⟩
  · exact Or.inr ⟨q, vm₁, B, X₁.warmed, X', hpost, hstep₁ _ fun acts => by rw [doInvoke_state]; exact hsteps⟩
theorem vx_runVN {y : MethodName} {bytes cc : ByteArray} {maxL nL mc ms n index : Nat} {ret : Option FieldType} {ws : List Cond} {rm : Room} {Pc : Array Value → State → Prop} {Qc : Array Value → State → Outcome → State → Prop} {XC : String → State → State → Prop} {free : Addr → Prop} {Ts : List Cond} {own C host : String} {b : Addr} {As rest : List Value} {g : JFrame}
    (S : CallFix p m c cc nL s args Ts own) (hM : vx_Met l y ws rm Pc Qc XC mc ms free) (cw : va_CN R s args own index y host bytes maxL ret ws rm mc ms n ∧ (Cond.instanceMethod y).before args s = true ∧ (Cond.selects C y y).before args s = true) (hp : PreV s H C b Pc As)
    (hg : g.method = m) (hn : As.length = n) (hsize : g.locals.size = nL) (hstack : g.stack = As.reverse ++ .ref b :: rest) (hW : 2 * g.monitorRoom + (rest.map fun v => v.category).sum ≤ 8) (hdg : decode cc g.pc = .ok (.invokevirtual index, 3)) (hf : cells + mc ≤ R.cells ∧ slots + ms ≤ R.slots) :
    vx_Run p l e R s m args below meth c H locs cells slots mc ms g rest (Qc (Value.ref b :: As).toArray) XC free := by
  obtain ⟨⟨⟨hrc, hrs, hfr, hlo, hws, hcw⟩, hcode, hini, hy, hlen, hl⟩, hx1, hx2⟩ := cw
  have hK : vx_Back l R p e below s args y 3 8 (PreOf R mc ms Pc) (PostOf Qc mc ms free) (vx_Post XC mc ms free) := vx_back (bytes := bytes) (maxL := maxL) (ret := ret) hM hp.1 hrc hrs hfr hlo hws hcw (fun a' U hW => word_at hW (Or.inl (by first | rfl | simp [Cond.onTables, Cond.keeps, Cond.steady])) hini)
  obtain ⟨hx, hb, hml, ho, -⟩ := S
  obtain ⟨-, ⟨cellB, hcB, hoB, hclB⟩, hPc⟩ := hp
  intro T hT X
  rcases vx_callVN X hx (C := C) (bytes := bytes) (maxL := maxL) (ret := ret) ho hl hx1 hx2 hcode hy hK (by rw [hT]; exact hcB) hoB hclB hg (hsize.trans hml.symm) (argsL := As) (rest := rest) (fun sig h => hn.trans (hlen sig h)) hstack hW (by rw [hb]; exact hdg)
    (fun vm₁ hW₁ => ⟨hf.1, hf.2, hPc (T.setVm vm₁) hT hW₁⟩) with ⟨v, vm₁, ⟨U', l2, c2, s2⟩, hW₁, X', ⟨g', mk, t, L, e1, e2, hq, h1, hL, h2, h3⟩, st⟩ | ⟨q, vm₁, ⟨U', l2, c2, s2⟩, hW₁, X', ⟨g', mk, t, L, E, ce, e1, e2, hq, hce, hcv, hcl, h1, hL, h2, h3⟩, st⟩
  · dsimp only [Pt.U, Pt.locs, Pt.cells, Pt.slots] at X' e1 e2 h1 h2 h3 st
    subst h1; subst h2; subst h3
    exact Or.inl ⟨v, (T.setVm vm₁).calling g' mk (Value.ref b :: As).toArray, t, U', L, hT, X', hL, e1, e2, hq, st⟩
  · dsimp only [Pt.U, Pt.locs, Pt.cells, Pt.slots] at X' e1 e2 h1 h2 h3 st hcl
    subst h1; subst h2; subst h3
    exact Or.inr ⟨q, (T.setVm vm₁).calling g' mk (Value.ref b :: As).toArray, t, U', L, E, ce, hT, X', hL, e1, e2, hq, hce, hcv, vx_cls hW₁ hcl, st⟩
theorem vx_runSN {y : MethodName} {bytes cc : ByteArray} {maxL nL mc ms n index : Nat} {ret : Option FieldType} {ws : List Cond} {rm : Room} {Pc : Array Value → State → Prop} {Qc : Array Value → State → Outcome → State → Prop} {XC : String → State → State → Prop} {free : Addr → Prop} {Ts : List Cond} {own host : String} {As rest : List Value} {g : JFrame}
    (S : CallFix p m c cc nL s args Ts own) (hM : vx_Met l y ws rm Pc Qc XC mc ms free) (cw : va_CN R s args own index y host bytes maxL ret ws rm mc ms n ∧ (Cond.static y).before args s = true ∧ True) (hp : PreS s H Pc As)
    (hg : g.method = m) (hn : As.length = n) (hsize : g.locals.size = nL) (hstack : g.stack = As.reverse ++ rest) (hW : 2 * g.monitorRoom + (rest.map fun v => v.category).sum ≤ 8) (hdg : decode cc g.pc = .ok (.invokestatic index, 3)) (hf : cells + mc ≤ R.cells ∧ slots + ms ≤ R.slots) :
    vx_Run p l e R s m args below meth c H locs cells slots mc ms g rest (Qc As.toArray) XC free := by
  obtain ⟨⟨⟨hrc, hrs, hfr, hlo, hws, hcw⟩, hcode, hini, hy, hlen, hl⟩, hx1, hx2⟩ := cw
  have hK : vx_Back l R p e below s args y 3 8 (PreOf R mc ms Pc) (PostOf Qc mc ms free) (vx_Post XC mc ms free) := vx_back (bytes := bytes) (maxL := maxL) (ret := ret) hM hp.1 hrc hrs hfr hlo hws hcw (fun a' U hW => word_at hW (Or.inl (by first | rfl | simp [Cond.onTables, Cond.keeps, Cond.steady])) hini)
  obtain ⟨hx, hb, hml, ho, -⟩ := S
  have hPc := hp.2
  intro T hT X
  rcases vx_callSN X hx (bytes := bytes) (maxL := maxL) (ret := ret) ho hl hx1 hini hcode hy hK hg (hsize.trans hml.symm) (argsL := As) (rest := rest) (fun sig h => hn.trans (hlen sig h)) hstack hW (by rw [hb]; exact hdg)
    (fun vm₁ hW₁ => ⟨hf.1, hf.2, hPc (T.setVm vm₁) hT hW₁⟩) with ⟨v, vm₁, ⟨U', l2, c2, s2⟩, hW₁, X', ⟨g', mk, t, L, e1, e2, hq, h1, hL, h2, h3⟩, st⟩ | ⟨q, vm₁, ⟨U', l2, c2, s2⟩, hW₁, X', ⟨g', mk, t, L, E, ce, e1, e2, hq, hce, hcv, hcl, h1, hL, h2, h3⟩, st⟩
  · dsimp only [Pt.U, Pt.locs, Pt.cells, Pt.slots] at X' e1 e2 h1 h2 h3 st
    subst h1; subst h2; subst h3
    exact Or.inl ⟨v, (T.setVm vm₁).calling g' mk As.toArray, t, U', L, hT, X', hL, e1, e2, hq, st⟩
  · dsimp only [Pt.U, Pt.locs, Pt.cells, Pt.slots] at X' e1 e2 h1 h2 h3 st hcl
    subst h1; subst h2; subst h3
    exact Or.inr ⟨q, (T.setVm vm₁).calling g' mk As.toArray, t, U', L, E, ce, hT, X', hL, e1, e2, hq, hce, hcv, vx_cls hW₁ hcl, st⟩
end
end
section
/-! CALLS ARE SOUND -/
def qq_np (y : MethodName) (n : Nat) : Bool := decide (y.cls ≠ "java/lang/invoke/MethodHandle") && decide (y.cls ≠ "java/lang/invoke/VarHandle") && decide ((parseMethodDescriptor y.desc).map (fun d => d.parameters.length) = some n)
def qq_cod (cal w : Nat) : Bool := qq_is w (.code (qq_y cal) (qq_cd cal) (qq_maxL cal) (qq_ret cal)) && decide (qq_maxL cal ≤ 27) && decide (qq_hn cal = [])
def qq_okc (mi : Nat) (i : Instr) (lk : List Nat) : Bool := match i, lk with
  | .invokestatic ix, [0, cal, n, _, w1, w2, w3, w4] => qq_cod cal w4 && qq_np (qq_y cal) n && qq_is w1 (.methodLink (qq_y mi).cls ix (qq_y cal)) && qq_is w2 (.static (qq_y cal)) && qq_is w3 (.initialized (qq_y cal).cls)
  | .invokestatic ix, [3, cal, n, _, w1, w2, w3, w4] => qq_cod cal w4 && qq_np (qq_y cal) n && qq_is w1 (.methodLinkNest (qq_y mi).cls ix (qq_y cal) "StatueChancery") && qq_is w2 (.static (qq_y cal)) && qq_is w3 (.initialized (qq_y cal).cls)
  | .invokestatic ix, [8, cal, n, _, w1, w2, w3, w4] => qq_is w4 (.codeWith (qq_y cal) (qq_cd cal) (qq_maxL cal) (qq_ret cal) (qq_hh cal)) && decide (qq_maxL cal ≤ 27) && decide (qq_hn cal ≠ []) && qq_np (qq_y cal) n && qq_is w1 (.methodLink (qq_y mi).cls ix (qq_y cal)) && qq_is w2 (.static (qq_y cal)) && qq_is w3 (.initialized (qq_y cal).cls)
  | .invokespecial ix, [2, cal, n + 1, _, w1, w2, w3, w4] => qq_cod cal w4 && qq_np (qq_y cal) n && qq_is w1 (.methodLink (qq_y mi).cls ix (qq_y cal)) && qq_is w2 (.instanceMethod (qq_y cal)) && qq_is w3 (.initialized (qq_y cal).cls) && decide ((qq_y cal).name = "<init>") && decide (qq_ret cal = none)
  | .invokespecial ix, [5, cal, n + 1, _, w1, w2, w3, w4] => qq_cod cal w4 && qq_np (qq_y cal) n && qq_is w1 (.methodLinkNest (qq_y mi).cls ix (qq_y cal) "StatueChancery") && qq_is w2 (.instanceMethod (qq_y cal)) && qq_is w3 (.initialized (qq_y cal).cls) && decide ((qq_y cal).name = "<init>") && decide (qq_ret cal = none)
  | .invokespecial ix, [6, cal, n + 1, ci, w1, w2, w3, w4, w5, w6] => qq_cod cal w6 && qq_np (qq_y cal) n && qq_is w1 (.methodLink (qq_y mi).cls ix (qq_y cal)) && qq_is w2 (.sameMethod (qq_y cal).cls (qq_y cal).cls (qq_y cal).name (qq_y cal).desc) && qq_is w3 (.superclass (qq_y mi).cls (qq_y cal).cls) && qq_is w4 (.instanceMethod (qq_y cal)) && qq_is w5 (.initialized (qq_y cal).cls) && decide ((qq_y cal).name ≠ "<init>") && decide (2 ≤ ci) && decide (ci < 13)
  | .invokevirtual ix, [1, cal, n + 1, ci, w1, w2, w3, w4, w5] => (match qq_cl[ci]? with
    | some q => qq_cod cal w5 && qq_np (qq_y cal) n && qq_is w1 (.methodLink (qq_y mi).cls ix (qq_y cal)) && qq_is w2 (.instanceMethod (qq_y cal)) && qq_is w3 (.selects q.1 (qq_y cal) (qq_y cal)) && qq_is w4 (.initialized (qq_y cal).cls)
    | none => false)
  | .invokevirtual ix, [4, cal, n + 1, ci, w1, w2, w3, w4, w5] => (match qq_cl[ci]? with
    | some q => qq_cod cal w5 && qq_np (qq_y cal) n && qq_is w1 (.methodLinkNest (qq_y mi).cls ix (qq_y cal) "StatueChancery") && qq_is w2 (.instanceMethod (qq_y cal)) && qq_is w3 (.selects q.1 (qq_y cal) (qq_y cal)) && qq_is w4 (.initialized (qq_y cal).cls)
    | none => false)
  | .invokevirtual ix, [7, cal, n + 1, ci, w1, w2, w3, w4, w5, w6] => (match qq_cl[ci]? with
    | some q => qq_cod cal w6 && qq_np (qq_y cal) n && qq_is w1 (.methodLink (qq_y mi).cls ix ⟨q.1, (qq_y cal).name, (qq_y cal).desc⟩) && qq_is w2 (.sameMethod q.1 (qq_y cal).cls (qq_y cal).name (qq_y cal).desc) && qq_is w3 (.selects q.1 ⟨q.1, (qq_y cal).name, (qq_y cal).desc⟩ (qq_y cal)) && qq_is w4 (.instanceMethod (qq_y cal)) && qq_is w5 (.initialized (qq_y cal).cls)
    | none => false)
  | .invokevirtual ix, [9, cal, n + 1, ci, c0, w1, w2, w3, w4, w5, w6, w7, w8] => (match qq_cl[ci]? with
    | some q => qq_cod cal w8 && qq_np (qq_y c0) n && qq_is w1 (.methodLink (qq_y mi).cls ix (qq_y c0)) && qq_is w2 (.sameMethod (qq_y c0).cls (qq_y c0).cls (qq_y c0).name (qq_y c0).desc) && qq_is w3 (.instanceMethod (qq_y c0)) && qq_is w4 (.code (qq_y c0) (qq_cd c0) (qq_maxL c0) (qq_ret c0)) && qq_is w5 (.selects q.1 (qq_y c0) (qq_y cal)) && qq_is w6 (.instanceMethod (qq_y cal)) && qq_is w7 (.initialized (qq_y cal).cls)
    | none => false)
  | _, _ => false
theorem np_len {y : MethodName} {n : Nat} (h : qq_np y n = true) : (y.cls ≠ "java/lang/invoke/MethodHandle" ∧ y.cls ≠ "java/lang/invoke/VarHandle") ∧ ∀ sig, parseMethodDescriptor y.desc = some sig → n = sig.parameters.length := by
  simp only [qq_np, Bool.and_eq_true, decide_eq_true_eq] at h
  refine ⟨h.1, fun sig hs => ?_⟩
  have h2 := h.2
  rw [hs] at h2
  exact (Option.some.inj h2).symm
section QIN
variable {p : Program} {l : Launch} {e : Env} {R : Room} {s : State} {m : MethodId} {args : Array Value} {below : List Frame} {meth : Method} {c : Code} {H : Heap} {locs : List Loc} {cells slots : Nat} {Q : State → Prop}
variable {cc : ByteArray} {pc : Nat} {ls : Array Slot} {X : qq_X} {σ σ' : qq_S} {o : qq_O}
theorem one_word {w0 : Jvm.Cond} (hg : goodWord w0 = true) (h : w0.before args s = true) : ∀ w ∈ [w0], ∀ (a' : Array Value) (U : State), s.WarmedH U.vm → w.before a' U = true := by
  intro w hw a' U hW
  rw [List.mem_singleton.mp hw]
  exact word_at hW (good_of_word hg) h
theorem cal_stack {i : Instr} {lk : List Nat} {st : List Value} {cal : Nat} {av rest : List Value} (hs : qq_cal i lk st σ = some (cal, av, rest)) :
    ∃ kind n ci tl, lk = kind :: cal :: n :: ci :: tl ∧ av.length = n ∧ (qq_sl av).length ≤ qq_maxL cal ∧ st.map (rv_ X) = (av.map (rv_ X)).reverse ++ rest.map (rv_ X) ∧ (rest.map fun v => v.category).sum ≤ 8 ∧ (kind ≠ 0 → kind ≠ 3 → kind ≠ 8 → ∃ a, av.head? = some (.ref a) ∧ (kd_S σ a).1 < 200 ∧ (kind ≠ 2 → kind ≠ 5 → (kd_S σ a).1 = ci)) := by
  unfold qq_cal at hs
  split at hs
  · rename_i kind callee n ci tl
    obtain ⟨⟨h1, h2, h6, h3, h4⟩, h5⟩ := qq_if_some hs
    cases h5
    refine ⟨kind, n, ci, tl, rfl, by simp; omega, h6, ?_, h3, h4⟩
    rw [← List.map_reverse, List.reverse_reverse, ← List.map_append, List.take_append_drop]
  · cases hs
theorem so_call {mi d cal : Nat} {i : Instr} {lk : List Nat} {st av rest : List Value} (hx : p.tables.exec = Jvm.exec) (hb : c.code = cc) (hF : qq_Fx X s) (hP : qq_Hp X σ H) (hlo : ∀ z ∈ locs, xb_ X ≤ z.base) (hown : s.vm.findClass (qq_y mi).cls = some m.cls)
    (hs : qq_cal i lk st σ = some (cal, av, rest)) (hok : qq_okc mi i lk = true) (hd : decode cc pc = .ok (i, 3)) (hsz : ls.size = c.maxLocals) (hfr : d + 9 ≤ R.frames) (hlc : 46 * d + 156 ≤ R.locals)
    (hM : qq_hn cal = [] → qq_Met l X d cal av σ o σ') (hMW : qq_hn cal ≠ [] → qq_MetW l X d cal av σ o σ') (hc : cells + (sz_S σ' - sz_S σ) ≤ R.cells) (hsl : slots + (su_S σ' - su_S σ) ≤ R.slots)
    (kr : ∀ (v : Option Value) (H' : Heap) (locs' : List Loc), o = .inl v → qq_Hp X σ' H' → (∀ z ∈ locs', xb_ X ≤ z.base) → W p l e R s m args below meth c H' locs' (cells + (sz_S σ' - sz_S σ)) (slots + (su_S σ' - su_S σ)) Q (F0 m (pc + 3) ls ((v.toList ++ rest).map (rv_ X))))
    (kx : ∀ (x : Nat) (q9 : String × Nat × Nat × List String) (z : Addr) (ce : Cell) (H' : Heap) (locs' : List Loc), o = .inr x → qq_ex[x]? = some q9 → qq_Hp X σ' H' → (∀ z ∈ locs', xb_ X ≤ z.base) → H'[z]? = some ce → ce.vm = .none → s.vm.findClass q9.1 = some ce.cls → vx_W p l e R s m args below meth c H' locs' (cells + (sz_S σ' - sz_S σ)) (slots + (su_S σ' - su_S σ)) Q (F0 m pc ls (rest.map (rv_ X))) z) :
    W p l e R s m args below meth c H locs cells slots Q (F0 m pc ls (st.map (rv_ X))) := by
  obtain ⟨kind, n0, ci0, tl, hlk, hlen, -, hst, hcat, hrec⟩ := cal_stack (X := X) hs
  rw [hst]
  have hcat' : 2 * (F0 m pc ls ((av.map (rv_ X)).reverse ++ rest.map (rv_ X))).monitorRoom + ((rest.map (rv_ X)).map fun v => v.category).sum ≤ 8 := by
    rw [rv_cats]
    show 2 * 0 + _ ≤ 8
    omega
  have hPc : ∀ U : State, U.heap = H → s.WarmedH U.vm → qq_Pc X av σ (av.map (rv_ X)).toArray U := fun U hU hW => ⟨rfl, Fx_moved hF hW, by rw [hU]; exact hP⟩
  have hfix : CallFix p m c cc c.maxLocals s args [] (qq_y mi).cls := ⟨hx, hb, rfl, hown, fun w h => nomatch h⟩
  have hcodg : ∀ cal w, qq_cod cal w = true → (Cond.code (qq_y cal) (qq_cd cal) (qq_maxL cal) (qq_ret cal)).before args s = true ∧ qq_maxL cal ≤ 27 ∧ qq_hn cal = [] := by
    intro cal w h
    simp only [qq_cod, Bool.and_eq_true, decide_eq_true_eq] at h
    exact ⟨is_word hF h.1.1 rfl, h.1.2, h.2⟩
  have hrm : ∀ cal9, qq_maxL cal9 ≤ 27 → d + 8 + 1 ≤ R.frames ∧ 8 + (qq_maxL cal9 + 11) + (46 * d + 110) ≤ R.locals := fun _ h => ⟨by omega, by omega⟩
  have hbl := Pc_blind X av σ
  -- a receiver
  have hrcv : (kind ≠ 0 ∧ kind ≠ 3 ∧ kind ≠ 8) → ∃ (a : Nat) (As : List Value) (b : Addr), av = .ref a :: As ∧ As.length + 1 = n0 ∧ rv_ X (.ref a) = .ref b ∧ (kd_S σ a).1 < 200 ∧ ((kind ≠ 2 ∧ kind ≠ 5) → (kd_S σ a).1 = ci0) := by
    intro hk
    obtain ⟨a, h1, h2, h3⟩ := hrec hk.1 hk.2.1 hk.2.2
    cases av with
    | nil => cases h1
    | cons v As =>
      cases h1
      obtain ⟨b, hb9, -⟩ := hp_ref hF hP h2
      exact ⟨a, As, b, rfl, hlen, by simp only [rv_, hb9]; rfl, h2, fun h => h3 h.1 h.2⟩
  have hcel : ∀ (a ci : Nat) (b : Addr) (q : vw_C), qq_cl[ci]? = some q → (kd_S σ a).1 = ci → rv_ X (.ref a) = .ref b → ∃ cellB : Cell, H[b]? = some cellB ∧ cellB.vm.isStatics = false ∧ s.vm.findClass q.1 = some cellB.cls := by
    intro a ci b q hq hk hb9
    have hlt : ci < 13 := cl_lt hq
    obtain ⟨p9, e1, cell, e2, e3, -, e4, -⟩ := hp_ob hP hk (by omega)
    have e5 : rv_ X (.ref a) = .ref p9 := by simp only [rv_, e1]; rfl
    cases e5.symm.trans hb9
    exact ⟨cell, e2, e4, by rw [e3]; exact (hF.2.2.1 ci q hq).1⟩
  unfold qq_okc at hok
  split at hok
  · -- static
    rename_i ix cal9 n9 _ w1 w2 w3 w4
    cases hlk
    simp only [Bool.and_eq_true] at hok
    obtain ⟨⟨⟨⟨h1, h2⟩, h3⟩, h4⟩, h5⟩ := hok
    obtain ⟨g1, g2, g3⟩ := hcodg _ _ h1
    obtain ⟨g4, g5⟩ := np_len h2
    obtain ⟨hf1, hf2⟩ := hrm _ g2
    refine so_back (hr := vx_runS (index := ix) (n := n0) (own := (qq_y mi).cls) hfix (hM g3) ⟨⟨rfl, rfl, hf1, hf2, one_word rfl g1, List.mem_singleton.mpr rfl, g1, is_word hF h5 rfl, g4, g5, is_word hF h3 rfl⟩, is_word hF h4 rfl⟩ (As := av.map (rv_ X)) ⟨hbl, hPc⟩ rfl (by rw [List.length_map]; exact hlen) hsz rfl hcat' hd ⟨hc, hsl⟩) hlo kr kx
  · -- static, of a nest mate
    rename_i ix cal9 n9 _ w1 w2 w3 w4
    cases hlk
    simp only [Bool.and_eq_true] at hok
    obtain ⟨⟨⟨⟨h1, h2⟩, h3⟩, h4⟩, h5⟩ := hok
    obtain ⟨g1, g2, g3⟩ := hcodg _ _ h1
    obtain ⟨g4, g5⟩ := np_len h2
    obtain ⟨hf1, hf2⟩ := hrm _ g2
    refine so_back (hr := vx_runSN (index := ix) (n := n0) (own := (qq_y mi).cls) (host := "StatueChancery") hfix (hM g3) ⟨⟨⟨rfl, rfl, hf1, hf2, one_word rfl g1, List.mem_singleton.mpr rfl⟩, g1, is_word hF h5 rfl, g4, g5, va_Nw.use rfl (is_nw hF h3 rfl)⟩, is_word hF h4 rfl, trivial⟩ (As := av.map (rv_ X)) ⟨hbl, hPc⟩ rfl (by rw [List.length_map]; exact hlen) hsz rfl hcat' hd ⟨hc, hsl⟩) hlo kr kx
  · -- static, with a table of its own
    rename_i ix cal9 n9 _ w1 w2 w3 w4
    cases hlk
    simp only [Bool.and_eq_true, decide_eq_true_eq] at hok
    obtain ⟨⟨⟨⟨⟨⟨h1, h6⟩, h7⟩, h2⟩, h3⟩, h4⟩, h5⟩ := hok
    have g1 := is_word hF h1 rfl (a' := args)
    obtain ⟨g4, g5⟩ := np_len h2
    obtain ⟨hf1, hf2⟩ := hrm _ h6
    refine so_backW (hr := vx_runSW (index := ix) (n := n0) (own := (qq_y mi).cls) hfix (hMW h7) ⟨⟨rfl, rfl, hf1, hf2, one_word rfl g1, List.mem_singleton.mpr rfl⟩, g1, is_word hF h5 rfl, g4, g5, is_word hF h3 rfl, is_word hF h4 rfl⟩ (As := av.map (rv_ X)) ⟨hbl, hPc⟩ rfl (by rw [List.length_map]; exact hlen) hsz rfl hcat' hd ⟨hc, hsl⟩) hlo kr
  · -- a constructor
    rename_i ix cal9 n9 _ w1 w2 w3 w4
    cases hlk
    simp only [Bool.and_eq_true, decide_eq_true_eq] at hok
    obtain ⟨⟨⟨⟨⟨⟨h1, h2⟩, h3⟩, h4⟩, h5⟩, h6⟩, h7⟩ := hok
    obtain ⟨g1, g2, g3⟩ := hcodg _ _ h1
    obtain ⟨g4, g5⟩ := np_len h2
    obtain ⟨hf1, hf2⟩ := hrm _ g2
    obtain ⟨a, As, b, rfl, hAs, hab, hka, -⟩ := hrcv (by decide)
    rw [List.map_cons, hab] at hPc
    have hst9 : (F0 m pc ls (((.ref a :: As).map (rv_ X)).reverse ++ rest.map (rv_ X))).stack = (As.map (rv_ X)).reverse ++ .ref b :: rest.map (rv_ X) := by
      rw [List.map_cons, hab, List.reverse_cons]; show _ ++ _ ++ _ = _; rw [List.append_assoc]; rfl
    have hM3 := hM g3
    rw [qq_Met, h7] at hM3
    rw [h7] at g1
    have hr := vx_runI (R := R) (p := p) (l := l) (e := e) (m := m) (c := c) (cc := cc) (s := s) (args := args) (below := below) (meth := meth) (H := H) (locs := locs) (cells := cells) (slots := slots) (index := ix) (n := n9) (own := (qq_y mi).cls) hfix hM3 ⟨⟨rfl, rfl, hf1, hf2, one_word rfl g1, List.mem_singleton.mpr rfl, g1, is_word hF h5 rfl, g4, g5, is_word hF h3 rfl⟩, h6, is_word hF h4 rfl⟩ (b := b) (As := As.map (rv_ X)) ⟨hbl, hPc⟩ rfl (by rw [List.length_map]; omega) hsz hst9 hcat' hd ⟨hc, hsl⟩
    exact so_back (hr := hr) hlo kr kx
  · -- a constructor of a nest mate
    rename_i ix cal9 n9 _ w1 w2 w3 w4
    cases hlk
    simp only [Bool.and_eq_true, decide_eq_true_eq] at hok
    obtain ⟨⟨⟨⟨⟨⟨h1, h2⟩, h3⟩, h4⟩, h5⟩, h6⟩, h7⟩ := hok
    obtain ⟨g1, g2, g3⟩ := hcodg _ _ h1
    obtain ⟨g4, g5⟩ := np_len h2
    obtain ⟨hf1, hf2⟩ := hrm _ g2
    obtain ⟨a, As, b, rfl, hAs, hab, hka, -⟩ := hrcv (by decide)
    rw [List.map_cons, hab] at hPc
    have hst9 : (F0 m pc ls (((.ref a :: As).map (rv_ X)).reverse ++ rest.map (rv_ X))).stack = (As.map (rv_ X)).reverse ++ .ref b :: rest.map (rv_ X) := by
      rw [List.map_cons, hab, List.reverse_cons]; show _ ++ _ ++ _ = _; rw [List.append_assoc]; rfl
    have hM3 := hM g3
    rw [qq_Met, h7] at hM3
    rw [h7] at g1
    have hr := vx_runIN (R := R) (p := p) (l := l) (e := e) (m := m) (c := c) (cc := cc) (s := s) (args := args) (below := below) (meth := meth) (H := H) (locs := locs) (cells := cells) (slots := slots) (index := ix) (n := n9) (own := (qq_y mi).cls) (host := "StatueChancery") hfix hM3 ⟨⟨⟨rfl, rfl, hf1, hf2, one_word rfl g1, List.mem_singleton.mpr rfl⟩, g1, is_word hF h5 rfl, g4, g5, va_Nw.use rfl (is_nw hF h3 rfl)⟩, h6, is_word hF h4 rfl⟩ (b := b) (As := As.map (rv_ X)) ⟨hbl, hPc⟩ rfl (by rw [List.length_map]; omega) hsz hst9 hcat' hd ⟨hc, hsl⟩
    exact so_back (hr := hr) hlo kr kx
  · -- the method of a class above, by name
    rename_i ix cal9 n9 ci w1 w2 w3 w4 w5 w6
    cases hlk
    simp only [Bool.and_eq_true, decide_eq_true_eq] at hok
    obtain ⟨⟨⟨⟨⟨⟨⟨⟨⟨h1, h2⟩, h3⟩, h4⟩, h5⟩, h6⟩, h7⟩, h8⟩, h9⟩, h10⟩ := hok
    obtain ⟨g1, g2, g3⟩ := hcodg _ _ h1
    obtain ⟨g4, g5⟩ := np_len h2
    obtain ⟨hf1, hf2⟩ := hrm _ g2
    obtain ⟨a, As, b, rfl, hAs, hab, hka, hkc⟩ := hrcv (by decide)
    rw [List.map_cons, hab] at hPc
    have hst9 : (F0 m pc ls (((.ref a :: As).map (rv_ X)).reverse ++ rest.map (rv_ X))).stack = (As.map (rv_ X)).reverse ++ .ref b :: rest.map (rv_ X) := by
      rw [List.map_cons, hab, List.reverse_cons]; show _ ++ _ ++ _ = _; rw [List.append_assoc]; rfl
    obtain ⟨q, hq⟩ : ∃ q, qq_cl[ci0]? = some q := ⟨_, List.getElem?_eq_getElem (by show ci0 < 13; exact h10)⟩
    obtain ⟨kC, hkC, hkC2, -⟩ := qq_ord hF hq (by omega)
    have hr := vx_runSU (R := R) (p := p) (l := l) (e := e) (m := m) (c := c) (cc := cc) (s := s) (args := args) (below := below) (meth := meth) (H := H) (locs := locs) (cells := cells) (slots := slots) (C := q.1) (cC := X.1 ci0) (index := ix) (n := n9) (own := (qq_y mi).cls) ⟨(hF.2.2.1 ci0 q hq).1, kC, hkC, hkC2⟩ hfix (hM g3) ⟨⟨rfl, rfl, hf1, hf2, one_word rfl g1, List.mem_singleton.mpr rfl⟩, is_word hF h3 rfl, is_word hF h4 rfl, is_word hF h5 rfl, is_word hF h6 rfl, is_word hF h7 rfl, g1, h8, g5⟩ (b := b) (As := As.map (rv_ X)) ⟨hbl, hcel a ci0 b q hq (hkc (by decide)) hab, hPc⟩ rfl (by rw [List.length_map]; omega) hsz hst9 hcat' hd ⟨hc, hsl⟩
    exact so_back (hr := hr) hlo kr kx
  · -- virtual
    rename_i ix cal9 n9 ci w1 w2 w3 w4 w5
    cases hlk
    split at hok
    · rename_i q hq
      simp only [Bool.and_eq_true, decide_eq_true_eq] at hok
      obtain ⟨⟨⟨⟨⟨h1, h2⟩, h3⟩, h4⟩, h5⟩, h6⟩ := hok
      obtain ⟨g1, g2, g3⟩ := hcodg _ _ h1
      obtain ⟨g4, g5⟩ := np_len h2
      obtain ⟨hf1, hf2⟩ := hrm _ g2
      obtain ⟨a, As, b, rfl, hAs, hab, hka, hkc⟩ := hrcv (by decide)
      rw [List.map_cons, hab] at hPc
      have hst9 : (F0 m pc ls (((.ref a :: As).map (rv_ X)).reverse ++ rest.map (rv_ X))).stack = (As.map (rv_ X)).reverse ++ .ref b :: rest.map (rv_ X) := by
        rw [List.map_cons, hab, List.reverse_cons]; show _ ++ _ ++ _ = _; rw [List.append_assoc]; rfl
      have hr := vx_runV (R := R) (p := p) (l := l) (e := e) (m := m) (c := c) (cc := cc) (s := s) (args := args) (below := below) (meth := meth) (H := H) (locs := locs) (cells := cells) (slots := slots) (C := q.1) (index := ix) (n := n9) (own := (qq_y mi).cls) hfix (hM g3) ⟨⟨rfl, rfl, hf1, hf2, one_word rfl g1, List.mem_singleton.mpr rfl, g1, is_word hF h6 rfl, g4, g5, is_word hF h3 rfl⟩, is_word hF h4 rfl, is_word hF h5 rfl⟩ (b := b) (As := As.map (rv_ X)) ⟨hbl, hcel a ci0 b q hq (hkc (by decide)) hab, hPc⟩ rfl (by rw [List.length_map]; omega) hsz hst9 hcat' hd ⟨hc, hsl⟩
      exact so_back (hr := hr) hlo kr kx
    · cases hok
  · -- virtual, of a nest mate
    rename_i ix cal9 n9 ci w1 w2 w3 w4 w5
    cases hlk
    split at hok
    · rename_i q hq
      simp only [Bool.and_eq_true, decide_eq_true_eq] at hok
      obtain ⟨⟨⟨⟨⟨h1, h2⟩, h3⟩, h4⟩, h5⟩, h6⟩ := hok
      obtain ⟨g1, g2, g3⟩ := hcodg _ _ h1
      obtain ⟨g4, g5⟩ := np_len h2
      obtain ⟨hf1, hf2⟩ := hrm _ g2
      obtain ⟨a, As, b, rfl, hAs, hab, hka, hkc⟩ := hrcv (by decide)
      rw [List.map_cons, hab] at hPc
      have hst9 : (F0 m pc ls (((.ref a :: As).map (rv_ X)).reverse ++ rest.map (rv_ X))).stack = (As.map (rv_ X)).reverse ++ .ref b :: rest.map (rv_ X) := by
        rw [List.map_cons, hab, List.reverse_cons]; show _ ++ _ ++ _ = _; rw [List.append_assoc]; rfl
      have hr := vx_runVN (R := R) (p := p) (l := l) (e := e) (m := m) (c := c) (cc := cc) (s := s) (args := args) (below := below) (meth := meth) (H := H) (locs := locs) (cells := cells) (slots := slots) (C := q.1) (index := ix) (n := n9) (own := (qq_y mi).cls) (host := "StatueChancery") hfix (hM g3) ⟨⟨⟨rfl, rfl, hf1, hf2, one_word rfl g1, List.mem_singleton.mpr rfl⟩, g1, is_word hF h6 rfl, g4, g5, va_Nw.use rfl (is_nw hF h3 rfl)⟩, is_word hF h4 rfl, is_word hF h5 rfl⟩ (b := b) (As := As.map (rv_ X)) ⟨hbl, hcel a ci0 b q hq (hkc (by decide)) hab, hPc⟩ rfl (by rw [List.length_map]; omega) hsz hst9 hcat' hd ⟨hc, hsl⟩
      exact so_back (hr := hr) hlo kr kx
    · cases hok
  · -- the method of a class above
    rename_i ix cal9 n9 ci w1 w2 w3 w4 w5 w6
    cases hlk
    split at hok
    · rename_i q hq
      simp only [Bool.and_eq_true, decide_eq_true_eq] at hok
      obtain ⟨⟨⟨⟨⟨⟨h1, h2⟩, h3⟩, h4⟩, h5⟩, h6⟩, h7⟩ := hok
      obtain ⟨g1, g2, g3⟩ := hcodg _ _ h1
      obtain ⟨g4, g5⟩ := np_len h2
      obtain ⟨hf1, hf2⟩ := hrm _ g2
      obtain ⟨a, As, b, rfl, hAs, hab, hka, hkc⟩ := hrcv (by decide)
      rw [List.map_cons, hab] at hPc
      have hst9 : (F0 m pc ls (((.ref a :: As).map (rv_ X)).reverse ++ rest.map (rv_ X))).stack = (As.map (rv_ X)).reverse ++ .ref b :: rest.map (rv_ X) := by
        rw [List.map_cons, hab, List.reverse_cons]; show _ ++ _ ++ _ = _; rw [List.append_assoc]; rfl
      have hdecl : va_Decl s (qq_y cal) := va_Decl.of (is_word hF h6 rfl (a' := args)) g1
      have hr := vx_runU (x := ⟨q.1, (qq_y cal).name, (qq_y cal).desc⟩) (owner := (qq_y cal).cls) (R := R) (p := p) (l := l) (e := e) (m := m) (c := c) (cc := cc) (s := s) (args := args) (below := below) (meth := meth) (H := H) (locs := locs) (cells := cells) (slots := slots) (C := q.1) (index := ix) (n := n9) (own := (qq_y mi).cls) hfix (hM g3) ⟨⟨rfl, rfl, hf1, hf2, one_word rfl g1, List.mem_singleton.mpr rfl⟩, g1, is_word hF h7 rfl, g4, g5, is_word hF h3 rfl, is_word hF h4 rfl, hdecl, is_word hF h5 rfl, is_word hF h6 rfl⟩ (b := b) (As := As.map (rv_ X)) ⟨hbl, hcel a ci0 b q hq (hkc (by decide)) hab, hPc⟩ rfl (by rw [List.length_map]; omega) hsz hst9 hcat' hd ⟨hc, hsl⟩
      exact so_back (hr := hr) hlo kr kx
    · cases hok
  · -- a method that is written anew below
    rename_i ix cal9 n9 ci c0 w1 w2 w3 w4 w5 w6 w7 w8
    cases hlk
    split at hok
    · rename_i q hq
      simp only [Bool.and_eq_true, decide_eq_true_eq] at hok
      obtain ⟨⟨⟨⟨⟨⟨⟨⟨h1, h2⟩, h3⟩, h4⟩, h5⟩, h6⟩, h7⟩, h8⟩, h9⟩ := hok
      obtain ⟨g1, g2, g3⟩ := hcodg _ _ h1
      obtain ⟨g4, g5⟩ := np_len h2
      obtain ⟨hf1, hf2⟩ := hrm _ g2
      obtain ⟨a, As, b, rfl, hAs, hab, hka, hkc⟩ := hrcv (by decide)
      rw [List.map_cons, hab] at hPc
      have hst9 : (F0 m pc ls (((.ref a :: As).map (rv_ X)).reverse ++ rest.map (rv_ X))).stack = (As.map (rv_ X)).reverse ++ .ref b :: rest.map (rv_ X) := by
        rw [List.map_cons, hab, List.reverse_cons]; show _ ++ _ ++ _ = _; rw [List.append_assoc]; rfl
      have hdecl : va_Decl s (qq_y c0) := va_Decl.of (is_word hF h5 rfl (a' := args)) (is_word hF h6 rfl)
      have hr := vx_runU (x := qq_y c0) (owner := (qq_y c0).cls) (R := R) (p := p) (l := l) (e := e) (m := m) (c := c) (cc := cc) (s := s) (args := args) (below := below) (meth := meth) (H := H) (locs := locs) (cells := cells) (slots := slots) (C := q.1) (index := ix) (n := n9) (own := (qq_y mi).cls) hfix (hM g3) ⟨⟨rfl, rfl, hf1, hf2, one_word rfl g1, List.mem_singleton.mpr rfl⟩, g1, is_word hF h9 rfl, g4, g5, is_word hF h3 rfl, is_word hF h4 rfl, hdecl, is_word hF h7 rfl, is_word hF h8 rfl⟩ (b := b) (As := As.map (rv_ X)) ⟨hbl, hcel a ci0 b q hq (hkc (by decide)) hab, hPc⟩ rfl (by rw [List.length_map]; omega) hsz hst9 hcat' hd ⟨hc, hsl⟩
      exact so_back (hr := hr) hlo kr kx
    · cases hok
  · cases hok
end QIN
end
section
/-! THROWS (as the kit's vx_throw0, the heap's size told), SWITCHES, HANDLERS -/
section Ends
variable {p : Program} {l : Launch} {e : Env} {R : Room} {s : State} {m : MethodId} {args : Array Value} {below : List Frame} {meth : Method} {c : Code} {H : Heap} {locs : List Loc} {cells slots : Nat} {Q : State → Prop}
variable {mc ms : Nat} {free : Addr → Prop} {A0 A1 : Nat → Prop} {H0 : Heap} {a : Array Value} {ls : Array Slot} {st0 rest : List Value}
variable {Qc : Array Value → State → Outcome → State → Prop} {XC : String → State → State → Prop}
/-- 'throw new E()': new; dup; invokespecial; athrow -/
theorem qx_throw0 {cc : ByteArray} {pc : Nat} (hexec : p.tables.exec = Jvm.exec) (hb : c.code = cc) (hl : l.stackTraces = false) {own cls : String} {names : List String} {ik ic mc ms : Nat} {A : Nat → Prop}
    (hown : s.vm.findClass own = some m.cls) (hcls : Bundle.fit cls = true) (hnames : ∀ n ∈ names, Bundle.fit n = true)
    (hk : (Cond.classLink own ik cls).before args s = true) (hini : (Cond.initialized cls).before args s = true) (hat : ∀ w ∈ vx_at0 own ic cls names, w.before args s = true)
    (hgood : ∀ w ∈ Cond.classLink own ik cls :: Cond.initialized cls :: vx_at0 own ic cls names, vx_ot w = true)
    (hU : vx_Zq Bundle.tN "UNASSIGNED_STACK" Bundle.steD A s s.heap) (hN : vx_Zq Bundle.tN "SUPPRESSED_SENTINEL" Bundle.listD A s s.heap) (hS : va_S A s.heap H locs) (hsize : ls.size = c.maxLocals)
    (d0 : decode cc pc = .ok (.new ik, 3)) (d3 : decode cc (pc + 3) = .ok (.dup, 1)) (d4 : decode cc (pc + 4) = .ok (.invokespecial ic, 3)) (d7 : decode cc (pc + 7) = .ok (.athrow, 1))
    (hout : ∀ x ∈ c.exceptionTable.toList, covers x (pc + 7) = false)
    (hRframes : names.length + 3 < R.frames) (hRlocals : (rest.map fun v => v.category).sum + (13 * (names.length + 1) + 42) ≤ R.locals) (hRcells : cells + 1 ≤ R.cells) (hRslots : slots + 6 ≤ R.slots) (hlocks : meth.locks = false)
    (hx : ∀ t : State, s.vm.Alike t.vm → t.heap.size = H.size + 1 → (∀ q : Nat, q < H.size → t.heap[q]? = H[q]?) → XC cls s t)
    (hf : ∀ z ∈ locs, free z.base) (hc : cells + 1 ≤ mc) (hs : slots + 6 ≤ ms) :
    W p l e R s m args below meth c H locs cells slots (vx_MQ below Qc XC args s mc ms free) (F0 m pc ls rest) := by
  intro T hT X
  have htr : e.platform.stackTraces = false := (show e.platform.stackTraces = l.stackTraces by rw [X.admits.platform]).trans hl
  have Y := vx_rebase X (R' := { frames := R.frames, locals := R.locals, cells := 1, slots := 6 }) (Nat.le_refl _) (Nat.le_refl _) hRcells hRslots
  obtain ⟨s', hA⟩ : ∃ z, z = (T.setVm s.vm).setFrames (.invoking m args :: below) := ⟨_, rfl⟩
  rw [← hA] at Y
  have hvm : s'.vm = s.vm := by rw [hA]; rfl
  have hhp : s'.heap = H := by rw [hA]; exact hT
  have hW0 : s.WarmedH s'.vm := by rw [hvm]; exact State.WarmedH.refl s
  have hat' : ∀ w ∈ vx_at0 own ic cls names, w.before args s' = true := fun w hw => vx_ot_at hW0 hvm.symm (hgood w (List.mem_cons_of_mem _ (List.mem_cons_of_mem _ hw))) (hat w hw)
  have hk' : (Cond.classLink own ik cls).before args s' = true := vx_ot_at hW0 hvm.symm (hgood _ List.mem_cons_self) hk
  have hini' : (Cond.initialized cls).before args s' = true := vx_ot_at hW0 hvm.symm (hgood _ (List.mem_cons_of_mem _ List.mem_cons_self)) hini
  have hU' : vx_Zq Bundle.tN "UNASSIGNED_STACK" Bundle.steD A s' s'.heap := by rw [hhp]; exact vx_Zq.moved hW0.alike (hU.kept hS.2.1)
  have hN' : vx_Zq Bundle.tN "SUPPRESSED_SENTINEL" Bundle.listD A s' s'.heap := by rw [hhp]; exact vx_Zq.moved hW0.alike (hN.kept hS.2.1)
  have h : ∀ w ∈ Bundle.ownAtoms0 own ic cls names, w.before args s' = true := vx_own hat' (vx_isRefq hU'.1) (vx_isRefq hN'.1) hU'.2.word hN'.2.word
  have hown' : s'.vm.findClass own = some m.cls := by rw [hvm]; exact hown
  have hins : (Cond.instantiable cls 6).before args s' = true := h _ (by simp [Bundle.ownAtoms0])
  obtain ⟨vm₁, cX, kX, hfX, hkX, -, -, X₁, st1⟩ := Y.newCold hexec (own := own) (C := cls) (index := ik) (n := 6) hown' hk' hins hini'
    (g := F0 m pc ls rest) rfl (by rw [hb]; exact d0) (Nat.le_refl _) (Nat.le_refl _)
  generalize hT1 : (T.setVm vm₁).pushCell { cls := cX, slots := kX.instanceTypes.map defaultValue, vm := .none } = T1 at X₁ st1
  have hcat : (Value.ref T.heap.size).category = 1 := rfl
  have hcellA : T1.heap[T.heap.size]? = some (freshCell cX kX) := by rw [← hT1]; exact State.heap_pushCell_size _ _
  have d3' : decode c.code (pc + 3) = .ok (.dup, 1) := by rw [hb]; exact d3
  obtain ⟨U, hsteps, hrun, hend, hW, hsame, ce, hce, hO⟩ := X₁.ctorThrow0 hexec htr (own := own) (cls := cls) (names := names) (ic := ic) hown' hcls hnames h (fun x hx => nomatch hx) hfX hkX hcellA (by rw [hhp, hT]; exact Nat.le_refl _)
    (g := { method := m, pc := pc + 4, locals := ls, stack := .ref T.heap.size :: .ref T.heap.size :: rest, locked := none }) rfl hsize rfl rfl (rest := rest) rfl
    (by rw [hb]; exact d4) (by rw [hb]; exact d7) hout hRframes (by simp only [List.map_cons, List.sum_cons, hcat]; omega) hlocks
  obtain ⟨f1, f2⟩ := vx_frame hsame
  rw [hhp] at f1 f2
  have hWs : s.WarmedH U.vm := State.WarmedH.trans hW0 hW
  have hcl : s.vm.findClass cls = some ce.cls := by
    have h9 := hO.cls
    rw [hvm] at h9
    exact h9
  have hall : s.sameButNew ({ U with vm := s.vm } : State) locs mc ms := by
    subst hA
    obtain ⟨e1, e2⟩ := hsame
    rw [State.setFrames_setFrames] at e1
    have h2 : (T.setVm s.vm).sameButNew ({ U with vm := s.vm } : State) [] (0 + 1) (0 + 6) := ⟨e1, e2⟩
    have h3 := X.same.trans h2
    rw [List.append_nil] at h3
    exact h3.mono hc hs
  have hsz9 : U.heap.size = H.size + 1 := by
    have g1 : T.heap.size < U.heap.size := (Array.getElem?_eq_some_iff.mp hce).1
    have g2 : U.heap.size ≤ s'.heap.size + 1 := by
      have := hsame.2.2.1
      omega
    rw [hT] at g1
    rw [hhp] at g2
    omega
  refine ⟨U, ?_, .threw T.heap.size, hrun, hend, Or.inr ⟨T.heap.size, rfl, cls, ce, locs, hx U hWs.alike hsz9 (fun q hq => f2 q hq (fun z hz => nomatch hz)), hce, hO.vm, hcl, hWs, hall, hf⟩⟩
  refine st1 _ ?_
  show Steps p.tables e below (T1.setTop { method := m, pc := pc + 3, locals := ls, stack := .ref T.heap.size :: rest, locked := none }) _
  jvm_step X₁.here [X₁.here.top, hexec, d3', Value.category]
  exact hsteps
end Ends
def qq_bo : Instr → Int
  | .ifCond _ o => o
  | .if_icmp _ o => o
  | .goto o => o
  | .ifnull o => o
  | .ifnonnull o => o
  | _ => 0
section QLF
variable {p : Program} {l : Launch} {e : Env} {R : Room} {s : State} {m : MethodId} {args : Array Value} {below : List Frame} {meth : Method} {c : Code} {H : Heap} {locs : List Loc} {cells slots : Nat} {Q : State → Prop}
variable {cc : ByteArray} {pc : Nat} {ls : Array Slot} {rest : List Value} {X : qq_X} {σ : qq_S}
/-- a branch -/
theorem so_br (hx : p.tables.exec = Jvm.exec) (hb : c.code = cc) (h0 : ro_ X 0 = none) (hn0 : ∀ a : Nat, a ≠ 0 → a ≠ 2 → ∃ q, ro_ X a = some q) {i : Instr} {o : Int} {st st' : List Value} {b : Bool} {tgt : Nat} (hs : qq_br i st = some (b, st')) (ho : qq_bo i = o)
    (hd : decode cc pc = .ok (i, 3)) (ht : (pc : Int) + o = (tgt : Int))
    (k : W p l e R s m args below meth c H locs cells slots Q (F0 m (if b then tgt else pc + 3) ls (st'.map (rv_ X)))) : W p l e R s m args below meth c H locs cells slots Q (F0 m pc ls (st.map (rv_ X))) := by
  have href : ∀ a : Nat, a ≠ 2 → (a = 0 ∧ rv_ X (.ref a) = .null) ∨ (a ≠ 0 ∧ ∃ q, rv_ X (.ref a) = .ref q) := by
    intro a ha
    by_cases h : a = 0
    · left; subst h; exact ⟨rfl, by simp only [rv_, h0]; rfl⟩
    · right
      obtain ⟨q, hq⟩ := hn0 a h ha
      exact ⟨h, q, by simp only [rv_, hq]; rfl⟩
  unfold qq_br at hs
  split at hs
  · cases hs; subst ho; simp only [qq_bo] at ht; exact so_c0 hx hb hd ht k
  · cases hs; subst ho; simp only [qq_bo] at ht; exact so_c2 hx hb hd ht k
  · cases hs; subst ho; simp only [qq_bo] at ht; exact lv_goto hx hb hd ht k
  · split at hs
    · cases hs
    · rename_i ha
      cases hs; subst ho; simp only [qq_bo] at ht
      rw [List.map_cons]
      rcases href _ ha with ⟨h1, h2⟩ | ⟨h1, q, h2⟩ <;> rw [h2]
      · rw [decide_eq_true h1] at k; exact lv_ifnullN hx hb hd ht k
      · rw [decide_eq_false h1] at k; exact lv_ifnull hx hb hd k
  · split at hs
    · cases hs
    · rename_i ha
      cases hs; subst ho; simp only [qq_bo] at ht
      rw [List.map_cons]
      rcases href _ ha with ⟨h1, h2⟩ | ⟨h1, q, h2⟩ <;> rw [h2]
      · rw [decide_eq_false (fun z => z h1)] at k; exact lv_ifnonnullN hx hb hd k
      · rw [decide_eq_true h1] at k; exact lv_ifnonnull hx hb hd ht k
  · cases hs
/-- the offsets of a switch, the default first -/
def qq_so (i : Instr) : List Int := match i with
  | .tableswitch d _ _ os => d :: os.toList
  | .lookupswitch d ps => d :: ps.toList.map (·.2)
  | _ => []
def qq_sg (i : Instr) : Bool := match i with
  | .tableswitch _ lo hi os => decide (lo ≤ hi) && decide (os.size = (hi - lo).toNat + 1)
  | .lookupswitch _ ps => (ps.toList.zip (ps.toList.drop 1)).all (fun (a, next) => a.1 < next.1)
  | _ => false
theorem lk_off : ∀ (ps : List (Int × Int)) (d x : Int) (k : Nat), (match ps.findIdx? (fun p => p.1 == x) with | some i => i + 1 | none => 0) = k → (d :: ps.map (·.2))[k]? = some (Op.lookupswitch.offset ps d x) := by
  intro ps
  induction ps with
  | nil => intro d x k hk; subst hk; rfl
  | cons q ps ih =>
    intro d x k hk
    obtain ⟨a, o⟩ := q
    rw [Op.lookupswitch.offset_cons]
    rw [List.findIdx?_cons] at hk
    by_cases ha : a = x
    · rw [if_pos ha]
      rw [if_pos (by simpa using ha)] at hk
      subst hk; rfl
    · rw [if_neg ha]
      rw [if_neg (by simpa using ha)] at hk
      cases hf : ps.findIdx? (fun p => p.1 == x) with
      | none =>
        rw [hf] at hk
        subst hk
        exact ih d x 0 (by rw [hf])
      | some i =>
        rw [hf] at hk
        subst hk
        have h1 := ih d x (i + 1) (by rw [hf])
        rw [List.getElem?_cons_succ] at h1
        exact h1
theorem so_sw (hx : p.tables.exec = Jvm.exec) (hb : c.code = cc) {i : Instr} {n : Nat} {x : Int32} {k0 : Nat} {off : Int} {tgt : Nat} (hs : qq_sw i x = some k0) (hg : qq_sg i = true) (ho : (qq_so i)[k0]? = some off)
    (hd : decode cc pc = .ok (i, n)) (ht : (pc : Int) + off = (tgt : Int))
    (k : W p l e R s m args below meth c H locs cells slots Q (F0 m tgt ls rest)) : W p l e R s m args below meth c H locs cells slots Q (F0 m pc ls (.int x :: rest)) := by
  unfold qq_sw at hs
  split at hs
  · rename_i d lo hi os
    cases hs
    simp only [qq_sg, Bool.and_eq_true, decide_eq_true_eq] at hg
    by_cases h : x.toInt < lo ∨ hi < x.toInt
    · rw [if_pos h] at ho
      cases ho
      exact lv_tableOut hx hb hd h ht k
    · rw [if_neg h] at ho
      refine lv_tableIn hx hb hd (fun q => h (Or.inl q)) (fun q => h (Or.inr q)) (off := off) ?_ ht k
      simp only [qq_so, List.getElem?_cons_succ] at ho
      rw [← Array.getElem?_toList]
      exact ho
  · rename_i d ps
    have hk := Option.some.inj hs
    have h1 := lk_off ps.toList d x.toInt k0 hk
    simp only [qq_so] at ho
    rw [h1] at ho
    exact lv_lookup hx hb hd hg (Option.some.inj ho) ht k
  · cases hs
/-- an exception put away: the local is unknown then -/
theorem so_away (hx : p.tables.exec = Jvm.exec) (hb : c.code = cc) {i : Instr} {k0 : Nat} {q : Addr} {al : List (Option Value)} (hs : qq_sti i = some (k0, 4)) (hk : k0 < al.length) (hL : qq_Lr X al ls) (hd : decode cc pc = .ok (i, qq_len i))
    (k : ∀ ls' : Array Slot, qq_Lr X ((qq_set al k0 (.ref 0)).set k0 none) ls' → W p l e R s m args below meth c H locs cells slots Q (F0 m (pc + qq_len i) ls' rest)) : W p l e R s m args below meth c H locs cells slots Q (F0 m pc ls (.ref q :: rest)) := by
  have hh := Lr_has hL
  have key : ∀ ls' : Array Slot, lv_has ls' al.length ((k0, Value.ref q) :: (qq_lv X al).filter (fun q => !(q.1 == k0) && !(q.1 + 1 == k0 && q.2.category == 2))) → qq_Lr X ((qq_set al k0 (.ref 0)).set k0 none) ls' := by
    intro ls' h
    refine ⟨by rw [List.length_set, qq_set_len, h.1], h.2.1, fun j w hw => ?_⟩
    rw [List.getElem?_set] at hw
    split at hw
    · split at hw <;> cases hw
    · rename_i hjk
      rcases qq_set_get hw with ⟨rfl, rfl⟩ | ⟨h1, h2, -, h4⟩
      · exact absurd rfl hjk
      · refine h.2.2 (j, rv_ X w) (List.mem_cons_of_mem _ (List.mem_filter.mpr ⟨qq_lv_mem h2, ?_⟩))
        simp only [Bool.and_eq_true, Bool.not_eq_true', beq_eq_false_iff_ne, Bool.and_eq_false_iff, rv_cat]
        refine ⟨h1, ?_⟩
        by_cases hji : j + 1 = k0
        · exact Or.inr (h4 hji)
        · exact Or.inl hji
  unfold qq_sti at hs
  split at hs <;> cases hs
  · exact lv_astore_n hx hb hd rfl hh hk rfl (fun ls' h => k ls' (key ls' h))
  · exact lv_astore hx hb hd hh hk rfl (fun ls' h => k ls' (key ls' h))
end QLF
end
section
/-! THE CHECK OF A METHOD'S TABLE, AND FRAMES BY FUEL -/
def qq_cv (m j pc : Nat) : Bool := (qq_hn m).length == (qq_hh m).length && ((qq_hn m).zip (qq_hh m)).all (fun q => decide (covers ⟨q.2.1, q.2.2.1, q.2.2.2.1, q.2.2.2.2⟩ pc = decide (q.1.1 ≤ j ∧ j < q.1.2.1)))
def qq_has (w : Jvm.Cond) : Bool := qq_tbl.any (fun v => decide (v = w))
/-- what a throw's words ask -/
def qq_xw (q : String × Nat × Nat × List String) : Bool :=
  (Cond.classLink "StatueChancery" q.2.1 q.1 :: Cond.initialized q.1 :: vx_at0 "StatueChancery" q.2.2.1 q.1 q.2.2.2).all (fun w => vx_ot w && qq_has w && (goodWord w || nestW w)) && Bundle.fit q.1 && q.2.2.2.all Bundle.fit && decide (q.2.2.2.length = 2)
def qq_okp (m j : Nat) (e : qq_E) : Bool :=
  match qq_grp e.2.1 e.2.2.2 with
  | 6 => (match e.2.2.2 with | [t] => decide ((e.1 : Int) + qq_bo e.2.1 = (qq_pc m t : Int)) && decide (e.2.2.1 = 3) && ((match e.2.1 with | .goto _ => true | _ => false) || decide (qq_pc m (j + 1) = e.1 + 3)) | _ => true)
  | 7 => qq_sg e.2.1 && decide ((qq_so e.2.1).length = e.2.2.2.length) && ((qq_so e.2.1).zip e.2.2.2).all (fun q => decide ((e.1 : Int) + q.1 = (qq_pc m q.2 : Int)))
  | 9 => qq_ok9 m e.2.1 e.2.2.2 && decide (e.2.2.1 = qq_len e.2.1) && decide (qq_pc m (j + 1) = e.1 + e.2.2.1)
  | 10 => (match e.2.2.2 with | 99 :: _ => true | _ => qq_okc m e.2.1 e.2.2.2 && decide (e.2.2.1 = 3) && decide (qq_pc m (j + 1) = e.1 + e.2.2.1) && qq_cv m j e.1)
  | 11 => decide (e.2.2.1 = 1)
  | 12 => (match e.2.2.2, e.2.1 with
    | [1, x, _], .new ik => (match qq_ex[x]? with
      | some q => decide ((qq_y m).cls = "StatueChancery") && decide (ik = q.2.1) && decide (e.2.2.1 = 3) && (match qq_T m (j + 1), qq_T m (j + 2), qq_T m (j + 3) with
        | some e1, some e2, some e3 => decide (e1.1 = e.1 + 3) && decide (e1.2.1 = .dup) && decide (e1.2.2.1 = 1) && decide (e2.1 = e.1 + 4) && decide (e2.2.1 = .invokespecial q.2.2.1) && decide (e2.2.2.1 = 3) && decide (e3.1 = e.1 + 7) && decide (e3.2.1 = .athrow) && decide (e3.2.2.1 = 1)
        | _, _, _ => false)
      | none => false)
    | _, _ => true)
  | 13 => true
  | _ => decide (e.2.2.1 = qq_len e.2.1) && decide (qq_pc m (j + 1) = e.1 + e.2.2.1)
def qq_ps : List qq_E → Nat → Bool
  | [], _ => true
  | e :: t, a => decide (e.1 = a) && qq_ps t (a + e.2.2.1)
def qq_ra (m : Nat) : List qq_E → Nat → Bool
  | [], _ => true
  | e :: t, j => qq_okp m j e && qq_ra m t (j + 1)
/-- the handlers' own rows and words -/
def qq_okh (m : Nat) : Bool := ((qq_hn m).zip (qq_hh m)).all (fun q => decide (q.2.2.2.2 ≠ 0) && (match qq_ex[q.1.2.2.1]? with
    | some x => qq_has (.classLink (qq_y m).cls q.2.2.2.2 x.1) && qq_has (.castable x.1 x.1)
    | none => false) && (match qq_T m q.1.2.2.2 with
    | some e => decide (e.1 = q.2.2.2.1) && decide (e.2.2.1 = qq_len e.2.1) && decide (qq_pc m (q.1.2.2.2 + 1) = e.1 + e.2.2.1) && (match qq_sti e.2.1 with | some (i, 4) => decide (i < qq_maxL m) | _ => false)
    | none => false))
def qq_okd (m : Nat) : Bool := Jvm.Free.DS.chk (qq_cd m).data.toList 0 ((qq_tab.getD m []).map (fun e => (e.2.1, e.2.2.1))) && decide (((qq_tab.getD m []).map (fun e => e.2.2.1)).sum ≤ (qq_cd m).size) && qq_ps (qq_tab.getD m []) 0 && decide (qq_maxL m ≤ 27) && plainName (qq_y m).cls && qq_okh m
def qq_okm (m : Nat) : Bool := qq_okd m && qq_ra m (qq_tab.getD m []) 0
theorem ps_dec {cc : ByteArray} : ∀ (L : List qq_E) (a : Nat), qq_ps L a = true → Jvm.Free.DS.Facts cc a (L.map (fun e => (e.2.1, e.2.2.1))) → ∀ (j : Nat) (e : qq_E), L[j]? = some e → decode cc e.1 = .ok (e.2.1, e.2.2.1) := by
  intro L
  induction L with
  | nil => intro a _ _ j e h; cases h
  | cons e0 L ih =>
    intro a hp hf j e h
    simp only [qq_ps, Bool.and_eq_true, decide_eq_true_eq] at hp
    obtain ⟨hf1, hf2⟩ := hf
    cases j with
    | zero =>
      cases h
      rw [hp.1]; exact hf1
    | succ j => exact ih _ hp.2 hf2 j e h
theorem ra_at {m : Nat} : ∀ (L : List qq_E) (a : Nat), qq_ra m L a = true → ∀ (j : Nat) (e : qq_E), L[j]? = some e → qq_okp m (a + j) e = true := by
  intro L
  induction L with
  | nil => intro a _ j e h; cases h
  | cons e0 L ih =>
    intro a hp j e h
    simp only [qq_ra, Bool.and_eq_true] at hp
    cases j with
    | zero => cases h; exact hp.1
    | succ j =>
      have h2 := ih (a + 1) hp.2 j e h
      rw [show a + (j + 1) = a + 1 + j by omega]
      exact h2
/-- what the check says of a method -/
def qq_Ok (m : Nat) : Prop := (∀ (j : Nat) (e : qq_E), qq_T m j = some e → decode (qq_cd m) e.1 = .ok (e.2.1, e.2.2.1) ∧ qq_okp m j e = true) ∧ qq_maxL m ≤ 27 ∧ plainName (qq_y m).cls = true ∧ qq_okh m = true
theorem okm_Ok {m : Nat} (h : qq_okm m = true) : qq_Ok m := by
  simp only [qq_okm, qq_okd, Bool.and_eq_true, decide_eq_true_eq] at h
  obtain ⟨⟨⟨⟨⟨⟨h1, h2⟩, h3⟩, h4⟩, h5⟩, h6⟩, h7⟩ := h
  refine ⟨fun j e he => ⟨?_, ?_⟩, h4, h5, h6⟩
  · refine ps_dec _ 0 h3 (Jvm.Free.DS.facts 0 _ ?_ ?_) j e he
    · rw [List.drop_zero]; exact h1
    · rw [List.map_map]
      show 0 + (List.map (fun e : qq_E => e.2.2.1) _).sum ≤ _
      omega
  · have := ra_at _ 0 h7 j e he
    rw [Nat.zero_add] at this
    exact this
theorem step_grow {m j : Nat} {e : qq_E} {al : List (Option Value)} {st : List Value} {σ σ' : qq_S} {j' : Nat} {al' : List (Option Value)} {st' : List Value} (h : qq_step m e j al st σ = some (.inl (j', al', st', σ'))) : sz_S σ ≤ sz_S σ' ∧ su_S σ ≤ su_S σ' := by
  unfold qq_step at h
  split at h
  · split at h <;> cases h; exact ⟨Nat.le_refl _, Nat.le_refl _⟩
  · split at h
    · split at h
      · split at h <;> cases h; exact ⟨Nat.le_refl _, Nat.le_refl _⟩
      · cases h
    · cases h
  · split at h
    · split at h <;> cases h; exact ⟨Nat.le_refl _, Nat.le_refl _⟩
    · cases h
  · split at h
    · split at h <;> cases h; exact ⟨Nat.le_refl _, Nat.le_refl _⟩
    · cases h
  · split at h
    · split at h <;> cases h; exact ⟨Nat.le_refl _, Nat.le_refl _⟩
    · cases h
  · split at h <;> cases h; exact ⟨Nat.le_refl _, Nat.le_refl _⟩
  · split at h <;> cases h; exact ⟨Nat.le_refl _, Nat.le_refl _⟩
  · split at h
    · split at h
      · split at h <;> cases h; exact ⟨Nat.le_refl _, Nat.le_refl _⟩
      · cases h
    · cases h
  · split at h
    · split at h <;> cases h; exact ⟨Nat.le_refl _, Nat.le_refl _⟩
    · cases h
  · split at h
    · rename_i hs; cases h; exact hp_grow hs
    · cases h
  · split at h <;> cases h
  · split at h <;> cases h
  · split at h
    · split at h <;> cases h
    · cases h
  · cases h
theorem run_grow : ∀ (n d m j : Nat) (al : List (Option Value)) (st : List Value) (σ : qq_S) (o : qq_O) (σf : qq_S), qq_run n d m j al st σ = some (o, σf) → sz_S σ ≤ sz_S σf ∧ su_S σ ≤ su_S σf := by
  intro n
  induction n with
  | zero => intro d m j al st σ o σf h; simp [qq_run] at h
  | succ n ih =>
    intro d m j al st σ o σf h
    rw [qq_run] at h
    split at h
    · cases h
    · rename_i e he
      split at h
      · cases h
      · rename_i j' ls' st' σ' hs
        obtain ⟨g1, g2⟩ := step_grow hs
        obtain ⟨g3, g4⟩ := ih _ _ _ _ _ _ _ _ h
        exact ⟨Nat.le_trans g1 g3, Nat.le_trans g2 g4⟩
      · rename_i c args rest hs
        split at h
        · cases h
        · rename_i d'
          split at h
          · cases h
          · rename_i v σ' hr
            obtain ⟨g1, g2⟩ := ih _ _ _ _ _ _ _ _ hr
            obtain ⟨g3, g4⟩ := ih _ _ _ _ _ _ _ _ h
            exact ⟨Nat.le_trans g1 g3, Nat.le_trans g2 g4⟩
          · rename_i x σ' hr
            obtain ⟨g1, g2⟩ := ih _ _ _ _ _ _ _ _ hr
            split at h
            · cases h; exact ⟨g1, g2⟩
            · split at h
              · cases h
              · obtain ⟨g3, g4⟩ := ih _ _ _ _ _ _ _ _ h
                exact ⟨Nat.le_trans g1 g3, Nat.le_trans g2 g4⟩
      · cases h; exact ⟨Nat.le_refl _, Nat.le_refl _⟩
      · cases h; exact ⟨Nat.le_add_right _ _, Nat.le_add_right _ _⟩
end
section
/-! THE ABSTRACT RUN IS SOUND: a method's frame goes as the run does, by fuel -/
theorem rc_split (a b c : Nat) {P : Nat → Prop} (h1 : ∀ m, a ≤ m → m < b → P m) (h2 : ∀ m, b ≤ m → m < c → P m) : ∀ m, a ≤ m → m < c → P m := fun m q1 q2 => (Nat.lt_or_ge m b).elim (fun q => h1 m q1 q) (fun q => h2 m q q2)
theorem rc_one (a : Nat) {P : Nat → Prop} (h : P a) : ∀ m, a ≤ m → m < a + 1 → P m := fun m q1 q2 => by
  have : m = a := by omega
  rw [this]; exact h
theorem han_split {α : Type} {f : Nat × Nat × Nat × Nat → Option α} {r : α} : ∀ (L1 L2 : List (Nat × Nat × Nat × Nat)), L1.length = L2.length → L1.findSome? f = some r →
    ∃ (pre : List ExceptionTableEntry) (x : ExceptionTableEntry) (suf : List ExceptionTableEntry) (h0 : Nat × Nat × Nat × Nat), tableOf L2 = pre ++ x :: suf ∧ (h0, (x.startPc, x.endPc, x.handlerPc, x.catchType)) ∈ L1.zip L2 ∧ f h0 = some r ∧
      ∀ z ∈ pre, ∃ h1, (h1, (z.startPc, z.endPc, z.handlerPc, z.catchType)) ∈ L1.zip L2 ∧ f h1 = none := by
  intro L1
  induction L1 with
  | nil => intro L2 _ h; cases h
  | cons a L1 ih =>
    intro L2 hl h
    cases L2 with
    | nil => cases hl
    | cons b L2 =>
      rw [List.findSome?_cons] at h
      cases hf : f a with
      | some w =>
        rw [hf] at h
        cases h
        exact ⟨[], ⟨b.1, b.2.1, b.2.2.1, b.2.2.2⟩, tableOf L2, a, rfl, List.mem_cons_self, hf, fun z hz => nomatch hz⟩
      | none =>
        rw [hf] at h
        obtain ⟨pre, x, suf, h0, e1, e2, e3, e4⟩ := ih L2 (Nat.succ.inj hl) h
        refine ⟨⟨b.1, b.2.1, b.2.2.1, b.2.2.2⟩ :: pre, x, suf, h0, ?_, List.mem_cons_of_mem _ e2, e3, fun z hz => ?_⟩
        · show _ :: tableOf L2 = _
          rw [e1]; rfl
        · rcases List.mem_cons.mp hz with rfl | hz
          · exact ⟨a, List.mem_cons_self, hf⟩
          · obtain ⟨h1, g1, g2⟩ := e4 z hz
            exact ⟨h1, List.mem_cons_of_mem _ g1, g2⟩
theorem has_word {X : qq_X} {U : State} (hF : qq_Fx X U) {w : Jvm.Cond} (h : qq_has w = true) (hg : goodWord w = true ∨ nestW w = true) {a' : Array Value} : w.before a' U = true := by
  simp only [qq_has, List.any_eq_true, decide_eq_true_eq] at h
  obtain ⟨v, hv, rfl⟩ := h
  obtain ⟨i, hi⟩ := List.getElem?_of_mem hv
  rcases hg with hg | hg
  · exact Fx_word hF hi hg
  · have h9 := Fx_nw hF hi hg
    cases v <;> first | exact va_Nw.use rfl h9 | exact h9 | cases hg
theorem set_len {m : Nat} {e : qq_E} {j : Nat} {al : List (Option Value)} {st : List Value} {σ σ' : qq_S} {j' : Nat} {al' : List (Option Value)} {st' : List Value} (h : qq_step m e j al st σ = some (.inl (j', al', st', σ'))) : al'.length = al.length := by
  unfold qq_step at h
  split at h
  · split at h <;> cases h; rfl
  · split at h
    · split at h
      · split at h <;> cases h; rfl
      · cases h
    · cases h
  · split at h
    · split at h <;> cases h; exact qq_set_len _ _ _
    · cases h
  · split at h
    · split at h <;> cases h; rfl
    · cases h
  · split at h
    · split at h <;> cases h; rfl
    · cases h
  · split at h <;> cases h; rfl
  · split at h <;> cases h; rfl
  · split at h
    · split at h
      · split at h <;> cases h; rfl
      · cases h
    · cases h
  · split at h
    · split at h <;> cases h; exact qq_set_len _ _ _
    · cases h
  · split at h
    · cases h; rfl
    · cases h
  · split at h <;> cases h
  · split at h <;> cases h
  · split at h
    · split at h <;> cases h
    · cases h
  · cases h
theorem step_call {m : Nat} {e : qq_E} {j : Nat} {al : List (Option Value)} {st : List Value} {σ : qq_S} {c : Nat × List Value × List Value} (h : qq_step m e j al st σ = some (.inr (.inl c))) : qq_grp e.2.1 e.2.2.2 = 10 ∧ qq_cal e.2.1 e.2.2.2 st σ = some c := by
  unfold qq_step at h
  split at h
  · split at h <;> cases h
  · split at h
    · split at h
      · split at h <;> cases h
      · cases h
    · cases h
  · split at h
    · split at h <;> cases h
    · cases h
  · split at h
    · split at h <;> cases h
    · cases h
  · split at h
    · split at h <;> cases h
    · cases h
  · split at h <;> cases h
  · split at h <;> cases h
  · split at h
    · split at h
      · split at h <;> cases h
      · cases h
    · cases h
  · split at h
    · split at h <;> cases h
    · cases h
  · split at h <;> cases h
  · rename_i hg
    split at h
    · rename_i c9 hc9
      cases h
      exact ⟨hg, hc9⟩
    · cases h
  · split at h <;> cases h
  · split at h
    · split at h <;> cases h
    · cases h
  · cases h
theorem step_ret {m : Nat} {e : qq_E} {j : Nat} {al : List (Option Value)} {st : List Value} {σ : qq_S} {v : Option Value} (h : qq_step m e j al st σ = some (.inr (.inr (.inl v)))) : qq_grp e.2.1 e.2.2.2 = 11 ∧ qq_rt m e.2.1 st = some v := by
  unfold qq_step at h
  split at h
  · split at h <;> cases h
  · split at h
    · split at h
      · split at h <;> cases h
      · cases h
    · cases h
  · split at h
    · split at h <;> cases h
    · cases h
  · split at h
    · split at h <;> cases h
    · cases h
  · split at h
    · split at h <;> cases h
    · cases h
  · split at h <;> cases h
  · split at h <;> cases h
  · split at h
    · split at h
      · split at h <;> cases h
      · cases h
    · cases h
  · split at h
    · split at h <;> cases h
    · cases h
  · split at h <;> cases h
  · split at h <;> cases h
  · rename_i hg
    split at h
    · rename_i c9 hc9
      cases h
      exact ⟨hg, hc9⟩
    · cases h
  · split at h
    · split at h <;> cases h
    · cases h
  · cases h
theorem step_thr {m : Nat} {e : qq_E} {j : Nat} {al : List (Option Value)} {st : List Value} {σ : qq_S} {x : Nat} (h : qq_step m e j al st σ = some (.inr (.inr (.inr x)))) : qq_grp e.2.1 e.2.2.2 = 12 ∧ (∃ w, e.2.2.2 = [1, x, w]) ∧ (st.map fun v => v.category).sum ≤ 8 ∧ qq_hn m = [] := by
  unfold qq_step at h
  split at h
  · split at h <;> cases h
  · split at h
    · split at h
      · split at h <;> cases h
      · cases h
    · cases h
  · split at h
    · split at h <;> cases h
    · cases h
  · split at h
    · split at h <;> cases h
    · cases h
  · split at h
    · split at h <;> cases h
    · cases h
  · split at h <;> cases h
  · split at h <;> cases h
  · split at h
    · split at h
      · split at h <;> cases h
      · cases h
    · cases h
  · split at h
    · split at h <;> cases h
    · cases h
  · split at h <;> cases h
  · split at h <;> cases h
  · split at h <;> cases h
  · rename_i hg
    split at h
    · rename_i x9 w9 hl
      split at h
      · rename_i hq
        cases h
        exact ⟨hg, ⟨w9, hl⟩, hq.1, hq.2⟩
      · cases h
    · cases h
  · cases h
theorem run_hn : ∀ (n d m j : Nat) (al : List (Option Value)) (st : List Value) (σ : qq_S) (o : qq_O) (σf : qq_S), qq_run n d m j al st σ = some (o, σf) → qq_hn m ≠ [] → ∃ v, o = .inl v := by
  intro n
  induction n with
  | zero => intro d m j al st σ o σf h; simp [qq_run] at h
  | succ n ih =>
    intro d m j al st σ o σf h hh
    rw [qq_run] at h
    split at h
    · cases h
    · split at h
      · cases h
      · exact ih _ _ _ _ _ _ _ _ h hh
      · split at h
        · cases h
        · split at h
          · cases h
          · exact ih _ _ _ _ _ _ _ _ h hh
          · split at h
            · rename_i h9; exact absurd h9 hh
            · split at h
              · cases h
              · exact ih _ _ _ _ _ _ _ _ h hh
      · cases h; exact ⟨_, rfl⟩
      · rename_i hs
        exact absurd (step_thr hs).2.2.2 hh
theorem sl_lg (X : qq_X) : ∀ av : List Value, (lg_sl (av.map (rv_ X))).length = (qq_sl av).length ∧ ∀ (i : Nat) (v : Value), (qq_sl av)[i]? = some (some v) → (lg_sl (av.map (rv_ X)))[i]? = some (.val (rv_ X v)) := by
  intro av
  induction av with
  | nil => exact ⟨rfl, fun i v h => nomatch h⟩
  | cons a av ih =>
    obtain ⟨h1, h2⟩ := ih
    have e0 : lg_sl ((a :: av).map (rv_ X)) = (if (rv_ X a).category = 2 then [.val (rv_ X a), .second] else [.val (rv_ X a)]) ++ lg_sl (av.map (rv_ X)) := by
      simp only [lg_sl, List.map_cons, List.flatMap_cons]
    rw [e0, rv_cat]
    by_cases hc : a.category = 2
    · rw [if_pos hc]
      simp only [qq_sl, if_pos hc]
      refine ⟨by simp [h1], fun i v h => ?_⟩
      match i with
      | 0 => cases h; rfl
      | 1 => cases h
      | i + 2 => exact h2 i v h
    · rw [if_neg hc]
      simp only [qq_sl, if_neg hc]
      refine ⟨by simp [h1], fun i v h => ?_⟩
      match i with
      | 0 => cases h; rfl
      | i + 1 => exact h2 i v h
theorem Lr_ent (X : qq_X) {av : List Value} {n : Nat} (h : (qq_sl av).length ≤ n) : qq_Lr X (qq_ent n av) ((lg_sl (av.map (rv_ X)) ++ List.replicate (n - (lg_sl (av.map (rv_ X))).length) Slot.unset).toArray) := by
  obtain ⟨h1, h2⟩ := sl_lg X av
  have h3 := lv_entry (av.map (rv_ X)) (n := n) (by rw [h1]; exact h)
  refine ⟨h3.1.trans (by simp [qq_ent]; omega), h3.2.1, fun i v hv => ?_⟩
  simp only [qq_ent] at hv
  by_cases hi : i < (qq_sl av).length
  · rw [List.getElem?_append_left hi] at hv
    have h4 := h2 i v hv
    rw [List.getElem?_toArray, List.getElem?_append_left (by rw [h1]; exact hi)]
    exact h4
  · rw [List.getElem?_append_right (by omega), List.getElem?_replicate] at hv
    split at hv <;> cases hv
theorem grp_new {i : Instr} {lk : List Nat} (h : qq_grp i lk = 12) : ∃ ik, i = .new ik := by
  unfold qq_grp at h
  split at h <;> first | exact ⟨_, rfl⟩ | (exfalso; omega) | (split at h <;> (exfalso; omega))
section QSR
variable {p : Program} {l : Launch} {e : Env} {R : Room} {s : State} {m : MethodId} {args : Array Value} {below : List Frame} {meth : Method} {c : Code} {H : Heap} {locs : List Loc} {cells slots : Nat}
variable {cc : ByteArray} {pc : Nat} {ls : Array Slot} {X : qq_X} {σ : qq_S}
theorem so_ret (hx : p.tables.exec = Jvm.exec) (hb : c.code = cc) {mi : Nat} {i : Instr} {st : List Value} {v : Option Value} (hs : qq_rt mi i st = some v) (hr : meth.sig.returnType = qq_ret mi) (hlocks : meth.locks = false) (hP : qq_Hp X σ H) (hlo : ∀ z ∈ locs, xb_ X ≤ z.base) (hd : decode cc pc = .ok (i, 1)) :
    W p l e R s m args below meth c H locs cells slots (MQ below (qq_Qc X (.inl v) σ) args s cells slots (fun q : Nat => xb_ X ≤ q)) (F0 m pc ls (st.map (rv_ X))) := by
  have h4 : ∀ a : Nat, rv_ X (.ref a) = .null ∨ ∃ q, rv_ X (.ref a) = .ref q := by
    intro a
    simp only [rv_]
    cases ro_ X a with
    | none => exact Or.inl rfl
    | some q => exact Or.inr ⟨q, rfl⟩
  unfold qq_rt at hs
  split at hs
  · split at hs
    · rename_i x ty hty
      obtain ⟨h1, h2⟩ := qq_if_some hs
      cases h2
      exact W.zret hx hb (hr.trans hty) h1 (fun t ht hW => ⟨⟨_, rfl, rfl⟩, by rw [ht]; exact hP⟩) hlo hd hlocks
    · cases hs
  · obtain ⟨h1, h2⟩ := qq_if_some hs
    cases h2
    exact W.dret hx hb (hr.trans h1) (fun t ht hW => ⟨⟨_, rfl, rfl⟩, by rw [ht]; exact hP⟩) hlo hd hlocks
  · obtain ⟨h1, h2⟩ := qq_if_some hs
    cases h2
    exact W.fret hx hb (hr.trans h1) (fun t ht hW => ⟨⟨_, rfl, rfl⟩, by rw [ht]; exact hP⟩) hlo hd hlocks
  · split at hs
    · rename_i a x C hC
      cases hs
      exact W.aret hx hb (hr.trans hC) (Or.inl ⟨_, rfl⟩) (h4 a) (fun t ht hW => ⟨⟨_, rfl, rfl⟩, by rw [ht]; exact hP⟩) hlo hd hlocks
    · rename_i a x C hC
      cases hs
      exact W.aret hx hb (hr.trans hC) (Or.inr ⟨_, rfl⟩) (h4 a) (fun t ht hW => ⟨⟨_, rfl, rfl⟩, by rw [ht]; exact hP⟩) hlo hd hlocks
    · cases hs
  · obtain ⟨h1, h2⟩ := qq_if_some hs
    cases h2
    exact W.vret hx hb (hr.trans h1) (fun t ht hW => ⟨⟨_, rfl, rfl⟩, by rw [ht]; exact hP⟩) hlo hd hlocks
  · cases hs
end QSR
section QSO
variable {l : Launch}
theorem so_frame (hst : l.stackTraces = false) (hxw : (qq_ex.all qq_xw) = true) (hlen : ∀ m, (qq_hn m).length = (qq_hh m).length) (hok : ∀ (m : Nat) (e : qq_E), qq_T m 0 = some e → qq_Ok m ∧ e.1 = 0) :
    ∀ (n d m j : Nat) (al : List (Option Value)) (st : List Value) (σ : qq_S) (o : qq_O) (σf : qq_S), qq_run n d m j al st σ = some (o, σf) → qq_Ok m →
    ∀ {p : Program} {e : Env} {R : Room} {s : State} {mm : MethodId} {args : Array Value} {below : List Frame} {meth : Method} {c : Code} {H : Heap} {locs : List Loc} {cells slots mc ms : Nat} {X : qq_X} {ls : Array Slot} {Q : State → Prop},
    p.tables.exec = Jvm.exec → c.code = qq_cd m → c.maxLocals = qq_maxL m → al.length = qq_maxL m → qq_Fx X s → (∃ σ0, qq_Hp X σ0 s.heap ∧ sz_S σ0 ≤ sz_S σ) → qq_Hp X σ H → (∀ z ∈ locs, xb_ X ≤ z.base) → s.vm.findClass (qq_y m).cls = some mm.cls → meth.name = (qq_y m).name → meth.locks = false →
    c.exceptionTable.toList = tableOf (qq_hh m) → qq_Lr X al ls → d + 8 ≤ R.frames → 46 * d + 110 ≤ R.locals → cells + (sz_S σf - sz_S σ) ≤ mc → mc ≤ R.cells → slots + (su_S σf - su_S σ) ≤ ms → ms ≤ R.slots →
    ((∃ (Qc : Array Value → State → Outcome → State → Prop), Q = vx_MQ below Qc (qq_XC X o σf) args s mc ms (fun q : Nat => xb_ X ≤ q)) ∨ ∀ x, o ≠ .inr x) →
    (∀ (v : Option Value) (i : Instr) (st' : List Value) (pc : Nat) (H' : Heap) (locs' : List Loc) (ls' : Array Slot), o = .inl v → qq_rt m i st' = some v → decode (qq_cd m) pc = .ok (i, 1) → qq_Hp X σf H' → (∀ z ∈ locs', xb_ X ≤ z.base) →
      W p l e R s mm args below meth c H' locs' mc ms Q (F0 mm pc ls' (st'.map (rv_ X)))) →
    W p l e R s mm args below meth c H locs cells slots Q (F0 mm (qq_pc m j) ls (st.map (rv_ X))) := by
  intro n
  induction n with
  | zero => intro d m j al st σ o σf h; simp [qq_run] at h
  | succ n ih =>
    intro d m j al st σ o σf hrun hokm p e R s mm args below meth c H locs cells slots mc ms X ls Q hx hb hml hal hF hs0 hP hlo hown hname hlocks htab hL hfr hlc hc hmc hs hms hQ hret
    obtain ⟨hgrow1, hgrow2⟩ := run_grow _ _ _ _ _ _ _ _ _ hrun
    rw [qq_run] at hrun
    split at hrun
    · cases hrun
    rename_i en hen
    obtain ⟨hdec, hokp⟩ := hokm.1 j en hen
    have hpcj : qq_pc m j = en.1 := by simp only [qq_pc, hen]
    rw [hpcj]
    have h0 : ro_ X 0 = none := by rw [ro_con (by decide)]; exact hF.2.2.2.2.2.2.2.2.2.2.1
    have hn0 : ∀ a : Nat, a ≠ 0 → a ≠ 2 → ∃ q, ro_ X a = some q := by
      intro a g1 g2
      by_cases hK : a < qq_K0
      · rw [ro_con hK]; exact hF.2.2.2.2.2.2.2.2.2.2.2 a g1 g2 hK
      · exact ⟨_, ro_own (by omega)⟩
    have hsz : ls.size = c.maxLocals := by rw [hml, ← hal]; exact hL.1
    split at hrun
    · cases hrun
    · -- goes on
      rename_i j' ls' st' σ' hstep
      obtain ⟨g1, g2⟩ := step_grow hstep
      obtain ⟨g3, g4⟩ := run_grow _ _ _ _ _ _ _ _ _ hrun
      have hlen' := set_len hstep
      have go : ∀ (H' : Heap) (locs' : List Loc) (lsn : Array Slot) (pc' : Nat), qq_pc m j' = pc' → qq_Hp X σ' H' → (∀ z ∈ locs', xb_ X ≤ z.base) → qq_Lr X ls' lsn → W p l e R s mm args below meth c H' locs' (cells + (sz_S σ' - sz_S σ)) (slots + (su_S σ' - su_S σ)) Q (F0 mm pc' lsn (st'.map (rv_ X))) := by
        intro H' locs' lsn pc' hpc hP' hlo' hL'
        rw [← hpc]
        refine ih d m j' ls' st' σ' o σf hrun hokm hx hb hml (hlen'.trans hal) hF ?_ hP' hlo' hown hname hlocks htab hL' hfr hlc (by omega) hmc (by omega) hms hQ hret
        obtain ⟨σ0, q1, q2⟩ := hs0
        exact ⟨σ0, q1, Nat.le_trans q2 g1⟩
      clear ih hret hQ
      unfold qq_step at hstep
      split at hstep
      · rename_i hg
        simp only [qq_okp, hg, Bool.and_eq_true, decide_eq_true_eq] at hokp
        rw [hokp.1] at hdec hokp
        split at hstep
        · rename_i v hv
          cases hstep
          exact so_cst hx hb hv h0 hdec (k_same rfl rfl (go H locs ls _ hokp.2 hP hlo hL))
        · cases hstep
      · rename_i hg
        simp only [qq_okp, hg, Bool.and_eq_true, decide_eq_true_eq] at hokp
        rw [hokp.1] at hdec hokp
        split at hstep
        · rename_i i t hv
          split at hstep
          · rename_i v hv2
            split at hstep
            · rename_i ht
              cases hstep
              exact so_ld hx hb hv hv2 ht hL hdec (k_same rfl rfl (go H locs ls _ hokp.2 hP hlo hL))
            · cases hstep
          · cases hstep
        · cases hstep
      · rename_i hg
        simp only [qq_okp, hg, Bool.and_eq_true, decide_eq_true_eq] at hokp
        rw [hokp.1] at hdec hokp
        split at hstep
        · rename_i i t v st9 hv
          split at hstep
          · rename_i ht
            cases hstep
            exact so_st hx hb hv ht.1 ht.2 hL hdec (fun lsn hLn => k_same rfl rfl (go H locs lsn _ hokp.2 hP hlo hLn))
          · cases hstep
        · cases hstep
      · rename_i hg
        simp only [qq_okp, hg, Bool.and_eq_true, decide_eq_true_eq] at hokp
        rw [hokp.1] at hdec hokp
        split at hstep
        · split at hstep
          · rename_i v hv
            cases hstep
            exact so_un hx hb hv hdec (k_same rfl rfl (go H locs ls _ hokp.2 hP hlo hL))
          · cases hstep
        · cases hstep
      · rename_i hg
        simp only [qq_okp, hg, Bool.and_eq_true, decide_eq_true_eq] at hokp
        rw [hokp.1] at hdec hokp
        split at hstep
        · split at hstep
          · rename_i v hv
            cases hstep
            exact so_bin hx hb hv hdec (k_same rfl rfl (go H locs ls _ hokp.2 hP hlo hL))
          · cases hstep
        · cases hstep
      · rename_i hg
        simp only [qq_okp, hg, Bool.and_eq_true, decide_eq_true_eq] at hokp
        rw [hokp.1] at hdec hokp
        split at hstep
        · rename_i st9 hv
          cases hstep
          exact so_shf hx hb hv hdec (k_same rfl rfl (go H locs ls _ hokp.2 hP hlo hL))
        · cases hstep
      · rename_i hg
        simp only [qq_okp, hg] at hokp
        split at hstep
        · rename_i b st9 t hv ht
          rw [ht] at hokp
          simp only [Bool.and_eq_true, decide_eq_true_eq] at hokp
          obtain ⟨⟨k1, k2⟩, k3⟩ := hokp
          rw [k2] at hdec
          cases hstep
          refine so_br hx hb h0 hn0 hv rfl hdec k1 (k_same rfl rfl (go H locs ls _ ?_ hP hlo hL))
          cases b with
          | true => rfl
          | false =>
            simp only [Bool.or_eq_true, decide_eq_true_eq] at k3
            rcases k3 with k3 | k3
            · exfalso
              split at k3
              · rename_i hi
                rw [hi] at hv
                cases hv
              · cases k3
            · exact k3
        · cases hstep
      · rename_i hg
        simp only [qq_okp, hg, Bool.and_eq_true, decide_eq_true_eq] at hokp
        split at hstep
        · rename_i x st9
          split at hstep
          · rename_i k hv
            split at hstep
            · rename_i t ht
              obtain ⟨⟨k1, k2⟩, k3⟩ := hokp
              obtain ⟨off, hoff⟩ : ∃ off, (qq_so en.2.1)[k]? = some off := by
                have q1 := (List.getElem?_eq_some_iff.mp ht).1
                exact ⟨_, List.getElem?_eq_getElem (by omega)⟩
              have k4 := List.all_eq_true.mp k3 (off, t) (List.mem_of_getElem? (i := k) (by rw [List.getElem?_zip_eq_some]; exact ⟨hoff, ht⟩))
              simp only [decide_eq_true_eq] at k4
              cases hstep
              exact so_sw hx hb hv k1 hoff hdec k4 (k_same rfl rfl (go H locs ls _ rfl hP hlo hL))
            · cases hstep
          · cases hstep
        · cases hstep
      · rename_i hg
        simp only [qq_okp, hg, Bool.and_eq_true, decide_eq_true_eq] at hokp
        rw [hokp.1] at hdec hokp
        split at hstep
        · rename_i i k hi
          split at hstep
          · rename_i x hv
            cases hstep
            rw [hi] at hdec hokp
            exact so_iinc hx hb hv hL hdec (fun lsn hLn => k_same rfl rfl (go H locs lsn _ hokp.2 hP hlo hLn))
          · cases hstep
        · cases hstep
      · rename_i hg
        simp only [qq_okp, hg, Bool.and_eq_true, decide_eq_true_eq] at hokp
        obtain ⟨⟨k1, k2⟩, k3⟩ := hokp
        rw [k2] at hdec k3
        split at hstep
        · rename_i st9 σ9 hv
          cases hstep
          exact so_g9 hx hb hF hP hlo hown hname hv k1 hdec hsz (by omega) (by omega) (by omega) (by omega) (fun H' locs' u1 u2 => go H' locs' ls _ k3 u1 u2 hL)
        · cases hstep
      · split at hstep <;> cases hstep
      · split at hstep <;> cases hstep
      · split at hstep
        · split at hstep <;> cases hstep
        · cases hstep
      · cases hstep
    · -- a call
      rename_i cal av rest hstep
      obtain ⟨hg, hcal⟩ := step_call hstep
      split at hrun
      · cases hrun
      rename_i d'
      -- the callee's contract
      have hslm : (qq_sl av).length ≤ qq_maxL cal := (cal_stack (X := X) hcal).choose_spec.choose_spec.choose_spec.choose_spec.2.2.1
      have hmet : ∀ (o1 : qq_O) (σ1 : qq_S), qq_run n d' cal 0 (qq_ent (qq_maxL cal) av) [] σ = some (o1, σ1) → (qq_hn cal = [] → qq_Met l X d' cal av σ o1 σ1) ∧ (qq_hn cal ≠ [] → qq_MetW l X d' cal av σ o1 σ1) := by
        intro o1 σ1 hr1
        obtain ⟨e0, he0⟩ : ∃ e0, qq_T cal 0 = some e0 := by
          cases n with
          | zero => simp [qq_run] at hr1
          | succ n =>
            rw [qq_run] at hr1
            split at hr1
            · cases hr1
            · exact ⟨_, by assumption⟩
        obtain ⟨hokc, hpc0⟩ := hok cal e0 he0
        have hpc : qq_pc cal 0 = 0 := by simp only [qq_pc, he0]; exact hpc0
        refine ⟨fun hh => ?_, fun hh => ?_⟩
        · refine vx_ofW hokc.2.2.1 rfl ?_
          intro p e s m args below meth c s₁ B hml htb hPc
          obtain ⟨hargs, hF', hP'⟩ := hPc
          rw [hargs, lg_entry_eq]
          refine Eq.mp (congrArg (fun z => W p l e _ s m _ below meth c s.heap [] 0 0 _ (F0 m z _ _)) hpc) ?_
          refine ih d' cal 0 _ [] σ o1 σ1 hr1 hokc (R := qq_rm d' (sz_S σ1 - sz_S σ) (su_S σ1 - su_S σ)) (mc := sz_S σ1 - sz_S σ) (ms := su_S σ1 - su_S σ) (X := X) B.exec B.bytes hml (by simp [qq_ent]; omega) hF' ⟨σ, hP', Nat.le_refl _⟩ hP' (fun z hz => nomatch hz) (findClass_of_methodNamed B.named) ?_ B.notSynchronized ?_ (Lr_ent X hslm) (Nat.le_refl _) (Nat.le_refl _) (Nat.le_of_eq (Nat.zero_add _)) (Nat.le_refl _) (Nat.le_of_eq (Nat.zero_add _)) (Nat.le_refl _) (Or.inl ⟨_, rfl⟩) ?_
          · exact (name_of_methodNamed B.named B.method).1
          · have h9 : qq_hh cal = [] := List.length_eq_zero_iff.mp (by rw [← hlen cal, hh]; rfl)
            rw [h9]
            exact List.eq_nil_iff_forall_not_mem.mpr htb
          · intro v i st' pc H' locs' ls' ho hrt hd hP1 hlo1
            rw [ho]
            exact vx_ret (so_ret B.exec B.bytes hrt B.returns B.notSynchronized hP1 hlo1 hd)
        · obtain ⟨v1, hv1⟩ := run_hn _ _ _ _ _ _ _ _ _ hr1 hh
          refine va_MetW hokc.2.2.1 rfl ?_
          intro p e s m args below meth c s₁ B hml hPc
          obtain ⟨hargs, hF', hP'⟩ := hPc
          rw [hargs, lg_entry_eq]
          refine Eq.mp (congrArg (fun z => W p l e _ s m _ below meth c s.heap [] 0 0 _ (F0 m z _ _)) hpc) ?_
          refine ih d' cal 0 _ [] σ o1 σ1 hr1 hokc (R := qq_rm d' (sz_S σ1 - sz_S σ) (su_S σ1 - su_S σ)) (mc := sz_S σ1 - sz_S σ) (ms := su_S σ1 - su_S σ) (X := X) B.exec B.bytes hml (by simp [qq_ent]; omega) hF' ⟨σ, hP', Nat.le_refl _⟩ hP' (fun z hz => nomatch hz) (findClass_of_methodNamed B.named) ?_ B.notSynchronized ?_ (Lr_ent X hslm) (Nat.le_refl _) (Nat.le_refl _) (Nat.le_of_eq (Nat.zero_add _)) (Nat.le_refl _) (Nat.le_of_eq (Nat.zero_add _)) (Nat.le_refl _) (Or.inr (fun x hx => by rw [hv1] at hx; cases hx)) ?_
          · exact (name_of_methodNamed B.named B.method).1
          · exact vx_table (x := qq_y cal) B (atoms_spec (ws := [Cond.codeWith (qq_y cal) (qq_cd cal) (qq_maxL cal) (qq_ret cal) (qq_hh cal)]) B.pre _ List.mem_cons_self)
          · intro v i st' pc H' locs' ls' ho hrt hd hP1 hlo1
            rw [ho]
            exact so_ret B.exec B.bytes hrt B.returns B.notSynchronized hP1 hlo1 hd
      simp only [qq_okp, hg] at hokp
      have hokp : qq_okc m en.2.1 en.2.2.2 = true ∧ en.2.2.1 = 3 ∧ qq_pc m (j + 1) = en.1 + en.2.2.1 ∧ qq_cv m j en.1 = true := by
        split at hokp
        · rename_i hl
          rw [hl] at hcal
          unfold qq_cal at hcal
          split at hcal
          · rename_i kind callee n9 c9 tl9 hl9
            cases hl9
            obtain ⟨q1, -⟩ := qq_if_some hcal
            omega
          · cases hcal
        · simp only [Bool.and_eq_true, decide_eq_true_eq] at hokp
          exact ⟨hokp.1.1.1, hokp.1.1.2, hokp.1.2, hokp.2⟩
      obtain ⟨k1, k2, k3, k4⟩ := hokp
      rw [k2] at hdec k3
      split at hrun
      · cases hrun
      · -- it returns
        rename_i v σ1 hr1
        obtain ⟨u1, u2⟩ := run_grow _ _ _ _ _ _ _ _ _ hr1
        obtain ⟨u3, u4⟩ := run_grow _ _ _ _ _ _ _ _ _ hrun
        obtain ⟨m1, m2⟩ := hmet _ _ hr1
        refine so_call (d := d') hx hb hF hP hlo hown hcal k1 hdec hsz (by omega) (by omega) m1 m2 (by omega) (by omega) ?_ (fun x q9 z ce H' locs' ho => by cases ho)
        intro v' H' locs' ho hP' hlo'
        cases ho
        rw [← k3]
        refine ih (d' + 1) m (j + 1) al (v.toList ++ rest) σ1 o σf hrun hokm hx hb hml hal hF ?_ hP' hlo' hown hname hlocks htab hL hfr hlc (by omega) hmc (by omega) hms hQ hret
        obtain ⟨σ0, q1, q2⟩ := hs0
        exact ⟨σ0, q1, Nat.le_trans q2 u1⟩
      · -- it throws
        rename_i x σ1 hr1
        obtain ⟨u1, u2⟩ := run_grow _ _ _ _ _ _ _ _ _ hr1
        obtain ⟨m1, m2⟩ := hmet _ _ hr1
        simp only [qq_cv, Bool.and_eq_true, beq_iff_eq, List.all_eq_true, decide_eq_true_eq] at k4
        obtain ⟨-, k5⟩ := k4
        split at hrun
        · -- not here
          rename_i hhn
          cases hrun
          refine so_call (d := d') hx hb hF hP hlo hown hcal k1 hdec hsz (by omega) (by omega) m1 m2 (by omega) (by omega) (fun v H' locs' ho => by cases ho) ?_
          intro x' q9 z ce H' locs' ho hq9 hP' hlo' hce hcv hcl
          cases ho
          rcases hQ with ⟨Qc, rfl⟩ | hQ
          · have h9 : qq_hh m = [] := List.length_eq_zero_iff.mp (by rw [← hlen m, hhn]; rfl)
            rw [h9] at htab
            exact vx_out (by rw [htab]; exact fun z hz => nomatch hz) hlocks hce hcv hcl (fun t ht hA => ⟨⟨x, q9, rfl, hq9, rfl⟩, by rw [ht]; exact hP'⟩) hlo' (by omega) (by omega)
          · exact absurd rfl (hQ x)
        · rename_i hhn
          split at hrun
          · cases hrun
          · rename_i hd hhd
            obtain ⟨u3, u4⟩ := run_grow _ _ _ _ _ _ _ _ _ hrun
            refine so_call (d := d') hx hb hF hP hlo hown hcal k1 hdec hsz (by omega) (by omega) m1 m2 (by omega) (by omega) (fun v H' locs' ho => by cases ho) ?_
            intro x' q9 z ce H' locs' ho hq9 hP' hlo' hce hcv hcl
            cases ho
            have hoh := hokm.2.2.2
            simp only [qq_okh, List.all_eq_true] at hoh
            obtain ⟨pre, xe, suf, hh0, e1, e2, e3, e4⟩ := han_split _ _ (hlen m) hhd
            have o1 := hoh _ e2
            split at e3
            · rename_i hcnd
              split at e3
              · rename_i eh heh
                simp only [Bool.and_eq_true, decide_eq_true_eq] at o1
                obtain ⟨⟨o2, o3⟩, o4⟩ := o1
                rw [hcnd.2.2, hq9] at o3
                simp only [Bool.and_eq_true] at o3
                rw [heh] at o4
                simp only [Bool.and_eq_true, decide_eq_true_eq] at o4
                obtain ⟨⟨⟨o5, o6⟩, o7⟩, o8⟩ := o4
                split at e3
                · rename_i i9 hi9
                  split at e3
                  · rename_i hlt9
                    cases e3
                    have hdh : decode (qq_cd m) eh.1 = .ok (eh.2.1, qq_len eh.2.1) := by
                      rw [← o6]; exact (hokm.1 _ _ heh).1
                    refine vx_catch hown pre xe suf (htab.trans e1) ?_ ?_ o2 (has_word hF o3.1 (Or.inl rfl)) (has_word hF o3.2 (Or.inr rfl)) hce hcv hcl ?_
                    · intro z9 hz9
                      obtain ⟨h1, f1, f2⟩ := e4 z9 hz9
                      have p1 := k5 _ f1
                      have p2 := hoh _ f1
                      simp only [Bool.and_eq_true, decide_eq_true_eq] at p2
                      obtain ⟨⟨p3, p4⟩, p5⟩ := p2
                      split at f2
                      · rename_i hcnd2
                        exfalso
                        split at f2
                        · rename_i eh2 heh2
                          rw [heh2] at p5
                          simp only [Bool.and_eq_true] at p5
                          obtain ⟨-, p8⟩ := p5
                          split at f2
                          · rename_i i8 hi8
                            rw [hi8] at p8
                            simp only [decide_eq_true_eq] at p8
                            split at f2
                            · cases f2
                            · rename_i hnl
                              exact hnl (by rw [hal]; exact p8)
                          · rename_i hno
                            split at p8
                            · rename_i i8 hi8
                              exact hno _ hi8
                            · cases p8
                        · rename_i hno
                          rw [hno] at p5
                          cases p5
                      · rename_i hcnd2
                        by_cases hcv9 : h1.1 ≤ j ∧ j < h1.2.1
                        · right
                          refine ⟨p3, ?_⟩
                          split at p4
                          · rename_i x9 hx9
                            simp only [Bool.and_eq_true] at p4
                            refine ⟨x9.1, has_word hF p4.1 (Or.inl rfl), hF.2.2.2.2.2.2.2.1 x h1.2.2.1 q9 x9 hq9 hx9 (fun he => hcnd2 ⟨hcv9.1, hcv9.2, he.symm⟩)⟩
                          · cases p4
                        · left
                          have p1 : covers z9 en.1 = decide (h1.1 ≤ j ∧ j < h1.2.1) := p1
                          rw [p1, decide_eq_false hcv9]
                    · have p1 : covers xe en.1 = decide (hh0.1 ≤ j ∧ j < hh0.2.1) := k5 _ e2
                      rw [p1]; exact decide_eq_true ⟨hcnd.1, hcnd.2.1⟩
                    · have hhp : xe.handlerPc = eh.1 := o5.symm
                      rw [hhp]
                      refine so_away hx hb (rest := []) hi9 (by exact hlt9) hL hdh (fun lsn hLn => ?_)
                      have o7' : qq_pc m (hh0.2.2.2 + 1) = eh.1 + qq_len eh.2.1 := by rw [← o6]; exact o7
                      rw [← o7']
                      refine ih (d' + 1) m _ _ [] σ1 o σf hrun hokm hx hb hml ?_ hF ?_ hP' hlo' hown hname hlocks htab hLn hfr hlc (by omega) hmc (by omega) hms hQ hret
                      · rw [List.length_set, qq_set_len]; exact hal
                      · obtain ⟨σ0, q1, q2⟩ := hs0
                        exact ⟨σ0, q1, Nat.le_trans q2 u1⟩
                  · cases e3
                · cases e3
              · cases e3
            · cases e3
    · -- returns
      rename_i v hstep
      obtain ⟨hg, hrt⟩ := step_ret hstep
      cases hrun
      simp only [qq_okp, hg, decide_eq_true_eq] at hokp
      rw [hokp] at hdec
      exact W.widen (by omega) (by omega) (hret v en.2.1 st en.1 H locs ls rfl hrt hdec hP hlo)
    · -- throws
      rename_i x hstep
      obtain ⟨hg, ⟨w, hl⟩, hcat, hhn⟩ := step_thr hstep
      cases hrun
      rcases hQ with ⟨Qc, rfl⟩ | hQ
      · have h9 : qq_hh m = [] := List.length_eq_zero_iff.mp (by rw [← hlen m, hhn]; rfl)
        rw [h9] at htab
        obtain ⟨ik, hik⟩ := grp_new hg
        have hg2 : qq_grp (.new ik) [1, x, w] = 12 := by rw [← hik, ← hl]; exact hg
        simp only [qq_okp, hl, hik, hg2] at hokp
        rw [hik] at hdec
        · skip
          split at hokp
          · rename_i q hq
            simp only [Bool.and_eq_true, decide_eq_true_eq] at hokp
            obtain ⟨⟨⟨r1, r2⟩, r3⟩, r4⟩ := hokp
            split at r4
            · rename_i a1 a2 a3 ha1 ha2 ha3
              simp only [Bool.and_eq_true, decide_eq_true_eq] at r4
              obtain ⟨⟨⟨⟨⟨⟨⟨⟨b1, b2⟩, b3⟩, b4⟩, b5⟩, b6⟩, b7⟩, b8⟩, b9⟩ := r4
              have d1 := (hokm.1 _ _ ha1).1
              have d2 := (hokm.1 _ _ ha2).1
              have d3 := (hokm.1 _ _ ha3).1
              rw [b1, b2, b3] at d1
              rw [b4, b5, b6] at d2
              rw [b7, b8, b9] at d3
              rw [r3] at hdec
              have hxq := List.all_eq_true.mp hxw q (List.mem_of_getElem? hq)
              simp only [qq_xw, Bool.and_eq_true, List.all_eq_true, decide_eq_true_eq, Bool.or_eq_true] at hxq
              obtain ⟨⟨⟨x1, x2⟩, x3⟩, x4⟩ := hxq
              rw [r2] at hdec
              rw [r1] at hown
              have hw9 : ∀ w ∈ Cond.classLink "StatueChancery" q.2.1 q.1 :: Cond.initialized q.1 :: vx_at0 "StatueChancery" q.2.2.1 q.1 q.2.2.2, w.before args s = true := fun w hw => has_word hF (x1 w hw).1.2 (x1 w hw).2
              obtain ⟨σ0, q1, q2⟩ := hs0
              have hsH : ∀ q : Nat, q < xb_ X → s.heap[q]? = X.2.2.2.2[q]? := q1.2.2.1
              have hHs : H.size = xb_ X + (sz_S σ - qq_K0) := hP.2.1
              have hss : s.heap.size = xb_ X + (sz_S σ0 - qq_K0) := q1.2.1
              have hsg : sz_S (nw_S σ 1 (201, 0) 6) = sz_S σ + 1 := rfl
              have hsu : su_S (nw_S σ 1 (201, 0) 6) = su_S σ + 6 := rfl
              have hkp : ∀ a : Nat, a < X.2.2.2.2.size → ¬ (xb_ X ≤ a) → s.heap[a]? = X.2.2.2.2[a]? := fun a ha _ => hsH a ha
              refine qx_throw0 hx hb hst hown x2 x3 (hw9 _ List.mem_cons_self) (hw9 _ (List.mem_cons_of_mem _ List.mem_cons_self)) (fun w hw => hw9 w (List.mem_cons_of_mem _ (List.mem_cons_of_mem _ hw))) (fun w hw => (x1 w hw).1.1)
                (A := fun z : Nat => xb_ X ≤ z) (hF.2.2.2.2.2.2.2.2.1.kept hkp) (hF.2.2.2.2.2.2.2.2.2.1.kept hkp) ⟨by omega, fun a ha hA => ?_, hlo⟩ hsz hdec d1 d2 d3 (by rw [htab]; exact fun z hz => nomatch hz) (by rw [x4]; omega) (by rw [rv_cats, x4]; omega) (by omega) (by omega) hlocks ?_ hlo (by omega) (by omega)
              · have : a < xb_ X := by omega
                rw [hP.2.2.1 a this, hsH a this]
              · intro t hA ht1 ht2
                refine ⟨⟨x, q, rfl, hq, rfl⟩, hp_new hP (201, 0) 6 ht1 ht2 ?_⟩
                have hk : (kd_S (nw_S σ 1 (201, 0) 6) (sz_S σ)).1 = 201 := by
                  show (if sz_S σ ≤ sz_S σ ∧ sz_S σ < sz_S σ + 1 then ((201 : Nat), (0 : Nat)) else kd_S σ (sz_S σ)).1 = 201
                  rw [if_pos ⟨Nat.le_refl _, Nat.lt_succ_self _⟩]
                unfold qq_Ce
                rw [hk, if_neg (by omega), if_neg (by omega)]
                trivial
            · cases r4
          · cases hokp
      · exact absurd rfl (hQ x)
end QSO
end
section
/-! THE RUN WITHOUT FUEL, AND ITS ROWS -/
noncomputable def RR (d m j : Nat) (ls : List (Option Value)) (st : List Value) (σ : qq_S) : Option (qq_O × qq_S) :=
  @dite _ (∃ r n, qq_run n d m j ls st σ = some r) (Classical.propDecidable _) (fun h => some h.choose) (fun _ => none)
theorem RR_iff {d m j : Nat} {ls : List (Option Value)} {st : List Value} {σ : qq_S} {r : qq_O × qq_S} : RR d m j ls st σ = some r ↔ ∃ n, qq_run n d m j ls st σ = some r := by
  unfold RR
  constructor
  · intro h
    by_cases hx : ∃ r n, qq_run n d m j ls st σ = some r
    · rw [dif_pos hx] at h
      cases h
      exact hx.choose_spec
    · rw [dif_neg hx] at h
      cases h
  · rintro ⟨n, hn⟩
    have hx : ∃ r n, qq_run n d m j ls st σ = some r := ⟨r, n, hn⟩
    rw [dif_pos hx]
    obtain ⟨k, hk⟩ := hx.choose_spec
    have h1 := qq_mono hn (Nat.le_max_left n k)
    have h2 := qq_mono hk (Nat.le_max_right n k)
    rw [h1] at h2
    exact h2.symm
theorem RR_ext {d m j : Nat} {ls : List (Option Value)} {st : List Value} {σ : qq_S} {x : Option (qq_O × qq_S)} (h : ∀ r, (∃ n, qq_run n d m j ls st σ = some r) ↔ x = some r) : RR d m j ls st σ = x := by
  cases hx : x with
  | some r => exact RR_iff.mpr ((h r).mpr hx)
  | none =>
    cases hr : RR d m j ls st σ with
    | none => rfl
    | some r =>
      have := (h r).mp (RR_iff.mp hr)
      rw [hx] at this
      cases this
theorem RR_next {d m j : Nat} {ls : List (Option Value)} {st : List Value} {σ : qq_S} {e : qq_E} {j' : Nat} {ls' : List (Option Value)} {st' : List Value} {σ' : qq_S} (hT : qq_T m j = some e) (hs : qq_step m e j ls st σ = some (.inl (j', ls', st', σ'))) : RR d m j ls st σ = RR d m j' ls' st' σ' := by
  refine RR_ext (fun r => ⟨fun ⟨n, hn⟩ => ?_, fun h => ?_⟩)
  · cases n with
    | zero => simp [qq_run] at hn
    | succ n =>
      rw [qq_run, hT] at hn
      simp only [hs] at hn
      exact RR_iff.mpr ⟨n, hn⟩
  · obtain ⟨n, hn⟩ := RR_iff.mp h
    refine ⟨n + 1, ?_⟩
    rw [qq_run, hT]
    simp only [hs]
    exact hn
theorem RR_stuck {d m j : Nat} {ls : List (Option Value)} {st : List Value} {σ : qq_S} {e : qq_E} (hT : qq_T m j = some e) (hs : qq_step m e j ls st σ = none) : RR d m j ls st σ = none := by
  refine RR_ext (fun r => ⟨fun ⟨n, hn⟩ => ?_, fun h => nomatch h⟩)
  cases n with
  | zero => simp [qq_run] at hn
  | succ n =>
    rw [qq_run, hT] at hn
    simp only [hs] at hn
    cases hn
theorem RR_ret0 {d m j : Nat} {ls : List (Option Value)} {st : List Value} {σ : qq_S} {e : qq_E} {v : Option Value} (hT : qq_T m j = some e) (hs : qq_step m e j ls st σ = some (.inr (.inr (.inl v)))) : RR d m j ls st σ = some (.inl v, σ) := by
  refine RR_iff.mpr ⟨1, ?_⟩
  rw [qq_run, hT]
  simp only [hs]
theorem RR_thr0 {d m j : Nat} {ls : List (Option Value)} {st : List Value} {σ : qq_S} {e : qq_E} {x : Nat} (hT : qq_T m j = some e) (hs : qq_step m e j ls st σ = some (.inr (.inr (.inr x)))) : RR d m j ls st σ = some (.inr x, nw_S σ 1 (201, 0) 6) := by
  refine RR_iff.mpr ⟨1, ?_⟩
  rw [qq_run, hT]
  simp only [hs]
/-- a call of a method -/
noncomputable def CC (d m : Nat) (av : List Value) (σ : qq_S) : Option (qq_O × qq_S) := RR d m 0 (qq_ent (qq_maxL m) av) [] σ
/-- behind a call -/
def bd (x : Option (qq_O × qq_S)) (k : Option Value → qq_S → Option (qq_O × qq_S)) : Option (qq_O × qq_S) := match x with
  | none => none
  | some (.inl v, σ) => k v σ
  | some (.inr x, σ) => some (.inr x, σ)
theorem bd_ret (v : Option Value) (σ : qq_S) (k : Option Value → qq_S → Option (qq_O × qq_S)) : bd (some (.inl v, σ)) k = k v σ := rfl
theorem bd_thr (x : Nat) (σ : qq_S) (k : Option Value → qq_S → Option (qq_O × qq_S)) : bd (some (.inr x, σ)) k = some (.inr x, σ) := rfl
def bdh (x : Option (qq_O × qq_S)) (k : Option Value → qq_S → Option (qq_O × qq_S)) (kx : Nat → qq_S → Option (qq_O × qq_S)) : Option (qq_O × qq_S) := match x with
  | none => none
  | some (.inl v, σ) => k v σ
  | some (.inr x, σ) => kx x σ
theorem bdh_ret (v : Option Value) (σ : qq_S) (k : Option Value → qq_S → Option (qq_O × qq_S)) (kx : Nat → qq_S → Option (qq_O × qq_S)) : bdh (some (.inl v, σ)) k kx = k v σ := rfl
theorem bdh_thr (x : Nat) (σ : qq_S) (k : Option Value → qq_S → Option (qq_O × qq_S)) (kx : Nat → qq_S → Option (qq_O × qq_S)) : bdh (some (.inr x, σ)) k kx = kx x σ := rfl
/-- a returned value on the stack -/
def vl (v : Option Value) (st : List Value) : List Value := match v with
  | none => st
  | some x => x :: st
theorem vl_none (st : List Value) : vl none st = st := rfl
theorem vl_some (v : Value) (st : List Value) : vl (some v) st = v :: st := rfl
theorem vl_eq (v : Option Value) (st : List Value) : v.toList ++ st = vl v st := by cases v <;> rfl
noncomputable def gd {α : Type} (P : Prop) (x : Option α) : Option α := qq_if P x none
theorem gd_t {α : Type} {P : Prop} {x : Option α} (h : P) : gd P x = x := qq_if_t h
theorem gd_f {α : Type} {P : Prop} {x : Option α} (h : ¬ P) : gd P x = none := qq_if_f h
theorem gd_true {α : Type} {x : Option α} : gd True x = x := qq_if_t trivial
theorem gd_c {α : Type} {P : Prop} {x y : Option α} (h : x = y) : gd P x = gd P y := by rw [h]
theorem gd_gd {α : Type} {P Q : Prop} {x : Option α} : gd P (gd Q x) = gd (P ∧ Q) x := by
  by_cases hP : P
  · rw [gd_t hP]
    by_cases hQ : Q
    · rw [gd_t hQ, gd_t ⟨hP, hQ⟩]
    · rw [gd_f hQ, gd_f (fun h => hQ h.2)]
  · rw [gd_f hP, gd_f (fun h => hP h.1)]
theorem ite_c {α : Type} {P : Prop} [Decidable P] {x y x' y' : α} (h1 : x = x') (h2 : y = y') : (if P then x else y) = if P then x' else y' := by rw [h1, h2]
/-- all of a list of propositions -/
def al : List Prop → Prop
  | [] => True
  | [p] => p
  | p :: q :: ps => p ∧ al (q :: ps)
theorem al_cons {p : Prop} {ps : List Prop} : al (p :: ps) ↔ p ∧ al ps := by
  cases ps with
  | nil => exact ⟨fun h => ⟨h, trivial⟩, fun h => h.1⟩
  | cons q ps => exact Iff.rfl
theorem al_app {ps qs : List Prop} : al (ps ++ qs) ↔ al ps ∧ al qs := by
  induction ps with
  | nil => exact ⟨fun h => ⟨trivial, h⟩, fun h => h.2⟩
  | cons p ps ih => rw [List.cons_append, al_cons, al_cons, ih, and_assoc]
/-- a narrow int -/
def nk (ty : FieldType) (x : Int32) : Prop := narrow ty (.int x) = .int x ∧ fits ty (.int x) = true
def nr (ty : FieldType) (x : Int32) : Prop := narrow ty (.int x) = .int x
def us_un (i : Instr) (x : Value) : Option (List Prop × Value) := match i, x with
  | .ineg, .int x => some ([], .int (-x))
  | .i2l, .int x => some ([], .long x.toInt64)
  | .l2i, .long x => some ([], .int x.toInt32)
  | .i2b, .int x => some ([], .int x.toInt8.toInt32)
  | .i2c, .int x => some ([], .int (x.toUInt32 % 65536).toInt32)
  | .i2d, .int x => some ([], .double (FP.i2d x))
  | .i2f, .int x => some ([], .float (FP.i2f x))
  | .f2d, .float x => some ([vf_n64 (FP.f2d x)], .double (FP.f2d x))
  | _, _ => none
def us_bin (i : Instr) (y x : Value) : Option (List Prop × Value) := match i, y, x with
  | .iadd, .int y, .int x => some ([], .int (x + y))
  | .isub, .int y, .int x => some ([], .int (x - y))
  | .imul, .int y, .int x => some ([], .int (x * y))
  | .idiv, .int y, .int x => some ([¬ y = 0], .int (x / y))
  | .irem, .int y, .int x => some ([¬ y = 0], .int (x - x / y * y))
  | .iand, .int y, .int x => some ([], .int (x &&& y))
  | .ior, .int y, .int x => some ([], .int (x ||| y))
  | .ixor, .int y, .int x => some ([], .int (x ^^^ y))
  | .ishl, .int y, .int x => some ([], .int (x <<< (y &&& 31)))
  | .ishr, .int y, .int x => some ([], .int (x >>> (y &&& 31)))
  | .iushr, .int y, .int x => some ([], .int (x.toUInt32 >>> (y.toUInt32 &&& Int32.toUInt32 31)).toInt32)
  | .ladd, .long y, .long x => some ([], .long (x + y))
  | .lsub, .long y, .long x => some ([], .long (x - y))
  | .land, .long y, .long x => some ([], .long (x &&& y))
  | .lor, .long y, .long x => some ([], .long (x ||| y))
  | .lshl, .int y, .long x => some ([], .long (x <<< (y.toInt64 &&& 63)))
  | .lshr, .int y, .long x => some ([], .long (x >>> (y.toInt64 &&& 63)))
  | .lcmp, .long y, .long x => some ([], .int (lg_cmp x y))
  | .ddiv, .double y, .double x => some ([vf_n64 (FP.ddiv x y)], .double (FP.ddiv x y))
  | .fdiv, .float y, .float x => some ([vf_n32 (FP.fdiv x y)], .float (FP.fdiv x y))
  | .dcmp op, .double y, .double x => some ([], .int (Op.cmpValue (FP.dcmp x y) op))
  | .fcmp op, .float y, .float x => some ([], .int (Op.cmpValue (FP.fcmp x y) op))
  | _, _, _ => none
theorem us_un_ok {i : Instr} {x v : Value} {gs : List Prop} (h : us_un i x = some (gs, v)) : qq_un i x = qq_if (al gs) (some v) none := by
  unfold us_un at h
  split at h <;> first | (cases h; exact (qq_if_t trivial).symm) | (cases h; rfl) | cases h
theorem us_bin_ok {i : Instr} {y x v : Value} {gs : List Prop} (h : us_bin i y x = some (gs, v)) : qq_bin i y x = qq_if (al gs) (some v) none := by
  unfold us_bin at h
  split at h <;> first | (cases h; exact (qq_if_t trivial).symm) | (cases h; rfl) | cases h
def us_put (σ : qq_S) (ty : FieldType) (a k : Nat) (v : Value) : Option (List Prop × qq_S) := match ty with
  | .long => (match v with | .long x => some ([], wr_L σ a k x) | _ => none)
  | .double => (match v with | .double x => some ([], wr_D σ a k x) | _ => none)
  | .object _ => (match v with | .ref x => some ([], wr_R σ a k x) | _ => none)
  | .array _ => (match v with | .ref x => some ([], wr_R σ a k x) | _ => none)
  | .float => none
  | .int => (match v with | .int x => some ([], wr_I σ a k x) | _ => none)
  | ty => (match v with | .int x => some ([nk ty x], wr_I σ a k x) | _ => none)
theorem us_put_ok {σ σ' : qq_S} {ty : FieldType} {a k : Nat} {v : Value} {gs : List Prop} (h : us_put σ ty a k v = some (gs, σ')) : qq_put σ ty a k v = qq_if (al gs) (some σ') none := by
  unfold us_put at h
  split at h
  all_goals first | (cases h; done) | (split at h <;> first | (cases h; done) | (cases h; exact (qq_if_t trivial).symm) | (cases h; unfold qq_put; split <;> first | rfl | (rename_i h9; exact absurd rfl h9) | simp_all))
/-- instructions of the heap, their conditions told -/
def us_hp (i : Instr) (lk : List Nat) (st : List Value) (σ : qq_S) : Option (List Prop × List Value × qq_S) :=
  match i, lk, st with
  | .getfield _, [c, k, _, _], .ref a :: st => if k < qq_nr c then some ([(kd_S σ a).1 = c], qq_val σ (qq_ty c k) a k :: st, σ) else none
  | .putfield _, [c, k, _, _], v :: .ref a :: st => if k < qq_nf c then (match us_put σ (qq_ty c k) a k v with | some (gs, σ') => some (((kd_S σ a).1 = c) :: (qq_K0 ≤ a) :: gs, st, σ') | none => none) else none
  | .getstatic _, [i, _], st => (match qq_stat[i]? with | some x => some ([], x.2.2.2 :: st, σ) | none => none)
  | .ldc _, [0, n, _], st => some ([], .int (Int32.ofNat n) :: st, σ)
  | .ldc _, [1, n, _], st => some ([], .ref n :: st, σ)
  | .ldc_w _, [1, n, _], st => some ([], .ref n :: st, σ)
  | .ldc_w _, [0, n, _], st => some ([], .int (Int32.ofNat n) :: st, σ)
  | .arraylength, _, .ref a :: st => some ([qq_at (kd_S σ a).1 = true], .int (Int32.ofNat (kd_S σ a).2) :: st, σ)
  | .iaload, _, .int i :: .ref a :: st => some ([(kd_S σ a).1 = 100 ∧ vp_in i (kd_S σ a).2], .int (rd_I σ a i.toNatClampNeg) :: st, σ)
  | .baload, _, .int i :: .ref a :: st => some ([((kd_S σ a).1 = 101 ∨ (kd_S σ a).1 = 102) ∧ vp_in i (kd_S σ a).2], .int (rd_I σ a i.toNatClampNeg) :: st, σ)
  | .laload, _, .int i :: .ref a :: st => some ([(kd_S σ a).1 = 105 ∧ vp_in i (kd_S σ a).2], .long (rd_L σ a i.toNatClampNeg) :: st, σ)
  | .aaload, _, .int i :: .ref a :: st => some ([(110 ≤ (kd_S σ a).1 ∧ (kd_S σ a).1 < 113) ∧ vp_in i (kd_S σ a).2], .ref (rd_R σ a i.toNatClampNeg) :: st, σ)
  | .iastore, _, .int x :: .int i :: .ref a :: st => some ([(kd_S σ a).1 = 100 ∧ vp_in i (kd_S σ a).2 ∧ qq_K0 ≤ a], st, wr_I σ a i.toNatClampNeg x)
  | .bastore, _, .int x :: .int i :: .ref a :: st => some ([((kd_S σ a).1 = 101 ∨ (kd_S σ a).1 = 102) ∧ vp_in i (kd_S σ a).2 ∧ qq_K0 ≤ a], st, wr_I σ a i.toNatClampNeg (vp_nar (if (kd_S σ a).1 = 101 then .boolean else .byte) x))
  | .lastore, _, .long x :: .int i :: .ref a :: st => some ([(kd_S σ a).1 = 105 ∧ vp_in i (kd_S σ a).2 ∧ qq_K0 ≤ a], st, wr_L σ a i.toNatClampNeg x)
  | .aastore, _, .ref b :: .int i :: .ref a :: st => some ([((kd_S σ a).1 = 111 ∧ (kd_S σ b).1 = 8 ∨ (kd_S σ a).1 = 112 ∧ (kd_S σ b).1 = 1) ∧ vp_in i (kd_S σ a).2 ∧ qq_K0 ≤ a], st, wr_R σ a i.toNatClampNeg b)
  | .new _, [0, c, _, _, _], st => some ([], .ref (sz_S σ) :: st, nw_S σ 1 (c, 0) (qq_nf c))
  | .newarray _, [t, _], .int n :: st => some ([¬ n < 0 ∧ n.toNatClampNeg ≤ 65536], .ref (sz_S σ) :: st, nw_S σ 1 (t, n.toNatClampNeg) n.toNatClampNeg)
  | .anewarray _, [t, _, _], .int n :: st => some ([¬ n < 0 ∧ n.toNatClampNeg ≤ 65536], .ref (sz_S σ) :: st, nw_S σ 1 (t, n.toNatClampNeg) n.toNatClampNeg)
  | .multianewarray _ 2, [110, _, _, _], .int k :: .int n :: st => some ([(¬ n < 0 ∧ n.toNatClampNeg ≤ 65536) ∧ (¬ k < 0 ∧ k.toNatClampNeg ≤ 65536)],
      .ref (sz_S σ) :: st, gr_S (nw_S (nw_S σ 1 (110, n.toNatClampNeg) n.toNatClampNeg) n.toNatClampNeg (100, k.toNatClampNeg) (n.toNatClampNeg * k.toNatClampNeg)) (sz_S σ) n.toNatClampNeg)
  | .invokestatic _, [20, _, _, _, _], .int n :: .int dp :: .ref b :: .int sp :: .ref a :: st => if (st.map fun v => v.category).sum ≤ 8 then some ([((kd_S σ a).1 = (kd_S σ b).1 ∧ ((kd_S σ a).1 = 100 ∨ (kd_S σ a).1 = 102 ∧ ∀ i, i < n.toNatClampNeg → fits .byte (.int (rd_I σ a (sp.toNatClampNeg + i))) = true)) ∧ a ≠ b ∧ qq_K0 ≤ b ∧
      (¬ sp < 0 ∧ ¬ dp < 0 ∧ ¬ n < 0) ∧ sp.toNatClampNeg + n.toNatClampNeg ≤ (kd_S σ a).2 ∧ dp.toNatClampNeg + n.toNatClampNeg ≤ (kd_S σ b).2], st, cp_S σ a sp.toNatClampNeg b dp.toNatClampNeg n.toNatClampNeg) else none
  | .invokestatic _, [22, _, _, _, _], .int y :: .int x :: st => if (st.map fun v => v.category).sum ≤ 8 then some ([], .int (if x < y then y else x) :: st, σ) else none
  | .invokestatic _, [23, _, _, _, _], .int y :: .int x :: st => if (st.map fun v => v.category).sum ≤ 8 then some ([], .int (if y < x then y else x) :: st, σ) else none
  | .invokespecial _, [21, _, _, _], .ref a :: st => if (st.map fun v => v.category).sum ≤ 8 then some ([(kd_S σ a).1 < 200], st, σ) else none
  | .invokevirtual _, [24, _, _, _, _, _, _], .ref a :: st => if (st.map fun v => v.category).sum ≤ 8 then some ([(kd_S σ a).1 = 102 ∧ qq_K0 ≤ a ∧ ∀ i, i < (kd_S σ a).2 → fits .byte (.int (rd_I σ a i)) = true], .ref (sz_S σ) :: st, cl_S σ a) else none
  | .checkcast _, [25, _], .ref a :: st => some ([(kd_S σ a).1 = 102 ∧ qq_K0 ≤ a], .ref a :: st, σ)
  | _, _, _ => none
theorem qq_if_iff {α : Type} {P Q : Prop} {x y : α} (h : P ↔ Q) : qq_if P x y = qq_if Q x y := by rw [propext h]
theorem us_hp_ok {i : Instr} {lk : List Nat} {st st' : List Value} {σ σ' : qq_S} {gs : List Prop} (h : us_hp i lk st σ = some (gs, st', σ')) : qq_hp i lk st σ = qq_if (al gs) (some (st', σ')) none := by
  unfold us_hp at h
  split at h
  · split at h
    · rename_i hk
      cases h
      exact qq_if_iff ⟨fun q => q.1, fun q => ⟨q, hk⟩⟩
    · cases h
  · rename_i c k _ _ v a st
    split at h
    · rename_i hk
      split at h
      · rename_i gs9 σ9 hp
        cases h
        show qq_if ((kd_S σ a).1 = c ∧ k < qq_nf c ∧ qq_K0 ≤ a) ((qq_put σ (qq_ty c k) a k v).map (fun σ' => (st', σ'))) none = _
        rw [us_put_ok hp]
        by_cases h1 : (kd_S σ a).1 = c ∧ qq_K0 ≤ a
        · rw [qq_if_t ⟨h1.1, hk, h1.2⟩]
          by_cases h2 : al gs9
          · rw [qq_if_t h2, qq_if_t (al_cons.mpr ⟨h1.1, al_cons.mpr ⟨h1.2, h2⟩⟩)]; rfl
          · rw [qq_if_f h2, qq_if_f (fun q => h2 (al_cons.mp (al_cons.mp q).2).2)]; rfl
        · rw [qq_if_f (fun q => h1 ⟨q.1, q.2.2⟩), qq_if_f (fun q => h1 ⟨(al_cons.mp q).1, (al_cons.mp (al_cons.mp q).2).1⟩)]
      · cases h
    · cases h
  · split at h
    · rename_i x hx
      cases h
      simp only [qq_hp, hx, Option.map_some]
      exact (qq_if_t trivial).symm
    · cases h
  · cases h; exact (qq_if_t trivial).symm
  · cases h; exact (qq_if_t trivial).symm
  · cases h; exact (qq_if_t trivial).symm
  · cases h; exact (qq_if_t trivial).symm
  · cases h; rfl
  · cases h; rfl
  · cases h; rfl
  · cases h; rfl
  · cases h; rfl
  · cases h; rfl
  · cases h; rfl
  · cases h; rfl
  · cases h; rfl
  · cases h; exact (qq_if_t trivial).symm
  · cases h; rfl
  · cases h; rfl
  · cases h; rfl
  · split at h
    · rename_i hs
      cases h
      exact qq_if_iff ⟨fun q => ⟨q.1, q.2.1, q.2.2.1, q.2.2.2.1, q.2.2.2.2.1, q.2.2.2.2.2.1⟩, fun q => ⟨q.1, q.2.1, q.2.2.1, q.2.2.2.1, q.2.2.2.2.1, q.2.2.2.2.2, hs⟩⟩
    · cases h
  · split at h
    · rename_i hs; cases h; exact qq_if_iff ⟨fun _ => trivial, fun _ => hs⟩
    · cases h
  · split at h
    · rename_i hs; cases h; exact qq_if_iff ⟨fun _ => trivial, fun _ => hs⟩
    · cases h
  · split at h
    · rename_i hs; cases h; exact qq_if_iff ⟨fun q => q.1, fun q => ⟨q, hs⟩⟩
    · cases h
  · split at h
    · rename_i hs; cases h; exact qq_if_iff ⟨fun q => q.1, fun q => ⟨q, hs⟩⟩
    · cases h
  · cases h; rfl
  · cases h
/-- one instruction that goes on at the next row, its conditions told -/
def us (e : qq_E) (ls : List (Option Value)) (st : List Value) (σ : qq_S) : Option (List Prop × List (Option Value) × List Value × qq_S) :=
  match qq_grp e.2.1 e.2.2.2 with
  | 0 => (match qq_cst e.2.1 with | some v => some ([], ls, v :: st, σ) | none => none)
  | 1 => (match qq_ldi e.2.1 with | some (i, t) => (match ls[i]? with | some (some v) => if qq_tc v = t then some ([], ls, v :: st, σ) else none | _ => none) | none => none)
  | 2 => (match qq_sti e.2.1, st with | some (i, t), v :: st => if qq_tc v = t ∧ i + v.category ≤ ls.length then some ([], qq_set ls i v, st, σ) else none | _, _ => none)
  | 3 => (match st with | x :: st => (match us_un e.2.1 x with | some (gs, v) => some (gs, ls, v :: st, σ) | none => none) | _ => none)
  | 4 => (match st with | y :: x :: st => (match us_bin e.2.1 y x with | some (gs, v) => some (gs, ls, v :: st, σ) | none => none) | _ => none)
  | 5 => (match qq_shf e.2.1 st with | some st' => some ([], ls, st', σ) | none => none)
  | 8 => (match e.2.1 with | .iinc i n => (match ls[i]? with | some (some (.int x)) => some ([], qq_set ls i (.int (x + Int32.ofInt n)), st, σ) | _ => none) | _ => none)
  | 9 => (match us_hp e.2.1 e.2.2.2 st σ with | some (gs, st', σ') => some (gs, ls, st', σ') | none => none)
  | _ => none
theorem us_ok {e : qq_E} {ls ls' : List (Option Value)} {st st' : List Value} {σ σ' : qq_S} {gs : List Prop} (m j : Nat) (h : us e ls st σ = some (gs, ls', st', σ')) : qq_step m e j ls st σ = qq_if (al gs) (some (.inl (j + 1, ls', st', σ'))) none := by
  unfold us at h
  split at h
  · rename_i hg
    unfold qq_step
    simp only [hg]
    split at h
    · rename_i v hv
      cases h
      simp only [hv]
      exact (qq_if_t trivial).symm
    · cases h
  · rename_i hg
    unfold qq_step
    simp only [hg]
    split at h
    · rename_i i t hi
      simp only [hi]
      split at h
      · rename_i v hv
        simp only [hv]
        split at h
        · rename_i ht
          cases h
          rw [if_pos ht]
          exact (qq_if_t trivial).symm
        · cases h
      · cases h
    · cases h
  · rename_i hg
    unfold qq_step
    simp only [hg]
    split at h
    · rename_i i t v st9 hi
      simp only [hi]
      split at h
      · rename_i ht
        cases h
        rw [if_pos ht]
        exact (qq_if_t trivial).symm
      · cases h
    · cases h
  · rename_i hg
    unfold qq_step
    simp only [hg]
    split at h
    · split at h
      · rename_i gs9 v hv
        cases h
        simp only [us_un_ok hv]
        by_cases hq : al gs
        · rw [qq_if_t hq, qq_if_t hq]
        · rw [qq_if_f hq, qq_if_f hq]
      · cases h
    · cases h
  · rename_i hg
    unfold qq_step
    simp only [hg]
    split at h
    · split at h
      · rename_i gs9 v hv
        cases h
        simp only [us_bin_ok hv]
        by_cases hq : al gs
        · rw [qq_if_t hq, qq_if_t hq]
        · rw [qq_if_f hq, qq_if_f hq]
      · cases h
    · cases h
  · rename_i hg
    unfold qq_step
    simp only [hg]
    split at h
    · rename_i st9 hv
      cases h
      simp only [hv]
      exact (qq_if_t trivial).symm
    · cases h
  · rename_i hg
    unfold qq_step
    simp only [hg]
    split at h
    · rename_i i n hi
      split at h
      · rename_i x hx
        cases h
        simp only [hi, hx]
        exact (qq_if_t trivial).symm
      · cases h
    · cases h
  · rename_i hg
    unfold qq_step
    simp only [hg]
    split at h
    · rename_i gs9 st9 σ9 hv
      cases h
      simp only [us_hp_ok hv]
      by_cases hq : al gs
      · rw [qq_if_t hq, qq_if_t hq]
      · rw [qq_if_f hq, qq_if_f hq]
    · cases h
  · cases h
def usk : List qq_E → List (Option Value) → List Value → qq_S → Option (List Prop × List (Option Value) × List Value × qq_S)
  | [], ls, st, σ => some ([], ls, st, σ)
  | e :: L, ls, st, σ => (match us e ls st σ with
    | none => none
    | some (gs, ls', st', σ') => (match usk L ls' st' σ' with
      | none => none
      | some (hs, r) => some (gs ++ hs, r)))
theorem T_drop {m : Nat} {tb : List qq_E} (ht : qq_tab.getD m [] = tb) {j : Nat} {e : qq_E} {L : List qq_E} (h : tb.drop j = e :: L) : qq_T m j = some e ∧ tb.drop (j + 1) = L := by
  refine ⟨?_, ?_⟩
  · unfold qq_T
    rw [ht, ← List.head?_drop, h]; rfl
  · rw [← List.drop_drop, h]; rfl
theorem T_run {d m : Nat} {tb : List qq_E} (ht : qq_tab.getD m [] = tb) : ∀ (L : List qq_E) (L9 : List qq_E) (j : Nat) {ls ls' : List (Option Value)} {st st' : List Value} {σ σ' : qq_S} {gs : List Prop}, tb.drop j = L ++ L9 → usk L ls st σ = some (gs, ls', st', σ') → RR d m j ls st σ = gd (al gs) (RR d m (j + L.length) ls' st' σ') := by
  intro L
  induction L with
  | nil =>
    intro L9 j ls ls' st st' σ σ' gs _ h
    cases h
    exact (gd_t trivial).symm
  | cons e L ih =>
    intro L9 j ls ls' st st' σ σ' gs hd h
    obtain ⟨hT, hd2⟩ := T_drop ht hd
    simp only [usk] at h
    split at h
    · cases h
    · rename_i gs1 ls1 st1 σ1 hu
      split at h
      · cases h
      · rename_i hs r hr
        cases h
        have h2 := ih L9 (j + 1) hd2 hr
        have h3 := us_ok m j hu
        have e1 : j + (e :: L).length = j + 1 + L.length := by simp; omega
        rw [e1]
        by_cases hq : al gs1
        · rw [qq_if_t hq] at h3
          rw [RR_next hT h3, h2, propext (al_app (ps := gs1) (qs := hs)), ← gd_gd, gd_t hq]
        · rw [qq_if_f hq] at h3
          rw [RR_stuck hT h3, gd_f (fun z => hq (al_app.mp z).1)]
/-- k instructions at once -/
theorem us_run {d m : Nat} {tb : List qq_E} (ht : qq_tab.getD m [] = tb) (j k : Nat) {ls ls' : List (Option Value)} {st st' : List Value} {σ σ' : qq_S} {gs : List Prop} (hk : k = ((tb.drop j).take k).length) (h : usk ((tb.drop j).take k) ls st σ = some (gs, ls', st', σ')) : RR d m j ls st σ = gd (al gs) (RR d m (j + k) ls' st' σ') := by
  have h1 := T_run (d := d) ht ((tb.drop j).take k) ((tb.drop j).drop k) j (List.take_append_drop _ _).symm h
  rw [← hk] at h1
  exact h1
theorem us_run0 {d m : Nat} {tb : List qq_E} (ht : qq_tab.getD m [] = tb) (j k : Nat) {ls ls' : List (Option Value)} {st st' : List Value} {σ σ' : qq_S} (hk : k = ((tb.drop j).take k).length) (h : usk ((tb.drop j).take k) ls st σ = some ([], ls', st', σ')) : RR d m j ls st σ = RR d m (j + k) ls' st' σ' := (us_run ht j k hk h).trans (gd_t trivial)
theorem T_at {m : Nat} {tb : List qq_E} (ht : qq_tab.getD m [] = tb) {j : Nat} {e : qq_E} (h : tb[j]? = some e) : qq_T m j = some e := by unfold qq_T; rw [ht]; exact h
/-- branches -/
theorem br_run {d m : Nat} {tb : List qq_E} (ht : qq_tab.getD m [] = tb) {j : Nat} {e : qq_E} {t : Nat} {b : Bool} {ls : List (Option Value)} {st st' : List Value} {σ : qq_S} (h : tb[j]? = some e) (hg : qq_grp e.2.1 e.2.2.2 = 6) (hl : e.2.2.2 = [t]) (hb : qq_br e.2.1 st = some (b, st')) : RR d m j ls st σ = if b = true then RR d m t ls st' σ else RR d m (j + 1) ls st' σ := by
  have hT := T_at ht h
  have hs : qq_step m e j ls st σ = some (.inl (if b then t else j + 1, ls, st', σ)) := by
    unfold qq_step
    simp only [hg]
    simp only [hb, hl]
  rw [RR_next hT hs]
  cases b <;> rfl
theorem br_y {d m : Nat} {tb : List qq_E} (ht : qq_tab.getD m [] = tb) {j : Nat} {e : qq_E} {t : Nat} {ls : List (Option Value)} {st st' : List Value} {σ : qq_S} (P : Prop) [Decidable P] (h : tb[j]? = some e) (hg : qq_grp e.2.1 e.2.2.2 = 6) (hl : e.2.2.2 = [t]) (hb : qq_br e.2.1 st = some (decide P, st')) : RR d m j ls st σ = if P then RR d m t ls st' σ else RR d m (j + 1) ls st' σ := by
  rw [br_run ht h hg hl hb]
  by_cases hP : P
  · rw [if_pos hP, if_pos (decide_eq_true hP)]
  · rw [if_neg hP, if_neg (by rw [decide_eq_false hP]; exact Bool.false_ne_true)]
theorem br_n {d m : Nat} {tb : List qq_E} (ht : qq_tab.getD m [] = tb) {j : Nat} {e : qq_E} {t : Nat} {ls : List (Option Value)} {st st' : List Value} {σ : qq_S} (P : Prop) [Decidable P] (h : tb[j]? = some e) (hg : qq_grp e.2.1 e.2.2.2 = 6) (hl : e.2.2.2 = [t]) (hb : qq_br e.2.1 st = some (decide (¬ P), st')) : RR d m j ls st σ = if P then RR d m (j + 1) ls st' σ else RR d m t ls st' σ := by
  rw [br_run ht h hg hl hb]
  by_cases hP : P
  · rw [if_pos hP, if_neg (by rw [decide_eq_false (fun z => z hP)]; exact Bool.false_ne_true)]
  · rw [if_neg hP, if_pos (decide_eq_true hP)]
theorem br_g {d m : Nat} {tb : List qq_E} (ht : qq_tab.getD m [] = tb) {j : Nat} {e : qq_E} {t : Nat} {ls : List (Option Value)} {st : List Value} {σ : qq_S} (h : tb[j]? = some e) (hg : qq_grp e.2.1 e.2.2.2 = 6) (hl : e.2.2.2 = [t]) (hb : qq_br e.2.1 st = some (true, st)) : RR d m j ls st σ = RR d m t ls st σ := by
  rw [br_run ht h hg hl hb]; rfl
theorem d_ge (x : Int32) : decide (0 ≤ x) = decide (¬ x < 0) := by
  by_cases h : x < 0
  · rw [decide_eq_false (fun z => Int32.not_le.mpr h z), decide_eq_false (fun z => z h)]
  · rw [decide_eq_true (Int32.not_lt.mp h), decide_eq_true h]
theorem d_le (x : Int32) : decide (x ≤ 0) = decide (¬ 0 < x) := by
  by_cases h : 0 < x
  · rw [decide_eq_false (fun z => Int32.not_le.mpr h z), decide_eq_false (fun z => z h)]
  · rw [decide_eq_true (Int32.not_lt.mp h), decide_eq_true h]
theorem d_ge2 (x y : Int32) : decide (y ≤ x) = decide (¬ x < y) := by
  by_cases h : x < y
  · rw [decide_eq_false (fun z => Int32.not_le.mpr h z), decide_eq_false (fun z => z h)]
  · rw [decide_eq_true (Int32.not_lt.mp h), decide_eq_true h]
theorem bc_ge (o : Int) (x : Int32) (st : List Value) : qq_br (.ifCond .ge o) (.int x :: st) = some (decide (¬ x < 0), st) := by rw [← d_ge]; rfl
theorem bc_le (o : Int) (x : Int32) (st : List Value) : qq_br (.ifCond .le o) (.int x :: st) = some (decide (¬ 0 < x), st) := by rw [← d_le]; rfl
theorem b2_ge (o : Int) (x y : Int32) (st : List Value) : qq_br (.if_icmp .ge o) (.int y :: .int x :: st) = some (decide (¬ x < y), st) := by rw [← d_ge2]; rfl
theorem b2_le (o : Int) (x y : Int32) (st : List Value) : qq_br (.if_icmp .le o) (.int y :: .int x :: st) = some (decide (¬ y < x), st) := by rw [← d_ge2]; rfl
theorem br_null {d m : Nat} {tb : List qq_E} (ht : qq_tab.getD m [] = tb) {j : Nat} {e : qq_E} {t a : Nat} {ls : List (Option Value)} {st : List Value} {σ : qq_S} (h : tb[j]? = some e) (hg : qq_grp e.2.1 e.2.2.2 = 6) (hl : e.2.2.2 = [t]) (hi : ∃ o, e.2.1 = .ifnull o) : RR d m j ls (.ref a :: st) σ = gd (a ≠ 2) (if a = 0 then RR d m t ls st σ else RR d m (j + 1) ls st σ) := by
  obtain ⟨o, hi⟩ := hi
  by_cases ha : a = 2
  · rw [gd_f (fun z => z ha)]
    refine RR_stuck (T_at ht h) ?_
    unfold qq_step
    simp only [hg]
    simp only [hi, qq_br, if_pos ha]
  · rw [gd_t ha]
    exact br_y ht (a = 0) h hg hl (by rw [hi]; simp only [qq_br, if_neg ha])
theorem br_nonnull {d m : Nat} {tb : List qq_E} (ht : qq_tab.getD m [] = tb) {j : Nat} {e : qq_E} {t a : Nat} {ls : List (Option Value)} {st : List Value} {σ : qq_S} (h : tb[j]? = some e) (hg : qq_grp e.2.1 e.2.2.2 = 6) (hl : e.2.2.2 = [t]) (hi : ∃ o, e.2.1 = .ifnonnull o) : RR d m j ls (.ref a :: st) σ = gd (a ≠ 2) (if a = 0 then RR d m (j + 1) ls st σ else RR d m t ls st σ) := by
  obtain ⟨o, hi⟩ := hi
  by_cases ha : a = 2
  · rw [gd_f (fun z => z ha)]
    refine RR_stuck (T_at ht h) ?_
    unfold qq_step
    simp only [hg]
    simp only [hi, qq_br, if_pos ha]
  · rw [gd_t ha]
    exact br_n ht (a = 0) h hg hl (by rw [hi]; simp only [qq_br, if_neg ha])
theorem sw_run {d m : Nat} {tb : List qq_E} (ht : qq_tab.getD m [] = tb) {j : Nat} {e : qq_E} {t k : Nat} {x : Int32} {ls : List (Option Value)} {st : List Value} {σ : qq_S} (h : tb[j]? = some e) (hg : qq_grp e.2.1 e.2.2.2 = 7) (hs : qq_sw e.2.1 x = some k) (hk : e.2.2.2[k]? = some t) : RR d m j ls (.int x :: st) σ = RR d m t ls st σ := by
  refine RR_next (T_at ht h) ?_
  unfold qq_step
  simp only [hg]
  simp only [hs, hk]
/-- ends -/
theorem rt_run {d m : Nat} {tb : List qq_E} (ht : qq_tab.getD m [] = tb) {j : Nat} {e : qq_E} {v : Option Value} {ls : List (Option Value)} {st : List Value} {σ : qq_S} (h : tb[j]? = some e) (hg : qq_grp e.2.1 e.2.2.2 = 11) (P : Prop) (hr : qq_rt m e.2.1 st = qq_if P (some v) none) : RR d m j ls st σ = gd P (some (.inl v, σ)) := by
  have hT := T_at ht h
  by_cases hP : P
  · rw [qq_if_t hP] at hr
    rw [gd_t hP]
    exact RR_ret0 hT (by unfold qq_step; simp only [hg]; simp only [hr])
  · rw [qq_if_f hP] at hr
    rw [gd_f hP]
    exact RR_stuck hT (by unfold qq_step; simp only [hg]; simp only [hr])
theorem rt_run0 {d m : Nat} {tb : List qq_E} (ht : qq_tab.getD m [] = tb) {j : Nat} {e : qq_E} {v : Option Value} {ls : List (Option Value)} {st : List Value} {σ : qq_S} (h : tb[j]? = some e) (hg : qq_grp e.2.1 e.2.2.2 = 11) (hr : qq_rt m e.2.1 st = some v) : RR d m j ls st σ = some (.inl v, σ) := (rt_run ht h hg True (hr.trans (qq_if_t trivial).symm)).trans (gd_t trivial)
theorem rt_int {m : Nat} (hm : qq_ret m = some .int) (x : Int32) : qq_rt m .ireturn [.int x] = some (some (.int x)) := by simp only [qq_rt, hm]; exact qq_if_t rfl
theorem rt_nar {m : Nat} {ty : FieldType} (hm : qq_ret m = some ty) (x : Int32) : qq_rt m .ireturn [.int x] = qq_if (nr ty x) (some (some (.int x))) none := by simp only [qq_rt, hm]; rfl
theorem rt_void {m : Nat} (hm : qq_ret m = none) : qq_rt m .return_ [] = some none := by simp only [qq_rt]; exact qq_if_t hm
theorem rt_dbl {m : Nat} (hm : qq_ret m = some .double) (x : UInt64) : qq_rt m .dreturn [.double x] = some (some (.double x)) := by simp only [qq_rt]; exact qq_if_t hm
theorem rt_flt {m : Nat} (hm : qq_ret m = some .float) (x : UInt32) : qq_rt m .freturn [.float x] = some (some (.float x)) := by simp only [qq_rt]; exact qq_if_t hm
theorem th_run {d m : Nat} {tb : List qq_E} (ht : qq_tab.getD m [] = tb) {j : Nat} {e : qq_E} {x w : Nat} {ls : List (Option Value)} {st : List Value} {σ : qq_S} (h : tb[j]? = some e) (hg : qq_grp e.2.1 e.2.2.2 = 12) (hl : e.2.2.2 = [1, x, w]) (hc : (st.map fun v => v.category).sum ≤ 8 ∧ qq_hn m = []) : RR d m j ls st σ = some (.inr x, nw_S σ 1 (201, 0) 6) := by
  refine RR_thr0 (T_at ht h) ?_
  unfold qq_step
  simp only [hg]
  simp only [hl, if_pos hc]
/-- calls -/
def us_cal (lk : List Nat) (st : List Value) (σ : qq_S) : Option (List Prop × Nat × List Value × List Value) := match lk with
  | kind :: callee :: n :: c :: _ => if kind ≤ 9 ∧ n ≤ st.length ∧ (qq_sl (st.take n).reverse).length ≤ qq_maxL callee ∧ ((st.drop n).map fun v => v.category).sum ≤ 8 ∧ c < 200 then
      (if kind = 0 ∨ kind = 3 ∨ kind = 8 then some ([], callee, (st.take n).reverse, st.drop n) else (match (st.take n).reverse.head? with
        | some (.ref a) => if kind = 2 ∨ kind = 5 then some ([(kd_S σ a).1 < 200], callee, (st.take n).reverse, st.drop n) else some ([(kd_S σ a).1 = c], callee, (st.take n).reverse, st.drop n)
        | _ => none)) else none
  | _ => none
theorem us_cal_ok {i : Instr} {lk : List Nat} {st : List Value} {σ : qq_S} {gs : List Prop} {r : Nat × List Value × List Value} (h : us_cal lk st σ = some (gs, r)) : qq_cal i lk st σ = qq_if (al gs) (some r) none := by
  unfold us_cal at h
  split at h
  · rename_i kind callee n c tl
    split at h
    · rename_i h1
      simp only [qq_cal]
      split at h
      · rename_i h2
        cases h
        refine qq_if_iff ⟨fun _ => trivial, fun _ => ⟨h1.1, h1.2.1, h1.2.2.1, h1.2.2.2.1, fun q1 q2 q3 => ?_⟩⟩
        rcases h2 with h2 | h2 | h2
        · exact absurd h2 q1
        · exact absurd h2 q2
        · exact absurd h2 q3
      · rename_i h2
        split at h
        · rename_i a ha
          have hk : kind ≠ 0 ∧ kind ≠ 3 ∧ kind ≠ 8 := ⟨fun q => h2 (Or.inl q), fun q => h2 (Or.inr (Or.inl q)), fun q => h2 (Or.inr (Or.inr q))⟩
          split at h
          · rename_i h3
            cases h
            refine qq_if_iff ⟨fun q => ?_, fun q => ⟨h1.1, h1.2.1, h1.2.2.1, h1.2.2.2.1, fun _ _ _ => ⟨a, ha, q, fun q1 q2 => ?_⟩⟩⟩
            · obtain ⟨a', e1, e2, -⟩ := q.2.2.2.2 hk.1 hk.2.1 hk.2.2
              rw [ha] at e1
              cases e1
              exact e2
            · rcases h3 with h3 | h3
              · exact absurd h3 q1
              · exact absurd h3 q2
          · rename_i h3
            cases h
            refine qq_if_iff ⟨fun q => ?_, fun q => ⟨h1.1, h1.2.1, h1.2.2.1, h1.2.2.2.1, fun _ _ _ => ⟨a, ha, ?_, fun _ _ => q⟩⟩⟩
            · obtain ⟨a', e1, -, e2⟩ := q.2.2.2.2 hk.1 hk.2.1 hk.2.2
              rw [ha] at e1
              cases e1
              exact e2 (fun z => h3 (Or.inl z)) (fun z => h3 (Or.inr z))
            · have q : (kd_S σ a).1 = c := q
              rw [q]; exact h1.2.2.2.2
        · cases h
    · cases h
  · cases h
theorem cl_run {d m : Nat} {tb : List qq_E} (ht : qq_tab.getD m [] = tb) {j : Nat} {e : qq_E} {c : Nat} {av rest : List Value} {gs : List Prop} {ls : List (Option Value)} {st : List Value} {σ : qq_S} (h : tb[j]? = some e) (hg : qq_grp e.2.1 e.2.2.2 = 10) (hh : qq_hn m = []) (hu : us_cal e.2.2.2 st σ = some (gs, c, av, rest)) :
    RR (d + 1) m j ls st σ = gd (al gs) (bd (CC d c av σ) (fun v σ' => RR (d + 1) m (j + 1) ls (vl v rest) σ')) := by
  have hT := T_at ht h
  have hc := us_cal_ok (i := e.2.1) hu
  by_cases hq : al gs
  · rw [qq_if_t hq] at hc
    rw [gd_t hq]
    have hs : qq_step m e j ls st σ = some (.inr (.inl (c, av, rest))) := by unfold qq_step; simp only [hg]; simp only [hc]
    refine RR_ext (fun r => ⟨fun ⟨n, hn⟩ => ?_, fun h9 => ?_⟩)
    · cases n with
      | zero => simp [qq_run] at hn
      | succ n =>
        rw [qq_run, hT] at hn
        simp only [hs] at hn
        split at hn
        · cases hn
        · rename_i v σ' hr
          have h1 : CC d c av σ = some (.inl v, σ') := RR_iff.mpr ⟨n, hr⟩
          rw [h1, bd_ret, ← vl_eq]
          exact RR_iff.mpr ⟨n, hn⟩
        · rename_i x σ' hr
          have h1 : CC d c av σ = some (.inr x, σ') := RR_iff.mpr ⟨n, hr⟩
          rw [h1, bd_thr]
          rw [hh] at hn
          exact hn
    · cases hcc : CC d c av σ with
      | none => rw [hcc] at h9; cases h9
      | some q =>
        obtain ⟨o, σ'⟩ := q
        obtain ⟨n1, hn1⟩ := RR_iff.mp hcc
        rw [hcc] at h9
        cases o with
        | inl v =>
          rw [bd_ret, ← vl_eq] at h9
          obtain ⟨n2, hn2⟩ := RR_iff.mp h9
          refine ⟨max n1 n2 + 1, ?_⟩
          rw [qq_run, hT]
          simp only [hs, qq_mono hn1 (Nat.le_max_left n1 n2)]
          exact qq_mono hn2 (Nat.le_max_right n1 n2)
        | inr x =>
          rw [bd_thr] at h9
          refine ⟨n1 + 1, ?_⟩
          rw [qq_run, hT]
          simp only [hs, hn1, hh]
          exact h9
  · rw [qq_if_f hq] at hc
    rw [gd_f hq]
    exact RR_stuck hT (by unfold qq_step; simp only [hg]; simp only [hc])
theorem cl_run0 {d m : Nat} {tb : List qq_E} (ht : qq_tab.getD m [] = tb) {j : Nat} {e : qq_E} {c : Nat} {av rest : List Value} {ls : List (Option Value)} {st : List Value} {σ : qq_S} (h : tb[j]? = some e) (hg : qq_grp e.2.1 e.2.2.2 = 10) (hh : qq_hn m = []) (hu : us_cal e.2.2.2 st σ = some ([], c, av, rest)) :
    RR (d + 1) m j ls st σ = bd (CC d c av σ) (fun v σ' => RR (d + 1) m (j + 1) ls (vl v rest) σ') := (cl_run ht h hg hh hu).trans (gd_t trivial)
/-- a call in a method with handlers -/
theorem ch_run {d m : Nat} {tb : List qq_E} (ht : qq_tab.getD m [] = tb) {j : Nat} {e : qq_E} {c : Nat} {av rest : List Value} {gs : List Prop} {ls : List (Option Value)} {st : List Value} {σ : qq_S} (h : tb[j]? = some e) (hg : qq_grp e.2.1 e.2.2.2 = 10) (hh : qq_hn m ≠ []) (hu : us_cal e.2.2.2 st σ = some (gs, c, av, rest)) :
    RR (d + 1) m j ls st σ = gd (al gs) (bdh (CC d c av σ) (fun v σ' => RR (d + 1) m (j + 1) ls (vl v rest) σ') (fun x σ' => match qq_han m j x ls with | none => none | some h => RR (d + 1) m (h.1 + 1) ((qq_set ls h.2 (.ref 0)).set h.2 none) [] σ')) := by
  have hT := T_at ht h
  have hc := us_cal_ok (i := e.2.1) hu
  by_cases hq : al gs
  · rw [qq_if_t hq] at hc
    rw [gd_t hq]
    have hs : qq_step m e j ls st σ = some (.inr (.inl (c, av, rest))) := by unfold qq_step; simp only [hg]; simp only [hc]
    refine RR_ext (fun r => ⟨fun ⟨n, hn⟩ => ?_, fun h9 => ?_⟩)
    · cases n with
      | zero => simp [qq_run] at hn
      | succ n =>
        rw [qq_run, hT] at hn
        simp only [hs] at hn
        split at hn
        · cases hn
        · rename_i v σ' hr
          have h1 : CC d c av σ = some (.inl v, σ') := RR_iff.mpr ⟨n, hr⟩
          rw [h1, bdh_ret, ← vl_eq]
          exact RR_iff.mpr ⟨n, hn⟩
        · rename_i x σ' hr
          have h1 : CC d c av σ = some (.inr x, σ') := RR_iff.mpr ⟨n, hr⟩
          rw [h1, bdh_thr]
          split at hn
          · cases hn
          · rename_i h7 hh7
            simp only [hh7]
            exact RR_iff.mpr ⟨n, hn⟩
    · cases hcc : CC d c av σ with
      | none => rw [hcc] at h9; cases h9
      | some q =>
        obtain ⟨o, σ'⟩ := q
        obtain ⟨n1, hn1⟩ := RR_iff.mp hcc
        rw [hcc] at h9
        cases o with
        | inl v =>
          rw [bdh_ret, ← vl_eq] at h9
          obtain ⟨n2, hn2⟩ := RR_iff.mp h9
          refine ⟨max n1 n2 + 1, ?_⟩
          rw [qq_run, hT]
          simp only [hs, qq_mono hn1 (Nat.le_max_left n1 n2)]
          exact qq_mono hn2 (Nat.le_max_right n1 n2)
        | inr x =>
          rw [bdh_thr] at h9
          split at h9
          · cases h9
          · rename_i h7 hh7
            obtain ⟨n2, hn2⟩ := RR_iff.mp h9
            refine ⟨max n1 n2 + 1, ?_⟩
            rw [qq_run, hT]
            simp only [hs, qq_mono hn1 (Nat.le_max_left n1 n2)]
            split
            · rename_i h8; rw [hh7] at h8; cases h8
            · rename_i h8 hh8; rw [hh7] at hh8; cases hh8
              exact qq_mono hn2 (Nat.le_max_right n1 n2)
  · rw [qq_if_f hq] at hc
    rw [gd_f hq]
    exact RR_stuck hT (by unfold qq_step; simp only [hg]; simp only [hc])
/-- a natural number as an int -/
def iN (n : Nat) : Int32 := Int32.ofNat n
end
