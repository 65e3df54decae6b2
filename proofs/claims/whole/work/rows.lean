section
-- ===== PART A: goes FIRST, ahead of the names: the tables' words, and 'selects' of the private methods out of them =====
/-- a private method of a class that the tables say can be made, by its rows of tables_1 -/
def lw_okq (q : MethodName × Nat) : Prop := (q.1.cls ≠ "java/lang/invoke/MethodHandle" ∧ q.1.cls ≠ "java/lang/invoke/VarHandle") ∧ Cond.instantiable q.1.cls q.2 ∈ tables_1 ∧ Cond.privateMethod q.1 ∈ tables_1 ∧ Cond.instanceMethod q.1 ∈ tables_1
theorem lw_p0 : lw_okq (⟨"CreditWire$Channel", "creditsReturning", "()I"⟩, 13) := ⟨⟨by decide +kernel, by decide +kernel⟩, List.mem_of_getElem? (i := 37) (by decide +kernel), List.mem_of_getElem? (i := 203) (by decide +kernel), List.mem_of_getElem? (i := 204) (by decide +kernel)⟩
theorem lw_p1 : lw_okq (⟨"java/lang/Throwable", "fillInStackTrace", "(I)Ljava/lang/Throwable;"⟩, 6) := ⟨⟨by decide +kernel, by decide +kernel⟩, List.mem_of_getElem? (i := 308) (by decide +kernel), List.mem_of_getElem? (i := 306) (by decide +kernel), List.mem_of_getElem? (i := 307) (by decide +kernel)⟩
theorem lw_p2 : lw_okq (⟨"CreditWire", "putOnTape", "(B)V"⟩, 4) := ⟨⟨by decide +kernel, by decide +kernel⟩, List.mem_of_getElem? (i := 18) (by decide +kernel), List.mem_of_getElem? (i := 417) (by decide +kernel), List.mem_of_getElem? (i := 418) (by decide +kernel)⟩
theorem lw_p3 : lw_okq (⟨"CreditWire$Link", "landFlit", "()V"⟩, 16) := ⟨⟨by decide +kernel, by decide +kernel⟩, List.mem_of_getElem? (i := 26) (by decide +kernel), List.mem_of_getElem? (i := 536) (by decide +kernel), List.mem_of_getElem? (i := 537) (by decide +kernel)⟩
theorem lw_p4 : lw_okq (⟨"CreditWire$Link", "drainBuffers", "()I"⟩, 16) := ⟨⟨by decide +kernel, by decide +kernel⟩, List.mem_of_getElem? (i := 26) (by decide +kernel), List.mem_of_getElem? (i := 548) (by decide +kernel), List.mem_of_getElem? (i := 549) (by decide +kernel)⟩
theorem lw_p5 : lw_okq (⟨"CreditWire$Link", "maskNow", "()I"⟩, 16) := ⟨⟨by decide +kernel, by decide +kernel⟩, List.mem_of_getElem? (i := 26) (by decide +kernel), List.mem_of_getElem? (i := 552) (by decide +kernel), List.mem_of_getElem? (i := 553) (by decide +kernel)⟩
theorem lw_p6 : lw_okq (⟨"CreditWire$Link", "noteArrived", "(LCreditWire$Packet;)V"⟩, 16) := ⟨⟨by decide +kernel, by decide +kernel⟩, List.mem_of_getElem? (i := 26) (by decide +kernel), List.mem_of_getElem? (i := 569) (by decide +kernel), List.mem_of_getElem? (i := 570) (by decide +kernel)⟩
theorem lw_p7 : lw_okq (⟨"CreditWire$Link", "sendFlit", "()V"⟩, 16) := ⟨⟨by decide +kernel, by decide +kernel⟩, List.mem_of_getElem? (i := 26) (by decide +kernel), List.mem_of_getElem? (i := 573) (by decide +kernel), List.mem_of_getElem? (i := 574) (by decide +kernel)⟩
theorem lw_p8 : lw_okq (⟨"CreditWire$Link", "lastMayGoOn", "()Z"⟩, 16) := ⟨⟨by decide +kernel, by decide +kernel⟩, List.mem_of_getElem? (i := 26) (by decide +kernel), List.mem_of_getElem? (i := 577) (by decide +kernel), List.mem_of_getElem? (i := 578) (by decide +kernel)⟩
theorem lw_p9 : lw_okq (⟨"CreditWire$Link", "chooseChannel", "()I"⟩, 16) := ⟨⟨by decide +kernel, by decide +kernel⟩, List.mem_of_getElem? (i := 26) (by decide +kernel), List.mem_of_getElem? (i := 586) (by decide +kernel), List.mem_of_getElem? (i := 587) (by decide +kernel)⟩
theorem lw_p10 : lw_okq (⟨"CreditWire$Link", "firstAbleFrom", "(I)I"⟩, 16) := ⟨⟨by decide +kernel, by decide +kernel⟩, List.mem_of_getElem? (i := 26) (by decide +kernel), List.mem_of_getElem? (i := 590) (by decide +kernel), List.mem_of_getElem? (i := 591) (by decide +kernel)⟩
theorem lw_p11 : lw_okq (⟨"CreditWire$Link", "firstInsidePacket", "()LCreditWire$Channel;"⟩, 16) := ⟨⟨by decide +kernel, by decide +kernel⟩, List.mem_of_getElem? (i := 26) (by decide +kernel), List.mem_of_getElem? (i := 594) (by decide +kernel), List.mem_of_getElem? (i := 595) (by decide +kernel)⟩
theorem lw_p12 : lw_okq (⟨"CreditWire$Link", "noteStalled", "()V"⟩, 16) := ⟨⟨by decide +kernel, by decide +kernel⟩, List.mem_of_getElem? (i := 26) (by decide +kernel), List.mem_of_getElem? (i := 606) (by decide +kernel), List.mem_of_getElem? (i := 607) (by decide +kernel)⟩
theorem lw_p13 : lw_okq (⟨"CreditWireModel", "isChannel", "(I)Z"⟩, 39) := ⟨⟨by decide +kernel, by decide +kernel⟩, List.mem_of_getElem? (i := 626) (by decide +kernel), List.mem_of_getElem? (i := 767) (by decide +kernel), List.mem_of_getElem? (i := 768) (by decide +kernel)⟩
theorem lw_p14 : lw_okq (⟨"CreditWireModel", "cycle", "()I"⟩, 39) := ⟨⟨by decide +kernel, by decide +kernel⟩, List.mem_of_getElem? (i := 626) (by decide +kernel), List.mem_of_getElem? (i := 802) (by decide +kernel), List.mem_of_getElem? (i := 803) (by decide +kernel)⟩
theorem lw_p15 : lw_okq (⟨"CreditWireModel", "comesBack", "()V"⟩, 39) := ⟨⟨by decide +kernel, by decide +kernel⟩, List.mem_of_getElem? (i := 626) (by decide +kernel), List.mem_of_getElem? (i := 806) (by decide +kernel), List.mem_of_getElem? (i := 807) (by decide +kernel)⟩
def lw_privs_1 : List (MethodName × Nat) := [(⟨"CreditWire$Channel", "creditsReturning", "()I"⟩, 13), (⟨"java/lang/Throwable", "fillInStackTrace", "(I)Ljava/lang/Throwable;"⟩, 6), (⟨"CreditWire", "putOnTape", "(B)V"⟩, 4), (⟨"CreditWire$Link", "landFlit", "()V"⟩, 16), (⟨"CreditWire$Link", "drainBuffers", "()I"⟩, 16), (⟨"CreditWire$Link", "maskNow", "()I"⟩, 16), (⟨"CreditWire$Link", "noteArrived", "(LCreditWire$Packet;)V"⟩, 16), (⟨"CreditWire$Link", "sendFlit", "()V"⟩, 16), (⟨"CreditWire$Link", "lastMayGoOn", "()Z"⟩, 16), (⟨"CreditWire$Link", "chooseChannel", "()I"⟩, 16), (⟨"CreditWire$Link", "firstAbleFrom", "(I)I"⟩, 16), (⟨"CreditWire$Link", "firstInsidePacket", "()LCreditWire$Channel;"⟩, 16), (⟨"CreditWire$Link", "noteStalled", "()V"⟩, 16), (⟨"CreditWireModel", "isChannel", "(I)Z"⟩, 39), (⟨"CreditWireModel", "cycle", "()I"⟩, 39), (⟨"CreditWireModel", "comesBack", "()V"⟩, 39)]
theorem lw_r1 : ∀ q ∈ lw_privs_1, lw_okq q := List.forall_mem_cons.mpr ⟨lw_p0, List.forall_mem_cons.mpr ⟨lw_p1, List.forall_mem_cons.mpr ⟨lw_p2, List.forall_mem_cons.mpr ⟨lw_p3, List.forall_mem_cons.mpr ⟨lw_p4, List.forall_mem_cons.mpr ⟨lw_p5, List.forall_mem_cons.mpr ⟨lw_p6, List.forall_mem_cons.mpr ⟨lw_p7, List.forall_mem_cons.mpr ⟨lw_p8, List.forall_mem_cons.mpr ⟨lw_p9, List.forall_mem_cons.mpr ⟨lw_p10, List.forall_mem_cons.mpr ⟨lw_p11, List.forall_mem_cons.mpr ⟨lw_p12, List.forall_mem_cons.mpr ⟨lw_p13, List.forall_mem_cons.mpr ⟨lw_p14, List.forall_mem_cons.mpr ⟨lw_p15, fun _ h => absurd h List.not_mem_nil⟩⟩⟩⟩⟩⟩⟩⟩⟩⟩⟩⟩⟩⟩⟩⟩
theorem lw_p16 : lw_okq (⟨"CreditWireModel", "comes", "()V"⟩, 39) := ⟨⟨by decide +kernel, by decide +kernel⟩, List.mem_of_getElem? (i := 626) (by decide +kernel), List.mem_of_getElem? (i := 810) (by decide +kernel), List.mem_of_getElem? (i := 811) (by decide +kernel)⟩
theorem lw_p17 : lw_okq (⟨"CreditWireModel", "drains", "()I"⟩, 39) := ⟨⟨by decide +kernel, by decide +kernel⟩, List.mem_of_getElem? (i := 626) (by decide +kernel), List.mem_of_getElem? (i := 815) (by decide +kernel), List.mem_of_getElem? (i := 816) (by decide +kernel)⟩
theorem lw_p18 : lw_okq (⟨"CreditWireModel", "sends", "()V"⟩, 39) := ⟨⟨by decide +kernel, by decide +kernel⟩, List.mem_of_getElem? (i := 626) (by decide +kernel), List.mem_of_getElem? (i := 819) (by decide +kernel), List.mem_of_getElem? (i := 820) (by decide +kernel)⟩
theorem lw_p19 : lw_okq (⟨"CreditWireModel", "doesWait", "()Z"⟩, 39) := ⟨⟨by decide +kernel, by decide +kernel⟩, List.mem_of_getElem? (i := 626) (by decide +kernel), List.mem_of_getElem? (i := 823) (by decide +kernel), List.mem_of_getElem? (i := 824) (by decide +kernel)⟩
theorem lw_p20 : lw_okq (⟨"CreditWireModel", "isAble", "(I)Z"⟩, 39) := ⟨⟨by decide +kernel, by decide +kernel⟩, List.mem_of_getElem? (i := 626) (by decide +kernel), List.mem_of_getElem? (i := 827) (by decide +kernel), List.mem_of_getElem? (i := 828) (by decide +kernel)⟩
theorem lw_p21 : lw_okq (⟨"CreditWireModel", "credits", "(I)I"⟩, 39) := ⟨⟨by decide +kernel, by decide +kernel⟩, List.mem_of_getElem? (i := 626) (by decide +kernel), List.mem_of_getElem? (i := 831) (by decide +kernel), List.mem_of_getElem? (i := 832) (by decide +kernel)⟩
theorem lw_p22 : lw_okq (⟨"CreditWireModel", "begun", "()I"⟩, 39) := ⟨⟨by decide +kernel, by decide +kernel⟩, List.mem_of_getElem? (i := 626) (by decide +kernel), List.mem_of_getElem? (i := 835) (by decide +kernel), List.mem_of_getElem? (i := 836) (by decide +kernel)⟩
theorem lw_p23 : lw_okq (⟨"CreditWireModel", "least", "()I"⟩, 39) := ⟨⟨by decide +kernel, by decide +kernel⟩, List.mem_of_getElem? (i := 626) (by decide +kernel), List.mem_of_getElem? (i := 839) (by decide +kernel), List.mem_of_getElem? (i := 840) (by decide +kernel)⟩
theorem lw_p24 : lw_okq (⟨"CreditWireModel", "byTurns", "()I"⟩, 39) := ⟨⟨by decide +kernel, by decide +kernel⟩, List.mem_of_getElem? (i := 626) (by decide +kernel), List.mem_of_getElem? (i := 843) (by decide +kernel), List.mem_of_getElem? (i := 844) (by decide +kernel)⟩
theorem lw_p25 : lw_okq (⟨"CreditWireModel", "arrived", "(IZ)I"⟩, 39) := ⟨⟨by decide +kernel, by decide +kernel⟩, List.mem_of_getElem? (i := 626) (by decide +kernel), List.mem_of_getElem? (i := 859) (by decide +kernel), List.mem_of_getElem? (i := 860) (by decide +kernel)⟩
theorem lw_p26 : lw_okq (⟨"CreditWireModel", "together", "(I)I"⟩, 39) := ⟨⟨by decide +kernel, by decide +kernel⟩, List.mem_of_getElem? (i := 626) (by decide +kernel), List.mem_of_getElem? (i := 863) (by decide +kernel), List.mem_of_getElem? (i := 864) (by decide +kernel)⟩
theorem lw_p27 : lw_okq (⟨"CreditWireModel", "flitBytes", "(II)I"⟩, 39) := ⟨⟨by decide +kernel, by decide +kernel⟩, List.mem_of_getElem? (i := 626) (by decide +kernel), List.mem_of_getElem? (i := 867) (by decide +kernel), List.mem_of_getElem? (i := 868) (by decide +kernel)⟩
theorem lw_p28 : lw_okq (⟨"CreditWireModel", "flit", "(III)I"⟩, 39) := ⟨⟨by decide +kernel, by decide +kernel⟩, List.mem_of_getElem? (i := 626) (by decide +kernel), List.mem_of_getElem? (i := 880) (by decide +kernel), List.mem_of_getElem? (i := 881) (by decide +kernel)⟩
def lw_privs_2 : List (MethodName × Nat) := [(⟨"CreditWireModel", "comes", "()V"⟩, 39), (⟨"CreditWireModel", "drains", "()I"⟩, 39), (⟨"CreditWireModel", "sends", "()V"⟩, 39), (⟨"CreditWireModel", "doesWait", "()Z"⟩, 39), (⟨"CreditWireModel", "isAble", "(I)Z"⟩, 39), (⟨"CreditWireModel", "credits", "(I)I"⟩, 39), (⟨"CreditWireModel", "begun", "()I"⟩, 39), (⟨"CreditWireModel", "least", "()I"⟩, 39), (⟨"CreditWireModel", "byTurns", "()I"⟩, 39), (⟨"CreditWireModel", "arrived", "(IZ)I"⟩, 39), (⟨"CreditWireModel", "together", "(I)I"⟩, 39), (⟨"CreditWireModel", "flitBytes", "(II)I"⟩, 39), (⟨"CreditWireModel", "flit", "(III)I"⟩, 39)]
theorem lw_r2 : ∀ q ∈ lw_privs_2, lw_okq q := List.forall_mem_cons.mpr ⟨lw_p16, List.forall_mem_cons.mpr ⟨lw_p17, List.forall_mem_cons.mpr ⟨lw_p18, List.forall_mem_cons.mpr ⟨lw_p19, List.forall_mem_cons.mpr ⟨lw_p20, List.forall_mem_cons.mpr ⟨lw_p21, List.forall_mem_cons.mpr ⟨lw_p22, List.forall_mem_cons.mpr ⟨lw_p23, List.forall_mem_cons.mpr ⟨lw_p24, List.forall_mem_cons.mpr ⟨lw_p25, List.forall_mem_cons.mpr ⟨lw_p26, List.forall_mem_cons.mpr ⟨lw_p27, List.forall_mem_cons.mpr ⟨lw_p28, fun _ h => absurd h List.not_mem_nil⟩⟩⟩⟩⟩⟩⟩⟩⟩⟩⟩⟩⟩
def lw_privs : List (MethodName × Nat) := lw_privs_1 ++ (lw_privs_2)
def lw_tbl : List Cond := k2_sels lw_privs ++ tables_1
theorem lw_privs_ok : ∀ q ∈ lw_privs, lw_okq q := by
  show ∀ q ∈ lw_privs_1 ++ (lw_privs_2), lw_okq q
  exact List.forall_mem_append.mpr ⟨lw_r1, lw_r2⟩
end
section
/-! ===== BEGIN words of one list among another's, by their places ===== -/
theorem goodIn_r {big : List Cond} (ws : List Cond) (ps : List Nat) (hp : ws = ps.filterMap (fun i => big[i]?)) (h : ws.all goodWord = true) : GoodIn big ws := by
  intro w hw
  have h1 := List.all_eq_true.mp h w hw
  rw [hp] at hw
  obtain ⟨i, -, hi⟩ := List.mem_filterMap.mp hw
  have hm : w ∈ big := by first | exact List.mem_of_getElem? hi | exact List.getElem?_mem hi
  exact ⟨hm, good_of_word h1⟩
theorem goodIn_app {big a b : List Cond} (ha : GoodIn big a) (hb : GoodIn big b) : GoodIn big (a ++ b) := fun w h => (List.mem_append.mp h).elim (ha w) (hb w)
theorem goodIn_ca {big a b : List Cond} {c : Cond} (ha : GoodIn big (c :: a)) (hb : GoodIn big b) : GoodIn big (c :: (a ++ b)) := fun w h => (List.mem_cons.mp h).elim (fun e => ha w (List.mem_cons.mpr (Or.inl e))) (fun h => (List.mem_append.mp h).elim (fun h => ha w (List.mem_cons.mpr (Or.inr h))) (hb w))
theorem goodIn_sub {big ws : List Cond} (hm : ∀ w ∈ ws, w ∈ big) (h : ws.all goodWord = true) : GoodIn big ws := fun w hw => ⟨hm w hw, good_of_word (List.all_eq_true.mp h w hw)⟩
/-! ===== END ===== -/

/-! ===== BEGIN exceptions that leave a method, and their catching by the caller (launches without stack traces) ===== -/
section VXA
/-! The laws vx_back, vx_callV, vx_callS, vx_callSW, vx_throw0, vx_throwS follow proofs of the library, with one case more: JvmDerived/Free/Laws.lean (Back.of_free), Shelf42/LK1.lean (callV, callS), Shelf/KitTraced.lean (throwNew0V, throwNewS). -/
/-- where a method has thrown q: the class by its name, the cell, what was written, the world -/
def vx_T (XC : String → State → State → Prop) (st : State) (q : Addr) (t : State) (mc ms : Nat) (free : Addr → Prop) : Prop :=
  ∃ (E : String) (ce : Cell) (L : List Loc), XC E st t ∧ t.heap[q]? = some ce ∧ ce.vm = .none ∧ st.vm.findClass E = some ce.cls ∧ st.WarmedH t.vm ∧ st.sameButNew ({ t with vm := st.vm } : State) L mc ms ∧ ∀ z ∈ L, free z.base
def vx_Q (Qc : Array Value → State → Outcome → State → Prop) (XC : String → State → State → Prop) (mc ms : Nat) (free : Addr → Prop) : Array Value → State → Outcome → State → Prop := fun a st o t =>
  (Qc a st o t ∧ ∃ L, FrameEnd st o t L mc ms ∧ ∀ q ∈ L, free q.base) ∨ ∃ q, o = .threw q ∧ vx_T XC st q t mc ms free
/-- a callee that returns or throws -/
def vx_Met (l : Launch) (y : MethodName) (ws : List Cond) (rm : Room) (Pc : Array Value → State → Prop) (Qc : Array Value → State → Outcome → State → Prop) (XC : String → State → State → Prop) (mc ms : Nat) (free : Addr → Prop) : Prop :=
  MetFree l y (headSpec ws rm) Pc (fun _ _ _ _ _ => True) (vx_Q Qc XC mc ms free)
def vx_Post (XC : String → State → State → Prop) (mc ms : Nat) (free : Addr → Prop) : Pt → Array Value → Addr → Pt → Prop := fun A a q B =>
  ∃ (g : JFrame) (mk : MethodId) (t : State) (L : List Loc) (E : String) (ce : Cell), B.U.heap = t.heap ∧ B.U.vm = t.vm ∧ XC E (A.U.calling g mk a) t ∧ t.heap[q]? = some ce ∧ ce.vm = .none ∧ A.U.vm.findClass E = some ce.cls ∧ B.locs = A.locs ++ L ∧ (∀ z ∈ L, free z.base) ∧ B.cells = A.cells + mc ∧ B.slots = A.slots + ms
def vx_Back (l : Launch) (R : Room) (p : Program) (e : Env) (below : List Frame) (s : State) (sargs : Array Value) (y : MethodName) (len W9 : Nat)
    (Pre : Pt → Array Value → Prop) (Post : Pt → Array Value → Option Value → Pt → Prop) (PostX : Pt → Array Value → Addr → Pt → Prop) : Prop :=
  ∀ (m : MethodId) (meth : Method) (c : Code) (A : Pt) (g : JFrame) (ig : Instr) (mk : MethodId) (a : Array Value),
    Stand p l e R s m sargs below meth c A.U A.locs A.cells A.slots → g.method = m → g.locals.size = c.maxLocals → decode c.code g.pc = .ok (ig, len) →
    2 * g.monitorRoom + (g.stack.map fun v => v.category).sum ≤ W9 → A.U.methodNamed? y = some mk → Pre A a →
    (∃ (v : Option Value) (B : Pt), Stand p l e R s m sargs below meth c B.U B.locs B.cells B.slots ∧ Post A a v B ∧
      Steps p.tables e below (doInvoke e (A.U.setTop g) [] mk a).1 (B.U.setTop { g with pc := g.pc + len, stack := v.toList ++ g.stack })) ∨
    (∃ (q : Addr) (B : Pt), Stand p l e R s m sargs below meth c B.U B.locs B.cells B.slots ∧ PostX A a q B ∧
      Steps p.tables e below (doInvoke e (A.U.setTop g) [] mk a).1 ((B.U.setTop g).pushFrame (.throwing q)))
section Payer
variable {l : Launch} {R : Room} {p : Program} {e : Env} {below : List Frame} {s : State} {sargs : Array Value} {y : MethodName} {len W9 : Nat}
theorem vx_back {ws : List Cond} {rm : Room} {Pc : Array Value → State → Prop} {Qc : Array Value → State → Outcome → State → Prop} {XC : String → State → State → Prop} {mc ms : Nat} {free : Addr → Prop} {bytes : ByteArray} {maxL : Nat} {ret : Option FieldType}
    (hM : vx_Met l y ws rm Pc Qc XC mc ms free) (hblind : FrameBlind Pc) (hrc : rm.cells = mc) (hrs : rm.slots = ms)
    (hframes : rm.frames + 1 ≤ R.frames) (hlocals : W9 + (maxL + 11) + rm.locals ≤ R.locals)
    (hws : ∀ w ∈ ws, ∀ a' U, s.WarmedH U.vm → w.before a' U = true) (hcode : Cond.code y bytes maxL ret ∈ ws) (hinit : ∀ a' U, s.WarmedH U.vm → (Cond.initialized y.cls).before a' U = true) :
    vx_Back l R p e below s sargs y len W9 (PreOf R mc ms Pc) (PostOf Qc mc ms free) (vx_Post XC mc ms free) := by
  intro m meth c A g ig mk a X hg hsize hdg hW hn hp
  have h1 : (headSpec ws rm).pre.before a A.U = true := atoms_intro fun w hw => hws w hw _ _ X.warmed
  have h2 : (Cond.code y bytes maxL ret).before a A.U = true := hws _ hcode _ _ X.warmed
  have h3 : (Cond.initialized y.cls).before a A.U = true := hinit _ _ X.warmed
  have h4 : A.cells + (headSpec ws rm).room.cells ≤ R.cells := by rw [show (headSpec ws rm).room.cells = mc from hrc]; exact hp.1
  have h5 : A.slots + (headSpec ws rm).room.slots ≤ R.slots := by rw [show (headSpec ws rm).room.slots = ms from hrs]; exact hp.2.1
  have hPc : Pc a (A.U.calling g mk a) := hblind _ _ _ _ hp.2.2
  obtain ⟨U, Ls, c0, s0⟩ := A
  dsimp only [Pt.U, Pt.locs, Pt.cells, Pt.slots] at h1 h2 h3 h4 h5 X hn hPc ⊢
  obtain ⟨methY, cY, hmY, hcY, -, hlY, -, -, -, -⟩ := Cond.code_spec hn h2
  obtain ⟨kY, hkY, -⟩ := className_of_methodNamed hn
  have hinitY : kY.init = .initialized := Cond.initialized_spec (findClass_of_methodNamed hn) hkY h3
  have h : At U g.method c below := by rw [hg]; exact X.here
  have hlocals9 : W9 + (maxL + 11) + (headSpec ws rm).room.locals ≤ R.locals := hlocals
  have happ : (headSpec ws rm).appliesLoose y e.platform (U.calling g mk a) = true :=
    Spec.appliesLoose_calling (g := g) h hdg hn hkY hinitY
      (X.room_calling (g := g) (R' := (headSpec ws rm).room) hsize hmY hcY hframes (by rw [hlY]; omega) h4 h5) h1
  obtain ⟨mid, hmid⟩ := h.above
  have hfr : (U.setTop g).frames = (.java g :: mid) ++ below := by rw [State.frames_setTop' g h.top, hmid]; rfl
  obtain ⟨o, s₂, hsteps, -, hend, hq⟩ := Steps.callFree hM p X.admits X.cas X.clock (acts := []) hfr happ hPc trivial
  have hq' : vx_Q Qc XC mc ms free a (U.calling g mk a) o s₂ := hq
  rw [State.frames_setTop' g h.top] at hend
  obtain ⟨g₀, hg0⟩ := Option.isSome_iff_exists.mp h.top
  obtain ⟨r, hr⟩ := State.topJava?_eq_some.mp hg0
  have hr' : (({ U with heap := s₂.heap, slotsUsed := s₂.slotsUsed } : State).setVm s₂.vm).frames = .java g₀ :: r := hr
  rcases hq' with ⟨hqc, L, hfe, hL⟩ | ⟨q, rfl, E, ce, L, hx, hce, hcv, hcl, hW₂, hsm, hL⟩
  · obtain ⟨⟨v, rfl⟩, hW₂, e2, q2, q3, q4, q5, q6⟩ := id hfe
    have e3 : s₂ = ({ (U.calling g mk a).setFrames s₂.frames with heap := s₂.heap, slotsUsed := s₂.slotsUsed } : State).setVm s₂.vm := by
      have : s₂ = ({ s₂ with vm := (U.calling g mk a).vm } : State).setVm s₂.vm := rfl
      rw [e2] at this
      exact this
    obtain ⟨c₂, i₂, len₂, hc₂, hd₂, hf₂⟩ := hend
    have hW' : U.WarmedH s₂.vm := hW₂
    have hcc : c₂ = c := by
      have h1 : s₂.code? g.method = U.code? g.method := by
        rw [State.code?_eq, State.code?_eq, hW'.alike.method?]
      exact Option.some.inj (hc₂.symm.trans (h1.trans h.code))
    subst hcc
    have hlen : len₂ = len := by rw [hdg] at hd₂; cases hd₂; rfl
    subst hlen
    have hs₂ : s₂ = (({ U with heap := s₂.heap, slotsUsed := s₂.slotsUsed } : State).setVm s₂.vm).setTop { g with pc := g.pc + len₂, stack := v.toList ++ g.stack } := by
      refine e3.trans ?_
      rw [hf₂, State.calling_eq h.top, State.setFrames_setFrames, State.setTop_of_frames _ hr', hr]
      rfl
    have hsame : U.sameButNew ({ U with heap := s₂.heap, slotsUsed := s₂.slotsUsed } : State) L mc ms := by
      refine ⟨?_, q2, q3, q4, q5, q6⟩
      obtain ⟨t, ht, -⟩ := State.frames_cons hr
      show ({ U with heap := s₂.heap, slotsUsed := s₂.slotsUsed } : State) = { U.setFrames U.frames with heap := s₂.heap, slotsUsed := s₂.slotsUsed }
      rw [State.setFrames_self ht]
    subst hg
    refine Or.inl ⟨v, ⟨(({ U with heap := s₂.heap, slotsUsed := s₂.slotsUsed } : State).setVm s₂.vm), Ls ++ L, c0 + mc, s0 + ms⟩,
      ⟨X.admits, X.cas, X.clock, X.frames, X.room, X.hears, X.method, X.code, (X.here.setHeapUsed s₂.heap s₂.slotsUsed).setVm hW'.alike, X.tail, State.WarmedH.trans X.warmed hW', X.limits, X.bytes, X.same.trans (hsame.setVm s.vm)⟩,
      ⟨g, mk, s₂, L, rfl, rfl, hqc, rfl, hL, rfl, rfl⟩, ?_⟩
    show Steps p.tables e below _ ((({ U with heap := s₂.heap, slotsUsed := s₂.slotsUsed } : State).setVm s₂.vm).setTop { g with pc := g.pc + len₂, stack := v.toList ++ g.stack })
    rw [← hs₂]
    exact hsteps
  · obtain ⟨e2, q2, q3, q4, q5, q6⟩ := id hsm
    have e3 : s₂ = ({ (U.calling g mk a).setFrames s₂.frames with heap := s₂.heap, slotsUsed := s₂.slotsUsed } : State).setVm s₂.vm := by
      have : s₂ = ({ s₂ with vm := (U.calling g mk a).vm } : State).setVm s₂.vm := rfl
      rw [e2] at this
      exact this
    have hf₂ : s₂.frames = .throwing q :: .java g :: U.frames.tail := hend
    have hW' : U.WarmedH s₂.vm := hW₂
    have hs₂ : s₂ = ((({ U with heap := s₂.heap, slotsUsed := s₂.slotsUsed } : State).setVm s₂.vm).setTop g).pushFrame (.throwing q) := by
      refine e3.trans ?_
      rw [hf₂, State.calling_eq h.top, State.setFrames_setFrames, State.pushFrame, State.frames_setTop _ hr', State.setTop_of_frames _ hr', State.setFrames_setFrames, hr]
      rfl
    have hsame : U.sameButNew ({ U with heap := s₂.heap, slotsUsed := s₂.slotsUsed } : State) L mc ms := by
      refine ⟨?_, q2, q3, q4, q5, q6⟩
      obtain ⟨t, ht, -⟩ := State.frames_cons hr
      show ({ U with heap := s₂.heap, slotsUsed := s₂.slotsUsed } : State) = { U.setFrames U.frames with heap := s₂.heap, slotsUsed := s₂.slotsUsed }
      rw [State.setFrames_self ht]
    subst hg
    refine Or.inr ⟨q, ⟨(({ U with heap := s₂.heap, slotsUsed := s₂.slotsUsed } : State).setVm s₂.vm), Ls ++ L, c0 + mc, s0 + ms⟩,
      ⟨X.admits, X.cas, X.clock, X.frames, X.room, X.hears, X.method, X.code, (X.here.setHeapUsed s₂.heap s₂.slotsUsed).setVm hW'.alike, X.tail, State.WarmedH.trans X.warmed hW', X.limits, X.bytes, X.same.trans (hsame.setVm s.vm)⟩,
      ⟨g, mk, s₂, L, E, ce, rfl, rfl, hx, hce, hcv, hcl, rfl, hL, rfl, rfl⟩, ?_⟩
    show Steps p.tables e below _ (((({ U with heap := s₂.heap, slotsUsed := s₂.slotsUsed } : State).setVm s₂.vm).setTop g).pushFrame (.throwing q))
    rw [← hs₂]
    exact hsteps
end Payer
section Calls
variable {p : Program} {l : Launch} {e : Env} {R : Room} {s : State} {m : MethodId} {args : Array Value} {below : List Frame} {meth : Method} {c : Code} {T : State} {locs : List Loc} {cells slots : Nat}
theorem vx_callV (X : Stand p l e R s m args below meth c T locs cells slots) (hexec : p.tables.exec = Jvm.exec) {own C : String} {index : Nat} {y : MethodName} {bytes : ByteArray} {maxL : Nat} {ret : Option FieldType}
    (hown : s.vm.findClass own = some m.cls) (hlink : (Cond.methodLink own index y).before args s = true) (hinst : (Cond.instanceMethod y).before args s = true) (hsel : (Cond.selects C y y).before args s = true)
    (hcode : (Cond.code y bytes maxL ret).before args s = true) (hy : y.cls ≠ "java/lang/invoke/MethodHandle" ∧ y.cls ≠ "java/lang/invoke/VarHandle")
    {W9 : Nat} {Pre : Pt → Array Value → Prop} {Post : Pt → Array Value → Option Value → Pt → Prop} {PostX : Pt → Array Value → Addr → Pt → Prop} (hK : vx_Back l R p e below s args y 3 W9 Pre Post PostX)
    {b : Addr} {cellB : Cell} (hcell : T.heap[b]? = some cellB) (hobj : cellB.vm.isStatics = false) (hcls : s.vm.findClass C = some cellB.cls)
    {g : JFrame} (hg : g.method = m) (hsize : g.locals.size = c.maxLocals) {argsL rest : List Value} (hlen : ∀ sig, parseMethodDescriptor y.desc = some sig → argsL.length = sig.parameters.length)
    (hstack : g.stack = argsL.reverse ++ .ref b :: rest) (hW : 2 * g.monitorRoom + (rest.map fun v => v.category).sum ≤ W9) (hdg : decode c.code g.pc = .ok (.invokevirtual index, 3))
    (hpre : ∀ vm₁, s.WarmedH vm₁ → Pre ⟨T.setVm vm₁, locs, cells, slots⟩ (Value.ref b :: argsL).toArray) :
    (∃ (v : Option Value) (vm₁ : Vm) (B : Pt), s.WarmedH vm₁ ∧ Stand p l e R s m args below meth c B.U B.locs B.cells B.slots ∧ Post ⟨T.setVm vm₁, locs, cells, slots⟩ (Value.ref b :: argsL).toArray v B ∧
      ∀ target, Steps p.tables e below (B.U.setTop { g with pc := g.pc + 3, stack := v.toList ++ rest }) target → Steps p.tables e below (T.setTop g) target) ∨
    (∃ (q : Addr) (vm₁ : Vm) (B : Pt), s.WarmedH vm₁ ∧ Stand p l e R s m args below meth c B.U B.locs B.cells B.slots ∧ PostX ⟨T.setVm vm₁, locs, cells, slots⟩ (Value.ref b :: argsL).toArray q B ∧
      Steps p.tables e below (T.setTop g) ((B.U.setTop { g with stack := rest }).pushFrame (.throwing q))) := by
  obtain ⟨mk, methM, hnamed, hmethM, hstM, habM⟩ := Cond.instanceMethod_spec hinst
  obtain ⟨methM', cM, hmethM', -, -, -, -, -, -, hsigM⟩ := Cond.code_spec hnamed hcode
  cases hmethM.symm.trans hmethM'
  obtain ⟨c2, r2, m2, q1, q2, q3, q4, kP, hkP, hkPi⟩ := Cond.selects_spec hsel
  cases hcls.symm.trans q1
  cases (State.methodFound?_of_named hnamed hy).symm.trans q2
  cases hnamed.symm.trans q3
  have hselP : selectMethod e.platform s.vm cellB.cls mk = .method mk := by rw [Launch.admits_selectMethod X.admits]; exact q4
  obtain ⟨vm₁, X₁, hstep₁⟩ := X.invokevirtual hexec hown hlink hnamed hmethM hstM hkP hkPi hy (a := b) (cell := cellB) hcell
    (fun z h => by rw [h] at hobj; cases hobj) hselP hmethM habM hkP hkPi (g := g) hg (argsL := argsL) (rest := rest) (hlen _ hsigM) hstack hdg
  rcases hK m meth c ⟨T.setVm vm₁, locs, cells, slots⟩ { g with stack := rest } (.invokevirtual index) mk (Value.ref b :: argsL).toArray X₁ hg hsize hdg hW (X₁.named hnamed) (hpre vm₁ X₁.warmed) with ⟨v, B, X', hpost, hsteps⟩ | ⟨q, B, X', hpost, hsteps⟩
  · exact Or.inl ⟨v, vm₁, B, X₁.warmed, X', hpost, fun target h => hstep₁ _ fun acts => by rw [doInvoke_state]; exact hsteps.trans h⟩
  · exact Or.inr ⟨q, vm₁, B, X₁.warmed, X', hpost, hstep₁ _ fun acts => by rw [doInvoke_state]; exact hsteps⟩
theorem vx_callS (X : Stand p l e R s m args below meth c T locs cells slots) (hexec : p.tables.exec = Jvm.exec) {own : String} {index : Nat} {y : MethodName} {bytes : ByteArray} {maxL : Nat} {ret : Option FieldType}
    (hown : s.vm.findClass own = some m.cls) (hlink : (Cond.methodLink own index y).before args s = true) (hstat : (Cond.static y).before args s = true) (hinit : (Cond.initialized y.cls).before args s = true)
    (hcode : (Cond.code y bytes maxL ret).before args s = true) (hy : y.cls ≠ "java/lang/invoke/MethodHandle" ∧ y.cls ≠ "java/lang/invoke/VarHandle")
    {W9 : Nat} {Pre : Pt → Array Value → Prop} {Post : Pt → Array Value → Option Value → Pt → Prop} {PostX : Pt → Array Value → Addr → Pt → Prop} (hK : vx_Back l R p e below s args y 3 W9 Pre Post PostX)
    {g : JFrame} (hg : g.method = m) (hsize : g.locals.size = c.maxLocals) {argsL rest : List Value} (hlen : ∀ sig, parseMethodDescriptor y.desc = some sig → argsL.length = sig.parameters.length)
    (hstack : g.stack = argsL.reverse ++ rest) (hW : 2 * g.monitorRoom + (rest.map fun v => v.category).sum ≤ W9) (hdg : decode c.code g.pc = .ok (.invokestatic index, 3))
    (hpre : ∀ vm₁, s.WarmedH vm₁ → Pre ⟨T.setVm vm₁, locs, cells, slots⟩ argsL.toArray) :
    (∃ (v : Option Value) (vm₁ : Vm) (B : Pt), s.WarmedH vm₁ ∧ Stand p l e R s m args below meth c B.U B.locs B.cells B.slots ∧ Post ⟨T.setVm vm₁, locs, cells, slots⟩ argsL.toArray v B ∧
      ∀ target, Steps p.tables e below (B.U.setTop { g with pc := g.pc + 3, stack := v.toList ++ rest }) target → Steps p.tables e below (T.setTop g) target) ∨
    (∃ (q : Addr) (vm₁ : Vm) (B : Pt), s.WarmedH vm₁ ∧ Stand p l e R s m args below meth c B.U B.locs B.cells B.slots ∧ PostX ⟨T.setVm vm₁, locs, cells, slots⟩ argsL.toArray q B ∧
      Steps p.tables e below (T.setTop g) ((B.U.setTop { g with stack := rest }).pushFrame (.throwing q))) := by
  obtain ⟨mk, hnamed⟩ := Cond.code_named hcode
  obtain ⟨methM, cM, hmethM, -, -, -, -, -, -, hsigM⟩ := Cond.code_spec hnamed hcode
  have hstatic : methM.isStatic = true := Cond.static_spec hnamed hmethM hstat
  obtain ⟨kP, hkP, -⟩ := className_of_methodNamed hnamed
  have hinitP : kP.init = .initialized := Cond.initialized_spec (findClass_of_methodNamed hnamed) hkP hinit
  obtain ⟨vm₁, X₁, hstep₁⟩ := X.invokestatic hexec hown hlink hnamed hmethM hstatic hkP hinitP hy (g := g) hg (argsL := argsL) (rest := rest) (hlen _ hsigM) hstack hdg
  rcases hK m meth c ⟨T.setVm vm₁, locs, cells, slots⟩ { g with stack := rest } (.invokestatic index) mk argsL.toArray X₁ hg hsize hdg hW (X₁.named hnamed) (hpre vm₁ X₁.warmed) with ⟨v, B, X', hpost, hsteps⟩ | ⟨q, B, X', hpost, hsteps⟩
  · exact Or.inl ⟨v, vm₁, B, X₁.warmed, X', hpost, fun target h => hstep₁ _ fun acts => by rw [doInvoke_state]; exact hsteps.trans h⟩
  · exact Or.inr ⟨q, vm₁, B, X₁.warmed, X', hpost, hstep₁ _ fun acts => by rw [doInvoke_state]; exact hsteps⟩
end Calls
theorem vx_cls {s : State} {T : State} {vm₁ : Vm} {E : String} {k : ClassId} (hW : s.WarmedH vm₁) (h : (T.setVm vm₁).vm.findClass E = some k) : s.vm.findClass E = some k := by
  have h1 : vm₁.findClass E = some k := h
  rw [hW.alike.findClass] at h1
  exact h1
/-- the method's frame g, with q thrown over it -/
def vx_W (p : Program) (l : Launch) (e : Env) (R : Room) (s : State) (m : MethodId) (args : Array Value) (below : List Frame) (meth : Method) (c : Code) (H : Heap) (locs : List Loc) (cells slots : Nat) (Q : State → Prop) (g : JFrame) (q : Addr) : Prop :=
  ∀ T : State, T.heap = H → Stand p l e R s m args below meth c T locs cells slots → ∃ t, Steps p.tables e below ((T.setTop g).pushFrame (.throwing q)) t ∧ Q t
def vx_Run (p : Program) (l : Launch) (e : Env) (R : Room) (s : State) (m : MethodId) (args : Array Value) (below : List Frame) (meth : Method) (c : Code) (H : Heap) (locs : List Loc) (cells slots mc ms : Nat) (g : JFrame) (rest : List Value) (Qa : State → Outcome → State → Prop) (XC : String → State → State → Prop) (free : Addr → Prop) : Prop :=
  ∀ T : State, T.heap = H → Stand p l e R s m args below meth c T locs cells slots →
    (∃ (v : Option Value) (st₀ t T' : State) (L : List Loc), st₀.heap = H ∧ Stand p l e R s m args below meth c T' (locs ++ L) (cells + mc) (slots + ms) ∧ (∀ q ∈ L, free q.base) ∧ T'.heap = t.heap ∧ T'.vm = t.vm ∧ Qa st₀ (.returned v) t ∧
      Goes p e below T g T' { g with pc := g.pc + 3, stack := v.toList ++ rest }) ∨
    (∃ (q : Addr) (st₀ t T' : State) (L : List Loc) (E : String) (ce : Cell), st₀.heap = H ∧ Stand p l e R s m args below meth c T' (locs ++ L) (cells + mc) (slots + ms) ∧ (∀ z ∈ L, free z.base) ∧ T'.heap = t.heap ∧ T'.vm = t.vm ∧ XC E st₀ t ∧ t.heap[q]? = some ce ∧ ce.vm = .none ∧ s.vm.findClass E = some ce.cls ∧
      Steps p.tables e below (T.setTop g) ((T'.setTop { g with stack := rest }).pushFrame (.throwing q)))
def vx_X {S : Type} (px : S → Prop) (B : String → S → State → Prop) (A : Nat → Prop) : String → State → State → Prop := fun E st t => ∃ u : S, px u ∧ B E u t ∧ va_F A st t
section Runs
variable {p : Program} {l : Launch} {e : Env} {R : Room} {s : State} {m : MethodId} {args : Array Value} {below : List Frame} {meth : Method} {c : Code} {H : Heap} {locs : List Loc} {cells slots : Nat}
variable {y : MethodName} {bytes cc : ByteArray} {maxL nL mc ms n index : Nat} {ret : Option FieldType} {ws : List Cond} {rm : Room} {Pc : Array Value → State → Prop} {Qc : Array Value → State → Outcome → State → Prop} {XC : String → State → State → Prop} {free : Addr → Prop} {Ts : List Cond} {own C : String} {b : Addr} {As rest : List Value} {g : JFrame}
theorem vx_callBack (cb : CallB R s args own index y bytes maxL ret ws rm mc ms n) (hM : vx_Met l y ws rm Pc Qc XC mc ms free) (hbl : FrameBlind Pc) : vx_Back l R p e below s args y 3 8 (PreOf R mc ms Pc) (PostOf Qc mc ms free) (vx_Post XC mc ms free) := by
  obtain ⟨hrc, hrs, hfr, hlo, hws, hcw, -, hini, -⟩ := cb
  exact vx_back (bytes := bytes) (maxL := maxL) (ret := ret) hM hbl hrc hrs hfr hlo hws hcw (fun a' U hW => word_at hW (Or.inl (by first | rfl | simp [Cond.onTables, Cond.keeps, Cond.steady])) hini)
theorem vx_runV (S : CallFix p m c cc nL s args Ts own) (hM : vx_Met l y ws rm Pc Qc XC mc ms free) (cw : CallW R s args own C index y bytes maxL ret ws rm mc ms n) (hp : PreV s H C b Pc As)
    (hg : g.method = m) (hn : As.length = n) (hsize : g.locals.size = nL) (hstack : g.stack = As.reverse ++ .ref b :: rest) (hW : 2 * g.monitorRoom + (rest.map fun v => v.category).sum ≤ 8) (hdg : decode cc g.pc = .ok (.invokevirtual index, 3)) (hf : cells + mc ≤ R.cells ∧ slots + ms ≤ R.slots) :
    vx_Run p l e R s m args below meth c H locs cells slots mc ms g rest (Qc (Value.ref b :: As).toArray) XC free := by
  have hK : vx_Back l R p e below s args y 3 8 (PreOf R mc ms Pc) (PostOf Qc mc ms free) (vx_Post XC mc ms free) := vx_callBack cw.1 hM hp.1
  obtain ⟨⟨-, -, -, -, -, -, hcode, -, hy, hlen, hl⟩, hin, hse⟩ := cw
  obtain ⟨hx, hb, hml, ho, -⟩ := S
  obtain ⟨-, ⟨cellB, hcB, hoB, hclB⟩, hPc⟩ := hp
  intro T hT X
  rcases vx_callV X hx (C := C) (bytes := bytes) (maxL := maxL) (ret := ret) ho hl hin hse hcode hy hK (by rw [hT]; exact hcB) hoB hclB hg (hsize.trans hml.symm) (argsL := As) (rest := rest) (fun sig h => hn.trans (hlen sig h)) hstack hW (by rw [hb]; exact hdg)
    (fun vm₁ hW₁ => ⟨hf.1, hf.2, hPc (T.setVm vm₁) hT hW₁⟩) with ⟨v, vm₁, ⟨U', l2, c2, s2⟩, hW₁, X', ⟨g', mk, t, L, e1, e2, hq, h1, hL, h2, h3⟩, st⟩ | ⟨q, vm₁, ⟨U', l2, c2, s2⟩, hW₁, X', ⟨g', mk, t, L, E, ce, e1, e2, hq, hce, hcv, hcl, h1, hL, h2, h3⟩, st⟩
  · dsimp only [Pt.U, Pt.locs, Pt.cells, Pt.slots] at X' e1 e2 h1 h2 h3 st
    subst h1; subst h2; subst h3
    exact Or.inl ⟨v, (T.setVm vm₁).calling g' mk (Value.ref b :: As).toArray, t, U', L, hT, X', hL, e1, e2, hq, st⟩
  · dsimp only [Pt.U, Pt.locs, Pt.cells, Pt.slots] at X' e1 e2 h1 h2 h3 st hcl
    subst h1; subst h2; subst h3
    exact Or.inr ⟨q, (T.setVm vm₁).calling g' mk (Value.ref b :: As).toArray, t, U', L, E, ce, hT, X', hL, e1, e2, hq, hce, hcv, vx_cls hW₁ hcl, st⟩
theorem vx_runS (S : CallFix p m c cc nL s args Ts own) (hM : vx_Met l y ws rm Pc Qc XC mc ms free) (cw : CallB R s args own index y bytes maxL ret ws rm mc ms n ∧ (Cond.static y).before args s = true) (hp : PreS s H Pc As)
    (hg : g.method = m) (hn : As.length = n) (hsize : g.locals.size = nL) (hstack : g.stack = As.reverse ++ rest) (hW : 2 * g.monitorRoom + (rest.map fun v => v.category).sum ≤ 8) (hdg : decode cc g.pc = .ok (.invokestatic index, 3)) (hf : cells + mc ≤ R.cells ∧ slots + ms ≤ R.slots) :
    vx_Run p l e R s m args below meth c H locs cells slots mc ms g rest (Qc As.toArray) XC free := by
  have hK : vx_Back l R p e below s args y 3 8 (PreOf R mc ms Pc) (PostOf Qc mc ms free) (vx_Post XC mc ms free) := vx_callBack cw.1 hM hp.1
  obtain ⟨⟨-, -, -, -, -, -, hcode, hini, hy, hlen, hl⟩, hstt⟩ := cw
  obtain ⟨hx, hb, hml, ho, -⟩ := S
  intro T hT X
  rcases vx_callS X hx (bytes := bytes) (maxL := maxL) (ret := ret) ho hl hstt hini hcode hy hK hg (hsize.trans hml.symm) (argsL := As) (rest := rest) (fun sig h => hn.trans (hlen sig h)) hstack hW (by rw [hb]; exact hdg)
    (fun vm₁ hW₁ => ⟨hf.1, hf.2, hp.2 (T.setVm vm₁) hT hW₁⟩) with ⟨v, vm₁, ⟨U', l2, c2, s2⟩, hW₁, X', ⟨g', mk, t, L, e1, e2, hq, h1, hL, h2, h3⟩, st⟩ | ⟨q, vm₁, ⟨U', l2, c2, s2⟩, hW₁, X', ⟨g', mk, t, L, E, ce, e1, e2, hq, hce, hcv, hcl, h1, hL, h2, h3⟩, st⟩
  · dsimp only [Pt.U, Pt.locs, Pt.cells, Pt.slots] at X' e1 e2 h1 h2 h3 st
    subst h1; subst h2; subst h3
    exact Or.inl ⟨v, (T.setVm vm₁).calling g' mk As.toArray, t, U', L, hT, X', hL, e1, e2, hq, st⟩
  · dsimp only [Pt.U, Pt.locs, Pt.cells, Pt.slots] at X' e1 e2 h1 h2 h3 st hcl
    subst h1; subst h2; subst h3
    exact Or.inr ⟨q, (T.setVm vm₁).calling g' mk As.toArray, t, U', L, E, ce, hT, X', hL, e1, e2, hq, hce, hcv, vx_cls hW₁ hcl, st⟩
end Runs
section Rows
variable {p : Program} {l : Launch} {e : Env} {R : Room} {s : State} {m : MethodId} {args : Array Value} {below : List Frame} {meth : Method} {c : Code} {H : Heap} {locs : List Loc} {cells slots : Nat} {Q : State → Prop}
variable {mc ms : Nat} {free : Addr → Prop} {A0 A1 : Nat → Prop} {H0 : Heap} {a : Array Value} {pc : Nat} {ls : Array Slot} {st0 rest : List Value}
theorem vx_keep {st₀ t T' : State} {L : List Loc} (h0 : st₀.heap = H) (e1 : T'.heap = t.heap) (hS : va_S A0 H0 H locs) (hA : ∀ q, q < H.size → A1 q → A0 q) (hf : ∀ q, free q → A0 q) (hL : ∀ q ∈ L, free q.base) (hF : va_F A1 st₀ t) :
    H.size ≤ T'.heap.size ∧ (∀ q : Nat, q < H.size → ¬ A1 q → T'.heap[q]? = H[q]?) ∧ va_S A0 H0 T'.heap (locs ++ L) := by
  obtain ⟨hz, hk⟩ := hF
  rw [h0] at hz hk
  exact ⟨by rw [e1]; exact hz, fun q h1 h2 => by rw [e1]; exact hk q h1 h2,
    ⟨Nat.le_trans hS.1 (by rw [e1]; exact hz), fun q h1 h2 => by rw [e1, hk q (Nat.lt_of_lt_of_le h1 hS.1) (fun z => h2 (hA q (Nat.lt_of_lt_of_le h1 hS.1) z))]; exact hS.2.1 q h1 h2, fun q hq => by
      rcases List.mem_append.mp hq with h | h
      · exact hS.2.2 q h
      · exact hf _ (hL q h)⟩⟩
theorem vx_calli {S SX : Type} {post : Int32 → S → Prop} {px : SX → Prop} {B : S → State → Prop} {BX : String → SX → State → Prop} {AX : Nat → Prop} (hr : vx_Run p l e R s m args below meth c H locs cells slots mc ms (F0 m pc ls st0) rest (va_Qi post B A1 a) (vx_X px BX AX) free) (hS : va_S A0 H0 H locs) (hA : ∀ q, q < H.size → A1 q → A0 q) (hf : ∀ q, free q → A0 q) (hAX : ∀ q, q < H.size → AX q → A0 q)
    (kx : ∀ (E : String) (ce : Cell) (q9 : Addr) (u : SX) (t : State) (H1 : Heap) (locs1 : List Loc), t.heap = H1 → s.vm.Alike t.vm → px u → BX E u t → H.size ≤ H1.size → (∀ q : Nat, q < H.size → ¬ AX q → H1[q]? = H[q]?) → va_S A0 H0 H1 locs1 → H1[q9]? = some ce → ce.vm = .none → s.vm.findClass E = some ce.cls → vx_W p l e R s m args below meth c H1 locs1 (cells + mc) (slots + ms) Q (F0 m pc ls rest) q9)
    (kk : ∀ (r : Int32) (u : S) (t : State) (H1 : Heap) (locs1 : List Loc), t.heap = H1 → s.vm.Alike t.vm → post r u → B u t → H.size ≤ H1.size → (∀ q : Nat, q < H.size → ¬ A1 q → H1[q]? = H[q]?) → va_S A0 H0 H1 locs1 → W p l e R s m args below meth c H1 locs1 (cells + mc) (slots + ms) Q (F0 m (pc + 3) ls (.int r :: rest))) : W p l e R s m args below meth c H locs cells slots Q (F0 m pc ls st0) := by
  intro T hT X
  rcases hr T hT X with ⟨v, st₀, t, T', L, h0, X', hL, e1, e2, ⟨⟨r, u, hv, hp, hb⟩, hF⟩, st⟩ | ⟨q, st₀, t, T', L, E, ce, h0, X', hL, e1, e2, ⟨u, hp, hb, hF⟩, hce, hcv, hcl, st⟩
  · cases hv
    obtain ⟨k1, k2, k3⟩ := vx_keep h0 e1 hS hA hf hL hF
    obtain ⟨t2, a1, b1⟩ := kk r u t T'.heap (locs ++ L) e1.symm (by rw [← e2]; exact X'.warmed.alike) hp hb k1 k2 k3 T' rfl X'
    exact ⟨t2, st t2 a1, b1⟩
  · obtain ⟨k1, k2, k3⟩ := vx_keep h0 e1 hS hAX hf hL hF
    obtain ⟨t2, a1, b1⟩ := kx E ce q u t T'.heap (locs ++ L) e1.symm (by rw [← e2]; exact X'.warmed.alike) hp hb k1 k2 k3 (by rw [e1]; exact hce) hcv hcl T' rfl X'
    exact ⟨t2, st.trans a1, b1⟩
theorem vx_calll {S SX : Type} {post : Int64 → S → Prop} {px : SX → Prop} {B : S → State → Prop} {BX : String → SX → State → Prop} {AX : Nat → Prop} (hr : vx_Run p l e R s m args below meth c H locs cells slots mc ms (F0 m pc ls st0) rest (va_Ql post B A1 a) (vx_X px BX AX) free) (hS : va_S A0 H0 H locs) (hA : ∀ q, q < H.size → A1 q → A0 q) (hf : ∀ q, free q → A0 q) (hAX : ∀ q, q < H.size → AX q → A0 q)
    (kx : ∀ (E : String) (ce : Cell) (q9 : Addr) (u : SX) (t : State) (H1 : Heap) (locs1 : List Loc), t.heap = H1 → s.vm.Alike t.vm → px u → BX E u t → H.size ≤ H1.size → (∀ q : Nat, q < H.size → ¬ AX q → H1[q]? = H[q]?) → va_S A0 H0 H1 locs1 → H1[q9]? = some ce → ce.vm = .none → s.vm.findClass E = some ce.cls → vx_W p l e R s m args below meth c H1 locs1 (cells + mc) (slots + ms) Q (F0 m pc ls rest) q9)
    (kk : ∀ (r : Int64) (u : S) (t : State) (H1 : Heap) (locs1 : List Loc), t.heap = H1 → s.vm.Alike t.vm → post r u → B u t → H.size ≤ H1.size → (∀ q : Nat, q < H.size → ¬ A1 q → H1[q]? = H[q]?) → va_S A0 H0 H1 locs1 → W p l e R s m args below meth c H1 locs1 (cells + mc) (slots + ms) Q (F0 m (pc + 3) ls (.long r :: rest))) : W p l e R s m args below meth c H locs cells slots Q (F0 m pc ls st0) := by
  intro T hT X
  rcases hr T hT X with ⟨v, st₀, t, T', L, h0, X', hL, e1, e2, ⟨⟨r, u, hv, hp, hb⟩, hF⟩, st⟩ | ⟨q, st₀, t, T', L, E, ce, h0, X', hL, e1, e2, ⟨u, hp, hb, hF⟩, hce, hcv, hcl, st⟩
  · cases hv
    obtain ⟨k1, k2, k3⟩ := vx_keep h0 e1 hS hA hf hL hF
    obtain ⟨t2, a1, b1⟩ := kk r u t T'.heap (locs ++ L) e1.symm (by rw [← e2]; exact X'.warmed.alike) hp hb k1 k2 k3 T' rfl X'
    exact ⟨t2, st t2 a1, b1⟩
  · obtain ⟨k1, k2, k3⟩ := vx_keep h0 e1 hS hAX hf hL hF
    obtain ⟨t2, a1, b1⟩ := kx E ce q u t T'.heap (locs ++ L) e1.symm (by rw [← e2]; exact X'.warmed.alike) hp hb k1 k2 k3 (by rw [e1]; exact hce) hcv hcl T' rfl X'
    exact ⟨t2, st.trans a1, b1⟩
theorem vx_callf {S SX : Type} {post : UInt32 → S → Prop} {px : SX → Prop} {B : S → State → Prop} {BX : String → SX → State → Prop} {AX : Nat → Prop} (hr : vx_Run p l e R s m args below meth c H locs cells slots mc ms (F0 m pc ls st0) rest (va_Qf post B A1 a) (vx_X px BX AX) free) (hS : va_S A0 H0 H locs) (hA : ∀ q, q < H.size → A1 q → A0 q) (hf : ∀ q, free q → A0 q) (hAX : ∀ q, q < H.size → AX q → A0 q)
    (kx : ∀ (E : String) (ce : Cell) (q9 : Addr) (u : SX) (t : State) (H1 : Heap) (locs1 : List Loc), t.heap = H1 → s.vm.Alike t.vm → px u → BX E u t → H.size ≤ H1.size → (∀ q : Nat, q < H.size → ¬ AX q → H1[q]? = H[q]?) → va_S A0 H0 H1 locs1 → H1[q9]? = some ce → ce.vm = .none → s.vm.findClass E = some ce.cls → vx_W p l e R s m args below meth c H1 locs1 (cells + mc) (slots + ms) Q (F0 m pc ls rest) q9)
    (kk : ∀ (r : UInt32) (u : S) (t : State) (H1 : Heap) (locs1 : List Loc), t.heap = H1 → s.vm.Alike t.vm → post r u → B u t → H.size ≤ H1.size → (∀ q : Nat, q < H.size → ¬ A1 q → H1[q]? = H[q]?) → va_S A0 H0 H1 locs1 → W p l e R s m args below meth c H1 locs1 (cells + mc) (slots + ms) Q (F0 m (pc + 3) ls (.float r :: rest))) : W p l e R s m args below meth c H locs cells slots Q (F0 m pc ls st0) := by
  intro T hT X
  rcases hr T hT X with ⟨v, st₀, t, T', L, h0, X', hL, e1, e2, ⟨⟨r, u, hv, hp, hb⟩, hF⟩, st⟩ | ⟨q, st₀, t, T', L, E, ce, h0, X', hL, e1, e2, ⟨u, hp, hb, hF⟩, hce, hcv, hcl, st⟩
  · cases hv
    obtain ⟨k1, k2, k3⟩ := vx_keep h0 e1 hS hA hf hL hF
    obtain ⟨t2, a1, b1⟩ := kk r u t T'.heap (locs ++ L) e1.symm (by rw [← e2]; exact X'.warmed.alike) hp hb k1 k2 k3 T' rfl X'
    exact ⟨t2, st t2 a1, b1⟩
  · obtain ⟨k1, k2, k3⟩ := vx_keep h0 e1 hS hAX hf hL hF
    obtain ⟨t2, a1, b1⟩ := kx E ce q u t T'.heap (locs ++ L) e1.symm (by rw [← e2]; exact X'.warmed.alike) hp hb k1 k2 k3 (by rw [e1]; exact hce) hcv hcl T' rfl X'
    exact ⟨t2, st.trans a1, b1⟩
theorem vx_calld {S SX : Type} {post : UInt64 → S → Prop} {px : SX → Prop} {B : S → State → Prop} {BX : String → SX → State → Prop} {AX : Nat → Prop} (hr : vx_Run p l e R s m args below meth c H locs cells slots mc ms (F0 m pc ls st0) rest (va_Qd post B A1 a) (vx_X px BX AX) free) (hS : va_S A0 H0 H locs) (hA : ∀ q, q < H.size → A1 q → A0 q) (hf : ∀ q, free q → A0 q) (hAX : ∀ q, q < H.size → AX q → A0 q)
    (kx : ∀ (E : String) (ce : Cell) (q9 : Addr) (u : SX) (t : State) (H1 : Heap) (locs1 : List Loc), t.heap = H1 → s.vm.Alike t.vm → px u → BX E u t → H.size ≤ H1.size → (∀ q : Nat, q < H.size → ¬ AX q → H1[q]? = H[q]?) → va_S A0 H0 H1 locs1 → H1[q9]? = some ce → ce.vm = .none → s.vm.findClass E = some ce.cls → vx_W p l e R s m args below meth c H1 locs1 (cells + mc) (slots + ms) Q (F0 m pc ls rest) q9)
    (kk : ∀ (r : UInt64) (u : S) (t : State) (H1 : Heap) (locs1 : List Loc), t.heap = H1 → s.vm.Alike t.vm → post r u → B u t → H.size ≤ H1.size → (∀ q : Nat, q < H.size → ¬ A1 q → H1[q]? = H[q]?) → va_S A0 H0 H1 locs1 → W p l e R s m args below meth c H1 locs1 (cells + mc) (slots + ms) Q (F0 m (pc + 3) ls (.double r :: rest))) : W p l e R s m args below meth c H locs cells slots Q (F0 m pc ls st0) := by
  intro T hT X
  rcases hr T hT X with ⟨v, st₀, t, T', L, h0, X', hL, e1, e2, ⟨⟨r, u, hv, hp, hb⟩, hF⟩, st⟩ | ⟨q, st₀, t, T', L, E, ce, h0, X', hL, e1, e2, ⟨u, hp, hb, hF⟩, hce, hcv, hcl, st⟩
  · cases hv
    obtain ⟨k1, k2, k3⟩ := vx_keep h0 e1 hS hA hf hL hF
    obtain ⟨t2, a1, b1⟩ := kk r u t T'.heap (locs ++ L) e1.symm (by rw [← e2]; exact X'.warmed.alike) hp hb k1 k2 k3 T' rfl X'
    exact ⟨t2, st t2 a1, b1⟩
  · obtain ⟨k1, k2, k3⟩ := vx_keep h0 e1 hS hAX hf hL hF
    obtain ⟨t2, a1, b1⟩ := kx E ce q u t T'.heap (locs ++ L) e1.symm (by rw [← e2]; exact X'.warmed.alike) hp hb k1 k2 k3 (by rw [e1]; exact hce) hcv hcl T' rfl X'
    exact ⟨t2, st.trans a1, b1⟩
theorem vx_callv {S SX : Type} {post : S → Prop} {px : SX → Prop} {B : S → State → Prop} {BX : String → SX → State → Prop} {AX : Nat → Prop} (hr : vx_Run p l e R s m args below meth c H locs cells slots mc ms (F0 m pc ls st0) rest (va_Qv post B A1 a) (vx_X px BX AX) free) (hS : va_S A0 H0 H locs) (hA : ∀ q, q < H.size → A1 q → A0 q) (hf : ∀ q, free q → A0 q) (hAX : ∀ q, q < H.size → AX q → A0 q)
    (kx : ∀ (E : String) (ce : Cell) (q9 : Addr) (u : SX) (t : State) (H1 : Heap) (locs1 : List Loc), t.heap = H1 → s.vm.Alike t.vm → px u → BX E u t → H.size ≤ H1.size → (∀ q : Nat, q < H.size → ¬ AX q → H1[q]? = H[q]?) → va_S A0 H0 H1 locs1 → H1[q9]? = some ce → ce.vm = .none → s.vm.findClass E = some ce.cls → vx_W p l e R s m args below meth c H1 locs1 (cells + mc) (slots + ms) Q (F0 m pc ls rest) q9)
    (kk : ∀ (u : S) (t : State) (H1 : Heap) (locs1 : List Loc), t.heap = H1 → s.vm.Alike t.vm → post u → B u t → H.size ≤ H1.size → (∀ q : Nat, q < H.size → ¬ A1 q → H1[q]? = H[q]?) → va_S A0 H0 H1 locs1 → W p l e R s m args below meth c H1 locs1 (cells + mc) (slots + ms) Q (F0 m (pc + 3) ls (rest))) : W p l e R s m args below meth c H locs cells slots Q (F0 m pc ls st0) := by
  intro T hT X
  rcases hr T hT X with ⟨v, st₀, t, T', L, h0, X', hL, e1, e2, ⟨⟨u, hv, hp, hb⟩, hF⟩, st⟩ | ⟨q, st₀, t, T', L, E, ce, h0, X', hL, e1, e2, ⟨u, hp, hb, hF⟩, hce, hcv, hcl, st⟩
  · cases hv
    obtain ⟨k1, k2, k3⟩ := vx_keep h0 e1 hS hA hf hL hF
    obtain ⟨t2, a1, b1⟩ := kk u t T'.heap (locs ++ L) e1.symm (by rw [← e2]; exact X'.warmed.alike) hp hb k1 k2 k3 T' rfl X'
    exact ⟨t2, st t2 a1, b1⟩
  · obtain ⟨k1, k2, k3⟩ := vx_keep h0 e1 hS hAX hf hL hF
    obtain ⟨t2, a1, b1⟩ := kx E ce q u t T'.heap (locs ++ L) e1.symm (by rw [← e2]; exact X'.warmed.alike) hp hb k1 k2 k3 (by rw [e1]; exact hce) hcv hcl T' rfl X'
    exact ⟨t2, st.trans a1, b1⟩
end Rows
section Ends
variable {p : Program} {l : Launch} {e : Env} {R : Room} {s : State} {m : MethodId} {args : Array Value} {below : List Frame} {meth : Method} {c : Code} {H : Heap} {locs : List Loc} {cells slots : Nat} {Q : State → Prop}
variable {mc ms : Nat} {free : Addr → Prop} {A0 A1 : Nat → Prop} {H0 : Heap} {a : Array Value} {ls : Array Slot} {st0 rest : List Value}
variable {Qc : Array Value → State → Outcome → State → Prop} {XC : String → State → State → Prop}
/-- what a body that may throw owes at its end -/
def vx_MQ (below : List Frame) (Qc : Array Value → State → Outcome → State → Prop) (XC : String → State → State → Prop) (a : Array Value) (s : State) (mc ms : Nat) (free : Addr → Prop) : State → Prop := fun t =>
  ∃ o, t.status = .running ∧ Ended t below o ∧ vx_Q Qc XC mc ms free a s o t
theorem vx_ret {g : JFrame} {mc ms : Nat} (k : W p l e R s m args below meth c H locs cells slots (MQ below Qc args s mc ms free) g) : W p l e R s m args below meth c H locs cells slots (vx_MQ below Qc XC args s mc ms free) g := by
  intro T hT X
  obtain ⟨t, a1, o, b1, b2, b3, b4⟩ := k T hT X
  exact ⟨t, a1, o, b1, b2, Or.inl ⟨b3, b4⟩⟩
/-- not caught here: it goes on to the caller -/
theorem vx_widen {g : JFrame} {q : Addr} {k n : Nat} (h1 : cells ≤ k) (h2 : slots ≤ n) (kk : vx_W p l e R s m args below meth c H locs k n Q g q) : vx_W p l e R s m args below meth c H locs cells slots Q g q := fun T hT X => kk T hT (stand_widen X h1 h2)
theorem vx_out {pc : Nat} {E : String} {ce : Cell} {q : Addr} {mc ms : Nat} (hout : ∀ x ∈ c.exceptionTable.toList, covers x pc = false) (hlocks : meth.locks = false) (hcell : H[q]? = some ce) (hv : ce.vm = .none) (hcl : s.vm.findClass E = some ce.cls)
    (hx : ∀ t : State, t.heap = H → s.vm.Alike t.vm → XC E s t) (hf : ∀ z ∈ locs, free z.base) (hc : cells ≤ mc) (hs : slots ≤ ms) :
    vx_W p l e R s m args below meth c H locs cells slots (vx_MQ below Qc XC args s mc ms free) (F0 m pc ls rest) q := by
  intro T hT X
  obtain ⟨st1, hrun, hend, hW, hsm⟩ := X.leaveThrown q (g := F0 m pc ls rest) rfl rfl rfl hout hlocks
  have hcell9 : (T.setFrames (.throwing q :: below)).heap[q]? = some ce := by
    show T.heap[q]? = some ce
    rw [hT]; exact hcell
  exact ⟨_, st1, .threw q, hrun, hend, Or.inr ⟨q, rfl, E, ce, locs, hx _ hT hW.alike, hcell9, hv, hcl, hW, hsm.mono hc hs, hf⟩⟩
theorem vx_frame {U : State} {k n : Nat} (h : s.sameButNew ({ U with vm := s.vm } : State) locs k n) : s.heap.size ≤ U.heap.size ∧ ∀ q : Nat, q < s.heap.size → (∀ z ∈ locs, z.base ≠ q) → U.heap[q]? = s.heap[q]? := by
  obtain ⟨-, h2, -, -, -, h6⟩ := h
  refine ⟨h2, fun q hq hz => ?_⟩
  obtain ⟨c9, e1, e2, e3, e4⟩ := h6 q _ (Array.getElem?_eq_getElem hq)
  have hs : c9.slots = (s.heap[q]).slots := Array.ext_getElem? fun i => e4 i fun hm => hz _ hm rfl
  have h9 : c9 = s.heap[q] := by
    rw [hs] at e2
    exact e2
  have e5 : U.heap[q]? = some c9 := e1
  rw [e5, h9, Array.getElem?_eq_getElem hq]
/-- the words of a throw but the four that speak of the heap -/
def vx_no (w : Cond) : Bool := decide (w ≠ .isRef (.static Bundle.tN "UNASSIGNED_STACK" Bundle.steD)) && decide (w ≠ .isRef (.static Bundle.tN "SUPPRESSED_SENTINEL" Bundle.listD)) && decide (w ≠ .laysStatic Bundle.tN "UNASSIGNED_STACK" Bundle.steD) && decide (w ≠ .laysStatic Bundle.tN "SUPPRESSED_SENTINEL" Bundle.listD)
def vx_at0 (own : String) (ic : Nat) (X : String) (names : List String) : List Cond := (Bundle.ownAtoms0 own ic X names).filter vx_no
def vx_atS (own : String) (ic : Nat) (X : String) (names : List String) : List Cond := (Bundle.ownAtoms own ic X names).filter vx_no
/-- a word that the tables alone decide, or a good one -/
def vx_ot (w : Cond) : Bool := w.onTables || goodWord w
theorem vx_ot_at {args a' : Array Value} {s U : State} {w : Cond} (hW : s.WarmedH U.vm) (hvm : s.vm = U.vm) (hg : vx_ot w = true) (h : w.before args s = true) : w.before a' U = true := by
  simp only [vx_ot, Bool.or_eq_true] at hg
  rcases hg with hg | hg
  · exact va_tabs hg hvm h
  · exact word_at hW (good_of_word hg) h
/-- a list's words: the good ones out of the method's own list, the others by premises of their own -/
theorem vx_hat {args : Array Value} {s : State} {L B : List Cond} (h1 : ∀ w ∈ L.filter goodWord, w.before args s = true) (h2 : ∀ w ∈ L.filter (fun w => !goodWord w), w ∈ B) (h3 : ∀ w ∈ B, w.before args s = true) : ∀ w ∈ L, w.before args s = true := by
  intro w hw
  by_cases g : goodWord w = true
  · exact h1 w (List.mem_filter.mpr ⟨hw, g⟩)
  · refine h3 w (h2 w (List.mem_filter.mpr ⟨hw, ?_⟩))
    show (!goodWord w) = true
    cases hgw : goodWord w
    · rfl
    · exact absurd hgw g
theorem vx_c {args : Array Value} {s : State} {w : Cond} {B : List Cond} (h : w.before args s = true) (t : ∀ w ∈ B, w.before args s = true) : ∀ w' ∈ w :: B, w'.before args s = true := fun w' h' => (List.mem_cons.mp h').elim (fun e => by rw [e]; exact h) (t w')
theorem vx_n {args : Array Value} {s : State} : ∀ w ∈ ([] : List Cond), w.before args s = true := fun _ h => nomatch h
theorem vx_own {args : Array Value} {s : State} {L : List Cond} (h1 : ∀ w ∈ L.filter vx_no, w.before args s = true)
    (hU : (Cond.isRef (.static Bundle.tN "UNASSIGNED_STACK" Bundle.steD)).before args s = true) (hN : (Cond.isRef (.static Bundle.tN "SUPPRESSED_SENTINEL" Bundle.listD)).before args s = true)
    (lU : (Cond.laysStatic Bundle.tN "UNASSIGNED_STACK" Bundle.steD).before args s = true) (lN : (Cond.laysStatic Bundle.tN "SUPPRESSED_SENTINEL" Bundle.listD).before args s = true) : ∀ w ∈ L, w.before args s = true := by
  intro w hw
  by_cases e1 : w = .isRef (.static Bundle.tN "UNASSIGNED_STACK" Bundle.steD)
  · rw [e1]; exact hU
  · by_cases e2 : w = .isRef (.static Bundle.tN "SUPPRESSED_SENTINEL" Bundle.listD)
    · rw [e2]; exact hN
    · by_cases e3 : w = .laysStatic Bundle.tN "UNASSIGNED_STACK" Bundle.steD
      · rw [e3]; exact lU
      · by_cases e4 : w = .laysStatic Bundle.tN "SUPPRESSED_SENTINEL" Bundle.listD
        · rw [e4]; exact lN
        · exact h1 w (List.mem_filter.mpr ⟨hw, by unfold vx_no; rw [decide_eq_true e1, decide_eq_true e2, decide_eq_true e3, decide_eq_true e4]; rfl⟩)
/-- where a static field lies, its class's statics cell in H -/
def vx_L (C n d : String) (A : Nat → Prop) (U : State) (H : Heap) : Prop := ∃ (c : ClassId) (k : Class) (i : Nat) (f : Field) (a : Nat) (cell : Cell), U.vm.findClass C = some c ∧ U.fieldFound? C n d = some (c, k, i, f) ∧ f.isStatic = true ∧ k.statics = some a ∧ H[a]? = some cell ∧ cell.vm.isStatics = true ∧ cell.cls = c ∧ f.slot < cell.slots.size ∧ k.staticTypes[f.slot]? = some f.type ∧ ¬ A a
theorem vx_L.moved {C n d : String} {A : Nat → Prop} {u U : State} {H : Heap} (hvm : u.vm.Alike U.vm) (h : vx_L C n d A u H) : vx_L C n d A U H := by
  obtain ⟨c, k, i, f, a, cell, h1, h2, h3, h4, h5, h6, h7, h8, h9, h10⟩ := h
  obtain ⟨k', hi', he⟩ := State.fieldFound?_setVm hvm h2
  exact ⟨c, k', i, f, a, cell, by rw [hvm.findClass]; exact h1, hi', h3, by rw [he]; exact h4, h5, h6, h7, h8, by rw [he]; exact h9, h10⟩
theorem vx_L.kept {C n d : String} {A : Nat → Prop} {U : State} {H H1 : Heap} (h : vx_L C n d A U H) (hq : ∀ a : Nat, a < H.size → ¬ A a → H1[a]? = H[a]?) : vx_L C n d A U H1 := by
  obtain ⟨c, k, i, f, a, cell, h1, h2, h3, h4, h5, h6, h7, h8, h9, h10⟩ := h
  exact ⟨c, k, i, f, a, cell, h1, h2, h3, h4, by rw [hq a (Array.getElem?_eq_some_iff.mp h5).1 h10]; exact h5, h6, h7, h8, h9, h10⟩
theorem vx_L.narrow {C n d : String} {A B : Nat → Prop} {U : State} {H : Heap} (h : vx_L C n d A U H) (hAB : ∀ q, B q → A q) : vx_L C n d B U H := by
  obtain ⟨c, k, i, f, a, cell, h1, h2, h3, h4, h5, h6, h7, h8, h9, h10⟩ := h
  exact ⟨c, k, i, f, a, cell, h1, h2, h3, h4, h5, h6, h7, h8, h9, fun z => h10 (hAB _ z)⟩
theorem vx_L.word {C n d : String} {A : Nat → Prop} {s : State} {args : Array Value} (h : vx_L C n d A s s.heap) : (Cond.laysStatic C n d).before args s = true := by
  obtain ⟨c, k, i, f, a, cell, h1, h2, h3, h4, h5, h6, h7, h8, h9, -⟩ := h
  show (Cond.laysStatic C n d).holds args s none s [] = true
  exact Cond.laysStatic_of h1 h2 h3 h4 h5 h6 h7 h8 h9
/-- .. and what it holds: null or some reference -/
def vx_Zq (C n d : String) (A : Nat → Prop) (U : State) (H : Heap) : Prop := va_Zq C n d A U H ∧ vx_L C n d A U H
theorem vx_Zq.moved {C n d : String} {A : Nat → Prop} {u U : State} {H : Heap} (hvm : u.vm.Alike U.vm) (h : vx_Zq C n d A u H) : vx_Zq C n d A U H := ⟨va_Zq.moved hvm h.1, vx_L.moved hvm h.2⟩
theorem vx_Zq.kept {C n d : String} {A : Nat → Prop} {U : State} {H H1 : Heap} (h : vx_Zq C n d A U H) (hq : ∀ a : Nat, a < H.size → ¬ A a → H1[a]? = H[a]?) : vx_Zq C n d A U H1 := ⟨va_Zq.kept h.1 hq, vx_L.kept h.2 hq⟩
theorem vx_Zq.narrow {C n d : String} {A B : Nat → Prop} {U : State} {H : Heap} (h : vx_Zq C n d A U H) (hAB : ∀ q, B q → A q) : vx_Zq C n d B U H := ⟨va_Zq.narrow h.1 hAB, vx_L.narrow h.2 hAB⟩
theorem vx_Zqof {args : Array Value} {s : State} {C n d : String} {A : Nat → Prop} (hl : (Cond.laysStatic C n d).before args s = true) (hini : (Cond.initialized C).before args s = true) (h : (Cond.isRef (.static C n d)).before args s = true) (hA : ∀ a : Nat, a < s.heap.size → ¬ A a) : vx_Zq C n d A s s.heap := by
  refine ⟨va_Zqof hl hini h hA, ?_⟩
  obtain ⟨c, k, i, f, a, cell, h1, h2, h3, h4, h5, h6, h7, h8, h9⟩ := Cond.laysStatic_spec hl
  exact ⟨c, k, i, f, a, cell, h1, h2, h3, h4, h5, h6, h7, h8, h9, hA a (Array.getElem?_eq_some_iff.mp h5).1⟩
theorem vx_isRef {C n d : String} {v : Value} {A : Nat → Prop} {s : State} {args : Array Value} (h : va_Z C n d v A s s.heap) (hv : v.isRef = true) : (Cond.isRef (.static C n d)).before args s = true := by
  obtain ⟨cf, kf, fi, f, a, cell, h1, h2, h3, h4, h5, h6, h7, -⟩ := h
  have he : (Term.static C n d).eval args s none [] s = some v := by
    simp [Term.eval, State.fieldNamed?, h1, h2, h4, h5, h6, h7]
  simp only [Cond.before, Cond.holds, Cond.value, he]
  cases v <;> simp_all [Value.isRef]
theorem vx_isRefq {C n d : String} {A : Nat → Prop} {s : State} {args : Array Value} (h : va_Zq C n d A s s.heap) : (Cond.isRef (.static C n d)).before args s = true := by
  rcases h with h | ⟨t, h⟩
  · exact vx_isRef h rfl
  · exact vx_isRef h rfl
/-- the same frame, seen from here: as if the method were called anew in this heap -/
theorem vx_rebase {T : State} (X : Stand p l e R s m args below meth c T locs cells slots) {R' : Room} (hf : R'.frames ≤ R.frames) (hl : R'.locals ≤ R.locals) (hc : cells + R'.cells ≤ R.cells) (hs : slots + R'.slots ≤ R.slots) :
    Stand p l e R' ((T.setVm s.vm).setFrames (.invoking m args :: below)) m args below meth c T [] 0 0 := by
  have htop : (T.setVm s.vm).topJava?.isSome := X.here.top
  have hF : ((T.setVm s.vm).setFrames (.invoking m args :: below)).frames = .invoking m args :: below := State.frames_setFrames _ (State.cur_lt_of_top htop)
  obtain ⟨g₀, hg0⟩ := Option.isSome_iff_exists.mp htop
  obtain ⟨r, hr⟩ := State.topJava?_eq_some.mp hg0
  have hl9 : e.platform.stackLimits (T.setVm s.vm).me = e.platform.stackLimits s.me := X.limits
  have hb9 : (T.setVm s.vm).me.stackBytes = s.me.stackBytes := X.bytes
  refine ⟨X.admits, X.cas, X.clock, hF, ?_, X.hears, X.method, X.code, X.here, X.tail, X.warmed, ?_, ?_, ?_⟩
  · have h := X.room
    have hU : ((T.setVm s.vm).setFrames (.invoking m args :: below)).localsInUse = s.localsInUse := by
      rw [State.localsInUse_invoking hF (meth := meth) (c := c) X.method X.code, State.localsInUse_invoking X.frames X.method X.code]
    simp only [State.hasRoom, Bool.and_eq_true, decide_eq_true_eq] at h ⊢
    obtain ⟨⟨⟨⟨h1, h2, h3, h4, h5, h6⟩, h7⟩, h8⟩, h9⟩ := h
    rw [X.frames, List.length_cons] at h2 h3
    have q1 := X.heapSize
    have q2 := X.used
    simp only [hF, hU, List.length_cons, State.stackLimits_setFrames, State.stackBytes_setFrames, hl9, hb9]
    refine ⟨⟨⟨⟨by omega, by omega, by omega, by omega, by omega, h6⟩, ?_⟩, ?_⟩, X.book⟩
    · show T.heap.size + R'.cells ≤ e.platform.maxCells
      omega
    · show T.slotsUsed + R'.slots ≤ e.platform.maxSlots
      omega
  · rw [State.stackLimits_setFrames]; rfl
  · rw [State.stackBytes_setFrames]; rfl
  · refine ⟨?_, Nat.le_refl _, Nat.le_refl _, ?_, ?_, fun a c9 h9 => ⟨c9, h9, rfl, rfl, fun _ _ => rfl⟩⟩
    · obtain ⟨t, ht, -⟩ := State.frames_cons hr
      show T.setVm s.vm = { ((T.setVm s.vm).setFrames (.invoking m args :: below)).setFrames (T.setVm s.vm).frames with heap := T.heap, slotsUsed := T.slotsUsed }
      rw [State.setFrames_setFrames, State.setFrames_self ht]
      rfl
    · show T.slotsUsed = T.slotsUsed + ((T.heap.toList.drop T.heap.size).map (·.slots.size)).sum
      rw [List.drop_eq_nil_of_le (Nat.le_of_eq Array.length_toList)]
      rfl
    · show ((T.heap.toList.drop T.heap.size).map (·.slots.size)).sum ≤ 0
      rw [List.drop_eq_nil_of_le (Nat.le_of_eq Array.length_toList)]
      exact Nat.le_refl _
/-- 'throw new E()': new; dup; invokespecial; athrow -/
theorem vx_throw0 {cc : ByteArray} {pc : Nat} (hexec : p.tables.exec = Jvm.exec) (hb : c.code = cc) (hl : l.stackTraces = false) {own cls : String} {names : List String} {ik ic mc ms : Nat} {A : Nat → Prop}
    (hown : s.vm.findClass own = some m.cls) (hcls : Bundle.fit cls = true) (hnames : ∀ n ∈ names, Bundle.fit n = true)
    (hk : (Cond.classLink own ik cls).before args s = true) (hini : (Cond.initialized cls).before args s = true) (hat : ∀ w ∈ vx_at0 own ic cls names, w.before args s = true)
    (hgood : ∀ w ∈ Cond.classLink own ik cls :: Cond.initialized cls :: vx_at0 own ic cls names, vx_ot w = true)
    (hU : vx_Zq Bundle.tN "UNASSIGNED_STACK" Bundle.steD A s s.heap) (hN : vx_Zq Bundle.tN "SUPPRESSED_SENTINEL" Bundle.listD A s s.heap) (hS : va_S A s.heap H locs) (hsize : ls.size = c.maxLocals)
    (d0 : decode cc pc = .ok (.new ik, 3)) (d3 : decode cc (pc + 3) = .ok (.dup, 1)) (d4 : decode cc (pc + 4) = .ok (.invokespecial ic, 3)) (d7 : decode cc (pc + 7) = .ok (.athrow, 1))
    (hout : ∀ x ∈ c.exceptionTable.toList, covers x (pc + 7) = false)
    (hRframes : names.length + 3 < R.frames) (hRlocals : (rest.map fun v => v.category).sum + (13 * (names.length + 1) + 42) ≤ R.locals) (hRcells : cells + 1 ≤ R.cells) (hRslots : slots + 6 ≤ R.slots) (hlocks : meth.locks = false)
    (hx : ∀ t : State, s.vm.Alike t.vm → H.size ≤ t.heap.size → (∀ q : Nat, q < H.size → t.heap[q]? = H[q]?) → XC cls s t)
    (hf : ∀ z ∈ locs, free z.base) (hc : cells + 1 ≤ mc) (hs : slots + 6 ≤ ms) :
    W p l e R s m args below meth c H locs cells slots (vx_MQ below Qc XC args s mc ms free) (F0 m pc ls rest) := by
  intro T hT X
  have htr : e.platform.stackTraces = false := (show e.platform.stackTraces = l.stackTraces by rw [X.admits.platform]).trans hl
  have Y := vx_rebase X (R' := { frames := R.frames, locals := R.locals, cells := 1, slots := 6 }) (Nat.le_refl _) (Nat.le_refl _) hRcells hRslots
  obtain ⟨s', hA⟩ : ∃ z, z = (T.setVm s.vm).setFrames (.invoking m args :: below) := ⟨_, rfl⟩
  rw [← hA] at Y
  have hvm : s'.vm = s.vm := by rw [hA]; rfl
  have hhp : s'.heap = H := by rw [hA]; exact hT
  have hW0 : s.WarmedH s'.vm := by rw [hvm]; exact State.WarmedH.refl s
  have hat' : ∀ w ∈ vx_at0 own ic cls names, w.before args s' = true := fun w hw => vx_ot_at hW0 hvm.symm (hgood w (List.mem_cons_of_mem _ (List.mem_cons_of_mem _ hw))) (hat w hw)
  have hk' : (Cond.classLink own ik cls).before args s' = true := vx_ot_at hW0 hvm.symm (hgood _ List.mem_cons_self) hk
  have hini' : (Cond.initialized cls).before args s' = true := vx_ot_at hW0 hvm.symm (hgood _ (List.mem_cons_of_mem _ List.mem_cons_self)) hini
  have hU' : vx_Zq Bundle.tN "UNASSIGNED_STACK" Bundle.steD A s' s'.heap := by rw [hhp]; exact vx_Zq.moved hW0.alike (hU.kept hS.2.1)
  have hN' : vx_Zq Bundle.tN "SUPPRESSED_SENTINEL" Bundle.listD A s' s'.heap := by rw [hhp]; exact vx_Zq.moved hW0.alike (hN.kept hS.2.1)
  have h : ∀ w ∈ Bundle.ownAtoms0 own ic cls names, w.before args s' = true := vx_own hat' (vx_isRefq hU'.1) (vx_isRefq hN'.1) hU'.2.word hN'.2.word
  have hown' : s'.vm.findClass own = some m.cls := by rw [hvm]; exact hown
  have hins : (Cond.instantiable cls 6).before args s' = true := h _ (by simp [Bundle.ownAtoms0])
  obtain ⟨vm₁, cX, kX, hfX, hkX, -, -, X₁, st1⟩ := Y.newCold hexec (own := own) (C := cls) (index := ik) (n := 6) hown' hk' hins hini'
    (g := F0 m pc ls rest) rfl (by rw [hb]; exact d0) (Nat.le_refl _) (Nat.le_refl _)
  generalize hT1 : (T.setVm vm₁).pushCell { cls := cX, slots := kX.instanceTypes.map defaultValue, vm := .none } = T1 at X₁ st1
  have hcat : (Value.ref T.heap.size).category = 1 := rfl
  have hcellA : T1.heap[T.heap.size]? = some (freshCell cX kX) := by rw [← hT1]; exact State.heap_pushCell_size _ _
  have d3' : decode c.code (pc + 3) = .ok (.dup, 1) := by rw [hb]; exact d3
  obtain ⟨U, hsteps, hrun, hend, hW, hsame, ce, hce, hO⟩ := X₁.ctorThrow0 hexec htr (own := own) (cls := cls) (names := names) (ic := ic) hown' hcls hnames h (fun x hx => nomatch hx) hfX hkX hcellA (by rw [hhp, hT]; exact Nat.le_refl _)
    (g := { method := m, pc := pc + 4, locals := ls, stack := .ref T.heap.size :: .ref T.heap.size :: rest, locked := none }) rfl hsize rfl rfl (rest := rest) rfl
    (by rw [hb]; exact d4) (by rw [hb]; exact d7) hout hRframes (by simp only [List.map_cons, List.sum_cons, hcat]; omega) hlocks
  obtain ⟨f1, f2⟩ := vx_frame hsame
  rw [hhp] at f1 f2
  have hWs : s.WarmedH U.vm := State.WarmedH.trans hW0 hW
  have hcl : s.vm.findClass cls = some ce.cls := by
    have h9 := hO.cls
    rw [hvm] at h9
    exact h9
  have hall : s.sameButNew ({ U with vm := s.vm } : State) locs mc ms := by
    subst hA
    obtain ⟨e1, e2⟩ := hsame
    rw [State.setFrames_setFrames] at e1
    have h2 : (T.setVm s.vm).sameButNew ({ U with vm := s.vm } : State) [] (0 + 1) (0 + 6) := ⟨e1, e2⟩
    have h3 := X.same.trans h2
    rw [List.append_nil] at h3
    exact h3.mono hc hs
  refine ⟨U, ?_, .threw T.heap.size, hrun, hend, Or.inr ⟨T.heap.size, rfl, cls, ce, locs, hx U hWs.alike f1 (fun q hq => f2 q hq (fun z hz => nomatch hz)), hce, hO.vm, hcl, hWs, hall, hf⟩⟩
  refine st1 _ ?_
  show Steps p.tables e below (T1.setTop { method := m, pc := pc + 3, locals := ls, stack := .ref T.heap.size :: rest, locked := none }) _
  jvm_step X₁.here [X₁.here.top, hexec, d3', Value.category]
  exact hsteps
/-- 'throw new E("text")': new; dup; ldc; invokespecial; athrow -/
theorem vx_throwS {cc : ByteArray} {pc : Nat} (hexec : p.tables.exec = Jvm.exec) (hb : c.code = cc) (hl : l.stackTraces = false) {own cls text : String} {names : List String} {ik is ic mc ms sa : Nat} {A : Nat → Prop}
    (hown : s.vm.findClass own = some m.cls) (hcls : Bundle.fit cls = true) (hnames : ∀ n ∈ names, Bundle.fit n = true)
    (hk : (Cond.classLink own ik cls).before args s = true) (hini : (Cond.initialized cls).before args s = true) (hstr : vk_R own is text sa s) (hat : ∀ w ∈ vx_atS own ic cls names, w.before args s = true)
    (hgood : ∀ w ∈ Cond.classLink own ik cls :: Cond.initialized cls :: vx_atS own ic cls names, vx_ot w = true)
    (hU : vx_Zq Bundle.tN "UNASSIGNED_STACK" Bundle.steD A s s.heap) (hN : vx_Zq Bundle.tN "SUPPRESSED_SENTINEL" Bundle.listD A s s.heap) (hS : va_S A s.heap H locs) (hsize : ls.size = c.maxLocals)
    (d0 : decode cc pc = .ok (.new ik, 3)) (d3 : decode cc (pc + 3) = .ok (.dup, 1)) (d4 : decode cc (pc + 4) = .ok (.ldc is, 2)) (d6 : decode cc (pc + 6) = .ok (.invokespecial ic, 3)) (d9 : decode cc (pc + 9) = .ok (.athrow, 1))
    (hout : ∀ x ∈ c.exceptionTable.toList, covers x (pc + 9) = false)
    (hRframes : names.length + 3 < R.frames) (hRlocals : (rest.map fun v => v.category).sum + (13 * (names.length + 1) + 43) ≤ R.locals) (hRcells : cells + 1 ≤ R.cells) (hRslots : slots + 6 ≤ R.slots) (hlocks : meth.locks = false)
    (hx : ∀ t : State, s.vm.Alike t.vm → H.size ≤ t.heap.size → (∀ q : Nat, q < H.size → t.heap[q]? = H[q]?) → XC cls s t)
    (hf : ∀ z ∈ locs, free z.base) (hc : cells + 1 ≤ mc) (hs : slots + 6 ≤ ms) :
    W p l e R s m args below meth c H locs cells slots (vx_MQ below Qc XC args s mc ms free) (F0 m pc ls rest) := by
  intro T hT X
  have htr : e.platform.stackTraces = false := (show e.platform.stackTraces = l.stackTraces by rw [X.admits.platform]).trans hl
  have Y := vx_rebase X (R' := { frames := R.frames, locals := R.locals, cells := 1, slots := 6 }) (Nat.le_refl _) (Nat.le_refl _) hRcells hRslots
  obtain ⟨s', hA⟩ : ∃ z, z = (T.setVm s.vm).setFrames (.invoking m args :: below) := ⟨_, rfl⟩
  rw [← hA] at Y
  have hvm : s'.vm = s.vm := by rw [hA]; rfl
  have hhp : s'.heap = H := by rw [hA]; exact hT
  have hW0 : s.WarmedH s'.vm := by rw [hvm]; exact State.WarmedH.refl s
  have hat' : ∀ w ∈ vx_atS own ic cls names, w.before args s' = true := fun w hw => vx_ot_at hW0 hvm.symm (hgood w (List.mem_cons_of_mem _ (List.mem_cons_of_mem _ hw))) (hat w hw)
  have hk' : (Cond.classLink own ik cls).before args s' = true := vx_ot_at hW0 hvm.symm (hgood _ List.mem_cons_self) hk
  have hini' : (Cond.initialized cls).before args s' = true := vx_ot_at hW0 hvm.symm (hgood _ (List.mem_cons_of_mem _ List.mem_cons_self)) hini
  have hU' : vx_Zq Bundle.tN "UNASSIGNED_STACK" Bundle.steD A s' s'.heap := by rw [hhp]; exact vx_Zq.moved hW0.alike (hU.kept hS.2.1)
  have hN' : vx_Zq Bundle.tN "SUPPRESSED_SENTINEL" Bundle.listD A s' s'.heap := by rw [hhp]; exact vx_Zq.moved hW0.alike (hN.kept hS.2.1)
  have h : ∀ w ∈ Bundle.ownAtoms own ic cls names, w.before args s' = true := vx_own hat' (vx_isRefq hU'.1) (vx_isRefq hN'.1) hU'.2.word hN'.2.word
  have hown' : s'.vm.findClass own = some m.cls := by rw [hvm]; exact hown
  have hins : (Cond.instantiable cls 6).before args s' = true := h _ (by simp [Bundle.ownAtoms])
  obtain ⟨vm₁, cX, kX, hfX, hkX, -, -, X₁, st1⟩ := Y.newCold hexec (own := own) (C := cls) (index := ik) (n := 6) hown' hk' hins hini'
    (g := F0 m pc ls rest) rfl (by rw [hb]; exact d0) (Nat.le_refl _) (Nat.le_refl _)
  generalize hT1 : (T.setVm vm₁).pushCell { cls := cX, slots := kX.instanceTypes.map defaultValue, vm := .none } = T1 at X₁ st1
  have hcat : (Value.ref T.heap.size).category = 1 := rfl
  have hcellA : T1.heap[T.heap.size]? = some (freshCell cX kX) := by rw [← hT1]; exact State.heap_pushCell_size _ _
  have d3' : decode c.code (pc + 3) = .ok (.dup, 1) := by rw [hb]; exact d3
  have d4' : decode c.code (pc + 4) = .ok (.ldc is, 2) := by rw [hb]; exact d4
  have hstr' : vk_R own is text sa s' := vk_R.warm hW0 hstr
  obtain ⟨U, hsteps, hrun, hend, hW, hsame, ce, hce, hO⟩ := X₁.ctorThrowS hexec htr (own := own) (cls := cls) (names := names) (ic := ic) hown' hcls hnames h (fun x hx => nomatch hx) hfX hkX hcellA (by rw [hhp, hT]; exact Nat.le_refl _) (msg := .ref sa) rfl
    (g := { method := m, pc := pc + 6, locals := ls, stack := .ref sa :: .ref T.heap.size :: .ref T.heap.size :: rest, locked := none }) rfl hsize rfl rfl (rest := rest) rfl
    (by rw [hb]; exact d6) (by rw [hb]; exact d9) hout hRframes (by simp only [List.map_cons, List.sum_cons, hcat]; omega) hlocks
  obtain ⟨f1, f2⟩ := vx_frame hsame
  rw [hhp] at f1 f2
  have hWs : s.WarmedH U.vm := State.WarmedH.trans hW0 hW
  have hcl : s.vm.findClass cls = some ce.cls := by
    have h9 := hO.cls
    rw [hvm] at h9
    exact h9
  have hall : s.sameButNew ({ U with vm := s.vm } : State) locs mc ms := by
    subst hA
    obtain ⟨e1, e2⟩ := hsame
    rw [State.setFrames_setFrames] at e1
    have h2 : (T.setVm s.vm).sameButNew ({ U with vm := s.vm } : State) [] (0 + 1) (0 + 6) := ⟨e1, e2⟩
    have h3 := X.same.trans h2
    rw [List.append_nil] at h3
    exact h3.mono hc hs
  refine ⟨U, ?_, .threw T.heap.size, hrun, hend, Or.inr ⟨T.heap.size, rfl, cls, ce, locs, hx U hWs.alike f1 (fun q hq => f2 q hq (fun z hz => nomatch hz)), hce, hO.vm, hcl, hWs, hall, hf⟩⟩
  refine st1 _ ?_
  show Steps p.tables e below (T1.setTop { method := m, pc := pc + 3, locals := ls, stack := .ref T.heap.size :: rest, locked := none }) _
  jvm_step X₁.here [X₁.here.top, hexec, d3', Value.category]
  exact X₁.ldcString hexec (own := own) (text := text) (index := is) (a := sa) hown' hstr'.1 hstr'.2
    (g := { method := m, pc := pc + 4, locals := ls, stack := .ref T.heap.size :: .ref T.heap.size :: rest, locked := none }) rfl d4' _ hsteps
/-- 'throw new E("text")', the text by a wide index -/
theorem vx_throwSW {cc : ByteArray} {pc : Nat} (hexec : p.tables.exec = Jvm.exec) (hb : c.code = cc) (hl : l.stackTraces = false) {own cls text : String} {names : List String} {ik is ic mc ms sa : Nat} {A : Nat → Prop}
    (hown : s.vm.findClass own = some m.cls) (hcls : Bundle.fit cls = true) (hnames : ∀ n ∈ names, Bundle.fit n = true)
    (hk : (Cond.classLink own ik cls).before args s = true) (hini : (Cond.initialized cls).before args s = true) (hstr : vk_R own is text sa s) (hat : ∀ w ∈ vx_atS own ic cls names, w.before args s = true)
    (hgood : ∀ w ∈ Cond.classLink own ik cls :: Cond.initialized cls :: vx_atS own ic cls names, vx_ot w = true)
    (hU : vx_Zq Bundle.tN "UNASSIGNED_STACK" Bundle.steD A s s.heap) (hN : vx_Zq Bundle.tN "SUPPRESSED_SENTINEL" Bundle.listD A s s.heap) (hS : va_S A s.heap H locs) (hsize : ls.size = c.maxLocals)
    (d0 : decode cc pc = .ok (.new ik, 3)) (d3 : decode cc (pc + 3) = .ok (.dup, 1)) (d4 : decode cc (pc + 4) = .ok (.ldc_w is, 3)) (d7 : decode cc (pc + 7) = .ok (.invokespecial ic, 3)) (d10 : decode cc (pc + 10) = .ok (.athrow, 1))
    (hout : ∀ x ∈ c.exceptionTable.toList, covers x (pc + 10) = false)
    (hRframes : names.length + 3 < R.frames) (hRlocals : (rest.map fun v => v.category).sum + (13 * (names.length + 1) + 43) ≤ R.locals) (hRcells : cells + 1 ≤ R.cells) (hRslots : slots + 6 ≤ R.slots) (hlocks : meth.locks = false)
    (hx : ∀ t : State, s.vm.Alike t.vm → H.size ≤ t.heap.size → (∀ q : Nat, q < H.size → t.heap[q]? = H[q]?) → XC cls s t)
    (hf : ∀ z ∈ locs, free z.base) (hc : cells + 1 ≤ mc) (hs : slots + 6 ≤ ms) :
    W p l e R s m args below meth c H locs cells slots (vx_MQ below Qc XC args s mc ms free) (F0 m pc ls rest) := by
  intro T hT X
  have htr : e.platform.stackTraces = false := (show e.platform.stackTraces = l.stackTraces by rw [X.admits.platform]).trans hl
  have Y := vx_rebase X (R' := { frames := R.frames, locals := R.locals, cells := 1, slots := 6 }) (Nat.le_refl _) (Nat.le_refl _) hRcells hRslots
  obtain ⟨s', hA⟩ : ∃ z, z = (T.setVm s.vm).setFrames (.invoking m args :: below) := ⟨_, rfl⟩
  rw [← hA] at Y
  have hvm : s'.vm = s.vm := by rw [hA]; rfl
  have hhp : s'.heap = H := by rw [hA]; exact hT
  have hW0 : s.WarmedH s'.vm := by rw [hvm]; exact State.WarmedH.refl s
  have hat' : ∀ w ∈ vx_atS own ic cls names, w.before args s' = true := fun w hw => vx_ot_at hW0 hvm.symm (hgood w (List.mem_cons_of_mem _ (List.mem_cons_of_mem _ hw))) (hat w hw)
  have hk' : (Cond.classLink own ik cls).before args s' = true := vx_ot_at hW0 hvm.symm (hgood _ List.mem_cons_self) hk
  have hini' : (Cond.initialized cls).before args s' = true := vx_ot_at hW0 hvm.symm (hgood _ (List.mem_cons_of_mem _ List.mem_cons_self)) hini
  have hU' : vx_Zq Bundle.tN "UNASSIGNED_STACK" Bundle.steD A s' s'.heap := by rw [hhp]; exact vx_Zq.moved hW0.alike (hU.kept hS.2.1)
  have hN' : vx_Zq Bundle.tN "SUPPRESSED_SENTINEL" Bundle.listD A s' s'.heap := by rw [hhp]; exact vx_Zq.moved hW0.alike (hN.kept hS.2.1)
  have h : ∀ w ∈ Bundle.ownAtoms own ic cls names, w.before args s' = true := vx_own hat' (vx_isRefq hU'.1) (vx_isRefq hN'.1) hU'.2.word hN'.2.word
  have hown' : s'.vm.findClass own = some m.cls := by rw [hvm]; exact hown
  have hins : (Cond.instantiable cls 6).before args s' = true := h _ (by simp [Bundle.ownAtoms])
  obtain ⟨vm₁, cX, kX, hfX, hkX, -, -, X₁, st1⟩ := Y.newCold hexec (own := own) (C := cls) (index := ik) (n := 6) hown' hk' hins hini'
    (g := F0 m pc ls rest) rfl (by rw [hb]; exact d0) (Nat.le_refl _) (Nat.le_refl _)
  generalize hT1 : (T.setVm vm₁).pushCell { cls := cX, slots := kX.instanceTypes.map defaultValue, vm := .none } = T1 at X₁ st1
  have hcat : (Value.ref T.heap.size).category = 1 := rfl
  have hcellA : T1.heap[T.heap.size]? = some (freshCell cX kX) := by rw [← hT1]; exact State.heap_pushCell_size _ _
  have d3' : decode c.code (pc + 3) = .ok (.dup, 1) := by rw [hb]; exact d3
  have d4' : decode c.code (pc + 4) = .ok (.ldc_w is, 3) := by rw [hb]; exact d4
  have hstr' : vk_R own is text sa s' := vk_R.warm hW0 hstr
  obtain ⟨U, hsteps, hrun, hend, hW, hsame, ce, hce, hO⟩ := X₁.ctorThrowS hexec htr (own := own) (cls := cls) (names := names) (ic := ic) hown' hcls hnames h (fun x hx => nomatch hx) hfX hkX hcellA (by rw [hhp, hT]; exact Nat.le_refl _) (msg := .ref sa) rfl
    (g := { method := m, pc := pc + 7, locals := ls, stack := .ref sa :: .ref T.heap.size :: .ref T.heap.size :: rest, locked := none }) rfl hsize rfl rfl (rest := rest) rfl
    (by rw [hb]; exact d7) (by rw [hb]; exact d10) hout hRframes (by simp only [List.map_cons, List.sum_cons, hcat]; omega) hlocks
  obtain ⟨f1, f2⟩ := vx_frame hsame
  rw [hhp] at f1 f2
  have hWs : s.WarmedH U.vm := State.WarmedH.trans hW0 hW
  have hcl : s.vm.findClass cls = some ce.cls := by
    have h9 := hO.cls
    rw [hvm] at h9
    exact h9
  have hall : s.sameButNew ({ U with vm := s.vm } : State) locs mc ms := by
    subst hA
    obtain ⟨e1, e2⟩ := hsame
    rw [State.setFrames_setFrames] at e1
    have h2 : (T.setVm s.vm).sameButNew ({ U with vm := s.vm } : State) [] (0 + 1) (0 + 6) := ⟨e1, e2⟩
    have h3 := X.same.trans h2
    rw [List.append_nil] at h3
    exact h3.mono hc hs
  refine ⟨U, ?_, .threw T.heap.size, hrun, hend, Or.inr ⟨T.heap.size, rfl, cls, ce, locs, hx U hWs.alike f1 (fun q hq => f2 q hq (fun z hz => nomatch hz)), hce, hO.vm, hcl, hWs, hall, hf⟩⟩
  refine st1 _ ?_
  show Steps p.tables e below (T1.setTop { method := m, pc := pc + 3, locals := ls, stack := .ref T.heap.size :: rest, locked := none }) _
  jvm_step X₁.here [X₁.here.top, hexec, d3', Value.category]
  exact X₁.ldcStringW hexec (own := own) (text := text) (index := is) (a := sa) hown' hstr'.1 hstr'.2
    (g := { method := m, pc := pc + 4, locals := ls, stack := .ref T.heap.size :: .ref T.heap.size :: rest, locked := none }) rfl d4' _ hsteps
end Ends
section Bodies
variable {l : Launch}
theorem vx_ofW {y : MethodName} {ws ws' : List Cond} {rm : Room} {Pc : Array Value → State → Prop} {Qc : Array Value → State → Outcome → State → Prop} {XC : String → State → State → Prop} {mc ms : Nat} {free : Addr → Prop} {cc : ByteArray} {maxL : Nat} {ret : Option FieldType}
    (hy : plainName y.cls = true) (hw : ws = Cond.code y cc maxL ret :: ws')
    (body : ∀ p e s m args below meth c s₁, BodyLoose p l y (headSpec ws rm) cc maxL ret e s m args below meth c s₁ → c.maxLocals = maxL → (∀ x ∈ c.exceptionTable.toList, False) → Pc args s →
      W p l e (headSpec ws rm).room s m args below meth c s.heap [] 0 0 (vx_MQ below Qc XC args s mc ms free) (entryFrame m args maxL)) : vx_Met l y ws rm Pc Qc XC mc ms free := by
  refine MetFree.of_bodyS (code := cc) (maxLocals := maxL) (ret := ret) hy ?_ ?_
  · intro args s m h hn
    obtain ⟨meth, c, h1, h2, h3, h4, h5, h6, -, -⟩ := Cond.code_spec hn (atoms_spec (ws := ws) h _ (by rw [hw]; exact List.mem_cons_self))
    exact ⟨meth, c, h1, h2, h3, h4, h5, h6⟩
  · intro p e s m args below meth c s₁ B hml hP _
    have hh0 : s₁.heap = s.heap := by rw [B.state]; rfl
    have ht : ∀ x ∈ c.exceptionTable.toList, False := by
      obtain ⟨meth9, c9, h1, h2, -, -, -, -, h7, -⟩ := Cond.code_spec B.named (atoms_spec (ws := ws) B.pre _ (by rw [hw]; exact List.mem_cons_self))
      cases Option.some.inj (h1.symm.trans B.method)
      cases Option.some.inj (h2.symm.trans (Stand.of_body B).code)
      intro x hx
      rw [Array.isEmpty_iff.mp h7] at hx
      cases hx
    obtain ⟨t, a1, o, b1, b2, b3⟩ := body p e s m args below meth c s₁ B hml ht hP s₁ hh0 (Stand.of_body B)
    exact ⟨t, o, a1, b1, b2, b3⟩
/-- the table of a body with handlers -/
theorem vx_table {p : Program} {x y : MethodName} {S : Spec} {cc bytes : ByteArray} {maxL maxL' : Nat} {ret ret' : Option FieldType} {e : Env} {s s₁ : State} {m : MethodId} {args : Array Value} {below : List Frame} {meth : Method} {c : Code} {hh : List (Nat × Nat × Nat × Nat)}
    (B : BodyLoose p l y S cc maxL ret e s m args below meth c s₁) (h : (Cond.codeWith y bytes maxL' ret' hh).before args s = true) : c.exceptionTable.toList = tableOf hh := by
  obtain ⟨m9, meth9, c9, hn9, h1, h2, -, -, h6, -⟩ := Cond.codeWith_spec h
  cases Option.some.inj (hn9.symm.trans B.named)
  cases Option.some.inj (h1.symm.trans B.method)
  cases Option.some.inj (h2.symm.trans (Stand.of_body B).code)
  rw [← h6, table_eq]
end Bodies
end VXA
/-! ===== END ===== -/
/-! ===== BEGIN a static call of a method with an exception table ===== -/
section VXS
variable {p : Program} {l : Launch} {e : Env} {R : Room} {s : State} {m : MethodId} {args : Array Value} {below : List Frame} {meth : Method} {c : Code} {T : State} {H : Heap} {locs : List Loc} {cells slots : Nat}
abbrev vx_CSW (R : Room) (s : State) (args : Array Value) (own : String) (index : Nat) (y : MethodName) (bytes : ByteArray) (maxL : Nat) (ret : Option FieldType) (hh : List (Nat × Nat × Nat × Nat)) (ws : List Cond) (rm : Room) (mc ms n : Nat) : Prop :=
  (rm.cells = mc ∧ rm.slots = ms ∧ rm.frames + 1 ≤ R.frames ∧ 8 + (maxL + 11) + rm.locals ≤ R.locals ∧ (∀ w ∈ ws, ∀ (a' : Array Value) (U : State), s.WarmedH U.vm → w.before a' U = true) ∧ Cond.codeWith y bytes maxL ret hh ∈ ws) ∧
  (Cond.codeWith y bytes maxL ret hh).before args s = true ∧ (Cond.initialized y.cls).before args s = true ∧ (y.cls ≠ "java/lang/invoke/MethodHandle" ∧ y.cls ≠ "java/lang/invoke/VarHandle") ∧
  (∀ sig, parseMethodDescriptor y.desc = some sig → n = sig.parameters.length) ∧ (Cond.methodLink own index y).before args s = true ∧ (Cond.static y).before args s = true
theorem vx_cwSW {own : String} {index maxL mc ms : Nat} {y : MethodName} {bytes : ByteArray} {ret : Option FieldType} {hh : List (Nat × Nat × Nat × Nat)} {Ts ws ws' : List Cond} {rm : Room} (n : Nat) (ht : ∀ w ∈ Ts, w.before args s = true) (hT : GoodIn Ts (va_wsS own index y ws)) (hw : ws = Cond.codeWith y bytes maxL ret hh :: ws') (hrc : rm.cells = mc) (hrs : rm.slots = ms)
    (hd : y.cls ≠ "java/lang/invoke/MethodHandle" ∧ y.cls ≠ "java/lang/invoke/VarHandle" ∧ (parseMethodDescriptor y.desc).map (fun d => d.parameters.length) = some n) (hR : rm.frames + 1 ≤ R.frames ∧ 8 + (maxL + 11) + rm.locals ≤ R.locals) :
    vx_CSW R s args own index y bytes maxL ret hh ws rm mc ms n := by
  have ok : ∀ w ∈ va_wsS own index y ws, w.before args s = true := fun w h => ht w (hT w h).1
  have hG : GoodIn Ts ws := fun w h => hT w (by unfold va_wsS; exact List.mem_append_right _ h)
  have hc : Cond.codeWith y bytes maxL ret hh ∈ ws := by rw [hw]; exact List.mem_cons_self
  refine ⟨⟨hrc, hrs, hR.1, hR.2, pay_in ht hG, hc⟩, ht _ (hG _ hc).1, ok _ (by simp [va_wsS]), ⟨hd.1, hd.2.1⟩, fun sig h => ?_, ok _ (by simp [va_wsS]), ok _ (by simp [va_wsS])⟩
  have h2 := hd.2.2
  rw [h] at h2
  exact (Option.some.inj h2).symm
theorem vx_callSW (X : Stand p l e R s m args below meth c T locs cells slots) (hexec : p.tables.exec = Jvm.exec) {own : String} {index : Nat} {y : MethodName} {bytes : ByteArray} {maxL : Nat} {ret : Option FieldType} {hh : List (Nat × Nat × Nat × Nat)}
    (hown : s.vm.findClass own = some m.cls) (hlink : (Cond.methodLink own index y).before args s = true) (hstat : (Cond.static y).before args s = true) (hinit : (Cond.initialized y.cls).before args s = true)
    (hcode : (Cond.codeWith y bytes maxL ret hh).before args s = true) (hy : y.cls ≠ "java/lang/invoke/MethodHandle" ∧ y.cls ≠ "java/lang/invoke/VarHandle")
    {W9 : Nat} {Pre : Pt → Array Value → Prop} {Post : Pt → Array Value → Option Value → Pt → Prop} (hK : Back l R p e below s args y 3 W9 Pre Post)
    {g : JFrame} (hg : g.method = m) (hsize : g.locals.size = c.maxLocals) {argsL rest : List Value} (hlen : ∀ sig, parseMethodDescriptor y.desc = some sig → argsL.length = sig.parameters.length)
    (hstack : g.stack = argsL.reverse ++ rest) (hW : 2 * g.monitorRoom + (rest.map fun v => v.category).sum ≤ W9) (hdg : decode c.code g.pc = .ok (.invokestatic index, 3))
    (hpre : ∀ vm₁, s.WarmedH vm₁ → Pre ⟨T.setVm vm₁, locs, cells, slots⟩ argsL.toArray) :
    ∃ (v : Option Value) (vm₁ : Vm) (B : Pt), s.WarmedH vm₁ ∧ Stand p l e R s m args below meth c B.U B.locs B.cells B.slots ∧ Post ⟨T.setVm vm₁, locs, cells, slots⟩ argsL.toArray v B ∧
      ∀ target, Steps p.tables e below (B.U.setTop { g with pc := g.pc + 3, stack := v.toList ++ rest }) target → Steps p.tables e below (T.setTop g) target := by
  obtain ⟨mk, methM, cM, hnamed, hmethM, -, -, -, -, -, -, hsigM⟩ := Cond.codeWith_spec hcode
  have hstatic : methM.isStatic = true := Cond.static_spec hnamed hmethM hstat
  obtain ⟨kP, hkP, -⟩ := className_of_methodNamed hnamed
  have hinitP : kP.init = .initialized := Cond.initialized_spec (findClass_of_methodNamed hnamed) hkP hinit
  obtain ⟨vm₁, X₁, hstep₁⟩ := X.invokestatic hexec hown hlink hnamed hmethM hstatic hkP hinitP hy (g := g) hg (argsL := argsL) (rest := rest) (hlen _ hsigM) hstack hdg
  obtain ⟨v, B, X', hpost, hsteps⟩ := hK m meth c ⟨T.setVm vm₁, locs, cells, slots⟩ { g with stack := rest } (.invokestatic index) mk argsL.toArray X₁ hg hsize hdg hW (X₁.named hnamed) (hpre vm₁ X₁.warmed)
  exact ⟨v, vm₁, B, X₁.warmed, X', hpost, fun target h => hstep₁ _ fun acts => by rw [doInvoke_state]; exact hsteps.trans h⟩
theorem vx_runSW {y : MethodName} {bytes cc : ByteArray} {maxL nL mc ms n index : Nat} {ret : Option FieldType} {hh : List (Nat × Nat × Nat × Nat)} {ws : List Cond} {rm : Room} {Pc : Array Value → State → Prop} {Qc : Array Value → State → Outcome → State → Prop} {free : Addr → Prop} {Ts : List Cond} {own : String} {As rest : List Value} {g : JFrame}
    (S : CallFix p m c cc nL s args Ts own) (hM : Met l y ws rm Pc Qc mc ms free) (cw : vx_CSW R s args own index y bytes maxL ret hh ws rm mc ms n) (hp : PreS s H Pc As)
    (hg : g.method = m) (hn : As.length = n) (hsize : g.locals.size = nL) (hstack : g.stack = As.reverse ++ rest) (hW : 2 * g.monitorRoom + (rest.map fun v => v.category).sum ≤ 8) (hdg : decode cc g.pc = .ok (.invokestatic index, 3)) (hf : cells + mc ≤ R.cells ∧ slots + ms ≤ R.slots) :
    va_Run p l e R s m args below meth c H locs cells slots mc ms g rest (Qc As.toArray) (free) := by
  obtain ⟨⟨hrc, hrs, hfr, hlo, hws, hcw⟩, hcode, hini, hy, hlen, hl, hstt⟩ := cw
  have hK : Back l R p e below s args y 3 8 (PreOf R mc ms Pc) (PostOf Qc mc ms free) := va_backW (hh := hh) (bytes := bytes) (maxL := maxL) (ret := ret) hM hp.1 hrc hrs hfr hlo hws hcw (fun a' U hW => word_at hW (Or.inl (by first | rfl | simp [Cond.onTables, Cond.keeps, Cond.steady])) hini)
  obtain ⟨hx, hb, hml, ho, -⟩ := S
  intro T hT X
  obtain ⟨v, vm₁, ⟨U', l2, c2, s2⟩, hW₁, X', ⟨g', mk, t, L, e1, e2, hq, h1, hL, h2, h3⟩, st⟩ := vx_callSW X hx (hh := hh) (bytes := bytes) (maxL := maxL) (ret := ret) ho hl hstt hini hcode hy hK hg (hsize.trans hml.symm) (argsL := As) (rest := rest) (fun sig h => hn.trans (hlen sig h)) hstack hW (by rw [hb]; exact hdg)
    (fun vm₁ hW₁ => ⟨hf.1, hf.2, hp.2 (T.setVm vm₁) hT hW₁⟩)
  dsimp only [Pt.U, Pt.locs, Pt.cells, Pt.slots] at X' e1 e2 h1 h2 h3 st
  subst h1; subst h2; subst h3
  exact ⟨v, (T.setVm vm₁).calling g' mk As.toArray, t, U', L, hT, X', hL, e1, e2, hq, st⟩
/-- a thing of a world lies in the heap -/
theorem vx_lt {D : va_G} {cl : List vw_C} {ws : va_W} {H1 : Heap} (h : va_P D cl ws H1) {k : Nat} {q : Nat × va_E} (hk : ws[k]? = some q) : q.1 < H1.size := (h k q hk).lt
end VXS
/-! ===== END ===== -/
/-! ===== BEGIN methods with a table of their own: called by a name, returning or throwing ===== -/
section VXH
/-! vx_backW, vx_callVX, vx_callSX, vx_callVW, vx_runVW, vx_runVX, vx_runSX, vx_ofWH follow the same proofs as their sisters above (Free/Laws.lean, Shelf42/LK1.lean); vx_outP calls Shelf42/NT130.lean (outThrough). -/
section
variable {l : Launch} {R : Room} {p : Program} {e : Env} {below : List Frame} {s : State} {sargs : Array Value} {y : MethodName} {len W9 : Nat}
theorem vx_backW {ws : List Cond} {rm : Room} {Pc : Array Value → State → Prop} {Qc : Array Value → State → Outcome → State → Prop} {XC : String → State → State → Prop} {mc ms : Nat} {free : Addr → Prop} {bytes : ByteArray} {maxL : Nat} {ret : Option FieldType} {hh : List (Nat × Nat × Nat × Nat)}
    (hM : vx_Met l y ws rm Pc Qc XC mc ms free) (hblind : FrameBlind Pc) (hrc : rm.cells = mc) (hrs : rm.slots = ms)
    (hframes : rm.frames + 1 ≤ R.frames) (hlocals : W9 + (maxL + 11) + rm.locals ≤ R.locals)
    (hws : ∀ w ∈ ws, ∀ a' U, s.WarmedH U.vm → w.before a' U = true) (hcode : Cond.codeWith y bytes maxL ret hh ∈ ws) (hinit : ∀ a' U, s.WarmedH U.vm → (Cond.initialized y.cls).before a' U = true) :
    vx_Back l R p e below s sargs y len W9 (PreOf R mc ms Pc) (PostOf Qc mc ms free) (vx_Post XC mc ms free) := by
  intro m meth c A g ig mk a X hg hsize hdg hW hn hp
  have h1 : (headSpec ws rm).pre.before a A.U = true := atoms_intro fun w hw => hws w hw _ _ X.warmed
  have h2 : (Cond.codeWith y bytes maxL ret hh).before a A.U = true := hws _ hcode _ _ X.warmed
  have h3 : (Cond.initialized y.cls).before a A.U = true := hinit _ _ X.warmed
  have h4 : A.cells + (headSpec ws rm).room.cells ≤ R.cells := by rw [show (headSpec ws rm).room.cells = mc from hrc]; exact hp.1
  have h5 : A.slots + (headSpec ws rm).room.slots ≤ R.slots := by rw [show (headSpec ws rm).room.slots = ms from hrs]; exact hp.2.1
  have hPc : Pc a (A.U.calling g mk a) := hblind _ _ _ _ hp.2.2
  obtain ⟨U, Ls, c0, s0⟩ := A
  dsimp only [Pt.U, Pt.locs, Pt.cells, Pt.slots] at h1 h2 h3 h4 h5 X hn hPc ⊢
  obtain ⟨m9, methY, cY, hn9, hmY, hcY, -, hlY, -⟩ := Cond.codeWith_spec h2
  cases Option.some.inj (hn9.symm.trans hn)
  obtain ⟨kY, hkY, -⟩ := className_of_methodNamed hn
  have hinitY : kY.init = .initialized := Cond.initialized_spec (findClass_of_methodNamed hn) hkY h3
  have h : At U g.method c below := by rw [hg]; exact X.here
  have hlocals9 : W9 + (maxL + 11) + (headSpec ws rm).room.locals ≤ R.locals := hlocals
  have happ : (headSpec ws rm).appliesLoose y e.platform (U.calling g mk a) = true :=
    Spec.appliesLoose_calling (g := g) h hdg hn hkY hinitY
      (X.room_calling (g := g) (R' := (headSpec ws rm).room) hsize hmY hcY hframes (by rw [hlY]; omega) h4 h5) h1
  obtain ⟨mid, hmid⟩ := h.above
  have hfr : (U.setTop g).frames = (.java g :: mid) ++ below := by rw [State.frames_setTop' g h.top, hmid]; rfl
  obtain ⟨o, s₂, hsteps, -, hend, hq⟩ := Steps.callFree hM p X.admits X.cas X.clock (acts := []) hfr happ hPc trivial
  have hq' : vx_Q Qc XC mc ms free a (U.calling g mk a) o s₂ := hq
  rw [State.frames_setTop' g h.top] at hend
  obtain ⟨g₀, hg0⟩ := Option.isSome_iff_exists.mp h.top
  obtain ⟨r, hr⟩ := State.topJava?_eq_some.mp hg0
  have hr' : (({ U with heap := s₂.heap, slotsUsed := s₂.slotsUsed } : State).setVm s₂.vm).frames = .java g₀ :: r := hr
  rcases hq' with ⟨hqc, L, hfe, hL⟩ | ⟨q, rfl, E, ce, L, hx, hce, hcv, hcl, hW₂, hsm, hL⟩
  · obtain ⟨⟨v, rfl⟩, hW₂, e2, q2, q3, q4, q5, q6⟩ := id hfe
    have e3 : s₂ = ({ (U.calling g mk a).setFrames s₂.frames with heap := s₂.heap, slotsUsed := s₂.slotsUsed } : State).setVm s₂.vm := by
      have : s₂ = ({ s₂ with vm := (U.calling g mk a).vm } : State).setVm s₂.vm := rfl
      rw [e2] at this
      exact this
    obtain ⟨c₂, i₂, len₂, hc₂, hd₂, hf₂⟩ := hend
    have hW' : U.WarmedH s₂.vm := hW₂
    have hcc : c₂ = c := by
      have h1 : s₂.code? g.method = U.code? g.method := by
        rw [State.code?_eq, State.code?_eq, hW'.alike.method?]
      exact Option.some.inj (hc₂.symm.trans (h1.trans h.code))
    subst hcc
    have hlen : len₂ = len := by rw [hdg] at hd₂; cases hd₂; rfl
    subst hlen
    have hs₂ : s₂ = (({ U with heap := s₂.heap, slotsUsed := s₂.slotsUsed } : State).setVm s₂.vm).setTop { g with pc := g.pc + len₂, stack := v.toList ++ g.stack } := by
      refine e3.trans ?_
      rw [hf₂, State.calling_eq h.top, State.setFrames_setFrames, State.setTop_of_frames _ hr', hr]
      rfl
    have hsame : U.sameButNew ({ U with heap := s₂.heap, slotsUsed := s₂.slotsUsed } : State) L mc ms := by
      refine ⟨?_, q2, q3, q4, q5, q6⟩
      obtain ⟨t, ht, -⟩ := State.frames_cons hr
      show ({ U with heap := s₂.heap, slotsUsed := s₂.slotsUsed } : State) = { U.setFrames U.frames with heap := s₂.heap, slotsUsed := s₂.slotsUsed }
      rw [State.setFrames_self ht]
    subst hg
    refine Or.inl ⟨v, ⟨(({ U with heap := s₂.heap, slotsUsed := s₂.slotsUsed } : State).setVm s₂.vm), Ls ++ L, c0 + mc, s0 + ms⟩,
      ⟨X.admits, X.cas, X.clock, X.frames, X.room, X.hears, X.method, X.code, (X.here.setHeapUsed s₂.heap s₂.slotsUsed).setVm hW'.alike, X.tail, State.WarmedH.trans X.warmed hW', X.limits, X.bytes, X.same.trans (hsame.setVm s.vm)⟩,
      ⟨g, mk, s₂, L, rfl, rfl, hqc, rfl, hL, rfl, rfl⟩, ?_⟩
    show Steps p.tables e below _ ((({ U with heap := s₂.heap, slotsUsed := s₂.slotsUsed } : State).setVm s₂.vm).setTop { g with pc := g.pc + len₂, stack := v.toList ++ g.stack })
    rw [← hs₂]
    exact hsteps
  · obtain ⟨e2, q2, q3, q4, q5, q6⟩ := id hsm
    have e3 : s₂ = ({ (U.calling g mk a).setFrames s₂.frames with heap := s₂.heap, slotsUsed := s₂.slotsUsed } : State).setVm s₂.vm := by
      have : s₂ = ({ s₂ with vm := (U.calling g mk a).vm } : State).setVm s₂.vm := rfl
      rw [e2] at this
      exact this
    have hf₂ : s₂.frames = .throwing q :: .java g :: U.frames.tail := hend
    have hW' : U.WarmedH s₂.vm := hW₂
    have hs₂ : s₂ = ((({ U with heap := s₂.heap, slotsUsed := s₂.slotsUsed } : State).setVm s₂.vm).setTop g).pushFrame (.throwing q) := by
      refine e3.trans ?_
      rw [hf₂, State.calling_eq h.top, State.setFrames_setFrames, State.pushFrame, State.frames_setTop _ hr', State.setTop_of_frames _ hr', State.setFrames_setFrames, hr]
      rfl
    have hsame : U.sameButNew ({ U with heap := s₂.heap, slotsUsed := s₂.slotsUsed } : State) L mc ms := by
      refine ⟨?_, q2, q3, q4, q5, q6⟩
      obtain ⟨t, ht, -⟩ := State.frames_cons hr
      show ({ U with heap := s₂.heap, slotsUsed := s₂.slotsUsed } : State) = { U.setFrames U.frames with heap := s₂.heap, slotsUsed := s₂.slotsUsed }
      rw [State.setFrames_self ht]
    subst hg
    refine Or.inr ⟨q, ⟨(({ U with heap := s₂.heap, slotsUsed := s₂.slotsUsed } : State).setVm s₂.vm), Ls ++ L, c0 + mc, s0 + ms⟩,
      ⟨X.admits, X.cas, X.clock, X.frames, X.room, X.hears, X.method, X.code, (X.here.setHeapUsed s₂.heap s₂.slotsUsed).setVm hW'.alike, X.tail, State.WarmedH.trans X.warmed hW', X.limits, X.bytes, X.same.trans (hsame.setVm s.vm)⟩,
      ⟨g, mk, s₂, L, E, ce, rfl, rfl, hx, hce, hcv, hcl, rfl, hL, rfl, rfl⟩, ?_⟩
    show Steps p.tables e below _ (((({ U with heap := s₂.heap, slotsUsed := s₂.slotsUsed } : State).setVm s₂.vm).setTop g).pushFrame (.throwing q))
    rw [← hs₂]
    exact hsteps
end
variable {p : Program} {l : Launch} {e : Env} {R : Room} {s : State} {m : MethodId} {args : Array Value} {below : List Frame} {meth : Method} {c : Code} {T : State} {H : Heap} {locs : List Loc} {cells slots : Nat}
theorem vx_callVX (X : Stand p l e R s m args below meth c T locs cells slots) (hexec : p.tables.exec = Jvm.exec) {own C : String} {index : Nat} {y : MethodName} {bytes : ByteArray} {maxL : Nat} {ret : Option FieldType} {hh : List (Nat × Nat × Nat × Nat)}
    (hown : s.vm.findClass own = some m.cls) (hlink : (Cond.methodLink own index y).before args s = true) (hinst : (Cond.instanceMethod y).before args s = true) (hsel : (Cond.selects C y y).before args s = true)
    (hcode : (Cond.codeWith y bytes maxL ret hh).before args s = true) (hy : y.cls ≠ "java/lang/invoke/MethodHandle" ∧ y.cls ≠ "java/lang/invoke/VarHandle")
    {W9 : Nat} {Pre : Pt → Array Value → Prop} {Post : Pt → Array Value → Option Value → Pt → Prop} {PostX : Pt → Array Value → Addr → Pt → Prop} (hK : vx_Back l R p e below s args y 3 W9 Pre Post PostX)
    {b : Addr} {cellB : Cell} (hcell : T.heap[b]? = some cellB) (hobj : cellB.vm.isStatics = false) (hcls : s.vm.findClass C = some cellB.cls)
    {g : JFrame} (hg : g.method = m) (hsize : g.locals.size = c.maxLocals) {argsL rest : List Value} (hlen : ∀ sig, parseMethodDescriptor y.desc = some sig → argsL.length = sig.parameters.length)
    (hstack : g.stack = argsL.reverse ++ .ref b :: rest) (hW : 2 * g.monitorRoom + (rest.map fun v => v.category).sum ≤ W9) (hdg : decode c.code g.pc = .ok (.invokevirtual index, 3))
    (hpre : ∀ vm₁, s.WarmedH vm₁ → Pre ⟨T.setVm vm₁, locs, cells, slots⟩ (Value.ref b :: argsL).toArray) :
    (∃ (v : Option Value) (vm₁ : Vm) (B : Pt), s.WarmedH vm₁ ∧ Stand p l e R s m args below meth c B.U B.locs B.cells B.slots ∧ Post ⟨T.setVm vm₁, locs, cells, slots⟩ (Value.ref b :: argsL).toArray v B ∧
      ∀ target, Steps p.tables e below (B.U.setTop { g with pc := g.pc + 3, stack := v.toList ++ rest }) target → Steps p.tables e below (T.setTop g) target) ∨
    (∃ (q : Addr) (vm₁ : Vm) (B : Pt), s.WarmedH vm₁ ∧ Stand p l e R s m args below meth c B.U B.locs B.cells B.slots ∧ PostX ⟨T.setVm vm₁, locs, cells, slots⟩ (Value.ref b :: argsL).toArray q B ∧
      Steps p.tables e below (T.setTop g) ((B.U.setTop { g with stack := rest }).pushFrame (.throwing q))) := by
  obtain ⟨mk, methM, hnamed, hmethM, hstM, habM⟩ := Cond.instanceMethod_spec hinst
  obtain ⟨m8, methM', cM, hn8, hmethM', -, -, -, -, -, -, hsigM⟩ := Cond.codeWith_spec hcode
  cases Option.some.inj (hn8.symm.trans hnamed)
  cases hmethM.symm.trans hmethM'
  obtain ⟨c2, r2, m2, q1, q2, q3, q4, kP, hkP, hkPi⟩ := Cond.selects_spec hsel
  cases hcls.symm.trans q1
  cases (State.methodFound?_of_named hnamed hy).symm.trans q2
  cases hnamed.symm.trans q3
  have hselP : selectMethod e.platform s.vm cellB.cls mk = .method mk := by rw [Launch.admits_selectMethod X.admits]; exact q4
  obtain ⟨vm₁, X₁, hstep₁⟩ := X.invokevirtual hexec hown hlink hnamed hmethM hstM hkP hkPi hy (a := b) (cell := cellB) hcell
    (fun z h => by rw [h] at hobj; cases hobj) hselP hmethM habM hkP hkPi (g := g) hg (argsL := argsL) (rest := rest) (hlen _ hsigM) hstack hdg
  rcases hK m meth c ⟨T.setVm vm₁, locs, cells, slots⟩ { g with stack := rest } (.invokevirtual index) mk (Value.ref b :: argsL).toArray X₁ hg hsize hdg hW (X₁.named hnamed) (hpre vm₁ X₁.warmed) with ⟨v, B, X', hpost, hsteps⟩ | ⟨q, B, X', hpost, hsteps⟩
  · exact Or.inl ⟨v, vm₁, B, X₁.warmed, X', hpost, fun target h => hstep₁ _ fun acts => by rw [doInvoke_state]; exact hsteps.trans h⟩
  · exact Or.inr ⟨q, vm₁, B, X₁.warmed, X', hpost, hstep₁ _ fun acts => by rw [doInvoke_state]; exact hsteps⟩
theorem vx_callSX (X : Stand p l e R s m args below meth c T locs cells slots) (hexec : p.tables.exec = Jvm.exec) {own : String} {index : Nat} {y : MethodName} {bytes : ByteArray} {maxL : Nat} {ret : Option FieldType} {hh : List (Nat × Nat × Nat × Nat)}
    (hown : s.vm.findClass own = some m.cls) (hlink : (Cond.methodLink own index y).before args s = true) (hstat : (Cond.static y).before args s = true) (hinit : (Cond.initialized y.cls).before args s = true)
    (hcode : (Cond.codeWith y bytes maxL ret hh).before args s = true) (hy : y.cls ≠ "java/lang/invoke/MethodHandle" ∧ y.cls ≠ "java/lang/invoke/VarHandle")
    {W9 : Nat} {Pre : Pt → Array Value → Prop} {Post : Pt → Array Value → Option Value → Pt → Prop} {PostX : Pt → Array Value → Addr → Pt → Prop} (hK : vx_Back l R p e below s args y 3 W9 Pre Post PostX)
    {g : JFrame} (hg : g.method = m) (hsize : g.locals.size = c.maxLocals) {argsL rest : List Value} (hlen : ∀ sig, parseMethodDescriptor y.desc = some sig → argsL.length = sig.parameters.length)
    (hstack : g.stack = argsL.reverse ++ rest) (hW : 2 * g.monitorRoom + (rest.map fun v => v.category).sum ≤ W9) (hdg : decode c.code g.pc = .ok (.invokestatic index, 3))
    (hpre : ∀ vm₁, s.WarmedH vm₁ → Pre ⟨T.setVm vm₁, locs, cells, slots⟩ argsL.toArray) :
    (∃ (v : Option Value) (vm₁ : Vm) (B : Pt), s.WarmedH vm₁ ∧ Stand p l e R s m args below meth c B.U B.locs B.cells B.slots ∧ Post ⟨T.setVm vm₁, locs, cells, slots⟩ argsL.toArray v B ∧
      ∀ target, Steps p.tables e below (B.U.setTop { g with pc := g.pc + 3, stack := v.toList ++ rest }) target → Steps p.tables e below (T.setTop g) target) ∨
    (∃ (q : Addr) (vm₁ : Vm) (B : Pt), s.WarmedH vm₁ ∧ Stand p l e R s m args below meth c B.U B.locs B.cells B.slots ∧ PostX ⟨T.setVm vm₁, locs, cells, slots⟩ argsL.toArray q B ∧
      Steps p.tables e below (T.setTop g) ((B.U.setTop { g with stack := rest }).pushFrame (.throwing q))) := by
  obtain ⟨mk, methM, cM, hnamed, hmethM, -, -, -, -, -, -, hsigM⟩ := Cond.codeWith_spec hcode
  have hstatic : methM.isStatic = true := Cond.static_spec hnamed hmethM hstat
  obtain ⟨kP, hkP, -⟩ := className_of_methodNamed hnamed
  have hinitP : kP.init = .initialized := Cond.initialized_spec (findClass_of_methodNamed hnamed) hkP hinit
  obtain ⟨vm₁, X₁, hstep₁⟩ := X.invokestatic hexec hown hlink hnamed hmethM hstatic hkP hinitP hy (g := g) hg (argsL := argsL) (rest := rest) (hlen _ hsigM) hstack hdg
  rcases hK m meth c ⟨T.setVm vm₁, locs, cells, slots⟩ { g with stack := rest } (.invokestatic index) mk argsL.toArray X₁ hg hsize hdg hW (X₁.named hnamed) (hpre vm₁ X₁.warmed) with ⟨v, B, X', hpost, hsteps⟩ | ⟨q, B, X', hpost, hsteps⟩
  · exact Or.inl ⟨v, vm₁, B, X₁.warmed, X', hpost, fun target h => hstep₁ _ fun acts => by rw [doInvoke_state]; exact hsteps.trans h⟩
  · exact Or.inr ⟨q, vm₁, B, X₁.warmed, X', hpost, hstep₁ _ fun acts => by rw [doInvoke_state]; exact hsteps⟩
theorem vx_callVW (X : Stand p l e R s m args below meth c T locs cells slots) (hexec : p.tables.exec = Jvm.exec) {own C : String} {index : Nat} {y : MethodName} {bytes : ByteArray} {maxL : Nat} {ret : Option FieldType} {hh : List (Nat × Nat × Nat × Nat)}
    (hown : s.vm.findClass own = some m.cls) (hlink : (Cond.methodLink own index y).before args s = true) (hinst : (Cond.instanceMethod y).before args s = true) (hsel : (Cond.selects C y y).before args s = true)
    (hcode : (Cond.codeWith y bytes maxL ret hh).before args s = true) (hy : y.cls ≠ "java/lang/invoke/MethodHandle" ∧ y.cls ≠ "java/lang/invoke/VarHandle")
    {W9 : Nat} {Pre : Pt → Array Value → Prop} {Post : Pt → Array Value → Option Value → Pt → Prop} (hK : Back l R p e below s args y 3 W9 Pre Post)
    {b : Addr} {cellB : Cell} (hcell : T.heap[b]? = some cellB) (hobj : cellB.vm.isStatics = false) (hcls : s.vm.findClass C = some cellB.cls)
    {g : JFrame} (hg : g.method = m) (hsize : g.locals.size = c.maxLocals) {argsL rest : List Value} (hlen : ∀ sig, parseMethodDescriptor y.desc = some sig → argsL.length = sig.parameters.length)
    (hstack : g.stack = argsL.reverse ++ .ref b :: rest) (hW : 2 * g.monitorRoom + (rest.map fun v => v.category).sum ≤ W9) (hdg : decode c.code g.pc = .ok (.invokevirtual index, 3))
    (hpre : ∀ vm₁, s.WarmedH vm₁ → Pre ⟨T.setVm vm₁, locs, cells, slots⟩ (Value.ref b :: argsL).toArray) :
    ∃ (v : Option Value) (vm₁ : Vm) (B : Pt), s.WarmedH vm₁ ∧ Stand p l e R s m args below meth c B.U B.locs B.cells B.slots ∧ Post ⟨T.setVm vm₁, locs, cells, slots⟩ (Value.ref b :: argsL).toArray v B ∧
      ∀ target, Steps p.tables e below (B.U.setTop { g with pc := g.pc + 3, stack := v.toList ++ rest }) target → Steps p.tables e below (T.setTop g) target := by
  obtain ⟨mk, methM, hnamed, hmethM, hstM, habM⟩ := Cond.instanceMethod_spec hinst
  obtain ⟨m8, methM', cM, hn8, hmethM', -, -, -, -, -, -, hsigM⟩ := Cond.codeWith_spec hcode
  cases Option.some.inj (hn8.symm.trans hnamed)
  cases hmethM.symm.trans hmethM'
  obtain ⟨c2, r2, m2, q1, q2, q3, q4, kP, hkP, hkPi⟩ := Cond.selects_spec hsel
  cases hcls.symm.trans q1
  cases (State.methodFound?_of_named hnamed hy).symm.trans q2
  cases hnamed.symm.trans q3
  have hselP : selectMethod e.platform s.vm cellB.cls mk = .method mk := by rw [Launch.admits_selectMethod X.admits]; exact q4
  obtain ⟨vm₁, X₁, hstep₁⟩ := X.invokevirtual hexec hown hlink hnamed hmethM hstM hkP hkPi hy (a := b) (cell := cellB) hcell
    (fun z h => by rw [h] at hobj; cases hobj) hselP hmethM habM hkP hkPi (g := g) hg (argsL := argsL) (rest := rest) (hlen _ hsigM) hstack hdg
  obtain ⟨v, B, X', hpost, hsteps⟩ := hK m meth c ⟨T.setVm vm₁, locs, cells, slots⟩ { g with stack := rest } (.invokevirtual index) mk (Value.ref b :: argsL).toArray X₁ hg hsize hdg hW (X₁.named hnamed) (hpre vm₁ X₁.warmed)
  exact ⟨v, vm₁, B, X₁.warmed, X', hpost, fun target h => hstep₁ _ fun acts => by rw [doInvoke_state]; exact hsteps.trans h⟩
abbrev vx_CVW (R : Room) (s : State) (args : Array Value) (own C : String) (index : Nat) (y : MethodName) (bytes : ByteArray) (maxL : Nat) (ret : Option FieldType) (hh : List (Nat × Nat × Nat × Nat)) (ws : List Cond) (rm : Room) (mc ms n : Nat) : Prop :=
  (rm.cells = mc ∧ rm.slots = ms ∧ rm.frames + 1 ≤ R.frames ∧ 8 + (maxL + 11) + rm.locals ≤ R.locals ∧ (∀ w ∈ ws, ∀ (a' : Array Value) (U : State), s.WarmedH U.vm → w.before a' U = true) ∧ Cond.codeWith y bytes maxL ret hh ∈ ws) ∧
  (Cond.codeWith y bytes maxL ret hh).before args s = true ∧ (Cond.initialized y.cls).before args s = true ∧ (y.cls ≠ "java/lang/invoke/MethodHandle" ∧ y.cls ≠ "java/lang/invoke/VarHandle") ∧
  (∀ sig, parseMethodDescriptor y.desc = some sig → n = sig.parameters.length) ∧ (Cond.methodLink own index y).before args s = true ∧ (Cond.instanceMethod y).before args s = true ∧ (Cond.selects C y y).before args s = true
theorem vx_cwVW {own C : String} {index maxL mc ms : Nat} {y : MethodName} {bytes : ByteArray} {ret : Option FieldType} {hh : List (Nat × Nat × Nat × Nat)} {Ts ws ws' : List Cond} {rm : Room} (n : Nat) (ht : ∀ w ∈ Ts, w.before args s = true) (hT : GoodIn Ts (wsV own index C y ws)) (hw : ws = Cond.codeWith y bytes maxL ret hh :: ws') (hrc : rm.cells = mc) (hrs : rm.slots = ms)
    (hd : y.cls = C ∧ y.cls ≠ "java/lang/invoke/MethodHandle" ∧ y.cls ≠ "java/lang/invoke/VarHandle" ∧ (parseMethodDescriptor y.desc).map (fun d => d.parameters.length) = some n) (hR : rm.frames + 1 ≤ R.frames ∧ 8 + (maxL + 11) + rm.locals ≤ R.locals) :
    vx_CVW R s args own C index y bytes maxL ret hh ws rm mc ms n := by
  obtain ⟨hC, hd⟩ := hd
  subst hC
  have ok : ∀ w ∈ wsV own index y.cls y ws, w.before args s = true := fun w h => ht w (hT w h).1
  have hG : GoodIn Ts ws := fun w h => hT w (by unfold wsV; exact List.mem_append_right _ h)
  have hc : Cond.codeWith y bytes maxL ret hh ∈ ws := by rw [hw]; exact List.mem_cons_self
  refine ⟨⟨hrc, hrs, hR.1, hR.2, pay_in ht hG, hc⟩, ht _ (hG _ hc).1, ok _ (by simp [wsV]), ⟨hd.1, hd.2.1⟩, fun sig h => ?_, ok _ (by simp [wsV]), ok _ (by simp [wsV]), ok _ (by simp [wsV])⟩
  have h2 := hd.2.2
  rw [h] at h2
  exact (Option.some.inj h2).symm
theorem vx_runVW {y : MethodName} {bytes cc : ByteArray} {maxL nL mc ms n index : Nat} {ret : Option FieldType} {hh : List (Nat × Nat × Nat × Nat)} {ws : List Cond} {rm : Room} {Pc : Array Value → State → Prop} {Qc : Array Value → State → Outcome → State → Prop} {free : Addr → Prop} {Ts : List Cond} {own C : String} {b : Addr} {As rest : List Value} {g : JFrame}
    (S : CallFix p m c cc nL s args Ts own) (hM : Met l y ws rm Pc Qc mc ms free) (cw : vx_CVW R s args own C index y bytes maxL ret hh ws rm mc ms n) (hp : PreV s H C b Pc As)
    (hg : g.method = m) (hn : As.length = n) (hsize : g.locals.size = nL) (hstack : g.stack = As.reverse ++ .ref b :: rest) (hW : 2 * g.monitorRoom + (rest.map fun v => v.category).sum ≤ 8) (hdg : decode cc g.pc = .ok (.invokevirtual index, 3)) (hf : cells + mc ≤ R.cells ∧ slots + ms ≤ R.slots) :
    va_Run p l e R s m args below meth c H locs cells slots mc ms g rest (Qc (Value.ref b :: As).toArray) free := by
  obtain ⟨⟨hrc, hrs, hfr, hlo, hws, hcw⟩, hcode, hini, hy, hlen, hl, hin, hse⟩ := cw
  have hK : Back l R p e below s args y 3 8 (PreOf R mc ms Pc) (PostOf Qc mc ms free) := va_backW (hh := hh) (bytes := bytes) (maxL := maxL) (ret := ret) hM hp.1 hrc hrs hfr hlo hws hcw (fun a' U hW => word_at hW (Or.inl (by first | rfl | simp [Cond.onTables, Cond.keeps, Cond.steady])) hini)
  obtain ⟨hx, hb, hml, ho, -⟩ := S
  obtain ⟨-, ⟨cellB, hcB, hoB, hclB⟩, hPc⟩ := hp
  intro T hT X
  obtain ⟨v, vm₁, ⟨U', l2, c2, s2⟩, hW₁, X', ⟨g', mk, t, L, e1, e2, hq, h1, hL, h2, h3⟩, st⟩ := vx_callVW X hx (C := C) (hh := hh) (bytes := bytes) (maxL := maxL) (ret := ret) ho hl hin hse hcode hy hK (by rw [hT]; exact hcB) hoB hclB hg (hsize.trans hml.symm) (argsL := As) (rest := rest) (fun sig h => hn.trans (hlen sig h)) hstack hW (by rw [hb]; exact hdg)
    (fun vm₁ hW₁ => ⟨hf.1, hf.2, hPc (T.setVm vm₁) hT hW₁⟩)
  dsimp only [Pt.U, Pt.locs, Pt.cells, Pt.slots] at X' e1 e2 h1 h2 h3 st
  subst h1; subst h2; subst h3
  exact ⟨v, (T.setVm vm₁).calling g' mk (Value.ref b :: As).toArray, t, U', L, hT, X', hL, e1, e2, hq, st⟩
section
variable {y : MethodName} {bytes cc : ByteArray} {maxL nL mc ms n index : Nat} {ret : Option FieldType} {ws : List Cond} {rm : Room} {Pc : Array Value → State → Prop} {Qc : Array Value → State → Outcome → State → Prop} {XC : String → State → State → Prop} {free : Addr → Prop} {Ts : List Cond} {own C : String} {b : Addr} {As rest : List Value} {g : JFrame}
theorem vx_runVX {hh : List (Nat × Nat × Nat × Nat)} (S : CallFix p m c cc nL s args Ts own) (hM : vx_Met l y ws rm Pc Qc XC mc ms free) (cw : vx_CVW R s args own C index y bytes maxL ret hh ws rm mc ms n) (hp : PreV s H C b Pc As)
    (hg : g.method = m) (hn : As.length = n) (hsize : g.locals.size = nL) (hstack : g.stack = As.reverse ++ .ref b :: rest) (hW : 2 * g.monitorRoom + (rest.map fun v => v.category).sum ≤ 8) (hdg : decode cc g.pc = .ok (.invokevirtual index, 3)) (hf : cells + mc ≤ R.cells ∧ slots + ms ≤ R.slots) :
    vx_Run p l e R s m args below meth c H locs cells slots mc ms g rest (Qc (Value.ref b :: As).toArray) XC free := by
  obtain ⟨⟨hrc, hrs, hfr, hlo, hws, hcw⟩, hcode, hini, hy, hlen, hl, hin, hse⟩ := cw
  have hK : vx_Back l R p e below s args y 3 8 (PreOf R mc ms Pc) (PostOf Qc mc ms free) (vx_Post XC mc ms free) := vx_backW (hh := hh) (bytes := bytes) (maxL := maxL) (ret := ret) hM hp.1 hrc hrs hfr hlo hws hcw (fun a' U hW => word_at hW (Or.inl (by first | rfl | simp [Cond.onTables, Cond.keeps, Cond.steady])) hini)
  obtain ⟨hx, hb, hml, ho, -⟩ := S
  obtain ⟨-, ⟨cellB, hcB, hoB, hclB⟩, hPc⟩ := hp
  intro T hT X
  rcases vx_callVX X hx (C := C) (hh := hh) (bytes := bytes) (maxL := maxL) (ret := ret) ho hl hin hse hcode hy hK (by rw [hT]; exact hcB) hoB hclB hg (hsize.trans hml.symm) (argsL := As) (rest := rest) (fun sig h => hn.trans (hlen sig h)) hstack hW (by rw [hb]; exact hdg)
    (fun vm₁ hW₁ => ⟨hf.1, hf.2, hPc (T.setVm vm₁) hT hW₁⟩) with ⟨v, vm₁, ⟨U', l2, c2, s2⟩, hW₁, X', ⟨g', mk, t, L, e1, e2, hq, h1, hL, h2, h3⟩, st⟩ | ⟨q, vm₁, ⟨U', l2, c2, s2⟩, hW₁, X', ⟨g', mk, t, L, E, ce, e1, e2, hq, hce, hcv, hcl, h1, hL, h2, h3⟩, st⟩
  · dsimp only [Pt.U, Pt.locs, Pt.cells, Pt.slots] at X' e1 e2 h1 h2 h3 st
    subst h1; subst h2; subst h3
    exact Or.inl ⟨v, (T.setVm vm₁).calling g' mk (Value.ref b :: As).toArray, t, U', L, hT, X', hL, e1, e2, hq, st⟩
  · dsimp only [Pt.U, Pt.locs, Pt.cells, Pt.slots] at X' e1 e2 h1 h2 h3 st hcl
    subst h1; subst h2; subst h3
    exact Or.inr ⟨q, (T.setVm vm₁).calling g' mk (Value.ref b :: As).toArray, t, U', L, E, ce, hT, X', hL, e1, e2, hq, hce, hcv, vx_cls hW₁ hcl, st⟩
theorem vx_runSX {hh : List (Nat × Nat × Nat × Nat)} (S : CallFix p m c cc nL s args Ts own) (hM : vx_Met l y ws rm Pc Qc XC mc ms free) (cw : vx_CSW R s args own index y bytes maxL ret hh ws rm mc ms n) (hp : PreS s H Pc As)
    (hg : g.method = m) (hn : As.length = n) (hsize : g.locals.size = nL) (hstack : g.stack = As.reverse ++ rest) (hW : 2 * g.monitorRoom + (rest.map fun v => v.category).sum ≤ 8) (hdg : decode cc g.pc = .ok (.invokestatic index, 3)) (hf : cells + mc ≤ R.cells ∧ slots + ms ≤ R.slots) :
    vx_Run p l e R s m args below meth c H locs cells slots mc ms g rest (Qc As.toArray) XC free := by
  obtain ⟨⟨hrc, hrs, hfr, hlo, hws, hcw⟩, hcode, hini, hy, hlen, hl, hstt⟩ := cw
  have hK : vx_Back l R p e below s args y 3 8 (PreOf R mc ms Pc) (PostOf Qc mc ms free) (vx_Post XC mc ms free) := vx_backW (hh := hh) (bytes := bytes) (maxL := maxL) (ret := ret) hM hp.1 hrc hrs hfr hlo hws hcw (fun a' U hW => word_at hW (Or.inl (by first | rfl | simp [Cond.onTables, Cond.keeps, Cond.steady])) hini)
  obtain ⟨hx, hb, hml, ho, -⟩ := S
  intro T hT X
  rcases vx_callSX X hx (hh := hh) (bytes := bytes) (maxL := maxL) (ret := ret) ho hl hstt hini hcode hy hK hg (hsize.trans hml.symm) (argsL := As) (rest := rest) (fun sig h => hn.trans (hlen sig h)) hstack hW (by rw [hb]; exact hdg)
    (fun vm₁ hW₁ => ⟨hf.1, hf.2, hp.2 (T.setVm vm₁) hT hW₁⟩) with ⟨v, vm₁, ⟨U', l2, c2, s2⟩, hW₁, X', ⟨g', mk, t, L, e1, e2, hq, h1, hL, h2, h3⟩, st⟩ | ⟨q, vm₁, ⟨U', l2, c2, s2⟩, hW₁, X', ⟨g', mk, t, L, E, ce, e1, e2, hq, hce, hcv, hcl, h1, hL, h2, h3⟩, st⟩
  · dsimp only [Pt.U, Pt.locs, Pt.cells, Pt.slots] at X' e1 e2 h1 h2 h3 st
    subst h1; subst h2; subst h3
    exact Or.inl ⟨v, (T.setVm vm₁).calling g' mk As.toArray, t, U', L, hT, X', hL, e1, e2, hq, st⟩
  · dsimp only [Pt.U, Pt.locs, Pt.cells, Pt.slots] at X' e1 e2 h1 h2 h3 st hcl
    subst h1; subst h2; subst h3
    exact Or.inr ⟨q, (T.setVm vm₁).calling g' mk As.toArray, t, U', L, E, ce, hT, X', hL, e1, e2, hq, hce, hcv, vx_cls hW₁ hcl, st⟩
end
end VXH
theorem vx_ofWH {l : Launch} {y : MethodName} {ws ws' : List Cond} {rm : Room} {Pc : Array Value → State → Prop} {Qc : Array Value → State → Outcome → State → Prop} {XC : String → State → State → Prop} {mc ms : Nat} {free : Addr → Prop} {cc : ByteArray} {maxL : Nat} {ret : Option FieldType} {hh : List (Nat × Nat × Nat × Nat)}
    (hy : plainName y.cls = true) (hw : ws = Cond.codeWith y cc maxL ret hh :: ws')
    (body : ∀ p e s m args below meth c s₁, BodyLoose p l y (headSpec ws rm) cc maxL ret e s m args below meth c s₁ → c.maxLocals = maxL → Pc args s →
      W p l e (headSpec ws rm).room s m args below meth c s.heap [] 0 0 (vx_MQ below Qc XC args s mc ms free) (entryFrame m args maxL)) : vx_Met l y ws rm Pc Qc XC mc ms free := by
  refine MetFree.of_bodyS (code := cc) (maxLocals := maxL) (ret := ret) hy ?_ ?_
  · intro args s m h hn
    obtain ⟨m9, meth, c, hn9, h1, h2, h3, h4, -, h5, h6, -⟩ := Cond.codeWith_spec (atoms_spec (ws := ws) h _ (by rw [hw]; exact List.mem_cons_self))
    cases hn.symm.trans hn9
    exact ⟨meth, c, h1, h2, h3, h4, h5, h6⟩
  · intro p e s m args below meth c s₁ B hml hP _
    have hh0 : s₁.heap = s.heap := by rw [B.state]; rfl
    obtain ⟨t, a1, o, b1, b2, b3⟩ := body p e s m args below meth c s₁ B hml hP s₁ hh0 (Stand.of_body B)
    exact ⟨t, o, a1, b1, b2, b3⟩
/-! ===== END ===== -/
end
section
def RX0 : String := "CreditWire$Channel"
def TX0 : u_T := fun k => match k with
  | 0 => ("CreditWire$Channel", "number", "I", true)
  | 1 => ("CreditWire$Channel", "waiting", "LCreditWire$FlitQueue;", true)
  | 2 => ("CreditWire$Channel", "buffer", "LCreditWire$FlitQueue;", true)
  | 3 => ("CreditWire$Channel", "returning", "[I", true)
  | 4 => ("CreditWire$Channel", "depth", "I", false)
  | 5 => ("CreditWire$Channel", "weight", "I", false)
  | 6 => ("CreditWire$Channel", "credits", "I", false)
  | 7 => ("CreditWire$Channel", "flitsOnWire", "I", false)
  | 8 => ("CreditWire$Channel", "flitsSent", "I", false)
  | 9 => ("CreditWire$Channel", "packetsArrived", "I", false)
  | 10 => ("CreditWire$Channel", "packetsTaken", "I", false)
  | 11 => ("CreditWire$Channel", "bytesTogether", "I", false)
  | _ => ("CreditWire$Channel", "mostInBuffer", "I", false)
def tyX0 : Nat → FieldType := fun k => match k with
  | 0 => .int
  | 1 => .object "CreditWire$FlitQueue"
  | 2 => .object "CreditWire$FlitQueue"
  | 3 => .array .int
  | 4 => .int
  | 5 => .int
  | 6 => .int
  | 7 => .int
  | 8 => .int
  | 9 => .int
  | 10 => .int
  | 11 => .int
  | _ => .int
abbrev wsX00 : List Cond := u_ws RX0 TX0 13
theorem nmX0 : ∀ a, a < 13 → ∀ b, b < 13 → a ≠ b → (TX0 a).2.1 ≠ (TX0 b).2.1 := by decide +kernel
theorem tyX0_ok : ∀ k, k < 13 → parseFieldDescriptor (TX0 k).2.2.1 = some (tyX0 k) := by decide +kernel
abbrev cX0_init : ByteArray := prog_2_method_1_code
def yX0_init : MethodName := ⟨RX0, "<init>", "(II)V"⟩
abbrev cX0_isAble : ByteArray := prog_2_method_2_code
def yX0_isAble : MethodName := ⟨RX0, "isAble", "()Z"⟩
abbrev cX0_isInsidePacket : ByteArray := prog_2_method_3_code
def yX0_isInsidePacket : MethodName := ⟨RX0, "isInsidePacket", "()Z"⟩
abbrev cX0_getCreditsBack : ByteArray := prog_2_method_4_code
def yX0_getCreditsBack : MethodName := ⟨RX0, "getCreditsBack", "(I)V"⟩
abbrev cX0_send : ByteArray := prog_2_method_5_code
def yX0_send : MethodName := ⟨RX0, "send", "()LCreditWire$Flit;"⟩
abbrev cX0_land : ByteArray := prog_2_method_6_code
def yX0_land : MethodName := ⟨RX0, "land", "(LCreditWire$Flit;)V"⟩
abbrev cX0_drain : ByteArray := prog_2_method_7_code
def yX0_drain : MethodName := ⟨RX0, "drain", "(II)LCreditWire$Packet;"⟩
abbrev cX0_creditsReturning : ByteArray := prog_2_method_8_code
def yX0_creditsReturning : MethodName := ⟨RX0, "creditsReturning", "()I"⟩
abbrev cX0_property : ByteArray := prog_2_method_9_code
def yX0_property : MethodName := ⟨RX0, "property", "(I)I"⟩
def RX1 : String := "CreditWire$Flit"
def TX1 : u_T := fun k => match k with
  | 0 => ("CreditWire$Flit", "packet", "LCreditWire$Packet;", true)
  | 1 => ("CreditWire$Flit", "number", "I", true)
  | _ => ("CreditWire$Flit", "next", "LCreditWire$Flit;", false)
def tyX1 : Nat → FieldType := fun k => match k with
  | 0 => .object "CreditWire$Packet"
  | 1 => .int
  | _ => .object "CreditWire$Flit"
abbrev wsX10 : List Cond := u_ws RX1 TX1 3
theorem nmX1 : ∀ a, a < 3 → ∀ b, b < 3 → a ≠ b → (TX1 a).2.1 ≠ (TX1 b).2.1 := by decide +kernel
theorem tyX1_ok : ∀ k, k < 3 → parseFieldDescriptor (TX1 k).2.2.1 = some (tyX1 k) := by decide +kernel
abbrev cX1_init : ByteArray := prog_3_method_1_code
def yX1_init : MethodName := ⟨RX1, "<init>", "(LCreditWire$Packet;I)V"⟩
abbrev cX1_isLast : ByteArray := prog_3_method_2_code
def yX1_isLast : MethodName := ⟨RX1, "isLast", "()Z"⟩
abbrev cX1_size : ByteArray := prog_3_method_3_code
def yX1_size : MethodName := ⟨RX1, "size", "()I"⟩
abbrev cX1_property : ByteArray := prog_3_method_4_code
def yX1_property : MethodName := ⟨RX1, "property", "(I)I"⟩
def RX2 : String := "CreditWire$FlitQueue"
def TX2 : u_T := fun k => match k with
  | 0 => ("CreditWire$FlitQueue", "first", "LCreditWire$Flit;", false)
  | 1 => ("CreditWire$FlitQueue", "last", "LCreditWire$Flit;", false)
  | _ => ("CreditWire$FlitQueue", "size", "I", false)
def tyX2 : Nat → FieldType := fun k => match k with
  | 0 => .object "CreditWire$Flit"
  | 1 => .object "CreditWire$Flit"
  | _ => .int
abbrev wsX20 : List Cond := u_ws RX2 TX2 3
theorem nmX2 : ∀ a, a < 3 → ∀ b, b < 3 → a ≠ b → (TX2 a).2.1 ≠ (TX2 b).2.1 := by decide +kernel
theorem tyX2_ok : ∀ k, k < 3 → parseFieldDescriptor (TX2 k).2.2.1 = some (tyX2 k) := by decide +kernel
abbrev cX2_init : ByteArray := prog_4_method_1_code
def yX2_init : MethodName := ⟨RX2, "<init>", "()V"⟩
abbrev cX2_add : ByteArray := prog_4_method_2_code
def yX2_add : MethodName := ⟨RX2, "add", "(LCreditWire$Flit;)V"⟩
abbrev cX2_removeFirst : ByteArray := prog_4_method_3_code
def yX2_removeFirst : MethodName := ⟨RX2, "removeFirst", "()LCreditWire$Flit;"⟩
abbrev cX2_flitAt : ByteArray := prog_4_method_4_code
def yX2_flitAt : MethodName := ⟨RX2, "flitAt", "(I)LCreditWire$Flit;"⟩
def RX3 : String := "CreditWire$Link"
def TX3 : u_T := fun k => match k with
  | 0 => ("CreditWire$Link", "wire", "I", true)
  | 1 => ("CreditWire$Link", "back", "I", true)
  | 2 => ("CreditWire$Link", "channels", "[LCreditWire$Channel;", true)
  | 3 => ("CreditWire$Link", "onWire", "[LCreditWire$Flit;", true)
  | 4 => ("CreditWire$Link", "packets", "[LCreditWire$Packet;", true)
  | 5 => ("CreditWire$Link", "masks", "[I", true)
  | 6 => ("CreditWire$Link", "rows", "I", false)
  | 7 => ("CreditWire$Link", "packetCount", "I", false)
  | 8 => ("CreditWire$Link", "clock", "I", false)
  | 9 => ("CreditWire$Link", "arbiter", "I", false)
  | 10 => ("CreditWire$Link", "lastSender", "I", false)
  | 11 => ("CreditWire$Link", "sentInRow", "I", false)
  | 12 => ("CreditWire$Link", "cyclesStalled", "I", false)
  | 13 => ("CreditWire$Link", "flitsTooMany", "I", false)
  | 14 => ("CreditWire$Link", "packetsLate", "I", false)
  | _ => ("CreditWire$Link", "lastDisturbed", "I", false)
def tyX3 : Nat → FieldType := fun k => match k with
  | 0 => .int
  | 1 => .int
  | 2 => .array (.object "CreditWire$Channel")
  | 3 => .array (.object "CreditWire$Flit")
  | 4 => .array (.object "CreditWire$Packet")
  | 5 => .array .int
  | 6 => .int
  | 7 => .int
  | 8 => .int
  | 9 => .int
  | 10 => .int
  | 11 => .int
  | 12 => .int
  | 13 => .int
  | 14 => .int
  | _ => .int
abbrev wsX30 : List Cond := u_ws RX3 TX3 16
theorem nmX3 : ∀ a, a < 16 → ∀ b, b < 16 → a ≠ b → (TX3 a).2.1 ≠ (TX3 b).2.1 := by decide +kernel
theorem tyX3_ok : ∀ k, k < 16 → parseFieldDescriptor (TX3 k).2.2.1 = some (tyX3 k) := by decide +kernel
abbrev cX3_init : ByteArray := prog_5_method_1_code
def yX3_init : MethodName := ⟨RX3, "<init>", "(IIII)V"⟩
abbrev cX3_channelAt : ByteArray := prog_5_method_2_code
def yX3_channelAt : MethodName := ⟨RX3, "channelAt", "(I)LCreditWire$Channel;"⟩
abbrev cX3_packetAt : ByteArray := prog_5_method_3_code
def yX3_packetAt : MethodName := ⟨RX3, "packetAt", "(I)LCreditWire$Packet;"⟩
abbrev cX3_flitThatComesIn : ByteArray := prog_5_method_4_code
def yX3_flitThatComesIn : MethodName := ⟨RX3, "flitThatComesIn", "(I)LCreditWire$Flit;"⟩
abbrev cX3_addRow : ByteArray := prog_5_method_5_code
def yX3_addRow : MethodName := ⟨RX3, "addRow", "(I)Z"⟩
abbrev cX3_addPacket : ByteArray := prog_5_method_6_code
def yX3_addPacket : MethodName := ⟨RX3, "addPacket", "(LCreditWire$Channel;[B)I"⟩
abbrev cX3_earliestToTake : ByteArray := prog_5_method_7_code
def yX3_earliestToTake : MethodName := ⟨RX3, "earliestToTake", "(LCreditWire$Channel;)LCreditWire$Packet;"⟩
abbrev cX3_passCycle : ByteArray := prog_5_method_8_code
def yX3_passCycle : MethodName := ⟨RX3, "passCycle", "()I"⟩
abbrev cX3_landFlit : ByteArray := prog_5_method_9_code
def yX3_landFlit : MethodName := ⟨RX3, "landFlit", "()V"⟩
abbrev cX3_drainBuffers : ByteArray := prog_5_method_10_code
def yX3_drainBuffers : MethodName := ⟨RX3, "drainBuffers", "()I"⟩
abbrev cX3_maskNow : ByteArray := prog_5_method_11_code
def yX3_maskNow : MethodName := ⟨RX3, "maskNow", "()I"⟩
abbrev cX3_noteArrived : ByteArray := prog_5_method_12_code
def yX3_noteArrived : MethodName := ⟨RX3, "noteArrived", "(LCreditWire$Packet;)V"⟩
abbrev cX3_sendFlit : ByteArray := prog_5_method_13_code
def yX3_sendFlit : MethodName := ⟨RX3, "sendFlit", "()V"⟩
abbrev cX3_lastMayGoOn : ByteArray := prog_5_method_14_code
def yX3_lastMayGoOn : MethodName := ⟨RX3, "lastMayGoOn", "()Z"⟩
abbrev cX3_chooseChannel : ByteArray := prog_5_method_15_code
def yX3_chooseChannel : MethodName := ⟨RX3, "chooseChannel", "()I"⟩
abbrev cX3_firstInsidePacket : ByteArray := prog_5_method_16_code
def yX3_firstInsidePacket : MethodName := ⟨RX3, "firstInsidePacket", "()LCreditWire$Channel;"⟩
abbrev cX3_firstAbleFrom : ByteArray := prog_5_method_17_code
def yX3_firstAbleFrom : MethodName := ⟨RX3, "firstAbleFrom", "(I)I"⟩
abbrev cX3_noteStalled : ByteArray := prog_5_method_18_code
def yX3_noteStalled : MethodName := ⟨RX3, "noteStalled", "()V"⟩
abbrev cX3_property : ByteArray := prog_5_method_19_code
def yX3_property : MethodName := ⟨RX3, "property", "(I)I"⟩
def RX4 : String := "CreditWire$Packet"
def TX4 : u_T := fun k => match k with
  | 0 => ("CreditWire$Packet", "number", "I", true)
  | 1 => ("CreditWire$Packet", "channel", "LCreditWire$Channel;", true)
  | 2 => ("CreditWire$Packet", "bytes", "[B", true)
  | 3 => ("CreditWire$Packet", "flits", "I", true)
  | 4 => ("CreditWire$Packet", "offered", "I", true)
  | 5 => ("CreditWire$Packet", "started", "I", false)
  | 6 => ("CreditWire$Packet", "arrived", "I", false)
  | 7 => ("CreditWire$Packet", "latest", "I", false)
  | _ => ("CreditWire$Packet", "isTaken", "Z", false)
def tyX4 : Nat → FieldType := fun k => match k with
  | 0 => .int
  | 1 => .object "CreditWire$Channel"
  | 2 => .array .byte
  | 3 => .int
  | 4 => .int
  | 5 => .int
  | 6 => .int
  | 7 => .int
  | _ => .boolean
abbrev wsX40 : List Cond := u_ws RX4 TX4 9
theorem nmX4 : ∀ a, a < 9 → ∀ b, b < 9 → a ≠ b → (TX4 a).2.1 ≠ (TX4 b).2.1 := by decide +kernel
theorem tyX4_ok : ∀ k, k < 9 → parseFieldDescriptor (TX4 k).2.2.1 = some (tyX4 k) := by decide +kernel
abbrev cX4_init : ByteArray := prog_6_method_1_code
def yX4_init : MethodName := ⟨RX4, "<init>", "(ILCreditWire$Channel;[BI)V"⟩
abbrev cX4_canBeTaken : ByteArray := prog_6_method_2_code
def yX4_canBeTaken : MethodName := ⟨RX4, "canBeTaken", "()Z"⟩
abbrev cX4_property : ByteArray := prog_6_method_3_code
def yX4_property : MethodName := ⟨RX4, "property", "(I)I"⟩
def RX5 : String := "CreditWire"
def TX5 : u_T := fun k => match k with
  | 0 => ("CreditWire", "tape", "[B", true)
  | 1 => ("CreditWire", "tapeLength", "I", false)
  | 2 => ("CreditWire", "taken", "[B", false)
  | _ => ("CreditWire", "now", "LCreditWire$Link;", false)
def tyX5 : Nat → FieldType := fun k => match k with
  | 0 => .array .byte
  | 1 => .int
  | 2 => .array .byte
  | _ => .object "CreditWire$Link"
abbrev wsX50 : List Cond := u_ws RX5 TX5 4
theorem nmX5 : ∀ a, a < 4 → ∀ b, b < 4 → a ≠ b → (TX5 a).2.1 ≠ (TX5 b).2.1 := by decide +kernel
theorem tyX5_ok : ∀ k, k < 4 → parseFieldDescriptor (TX5 k).2.2.1 = some (tyX5 k) := by decide +kernel
abbrev cX5_init : ByteArray := prog_1_method_1_code
def yX5_init : MethodName := ⟨RX5, "<init>", "()V"⟩
abbrev cX5_link : ByteArray := prog_1_method_2_code
def yX5_link : MethodName := ⟨RX5, "link", "(IIII)V"⟩
abbrev cX5_depth : ByteArray := prog_1_method_3_code
def yX5_depth : MethodName := ⟨RX5, "depth", "(II)I"⟩
abbrev cX5_weight : ByteArray := prog_1_method_4_code
def yX5_weight : MethodName := ⟨RX5, "weight", "(II)I"⟩
abbrev cX5_arbiter : ByteArray := prog_1_method_5_code
def yX5_arbiter : MethodName := ⟨RX5, "arbiter", "(I)I"⟩
abbrev cX5_mask : ByteArray := prog_1_method_6_code
def yX5_mask : MethodName := ⟨RX5, "mask", "(I)I"⟩
abbrev cX5_free : ByteArray := prog_1_method_7_code
def yX5_free : MethodName := ⟨RX5, "free", "()I"⟩
abbrev cX5_feed : ByteArray := prog_1_method_8_code
def yX5_feed : MethodName := ⟨RX5, "feed", "(IJJ)I"⟩
abbrev cX5_offer : ByteArray := prog_1_method_9_code
def yX5_offer : MethodName := ⟨RX5, "offer", "(I)I"⟩
abbrev cX5_run : ByteArray := prog_1_method_10_code
def yX5_run : MethodName := ⟨RX5, "run", "(I)I"⟩
abbrev cX5_take : ByteArray := prog_1_method_11_code
def yX5_take : MethodName := ⟨RX5, "take", "(I)I"⟩
abbrev cX5_answer : ByteArray := prog_1_method_12_code
def yX5_answer : MethodName := ⟨RX5, "answer", "(I)I"⟩
abbrev cX5_look : ByteArray := prog_1_method_13_code
def yX5_look : MethodName := ⟨RX5, "look", "(II)I"⟩
abbrev cX5_packet : ByteArray := prog_1_method_14_code
def yX5_packet : MethodName := ⟨RX5, "packet", "(II)I"⟩
abbrev cX5_wire : ByteArray := prog_1_method_15_code
def yX5_wire : MethodName := ⟨RX5, "wire", "(II)I"⟩
abbrev cX5_buffer : ByteArray := prog_1_method_16_code
def yX5_buffer : MethodName := ⟨RX5, "buffer", "(III)I"⟩
abbrev cX5_back : ByteArray := prog_1_method_17_code
def yX5_back : MethodName := ⟨RX5, "back", "(II)I"⟩
abbrev cX5_count : ByteArray := prog_1_method_18_code
def yX5_count : MethodName := ⟨RX5, "count", "(I)I"⟩
abbrev cX5_isWithin : ByteArray := prog_1_method_19_code
def yX5_isWithin : MethodName := ⟨RX5, "isWithin", "(II)Z"⟩
abbrev cX5_putOnTape : ByteArray := prog_1_method_20_code
def yX5_putOnTape : MethodName := ⟨RX5, "putOnTape", "(B)V"⟩
def RX6 : String := "CreditWireModel"
def TX6 : u_T := fun k => match k with
  | 0 => ("CreditWireModel", "thrown", "I", false)
  | 1 => ("CreditWireModel", "channels", "I", false)
  | 2 => ("CreditWireModel", "wireDelay", "I", false)
  | 3 => ("CreditWireModel", "backDelay", "I", false)
  | 4 => ("CreditWireModel", "arbiter", "I", false)
  | 5 => ("CreditWireModel", "rows", "I", false)
  | 6 => ("CreditWireModel", "packets", "I", false)
  | 7 => ("CreditWireModel", "clock", "I", false)
  | 8 => ("CreditWireModel", "last", "I", false)
  | 9 => ("CreditWireModel", "inRow", "I", false)
  | 10 => ("CreditWireModel", "idle", "I", false)
  | 11 => ("CreditWireModel", "found", "I", false)
  | 12 => ("CreditWireModel", "late", "I", false)
  | 13 => ("CreditWireModel", "depth", "[I", true)
  | 14 => ("CreditWireModel", "weight", "[I", true)
  | 15 => ("CreditWireModel", "masks", "[I", true)
  | 16 => ("CreditWireModel", "pChannel", "[I", true)
  | 17 => ("CreditWireModel", "pSize", "[I", true)
  | 18 => ("CreditWireModel", "pBytes", "[B", true)
  | 19 => ("CreditWireModel", "pOffered", "[I", true)
  | 20 => ("CreditWireModel", "pSent", "[I", true)
  | 21 => ("CreditWireModel", "pArrived", "[I", true)
  | 22 => ("CreditWireModel", "pLatest", "[I", true)
  | 23 => ("CreditWireModel", "pTaken", "[Z", true)
  | 24 => ("CreditWireModel", "pPlain", "[Z", true)
  | 25 => ("CreditWireModel", "fPacket", "[I", true)
  | 26 => ("CreditWireModel", "fNumber", "[I", true)
  | 27 => ("CreditWireModel", "fSent", "[I", true)
  | 28 => ("CreditWireModel", "fDrained", "[I", true)
  | 29 => ("CreditWireModel", "offered", "[I", true)
  | 30 => ("CreditWireModel", "sent", "[I", true)
  | 31 => ("CreditWireModel", "came", "[I", true)
  | 32 => ("CreditWireModel", "drained", "[I", true)
  | 33 => ("CreditWireModel", "credited", "[I", true)
  | 34 => ("CreditWireModel", "mostThere", "[I", true)
  | 35 => ("CreditWireModel", "tape", "[B", true)
  | 36 => ("CreditWireModel", "taped", "I", false)
  | 37 => ("CreditWireModel", "answer", "[B", true)
  | _ => ("CreditWireModel", "answered", "I", false)
def tyX6 : Nat → FieldType := fun k => match k with
  | 0 => .int
  | 1 => .int
  | 2 => .int
  | 3 => .int
  | 4 => .int
  | 5 => .int
  | 6 => .int
  | 7 => .int
  | 8 => .int
  | 9 => .int
  | 10 => .int
  | 11 => .int
  | 12 => .int
  | 13 => .array .int
  | 14 => .array .int
  | 15 => .array .int
  | 16 => .array .int
  | 17 => .array .int
  | 18 => .array .byte
  | 19 => .array .int
  | 20 => .array .int
  | 21 => .array .int
  | 22 => .array .int
  | 23 => .array .boolean
  | 24 => .array .boolean
  | 25 => .array .int
  | 26 => .array .int
  | 27 => .array .int
  | 28 => .array .int
  | 29 => .array .int
  | 30 => .array .int
  | 31 => .array .int
  | 32 => .array .int
  | 33 => .array .int
  | 34 => .array .int
  | 35 => .array .byte
  | 36 => .int
  | 37 => .array .byte
  | _ => .int
abbrev wsX60 : List Cond := u_ws RX6 TX6 39
theorem nmX6 : ∀ a, a < 39 → ∀ b, b < 39 → a ≠ b → (TX6 a).2.1 ≠ (TX6 b).2.1 := by decide +kernel
theorem tyX6_ok : ∀ k, k < 39 → parseFieldDescriptor (TX6 k).2.2.1 = some (tyX6 k) := by decide +kernel
abbrev cX6_init : ByteArray := prog_8_method_1_code
def yX6_init : MethodName := ⟨RX6, "<init>", "()V"⟩
abbrev cX6_thrown : ByteArray := prog_8_method_2_code
def yX6_thrown : MethodName := ⟨RX6, "thrown", "()I"⟩
abbrev cX6_isIn : ByteArray := prog_8_method_3_code
def yX6_isIn : MethodName := ⟨RX6, "isIn", "(III)Z"⟩
abbrev cX6_link : ByteArray := prog_8_method_4_code
def yX6_link : MethodName := ⟨RX6, "link", "(IIII)V"⟩
abbrev cX6_isChannel : ByteArray := prog_8_method_5_code
def yX6_isChannel : MethodName := ⟨RX6, "isChannel", "(I)Z"⟩
abbrev cX6_depth : ByteArray := prog_8_method_6_code
def yX6_depth : MethodName := ⟨RX6, "depth", "(II)I"⟩
abbrev cX6_weight : ByteArray := prog_8_method_7_code
def yX6_weight : MethodName := ⟨RX6, "weight", "(II)I"⟩
abbrev cX6_arbiter : ByteArray := prog_8_method_8_code
def yX6_arbiter : MethodName := ⟨RX6, "arbiter", "(I)I"⟩
abbrev cX6_mask : ByteArray := prog_8_method_9_code
def yX6_mask : MethodName := ⟨RX6, "mask", "(I)I"⟩
abbrev cX6_free : ByteArray := prog_8_method_10_code
def yX6_free : MethodName := ⟨RX6, "free", "()I"⟩
abbrev cX6_feed : ByteArray := prog_8_method_11_code
def yX6_feed : MethodName := ⟨RX6, "feed", "(IJJ)I"⟩
abbrev cX6_flitsOf : ByteArray := prog_8_method_12_code
def yX6_flitsOf : MethodName := ⟨RX6, "flitsOf", "(I)I"⟩
abbrev cX6_flitBytes : ByteArray := prog_8_method_13_code
def yX6_flitBytes : MethodName := ⟨RX6, "flitBytes", "(II)I"⟩
abbrev cX6_offer : ByteArray := prog_8_method_14_code
def yX6_offer : MethodName := ⟨RX6, "offer", "(I)I"⟩
abbrev cX6_credits : ByteArray := prog_8_method_15_code
def yX6_credits : MethodName := ⟨RX6, "credits", "(I)I"⟩
abbrev cX6_comesBack : ByteArray := prog_8_method_16_code
def yX6_comesBack : MethodName := ⟨RX6, "comesBack", "()V"⟩
abbrev cX6_comes : ByteArray := prog_8_method_17_code
def yX6_comes : MethodName := ⟨RX6, "comes", "()V"⟩
abbrev cX6_drains : ByteArray := prog_8_method_18_code
def yX6_drains : MethodName := ⟨RX6, "drains", "()I"⟩
abbrev cX6_isAble : ByteArray := prog_8_method_19_code
def yX6_isAble : MethodName := ⟨RX6, "isAble", "(I)Z"⟩
abbrev cX6_byTurns : ByteArray := prog_8_method_20_code
def yX6_byTurns : MethodName := ⟨RX6, "byTurns", "()I"⟩
abbrev cX6_least : ByteArray := prog_8_method_21_code
def yX6_least : MethodName := ⟨RX6, "least", "()I"⟩
abbrev cX6_begun : ByteArray := prog_8_method_22_code
def yX6_begun : MethodName := ⟨RX6, "begun", "()I"⟩
abbrev cX6_doesWait : ByteArray := prog_8_method_23_code
def yX6_doesWait : MethodName := ⟨RX6, "doesWait", "()Z"⟩
abbrev cX6_sends : ByteArray := prog_8_method_24_code
def yX6_sends : MethodName := ⟨RX6, "sends", "()V"⟩
abbrev cX6_cycle : ByteArray := prog_8_method_25_code
def yX6_cycle : MethodName := ⟨RX6, "cycle", "()I"⟩
abbrev cX6_run : ByteArray := prog_8_method_26_code
def yX6_run : MethodName := ⟨RX6, "run", "(I)I"⟩
abbrev cX6_take : ByteArray := prog_8_method_27_code
def yX6_take : MethodName := ⟨RX6, "take", "(I)I"⟩
abbrev cX6_answer : ByteArray := prog_8_method_28_code
def yX6_answer : MethodName := ⟨RX6, "answer", "(I)I"⟩
abbrev cX6_arrived : ByteArray := prog_8_method_29_code
def yX6_arrived : MethodName := ⟨RX6, "arrived", "(IZ)I"⟩
abbrev cX6_together : ByteArray := prog_8_method_30_code
def yX6_together : MethodName := ⟨RX6, "together", "(I)I"⟩
abbrev cX6_look : ByteArray := prog_8_method_31_code
def yX6_look : MethodName := ⟨RX6, "look", "(II)I"⟩
abbrev cX6_packet : ByteArray := prog_8_method_32_code
def yX6_packet : MethodName := ⟨RX6, "packet", "(II)I"⟩
abbrev cX6_flit : ByteArray := prog_8_method_33_code
def yX6_flit : MethodName := ⟨RX6, "flit", "(III)I"⟩
abbrev cX6_wire : ByteArray := prog_8_method_34_code
def yX6_wire : MethodName := ⟨RX6, "wire", "(II)I"⟩
abbrev cX6_buffer : ByteArray := prog_8_method_35_code
def yX6_buffer : MethodName := ⟨RX6, "buffer", "(III)I"⟩
abbrev cX6_back : ByteArray := prog_8_method_36_code
def yX6_back : MethodName := ⟨RX6, "back", "(II)I"⟩
abbrev cX6_count : ByteArray := prog_8_method_37_code
def yX6_count : MethodName := ⟨RX6, "count", "(I)I"⟩
def RJ9 : String := "java/lang/Math"
def TJ9 : u_T := fun k => match k with
  | _ => ("", "", "", false)
def tyJ9 : Nat → FieldType := fun k => match k with
  | _ => .int
abbrev wsJ90 : List Cond := u_ws RJ9 TJ9 0
theorem nmJ9 : ∀ a, a < 0 → ∀ b, b < 0 → a ≠ b → (TJ9 a).2.1 ≠ (TJ9 b).2.1 := by decide +kernel
theorem tyJ9_ok : ∀ k, k < 0 → parseFieldDescriptor (TJ9 k).2.2.1 = some (tyJ9 k) := by decide +kernel
abbrev cJ9_floorMod_7cf53 : ByteArray := prog_13_method_50_code
def yJ9_floorMod_7cf53 : MethodName := ⟨RJ9, "floorMod", "(II)I"⟩
abbrev cJ9_max_7cf53 : ByteArray := prog_13_method_65_code
def yJ9_max_7cf53 : MethodName := ⟨RJ9, "max", "(II)I"⟩
abbrev cJ9_min_7cf53 : ByteArray := prog_13_method_69_code
def yJ9_min_7cf53 : MethodName := ⟨RJ9, "min", "(II)I"⟩
def RJ0 : String := "java/lang/String"
def TJ0 : u_T := fun k => match k with
  | _ => ("", "", "", false)
def tyJ0 : Nat → FieldType := fun k => match k with
  | _ => .int
abbrev wsJ00 : List Cond := u_ws RJ0 TJ0 0
theorem nmJ0 : ∀ a, a < 0 → ∀ b, b < 0 → a ≠ b → (TJ0 a).2.1 ≠ (TJ0 b).2.1 := by decide +kernel
theorem tyJ0_ok : ∀ k, k < 0 → parseFieldDescriptor (TJ0 k).2.2.1 = some (tyJ0 k) := by decide +kernel
def RJ10 : String := "java/lang/System"
def TJ10 : u_T := fun k => match k with
  | _ => ("", "", "", false)
def tyJ10 : Nat → FieldType := fun k => match k with
  | _ => .int
abbrev wsJ100 : List Cond := u_ws RJ10 TJ10 0
theorem nmJ10 : ∀ a, a < 0 → ∀ b, b < 0 → a ≠ b → (TJ10 a).2.1 ≠ (TJ10 b).2.1 := by decide +kernel
theorem tyJ10_ok : ∀ k, k < 0 → parseFieldDescriptor (TJ10 k).2.2.1 = some (tyJ10 k) := by decide +kernel
def RJ7 : String := "java/util/Arrays"
def TJ7 : u_T := fun k => match k with
  | _ => ("", "", "", false)
def tyJ7 : Nat → FieldType := fun k => match k with
  | _ => .int
abbrev wsJ70 : List Cond := u_ws RJ7 TJ7 0
theorem nmJ7 : ∀ a, a < 0 → ∀ b, b < 0 → a ≠ b → (TJ7 a).2.1 ≠ (TJ7 b).2.1 := by decide +kernel
theorem tyJ7_ok : ∀ k, k < 0 → parseFieldDescriptor (TJ7 k).2.2.1 = some (tyJ7 k) := by decide +kernel
abbrev cJ7_copyOf_9075b : ByteArray := prog_19_method_121_code
def yJ7_copyOf_9075b : MethodName := ⟨RJ7, "copyOf", "([BI)[B"⟩
def RL : String := "CreditWireLaw"
abbrev cL_link : ByteArray := method_3_code
def yL_link : MethodName := ⟨RL, "link", "(LCreditWire;IIII)I"⟩
abbrev cL_depth : ByteArray := method_4_code
def yL_depth : MethodName := ⟨RL, "depth", "(LCreditWire;II[J)I"⟩
abbrev cL_weight : ByteArray := method_5_code
def yL_weight : MethodName := ⟨RL, "weight", "(LCreditWire;II[J)I"⟩
abbrev cL_arbiter : ByteArray := method_6_code
def yL_arbiter : MethodName := ⟨RL, "arbiter", "(LCreditWire;I[J)I"⟩
abbrev cL_mask : ByteArray := method_7_code
def yL_mask : MethodName := ⟨RL, "mask", "(LCreditWire;I[J)I"⟩
abbrev cL_feed : ByteArray := method_8_code
def yL_feed : MethodName := ⟨RL, "feed", "(LCreditWire;IJJ[J)I"⟩
abbrev cL_offer : ByteArray := method_9_code
def yL_offer : MethodName := ⟨RL, "offer", "(LCreditWire;I[J)I"⟩
abbrev cL_run : ByteArray := method_10_code
def yL_run : MethodName := ⟨RL, "run", "(LCreditWire;I[J)I"⟩
abbrev cL_take : ByteArray := method_11_code
def yL_take : MethodName := ⟨RL, "take", "(LCreditWire;I[J)I"⟩
abbrev cL_law : ByteArray := code
def yL_law : MethodName := ⟨RL, "law", "([I)Z"⟩
abbrev vwCl : List vw_C := [(RX0, TX0, 13), (RX1, TX1, 3), (RX2, TX2, 3), (RX3, TX3, 16), (RX4, TX4, 9), (RX5, TX5, 4), (RX6, TX6, 39)]
end
section
theorem dX0_init_0 : decode cX0_init 0 = .ok (.aload_n 0, 1) := by decide +kernel
theorem dX0_init_1 : decode cX0_init 1 = .ok (.invokespecial 3, 3) := by decide +kernel
theorem dX0_init_4 : decode cX0_init 4 = .ok (.aload_n 0, 1) := by decide +kernel
theorem dX0_init_5 : decode cX0_init 5 = .ok (.new 9, 3) := by decide +kernel
theorem dX0_init_8 : decode cX0_init 8 = .ok (.dup, 1) := by decide +kernel
theorem dX0_init_9 : decode cX0_init 9 = .ok (.invokespecial 11, 3) := by decide +kernel
theorem dX0_init_12 : decode cX0_init 12 = .ok (.putfield 12, 3) := by decide +kernel
theorem dX0_init_15 : decode cX0_init 15 = .ok (.aload_n 0, 1) := by decide +kernel
theorem dX0_init_16 : decode cX0_init 16 = .ok (.new 9, 3) := by decide +kernel
theorem dX0_init_19 : decode cX0_init 19 = .ok (.dup, 1) := by decide +kernel
theorem dX0_init_20 : decode cX0_init 20 = .ok (.invokespecial 11, 3) := by decide +kernel
theorem dX0_init_23 : decode cX0_init 23 = .ok (.putfield 18, 3) := by decide +kernel
theorem dX0_init_26 : decode cX0_init 26 = .ok (.aload_n 0, 1) := by decide +kernel
theorem dX0_init_27 : decode cX0_init 27 = .ok (.bipush 16, 2) := by decide +kernel
theorem dX0_init_29 : decode cX0_init 29 = .ok (.newarray .int, 2) := by decide +kernel
theorem dX0_init_31 : decode cX0_init 31 = .ok (.putfield 21, 3) := by decide +kernel
theorem dX0_init_34 : decode cX0_init 34 = .ok (.aload_n 0, 1) := by decide +kernel
theorem dX0_init_35 : decode cX0_init 35 = .ok (.iconst 1, 1) := by decide +kernel
theorem dX0_init_36 : decode cX0_init 36 = .ok (.putfield 25, 3) := by decide +kernel
theorem dX0_init_39 : decode cX0_init 39 = .ok (.aload_n 0, 1) := by decide +kernel
theorem dX0_init_40 : decode cX0_init 40 = .ok (.iconst 0, 1) := by decide +kernel
theorem dX0_init_41 : decode cX0_init 41 = .ok (.putfield 29, 3) := by decide +kernel
theorem dX0_init_44 : decode cX0_init 44 = .ok (.aload_n 0, 1) := by decide +kernel
theorem dX0_init_45 : decode cX0_init 45 = .ok (.iconst 0, 1) := by decide +kernel
theorem dX0_init_46 : decode cX0_init 46 = .ok (.putfield 32, 3) := by decide +kernel
theorem dX0_init_49 : decode cX0_init 49 = .ok (.aload_n 0, 1) := by decide +kernel
theorem dX0_init_50 : decode cX0_init 50 = .ok (.iconst 0, 1) := by decide +kernel
theorem dX0_init_51 : decode cX0_init 51 = .ok (.putfield 35, 3) := by decide +kernel
theorem dX0_init_54 : decode cX0_init 54 = .ok (.aload_n 0, 1) := by decide +kernel
theorem dX0_init_55 : decode cX0_init 55 = .ok (.iconst 0, 1) := by decide +kernel
theorem dX0_init_56 : decode cX0_init 56 = .ok (.putfield 38, 3) := by decide +kernel
theorem dX0_init_59 : decode cX0_init 59 = .ok (.aload_n 0, 1) := by decide +kernel
theorem dX0_init_60 : decode cX0_init 60 = .ok (.iconst 0, 1) := by decide +kernel
theorem dX0_init_61 : decode cX0_init 61 = .ok (.putfield 41, 3) := by decide +kernel
theorem dX0_init_64 : decode cX0_init 64 = .ok (.aload_n 0, 1) := by decide +kernel
theorem dX0_init_65 : decode cX0_init 65 = .ok (.iconst 0, 1) := by decide +kernel
theorem dX0_init_66 : decode cX0_init 66 = .ok (.putfield 44, 3) := by decide +kernel
theorem dX0_init_69 : decode cX0_init 69 = .ok (.aload_n 0, 1) := by decide +kernel
theorem dX0_init_70 : decode cX0_init 70 = .ok (.iload_n 1, 1) := by decide +kernel
theorem dX0_init_71 : decode cX0_init 71 = .ok (.putfield 47, 3) := by decide +kernel
theorem dX0_init_74 : decode cX0_init 74 = .ok (.aload_n 0, 1) := by decide +kernel
theorem dX0_init_75 : decode cX0_init 75 = .ok (.iload_n 2, 1) := by decide +kernel
theorem dX0_init_76 : decode cX0_init 76 = .ok (.putfield 50, 3) := by decide +kernel
theorem dX0_init_79 : decode cX0_init 79 = .ok (.aload_n 0, 1) := by decide +kernel
theorem dX0_init_80 : decode cX0_init 80 = .ok (.iload_n 2, 1) := by decide +kernel
theorem dX0_init_81 : decode cX0_init 81 = .ok (.putfield 53, 3) := by decide +kernel
theorem dX0_init_84 : decode cX0_init 84 = .ok (.return_, 1) := by decide +kernel
theorem dX0_isAble_0 : decode cX0_isAble 0 = .ok (.aload_n 0, 1) := by decide +kernel
theorem dX0_isAble_1 : decode cX0_isAble 1 = .ok (.getfield 12, 3) := by decide +kernel
theorem dX0_isAble_4 : decode cX0_isAble 4 = .ok (.getfield 56, 3) := by decide +kernel
theorem dX0_isAble_7 : decode cX0_isAble 7 = .ok (.ifCond .le 14, 3) := by decide +kernel
theorem dX0_isAble_10 : decode cX0_isAble 10 = .ok (.aload_n 0, 1) := by decide +kernel
theorem dX0_isAble_11 : decode cX0_isAble 11 = .ok (.getfield 53, 3) := by decide +kernel
theorem dX0_isAble_14 : decode cX0_isAble 14 = .ok (.ifCond .le 7, 3) := by decide +kernel
theorem dX0_isAble_17 : decode cX0_isAble 17 = .ok (.iconst 1, 1) := by decide +kernel
theorem dX0_isAble_18 : decode cX0_isAble 18 = .ok (.goto 4, 3) := by decide +kernel
theorem dX0_isAble_21 : decode cX0_isAble 21 = .ok (.iconst 0, 1) := by decide +kernel
theorem dX0_isAble_22 : decode cX0_isAble 22 = .ok (.ireturn, 1) := by decide +kernel
theorem dX0_isInsidePacket_0 : decode cX0_isInsidePacket 0 = .ok (.aload_n 0, 1) := by decide +kernel
theorem dX0_isInsidePacket_1 : decode cX0_isInsidePacket 1 = .ok (.getfield 12, 3) := by decide +kernel
theorem dX0_isInsidePacket_4 : decode cX0_isInsidePacket 4 = .ok (.getfield 59, 3) := by decide +kernel
theorem dX0_isInsidePacket_7 : decode cX0_isInsidePacket 7 = .ok (.ifnull 20, 3) := by decide +kernel
theorem dX0_isInsidePacket_10 : decode cX0_isInsidePacket 10 = .ok (.aload_n 0, 1) := by decide +kernel
theorem dX0_isInsidePacket_11 : decode cX0_isInsidePacket 11 = .ok (.getfield 12, 3) := by decide +kernel
theorem dX0_isInsidePacket_14 : decode cX0_isInsidePacket 14 = .ok (.getfield 59, 3) := by decide +kernel
theorem dX0_isInsidePacket_17 : decode cX0_isInsidePacket 17 = .ok (.getfield 63, 3) := by decide +kernel
theorem dX0_isInsidePacket_20 : decode cX0_isInsidePacket 20 = .ok (.ifCond .le 7, 3) := by decide +kernel
theorem dX0_isInsidePacket_23 : decode cX0_isInsidePacket 23 = .ok (.iconst 1, 1) := by decide +kernel
theorem dX0_isInsidePacket_24 : decode cX0_isInsidePacket 24 = .ok (.goto 4, 3) := by decide +kernel
theorem dX0_isInsidePacket_27 : decode cX0_isInsidePacket 27 = .ok (.iconst 0, 1) := by decide +kernel
theorem dX0_isInsidePacket_28 : decode cX0_isInsidePacket 28 = .ok (.ireturn, 1) := by decide +kernel
theorem dX0_getCreditsBack_0 : decode cX0_getCreditsBack 0 = .ok (.iload_n 1, 1) := by decide +kernel
theorem dX0_getCreditsBack_1 : decode cX0_getCreditsBack 1 = .ok (.bipush 15, 2) := by decide +kernel
theorem dX0_getCreditsBack_3 : decode cX0_getCreditsBack 3 = .ok (.iand, 1) := by decide +kernel
theorem dX0_getCreditsBack_4 : decode cX0_getCreditsBack 4 = .ok (.istore_n 2, 1) := by decide +kernel
theorem dX0_getCreditsBack_5 : decode cX0_getCreditsBack 5 = .ok (.aload_n 0, 1) := by decide +kernel
theorem dX0_getCreditsBack_6 : decode cX0_getCreditsBack 6 = .ok (.dup, 1) := by decide +kernel
theorem dX0_getCreditsBack_7 : decode cX0_getCreditsBack 7 = .ok (.getfield 53, 3) := by decide +kernel
theorem dX0_getCreditsBack_10 : decode cX0_getCreditsBack 10 = .ok (.aload_n 0, 1) := by decide +kernel
theorem dX0_getCreditsBack_11 : decode cX0_getCreditsBack 11 = .ok (.getfield 21, 3) := by decide +kernel
theorem dX0_getCreditsBack_14 : decode cX0_getCreditsBack 14 = .ok (.iload_n 2, 1) := by decide +kernel
theorem dX0_getCreditsBack_15 : decode cX0_getCreditsBack 15 = .ok (.iaload, 1) := by decide +kernel
theorem dX0_getCreditsBack_16 : decode cX0_getCreditsBack 16 = .ok (.iadd, 1) := by decide +kernel
theorem dX0_getCreditsBack_17 : decode cX0_getCreditsBack 17 = .ok (.putfield 53, 3) := by decide +kernel
theorem dX0_getCreditsBack_20 : decode cX0_getCreditsBack 20 = .ok (.aload_n 0, 1) := by decide +kernel
theorem dX0_getCreditsBack_21 : decode cX0_getCreditsBack 21 = .ok (.getfield 21, 3) := by decide +kernel
theorem dX0_getCreditsBack_24 : decode cX0_getCreditsBack 24 = .ok (.iload_n 2, 1) := by decide +kernel
theorem dX0_getCreditsBack_25 : decode cX0_getCreditsBack 25 = .ok (.iconst 0, 1) := by decide +kernel
theorem dX0_getCreditsBack_26 : decode cX0_getCreditsBack 26 = .ok (.iastore, 1) := by decide +kernel
theorem dX0_getCreditsBack_27 : decode cX0_getCreditsBack 27 = .ok (.return_, 1) := by decide +kernel
theorem dX0_send_0 : decode cX0_send 0 = .ok (.aload_n 0, 1) := by decide +kernel
theorem dX0_send_1 : decode cX0_send 1 = .ok (.getfield 12, 3) := by decide +kernel
theorem dX0_send_4 : decode cX0_send 4 = .ok (.invokevirtual 66, 3) := by decide +kernel
theorem dX0_send_7 : decode cX0_send 7 = .ok (.astore_n 1, 1) := by decide +kernel
theorem dX0_send_8 : decode cX0_send 8 = .ok (.aload_n 1, 1) := by decide +kernel
theorem dX0_send_9 : decode cX0_send 9 = .ok (.ifnull 33, 3) := by decide +kernel
theorem dX0_send_12 : decode cX0_send 12 = .ok (.aload_n 0, 1) := by decide +kernel
theorem dX0_send_13 : decode cX0_send 13 = .ok (.dup, 1) := by decide +kernel
theorem dX0_send_14 : decode cX0_send 14 = .ok (.getfield 53, 3) := by decide +kernel
theorem dX0_send_17 : decode cX0_send 17 = .ok (.iconst 1, 1) := by decide +kernel
theorem dX0_send_18 : decode cX0_send 18 = .ok (.isub, 1) := by decide +kernel
theorem dX0_send_19 : decode cX0_send 19 = .ok (.putfield 53, 3) := by decide +kernel
theorem dX0_send_22 : decode cX0_send 22 = .ok (.aload_n 0, 1) := by decide +kernel
theorem dX0_send_23 : decode cX0_send 23 = .ok (.dup, 1) := by decide +kernel
theorem dX0_send_24 : decode cX0_send 24 = .ok (.getfield 32, 3) := by decide +kernel
theorem dX0_send_27 : decode cX0_send 27 = .ok (.iconst 1, 1) := by decide +kernel
theorem dX0_send_28 : decode cX0_send 28 = .ok (.iadd, 1) := by decide +kernel
theorem dX0_send_29 : decode cX0_send 29 = .ok (.putfield 32, 3) := by decide +kernel
theorem dX0_send_32 : decode cX0_send 32 = .ok (.aload_n 0, 1) := by decide +kernel
theorem dX0_send_33 : decode cX0_send 33 = .ok (.dup, 1) := by decide +kernel
theorem dX0_send_34 : decode cX0_send 34 = .ok (.getfield 29, 3) := by decide +kernel
theorem dX0_send_37 : decode cX0_send 37 = .ok (.iconst 1, 1) := by decide +kernel
theorem dX0_send_38 : decode cX0_send 38 = .ok (.iadd, 1) := by decide +kernel
theorem dX0_send_39 : decode cX0_send 39 = .ok (.putfield 29, 3) := by decide +kernel
theorem dX0_send_42 : decode cX0_send 42 = .ok (.aload_n 1, 1) := by decide +kernel
theorem dX0_send_43 : decode cX0_send 43 = .ok (.areturn, 1) := by decide +kernel
theorem dX0_land_0 : decode cX0_land 0 = .ok (.aload_n 0, 1) := by decide +kernel
theorem dX0_land_1 : decode cX0_land 1 = .ok (.dup, 1) := by decide +kernel
theorem dX0_land_2 : decode cX0_land 2 = .ok (.getfield 29, 3) := by decide +kernel
theorem dX0_land_5 : decode cX0_land 5 = .ok (.iconst 1, 1) := by decide +kernel
theorem dX0_land_6 : decode cX0_land 6 = .ok (.isub, 1) := by decide +kernel
theorem dX0_land_7 : decode cX0_land 7 = .ok (.putfield 29, 3) := by decide +kernel
theorem dX0_land_10 : decode cX0_land 10 = .ok (.aload_n 0, 1) := by decide +kernel
theorem dX0_land_11 : decode cX0_land 11 = .ok (.getfield 18, 3) := by decide +kernel
theorem dX0_land_14 : decode cX0_land 14 = .ok (.aload_n 1, 1) := by decide +kernel
theorem dX0_land_15 : decode cX0_land 15 = .ok (.invokevirtual 70, 3) := by decide +kernel
theorem dX0_land_18 : decode cX0_land 18 = .ok (.aload_n 0, 1) := by decide +kernel
theorem dX0_land_19 : decode cX0_land 19 = .ok (.aload_n 0, 1) := by decide +kernel
theorem dX0_land_20 : decode cX0_land 20 = .ok (.getfield 44, 3) := by decide +kernel
theorem dX0_land_23 : decode cX0_land 23 = .ok (.aload_n 0, 1) := by decide +kernel
theorem dX0_land_24 : decode cX0_land 24 = .ok (.getfield 18, 3) := by decide +kernel
theorem dX0_land_27 : decode cX0_land 27 = .ok (.getfield 56, 3) := by decide +kernel
theorem dX0_land_30 : decode cX0_land 30 = .ok (.invokestatic 74, 3) := by decide +kernel
theorem dX0_land_33 : decode cX0_land 33 = .ok (.putfield 44, 3) := by decide +kernel
theorem dX0_land_36 : decode cX0_land 36 = .ok (.return_, 1) := by decide +kernel
theorem dX0_drain_0 : decode cX0_drain 0 = .ok (.aload_n 0, 1) := by decide +kernel
theorem dX0_drain_1 : decode cX0_drain 1 = .ok (.getfield 18, 3) := by decide +kernel
theorem dX0_drain_4 : decode cX0_drain 4 = .ok (.invokevirtual 66, 3) := by decide +kernel
theorem dX0_drain_7 : decode cX0_drain 7 = .ok (.astore_n 3, 1) := by decide +kernel
theorem dX0_drain_8 : decode cX0_drain 8 = .ok (.aload_n 3, 1) := by decide +kernel
theorem dX0_drain_9 : decode cX0_drain 9 = .ok (.ifnonnull 5, 3) := by decide +kernel
theorem dX0_drain_12 : decode cX0_drain 12 = .ok (.aconst_null, 1) := by decide +kernel
theorem dX0_drain_13 : decode cX0_drain 13 = .ok (.areturn, 1) := by decide +kernel
theorem dX0_drain_14 : decode cX0_drain 14 = .ok (.aload_n 0, 1) := by decide +kernel
theorem dX0_drain_15 : decode cX0_drain 15 = .ok (.getfield 21, 3) := by decide +kernel
theorem dX0_drain_18 : decode cX0_drain 18 = .ok (.iload_n 1, 1) := by decide +kernel
theorem dX0_drain_19 : decode cX0_drain 19 = .ok (.iload_n 2, 1) := by decide +kernel
theorem dX0_drain_20 : decode cX0_drain 20 = .ok (.iadd, 1) := by decide +kernel
theorem dX0_drain_21 : decode cX0_drain 21 = .ok (.bipush 15, 2) := by decide +kernel
theorem dX0_drain_23 : decode cX0_drain 23 = .ok (.iand, 1) := by decide +kernel
theorem dX0_drain_24 : decode cX0_drain 24 = .ok (.dup2, 1) := by decide +kernel
theorem dX0_drain_25 : decode cX0_drain 25 = .ok (.iaload, 1) := by decide +kernel
theorem dX0_drain_26 : decode cX0_drain 26 = .ok (.iconst 1, 1) := by decide +kernel
theorem dX0_drain_27 : decode cX0_drain 27 = .ok (.iadd, 1) := by decide +kernel
theorem dX0_drain_28 : decode cX0_drain 28 = .ok (.iastore, 1) := by decide +kernel
theorem dX0_drain_29 : decode cX0_drain 29 = .ok (.aload_n 3, 1) := by decide +kernel
theorem dX0_drain_30 : decode cX0_drain 30 = .ok (.invokevirtual 80, 3) := by decide +kernel
theorem dX0_drain_33 : decode cX0_drain 33 = .ok (.ifCond .ne 18, 3) := by decide +kernel
theorem dX0_drain_36 : decode cX0_drain 36 = .ok (.aload_n 0, 1) := by decide +kernel
theorem dX0_drain_37 : decode cX0_drain 37 = .ok (.dup, 1) := by decide +kernel
theorem dX0_drain_38 : decode cX0_drain 38 = .ok (.getfield 41, 3) := by decide +kernel
theorem dX0_drain_41 : decode cX0_drain 41 = .ok (.aload_n 3, 1) := by decide +kernel
theorem dX0_drain_42 : decode cX0_drain 42 = .ok (.invokevirtual 84, 3) := by decide +kernel
theorem dX0_drain_45 : decode cX0_drain 45 = .ok (.iadd, 1) := by decide +kernel
theorem dX0_drain_46 : decode cX0_drain 46 = .ok (.putfield 41, 3) := by decide +kernel
theorem dX0_drain_49 : decode cX0_drain 49 = .ok (.aconst_null, 1) := by decide +kernel
theorem dX0_drain_50 : decode cX0_drain 50 = .ok (.areturn, 1) := by decide +kernel
theorem dX0_drain_51 : decode cX0_drain 51 = .ok (.aload_n 0, 1) := by decide +kernel
theorem dX0_drain_52 : decode cX0_drain 52 = .ok (.iconst 0, 1) := by decide +kernel
theorem dX0_drain_53 : decode cX0_drain 53 = .ok (.putfield 41, 3) := by decide +kernel
theorem dX0_drain_56 : decode cX0_drain 56 = .ok (.aload_n 0, 1) := by decide +kernel
theorem dX0_drain_57 : decode cX0_drain 57 = .ok (.dup, 1) := by decide +kernel
theorem dX0_drain_58 : decode cX0_drain 58 = .ok (.getfield 35, 3) := by decide +kernel
theorem dX0_drain_61 : decode cX0_drain 61 = .ok (.iconst 1, 1) := by decide +kernel
theorem dX0_drain_62 : decode cX0_drain 62 = .ok (.iadd, 1) := by decide +kernel
theorem dX0_drain_63 : decode cX0_drain 63 = .ok (.putfield 35, 3) := by decide +kernel
theorem dX0_drain_66 : decode cX0_drain 66 = .ok (.aload_n 3, 1) := by decide +kernel
theorem dX0_drain_67 : decode cX0_drain 67 = .ok (.getfield 87, 3) := by decide +kernel
theorem dX0_drain_70 : decode cX0_drain 70 = .ok (.areturn, 1) := by decide +kernel
theorem dX0_creditsReturning_0 : decode cX0_creditsReturning 0 = .ok (.iconst 0, 1) := by decide +kernel
theorem dX0_creditsReturning_1 : decode cX0_creditsReturning 1 = .ok (.istore_n 1, 1) := by decide +kernel
theorem dX0_creditsReturning_2 : decode cX0_creditsReturning 2 = .ok (.aload_n 0, 1) := by decide +kernel
theorem dX0_creditsReturning_3 : decode cX0_creditsReturning 3 = .ok (.getfield 21, 3) := by decide +kernel
theorem dX0_creditsReturning_6 : decode cX0_creditsReturning 6 = .ok (.astore_n 2, 1) := by decide +kernel
theorem dX0_creditsReturning_7 : decode cX0_creditsReturning 7 = .ok (.aload_n 2, 1) := by decide +kernel
theorem dX0_creditsReturning_8 : decode cX0_creditsReturning 8 = .ok (.arraylength, 1) := by decide +kernel
theorem dX0_creditsReturning_9 : decode cX0_creditsReturning 9 = .ok (.istore_n 3, 1) := by decide +kernel
theorem dX0_creditsReturning_10 : decode cX0_creditsReturning 10 = .ok (.iconst 0, 1) := by decide +kernel
theorem dX0_creditsReturning_11 : decode cX0_creditsReturning 11 = .ok (.istore 4, 2) := by decide +kernel
theorem dX0_creditsReturning_13 : decode cX0_creditsReturning 13 = .ok (.iload 4, 2) := by decide +kernel
theorem dX0_creditsReturning_15 : decode cX0_creditsReturning 15 = .ok (.iload_n 3, 1) := by decide +kernel
theorem dX0_creditsReturning_16 : decode cX0_creditsReturning 16 = .ok (.if_icmp .ge 20, 3) := by decide +kernel
theorem dX0_creditsReturning_19 : decode cX0_creditsReturning 19 = .ok (.aload_n 2, 1) := by decide +kernel
theorem dX0_creditsReturning_20 : decode cX0_creditsReturning 20 = .ok (.iload 4, 2) := by decide +kernel
theorem dX0_creditsReturning_22 : decode cX0_creditsReturning 22 = .ok (.iaload, 1) := by decide +kernel
theorem dX0_creditsReturning_23 : decode cX0_creditsReturning 23 = .ok (.istore 5, 2) := by decide +kernel
theorem dX0_creditsReturning_25 : decode cX0_creditsReturning 25 = .ok (.iload_n 1, 1) := by decide +kernel
theorem dX0_creditsReturning_26 : decode cX0_creditsReturning 26 = .ok (.iload 5, 2) := by decide +kernel
theorem dX0_creditsReturning_28 : decode cX0_creditsReturning 28 = .ok (.iadd, 1) := by decide +kernel
theorem dX0_creditsReturning_29 : decode cX0_creditsReturning 29 = .ok (.istore_n 1, 1) := by decide +kernel
theorem dX0_creditsReturning_30 : decode cX0_creditsReturning 30 = .ok (.iinc 4 1, 3) := by decide +kernel
theorem dX0_creditsReturning_33 : decode cX0_creditsReturning 33 = .ok (.goto (-20), 3) := by decide +kernel
theorem dX0_creditsReturning_36 : decode cX0_creditsReturning 36 = .ok (.iload_n 1, 1) := by decide +kernel
theorem dX0_creditsReturning_37 : decode cX0_creditsReturning 37 = .ok (.ireturn, 1) := by decide +kernel
theorem dX0_property_0 : decode cX0_property 0 = .ok (.iload_n 1, 1) := by decide +kernel
theorem dX0_property_1 : decode cX0_property 1 = .ok (.tableswitch 134 0 11 #[63, 68, 73, 78, 83, 88, 96, 104, 109, 114, 124, 129], 63) := by decide +kernel
theorem dX0_property_64 : decode cX0_property 64 = .ok (.aload_n 0, 1) := by decide +kernel
theorem dX0_property_65 : decode cX0_property 65 = .ok (.getfield 50, 3) := by decide +kernel
theorem dX0_property_68 : decode cX0_property 68 = .ok (.ireturn, 1) := by decide +kernel
theorem dX0_property_69 : decode cX0_property 69 = .ok (.aload_n 0, 1) := by decide +kernel
theorem dX0_property_70 : decode cX0_property 70 = .ok (.getfield 25, 3) := by decide +kernel
theorem dX0_property_73 : decode cX0_property 73 = .ok (.ireturn, 1) := by decide +kernel
theorem dX0_property_74 : decode cX0_property 74 = .ok (.aload_n 0, 1) := by decide +kernel
theorem dX0_property_75 : decode cX0_property 75 = .ok (.getfield 53, 3) := by decide +kernel
theorem dX0_property_78 : decode cX0_property 78 = .ok (.ireturn, 1) := by decide +kernel
theorem dX0_property_79 : decode cX0_property 79 = .ok (.aload_n 0, 1) := by decide +kernel
theorem dX0_property_80 : decode cX0_property 80 = .ok (.invokevirtual 91, 3) := by decide +kernel
theorem dX0_property_83 : decode cX0_property 83 = .ok (.ireturn, 1) := by decide +kernel
theorem dX0_property_84 : decode cX0_property 84 = .ok (.aload_n 0, 1) := by decide +kernel
theorem dX0_property_85 : decode cX0_property 85 = .ok (.getfield 29, 3) := by decide +kernel
theorem dX0_property_88 : decode cX0_property 88 = .ok (.ireturn, 1) := by decide +kernel
theorem dX0_property_89 : decode cX0_property 89 = .ok (.aload_n 0, 1) := by decide +kernel
theorem dX0_property_90 : decode cX0_property 90 = .ok (.getfield 18, 3) := by decide +kernel
theorem dX0_property_93 : decode cX0_property 93 = .ok (.getfield 56, 3) := by decide +kernel
theorem dX0_property_96 : decode cX0_property 96 = .ok (.ireturn, 1) := by decide +kernel
theorem dX0_property_97 : decode cX0_property 97 = .ok (.aload_n 0, 1) := by decide +kernel
theorem dX0_property_98 : decode cX0_property 98 = .ok (.getfield 12, 3) := by decide +kernel
theorem dX0_property_101 : decode cX0_property 101 = .ok (.getfield 56, 3) := by decide +kernel
theorem dX0_property_104 : decode cX0_property 104 = .ok (.ireturn, 1) := by decide +kernel
theorem dX0_property_105 : decode cX0_property 105 = .ok (.aload_n 0, 1) := by decide +kernel
theorem dX0_property_106 : decode cX0_property 106 = .ok (.getfield 32, 3) := by decide +kernel
theorem dX0_property_109 : decode cX0_property 109 = .ok (.ireturn, 1) := by decide +kernel
theorem dX0_property_110 : decode cX0_property 110 = .ok (.aload_n 0, 1) := by decide +kernel
theorem dX0_property_111 : decode cX0_property 111 = .ok (.getfield 35, 3) := by decide +kernel
theorem dX0_property_114 : decode cX0_property 114 = .ok (.ireturn, 1) := by decide +kernel
theorem dX0_property_115 : decode cX0_property 115 = .ok (.aload_n 0, 1) := by decide +kernel
theorem dX0_property_116 : decode cX0_property 116 = .ok (.getfield 35, 3) := by decide +kernel
theorem dX0_property_119 : decode cX0_property 119 = .ok (.aload_n 0, 1) := by decide +kernel
theorem dX0_property_120 : decode cX0_property 120 = .ok (.getfield 38, 3) := by decide +kernel
theorem dX0_property_123 : decode cX0_property 123 = .ok (.isub, 1) := by decide +kernel
theorem dX0_property_124 : decode cX0_property 124 = .ok (.ireturn, 1) := by decide +kernel
theorem dX0_property_125 : decode cX0_property 125 = .ok (.aload_n 0, 1) := by decide +kernel
theorem dX0_property_126 : decode cX0_property 126 = .ok (.getfield 41, 3) := by decide +kernel
theorem dX0_property_129 : decode cX0_property 129 = .ok (.ireturn, 1) := by decide +kernel
theorem dX0_property_130 : decode cX0_property 130 = .ok (.aload_n 0, 1) := by decide +kernel
theorem dX0_property_131 : decode cX0_property 131 = .ok (.getfield 44, 3) := by decide +kernel
theorem dX0_property_134 : decode cX0_property 134 = .ok (.ireturn, 1) := by decide +kernel
theorem dX0_property_135 : decode cX0_property 135 = .ok (.iconst (-1), 1) := by decide +kernel
theorem dX0_property_136 : decode cX0_property 136 = .ok (.ireturn, 1) := by decide +kernel
theorem dX1_init_0 : decode cX1_init 0 = .ok (.aload_n 0, 1) := by decide +kernel
theorem dX1_init_1 : decode cX1_init 1 = .ok (.invokespecial 3, 3) := by decide +kernel
theorem dX1_init_4 : decode cX1_init 4 = .ok (.aload_n 0, 1) := by decide +kernel
theorem dX1_init_5 : decode cX1_init 5 = .ok (.aconst_null, 1) := by decide +kernel
theorem dX1_init_6 : decode cX1_init 6 = .ok (.putfield 9, 3) := by decide +kernel
theorem dX1_init_9 : decode cX1_init 9 = .ok (.aload_n 0, 1) := by decide +kernel
theorem dX1_init_10 : decode cX1_init 10 = .ok (.aload_n 1, 1) := by decide +kernel
theorem dX1_init_11 : decode cX1_init 11 = .ok (.putfield 15, 3) := by decide +kernel
theorem dX1_init_14 : decode cX1_init 14 = .ok (.aload_n 0, 1) := by decide +kernel
theorem dX1_init_15 : decode cX1_init 15 = .ok (.iload_n 2, 1) := by decide +kernel
theorem dX1_init_16 : decode cX1_init 16 = .ok (.putfield 19, 3) := by decide +kernel
theorem dX1_init_19 : decode cX1_init 19 = .ok (.return_, 1) := by decide +kernel
theorem dX1_isLast_0 : decode cX1_isLast 0 = .ok (.aload_n 0, 1) := by decide +kernel
theorem dX1_isLast_1 : decode cX1_isLast 1 = .ok (.getfield 19, 3) := by decide +kernel
theorem dX1_isLast_4 : decode cX1_isLast 4 = .ok (.aload_n 0, 1) := by decide +kernel
theorem dX1_isLast_5 : decode cX1_isLast 5 = .ok (.getfield 15, 3) := by decide +kernel
theorem dX1_isLast_8 : decode cX1_isLast 8 = .ok (.getfield 23, 3) := by decide +kernel
theorem dX1_isLast_11 : decode cX1_isLast 11 = .ok (.iconst 1, 1) := by decide +kernel
theorem dX1_isLast_12 : decode cX1_isLast 12 = .ok (.isub, 1) := by decide +kernel
theorem dX1_isLast_13 : decode cX1_isLast 13 = .ok (.if_icmp .ne 7, 3) := by decide +kernel
theorem dX1_isLast_16 : decode cX1_isLast 16 = .ok (.iconst 1, 1) := by decide +kernel
theorem dX1_isLast_17 : decode cX1_isLast 17 = .ok (.goto 4, 3) := by decide +kernel
theorem dX1_isLast_20 : decode cX1_isLast 20 = .ok (.iconst 0, 1) := by decide +kernel
theorem dX1_isLast_21 : decode cX1_isLast 21 = .ok (.ireturn, 1) := by decide +kernel
theorem dX1_size_0 : decode cX1_size 0 = .ok (.aload_n 0, 1) := by decide +kernel
theorem dX1_size_1 : decode cX1_size 1 = .ok (.invokevirtual 28, 3) := by decide +kernel
theorem dX1_size_4 : decode cX1_size 4 = .ok (.ifCond .eq 21, 3) := by decide +kernel
theorem dX1_size_7 : decode cX1_size 7 = .ok (.aload_n 0, 1) := by decide +kernel
theorem dX1_size_8 : decode cX1_size 8 = .ok (.getfield 15, 3) := by decide +kernel
theorem dX1_size_11 : decode cX1_size 11 = .ok (.getfield 32, 3) := by decide +kernel
theorem dX1_size_14 : decode cX1_size 14 = .ok (.arraylength, 1) := by decide +kernel
theorem dX1_size_15 : decode cX1_size 15 = .ok (.iconst 4, 1) := by decide +kernel
theorem dX1_size_16 : decode cX1_size 16 = .ok (.aload_n 0, 1) := by decide +kernel
theorem dX1_size_17 : decode cX1_size 17 = .ok (.getfield 19, 3) := by decide +kernel
theorem dX1_size_20 : decode cX1_size 20 = .ok (.imul, 1) := by decide +kernel
theorem dX1_size_21 : decode cX1_size 21 = .ok (.isub, 1) := by decide +kernel
theorem dX1_size_22 : decode cX1_size 22 = .ok (.goto 4, 3) := by decide +kernel
theorem dX1_size_25 : decode cX1_size 25 = .ok (.iconst 4, 1) := by decide +kernel
theorem dX1_size_26 : decode cX1_size 26 = .ok (.ireturn, 1) := by decide +kernel
theorem dX1_property_0 : decode cX1_property 0 = .ok (.iload_n 1, 1) := by decide +kernel
theorem dX1_property_1 : decode cX1_property 1 = .ok (.tableswitch 60 0 3 #[31, 42, 50, 55], 31) := by decide +kernel
theorem dX1_property_32 : decode cX1_property 32 = .ok (.aload_n 0, 1) := by decide +kernel
theorem dX1_property_33 : decode cX1_property 33 = .ok (.getfield 15, 3) := by decide +kernel
theorem dX1_property_36 : decode cX1_property 36 = .ok (.getfield 36, 3) := by decide +kernel
theorem dX1_property_39 : decode cX1_property 39 = .ok (.getfield 40, 3) := by decide +kernel
theorem dX1_property_42 : decode cX1_property 42 = .ok (.ireturn, 1) := by decide +kernel
theorem dX1_property_43 : decode cX1_property 43 = .ok (.aload_n 0, 1) := by decide +kernel
theorem dX1_property_44 : decode cX1_property 44 = .ok (.getfield 15, 3) := by decide +kernel
theorem dX1_property_47 : decode cX1_property 47 = .ok (.getfield 43, 3) := by decide +kernel
theorem dX1_property_50 : decode cX1_property 50 = .ok (.ireturn, 1) := by decide +kernel
theorem dX1_property_51 : decode cX1_property 51 = .ok (.aload_n 0, 1) := by decide +kernel
theorem dX1_property_52 : decode cX1_property 52 = .ok (.getfield 19, 3) := by decide +kernel
theorem dX1_property_55 : decode cX1_property 55 = .ok (.ireturn, 1) := by decide +kernel
theorem dX1_property_56 : decode cX1_property 56 = .ok (.aload_n 0, 1) := by decide +kernel
theorem dX1_property_57 : decode cX1_property 57 = .ok (.invokevirtual 44, 3) := by decide +kernel
theorem dX1_property_60 : decode cX1_property 60 = .ok (.ireturn, 1) := by decide +kernel
theorem dX1_property_61 : decode cX1_property 61 = .ok (.iconst (-1), 1) := by decide +kernel
theorem dX1_property_62 : decode cX1_property 62 = .ok (.ireturn, 1) := by decide +kernel
theorem dX2_init_0 : decode cX2_init 0 = .ok (.aload_n 0, 1) := by decide +kernel
theorem dX2_init_1 : decode cX2_init 1 = .ok (.invokespecial 1, 3) := by decide +kernel
theorem dX2_init_4 : decode cX2_init 4 = .ok (.aload_n 0, 1) := by decide +kernel
theorem dX2_init_5 : decode cX2_init 5 = .ok (.aconst_null, 1) := by decide +kernel
theorem dX2_init_6 : decode cX2_init 6 = .ok (.putfield 7, 3) := by decide +kernel
theorem dX2_init_9 : decode cX2_init 9 = .ok (.aload_n 0, 1) := by decide +kernel
theorem dX2_init_10 : decode cX2_init 10 = .ok (.aconst_null, 1) := by decide +kernel
theorem dX2_init_11 : decode cX2_init 11 = .ok (.putfield 13, 3) := by decide +kernel
theorem dX2_init_14 : decode cX2_init 14 = .ok (.aload_n 0, 1) := by decide +kernel
theorem dX2_init_15 : decode cX2_init 15 = .ok (.iconst 0, 1) := by decide +kernel
theorem dX2_init_16 : decode cX2_init 16 = .ok (.putfield 16, 3) := by decide +kernel
theorem dX2_init_19 : decode cX2_init 19 = .ok (.return_, 1) := by decide +kernel
theorem dX2_add_0 : decode cX2_add 0 = .ok (.aload_n 0, 1) := by decide +kernel
theorem dX2_add_1 : decode cX2_add 1 = .ok (.getfield 13, 3) := by decide +kernel
theorem dX2_add_4 : decode cX2_add 4 = .ok (.ifnonnull 11, 3) := by decide +kernel
theorem dX2_add_7 : decode cX2_add 7 = .ok (.aload_n 0, 1) := by decide +kernel
theorem dX2_add_8 : decode cX2_add 8 = .ok (.aload_n 1, 1) := by decide +kernel
theorem dX2_add_9 : decode cX2_add 9 = .ok (.putfield 7, 3) := by decide +kernel
theorem dX2_add_12 : decode cX2_add 12 = .ok (.goto 11, 3) := by decide +kernel
theorem dX2_add_15 : decode cX2_add 15 = .ok (.aload_n 0, 1) := by decide +kernel
theorem dX2_add_16 : decode cX2_add 16 = .ok (.getfield 13, 3) := by decide +kernel
theorem dX2_add_19 : decode cX2_add 19 = .ok (.aload_n 1, 1) := by decide +kernel
theorem dX2_add_20 : decode cX2_add 20 = .ok (.putfield 20, 3) := by decide +kernel
theorem dX2_add_23 : decode cX2_add 23 = .ok (.aload_n 0, 1) := by decide +kernel
theorem dX2_add_24 : decode cX2_add 24 = .ok (.aload_n 1, 1) := by decide +kernel
theorem dX2_add_25 : decode cX2_add 25 = .ok (.putfield 13, 3) := by decide +kernel
theorem dX2_add_28 : decode cX2_add 28 = .ok (.aload_n 0, 1) := by decide +kernel
theorem dX2_add_29 : decode cX2_add 29 = .ok (.dup, 1) := by decide +kernel
theorem dX2_add_30 : decode cX2_add 30 = .ok (.getfield 16, 3) := by decide +kernel
theorem dX2_add_33 : decode cX2_add 33 = .ok (.iconst 1, 1) := by decide +kernel
theorem dX2_add_34 : decode cX2_add 34 = .ok (.iadd, 1) := by decide +kernel
theorem dX2_add_35 : decode cX2_add 35 = .ok (.putfield 16, 3) := by decide +kernel
theorem dX2_add_38 : decode cX2_add 38 = .ok (.return_, 1) := by decide +kernel
theorem dX2_removeFirst_0 : decode cX2_removeFirst 0 = .ok (.aload_n 0, 1) := by decide +kernel
theorem dX2_removeFirst_1 : decode cX2_removeFirst 1 = .ok (.getfield 7, 3) := by decide +kernel
theorem dX2_removeFirst_4 : decode cX2_removeFirst 4 = .ok (.astore_n 1, 1) := by decide +kernel
theorem dX2_removeFirst_5 : decode cX2_removeFirst 5 = .ok (.aload_n 1, 1) := by decide +kernel
theorem dX2_removeFirst_6 : decode cX2_removeFirst 6 = .ok (.ifnonnull 5, 3) := by decide +kernel
theorem dX2_removeFirst_9 : decode cX2_removeFirst 9 = .ok (.aconst_null, 1) := by decide +kernel
theorem dX2_removeFirst_10 : decode cX2_removeFirst 10 = .ok (.areturn, 1) := by decide +kernel
theorem dX2_removeFirst_11 : decode cX2_removeFirst 11 = .ok (.aload_n 0, 1) := by decide +kernel
theorem dX2_removeFirst_12 : decode cX2_removeFirst 12 = .ok (.aload_n 1, 1) := by decide +kernel
theorem dX2_removeFirst_13 : decode cX2_removeFirst 13 = .ok (.getfield 20, 3) := by decide +kernel
theorem dX2_removeFirst_16 : decode cX2_removeFirst 16 = .ok (.putfield 7, 3) := by decide +kernel
theorem dX2_removeFirst_19 : decode cX2_removeFirst 19 = .ok (.aload_n 1, 1) := by decide +kernel
theorem dX2_removeFirst_20 : decode cX2_removeFirst 20 = .ok (.aconst_null, 1) := by decide +kernel
theorem dX2_removeFirst_21 : decode cX2_removeFirst 21 = .ok (.putfield 20, 3) := by decide +kernel
theorem dX2_removeFirst_24 : decode cX2_removeFirst 24 = .ok (.aload_n 0, 1) := by decide +kernel
theorem dX2_removeFirst_25 : decode cX2_removeFirst 25 = .ok (.getfield 7, 3) := by decide +kernel
theorem dX2_removeFirst_28 : decode cX2_removeFirst 28 = .ok (.ifnonnull 8, 3) := by decide +kernel
theorem dX2_removeFirst_31 : decode cX2_removeFirst 31 = .ok (.aload_n 0, 1) := by decide +kernel
theorem dX2_removeFirst_32 : decode cX2_removeFirst 32 = .ok (.aconst_null, 1) := by decide +kernel
theorem dX2_removeFirst_33 : decode cX2_removeFirst 33 = .ok (.putfield 13, 3) := by decide +kernel
theorem dX2_removeFirst_36 : decode cX2_removeFirst 36 = .ok (.aload_n 0, 1) := by decide +kernel
theorem dX2_removeFirst_37 : decode cX2_removeFirst 37 = .ok (.dup, 1) := by decide +kernel
theorem dX2_removeFirst_38 : decode cX2_removeFirst 38 = .ok (.getfield 16, 3) := by decide +kernel
theorem dX2_removeFirst_41 : decode cX2_removeFirst 41 = .ok (.iconst 1, 1) := by decide +kernel
theorem dX2_removeFirst_42 : decode cX2_removeFirst 42 = .ok (.isub, 1) := by decide +kernel
theorem dX2_removeFirst_43 : decode cX2_removeFirst 43 = .ok (.putfield 16, 3) := by decide +kernel
theorem dX2_removeFirst_46 : decode cX2_removeFirst 46 = .ok (.aload_n 1, 1) := by decide +kernel
theorem dX2_removeFirst_47 : decode cX2_removeFirst 47 = .ok (.areturn, 1) := by decide +kernel
theorem dX2_flitAt_0 : decode cX2_flitAt 0 = .ok (.iload_n 1, 1) := by decide +kernel
theorem dX2_flitAt_1 : decode cX2_flitAt 1 = .ok (.ifCond .lt 11, 3) := by decide +kernel
theorem dX2_flitAt_4 : decode cX2_flitAt 4 = .ok (.iload_n 1, 1) := by decide +kernel
theorem dX2_flitAt_5 : decode cX2_flitAt 5 = .ok (.aload_n 0, 1) := by decide +kernel
theorem dX2_flitAt_6 : decode cX2_flitAt 6 = .ok (.getfield 16, 3) := by decide +kernel
theorem dX2_flitAt_9 : decode cX2_flitAt 9 = .ok (.if_icmp .lt 5, 3) := by decide +kernel
theorem dX2_flitAt_12 : decode cX2_flitAt 12 = .ok (.aconst_null, 1) := by decide +kernel
theorem dX2_flitAt_13 : decode cX2_flitAt 13 = .ok (.areturn, 1) := by decide +kernel
theorem dX2_flitAt_14 : decode cX2_flitAt 14 = .ok (.aload_n 0, 1) := by decide +kernel
theorem dX2_flitAt_15 : decode cX2_flitAt 15 = .ok (.getfield 7, 3) := by decide +kernel
theorem dX2_flitAt_18 : decode cX2_flitAt 18 = .ok (.astore_n 2, 1) := by decide +kernel
theorem dX2_flitAt_19 : decode cX2_flitAt 19 = .ok (.iconst 0, 1) := by decide +kernel
theorem dX2_flitAt_20 : decode cX2_flitAt 20 = .ok (.istore_n 3, 1) := by decide +kernel
theorem dX2_flitAt_21 : decode cX2_flitAt 21 = .ok (.iload_n 3, 1) := by decide +kernel
theorem dX2_flitAt_22 : decode cX2_flitAt 22 = .ok (.iload_n 1, 1) := by decide +kernel
theorem dX2_flitAt_23 : decode cX2_flitAt 23 = .ok (.if_icmp .ge 18, 3) := by decide +kernel
theorem dX2_flitAt_26 : decode cX2_flitAt 26 = .ok (.aload_n 2, 1) := by decide +kernel
theorem dX2_flitAt_27 : decode cX2_flitAt 27 = .ok (.ifnull 14, 3) := by decide +kernel
theorem dX2_flitAt_30 : decode cX2_flitAt 30 = .ok (.aload_n 2, 1) := by decide +kernel
theorem dX2_flitAt_31 : decode cX2_flitAt 31 = .ok (.getfield 20, 3) := by decide +kernel
theorem dX2_flitAt_34 : decode cX2_flitAt 34 = .ok (.astore_n 2, 1) := by decide +kernel
theorem dX2_flitAt_35 : decode cX2_flitAt 35 = .ok (.iinc 3 1, 3) := by decide +kernel
theorem dX2_flitAt_38 : decode cX2_flitAt 38 = .ok (.goto (-17), 3) := by decide +kernel
theorem dX2_flitAt_41 : decode cX2_flitAt 41 = .ok (.aload_n 2, 1) := by decide +kernel
theorem dX2_flitAt_42 : decode cX2_flitAt 42 = .ok (.areturn, 1) := by decide +kernel
theorem dX3_init_0 : decode cX3_init 0 = .ok (.aload_n 0, 1) := by decide +kernel
theorem dX3_init_1 : decode cX3_init 1 = .ok (.invokespecial 3, 3) := by decide +kernel
theorem dX3_init_4 : decode cX3_init 4 = .ok (.aload_n 0, 1) := by decide +kernel
theorem dX3_init_5 : decode cX3_init 5 = .ok (.bipush 16, 2) := by decide +kernel
theorem dX3_init_7 : decode cX3_init 7 = .ok (.anewarray 9, 3) := by decide +kernel
theorem dX3_init_10 : decode cX3_init 10 = .ok (.putfield 11, 3) := by decide +kernel
theorem dX3_init_13 : decode cX3_init 13 = .ok (.aload_n 0, 1) := by decide +kernel
theorem dX3_init_14 : decode cX3_init 14 = .ok (.sipush 250, 3) := by decide +kernel
theorem dX3_init_17 : decode cX3_init 17 = .ok (.anewarray 17, 3) := by decide +kernel
theorem dX3_init_20 : decode cX3_init 20 = .ok (.putfield 19, 3) := by decide +kernel
theorem dX3_init_23 : decode cX3_init 23 = .ok (.aload_n 0, 1) := by decide +kernel
theorem dX3_init_24 : decode cX3_init 24 = .ok (.bipush 32, 2) := by decide +kernel
theorem dX3_init_26 : decode cX3_init 26 = .ok (.newarray .int, 2) := by decide +kernel
theorem dX3_init_28 : decode cX3_init 28 = .ok (.putfield 23, 3) := by decide +kernel
theorem dX3_init_31 : decode cX3_init 31 = .ok (.aload_n 0, 1) := by decide +kernel
theorem dX3_init_32 : decode cX3_init 32 = .ok (.iconst 0, 1) := by decide +kernel
theorem dX3_init_33 : decode cX3_init 33 = .ok (.putfield 27, 3) := by decide +kernel
theorem dX3_init_36 : decode cX3_init 36 = .ok (.aload_n 0, 1) := by decide +kernel
theorem dX3_init_37 : decode cX3_init 37 = .ok (.iconst 0, 1) := by decide +kernel
theorem dX3_init_38 : decode cX3_init 38 = .ok (.putfield 31, 3) := by decide +kernel
theorem dX3_init_41 : decode cX3_init 41 = .ok (.aload_n 0, 1) := by decide +kernel
theorem dX3_init_42 : decode cX3_init 42 = .ok (.iconst 0, 1) := by decide +kernel
theorem dX3_init_43 : decode cX3_init 43 = .ok (.putfield 34, 3) := by decide +kernel
theorem dX3_init_46 : decode cX3_init 46 = .ok (.aload_n 0, 1) := by decide +kernel
theorem dX3_init_47 : decode cX3_init 47 = .ok (.iconst 0, 1) := by decide +kernel
theorem dX3_init_48 : decode cX3_init 48 = .ok (.putfield 37, 3) := by decide +kernel
theorem dX3_init_51 : decode cX3_init 51 = .ok (.aload_n 0, 1) := by decide +kernel
theorem dX3_init_52 : decode cX3_init 52 = .ok (.iconst (-1), 1) := by decide +kernel
theorem dX3_init_53 : decode cX3_init 53 = .ok (.putfield 40, 3) := by decide +kernel
theorem dX3_init_56 : decode cX3_init 56 = .ok (.aload_n 0, 1) := by decide +kernel
theorem dX3_init_57 : decode cX3_init 57 = .ok (.iconst 0, 1) := by decide +kernel
theorem dX3_init_58 : decode cX3_init 58 = .ok (.putfield 43, 3) := by decide +kernel
theorem dX3_init_61 : decode cX3_init 61 = .ok (.aload_n 0, 1) := by decide +kernel
theorem dX3_init_62 : decode cX3_init 62 = .ok (.iconst 0, 1) := by decide +kernel
theorem dX3_init_63 : decode cX3_init 63 = .ok (.putfield 46, 3) := by decide +kernel
theorem dX3_init_66 : decode cX3_init 66 = .ok (.aload_n 0, 1) := by decide +kernel
theorem dX3_init_67 : decode cX3_init 67 = .ok (.iconst 0, 1) := by decide +kernel
theorem dX3_init_68 : decode cX3_init 68 = .ok (.putfield 49, 3) := by decide +kernel
theorem dX3_init_71 : decode cX3_init 71 = .ok (.aload_n 0, 1) := by decide +kernel
theorem dX3_init_72 : decode cX3_init 72 = .ok (.iconst 0, 1) := by decide +kernel
theorem dX3_init_73 : decode cX3_init 73 = .ok (.putfield 52, 3) := by decide +kernel
theorem dX3_init_76 : decode cX3_init 76 = .ok (.aload_n 0, 1) := by decide +kernel
theorem dX3_init_77 : decode cX3_init 77 = .ok (.iconst (-1), 1) := by decide +kernel
theorem dX3_init_78 : decode cX3_init 78 = .ok (.putfield 55, 3) := by decide +kernel
theorem dX3_init_81 : decode cX3_init 81 = .ok (.aload_n 0, 1) := by decide +kernel
theorem dX3_init_82 : decode cX3_init 82 = .ok (.iload_n 2, 1) := by decide +kernel
theorem dX3_init_83 : decode cX3_init 83 = .ok (.putfield 58, 3) := by decide +kernel
theorem dX3_init_86 : decode cX3_init 86 = .ok (.aload_n 0, 1) := by decide +kernel
theorem dX3_init_87 : decode cX3_init 87 = .ok (.iload_n 3, 1) := by decide +kernel
theorem dX3_init_88 : decode cX3_init 88 = .ok (.putfield 61, 3) := by decide +kernel
theorem dX3_init_91 : decode cX3_init 91 = .ok (.aload_n 0, 1) := by decide +kernel
theorem dX3_init_92 : decode cX3_init 92 = .ok (.iload_n 1, 1) := by decide +kernel
theorem dX3_init_93 : decode cX3_init 93 = .ok (.anewarray 64, 3) := by decide +kernel
theorem dX3_init_96 : decode cX3_init 96 = .ok (.putfield 66, 3) := by decide +kernel
theorem dX3_init_99 : decode cX3_init 99 = .ok (.iconst 0, 1) := by decide +kernel
theorem dX3_init_100 : decode cX3_init 100 = .ok (.istore 5, 2) := by decide +kernel
theorem dX3_init_102 : decode cX3_init 102 = .ok (.iload 5, 2) := by decide +kernel
theorem dX3_init_104 : decode cX3_init 104 = .ok (.aload_n 0, 1) := by decide +kernel
theorem dX3_init_105 : decode cX3_init 105 = .ok (.getfield 66, 3) := by decide +kernel
theorem dX3_init_108 : decode cX3_init 108 = .ok (.arraylength, 1) := by decide +kernel
theorem dX3_init_109 : decode cX3_init 109 = .ok (.if_icmp .ge 27, 3) := by decide +kernel
theorem dX3_init_112 : decode cX3_init 112 = .ok (.aload_n 0, 1) := by decide +kernel
theorem dX3_init_113 : decode cX3_init 113 = .ok (.getfield 66, 3) := by decide +kernel
theorem dX3_init_116 : decode cX3_init 116 = .ok (.iload 5, 2) := by decide +kernel
theorem dX3_init_118 : decode cX3_init 118 = .ok (.new 64, 3) := by decide +kernel
theorem dX3_init_121 : decode cX3_init 121 = .ok (.dup, 1) := by decide +kernel
theorem dX3_init_122 : decode cX3_init 122 = .ok (.iload 5, 2) := by decide +kernel
theorem dX3_init_124 : decode cX3_init 124 = .ok (.iload 4, 2) := by decide +kernel
theorem dX3_init_126 : decode cX3_init 126 = .ok (.invokespecial 70, 3) := by decide +kernel
theorem dX3_init_129 : decode cX3_init 129 = .ok (.aastore, 1) := by decide +kernel
theorem dX3_init_130 : decode cX3_init 130 = .ok (.iinc 5 1, 3) := by decide +kernel
theorem dX3_init_133 : decode cX3_init 133 = .ok (.goto (-31), 3) := by decide +kernel
theorem dX3_init_136 : decode cX3_init 136 = .ok (.return_, 1) := by decide +kernel
theorem dX3_channelAt_0 : decode cX3_channelAt 0 = .ok (.iload_n 1, 1) := by decide +kernel
theorem dX3_channelAt_1 : decode cX3_channelAt 1 = .ok (.ifCond .lt 21, 3) := by decide +kernel
theorem dX3_channelAt_4 : decode cX3_channelAt 4 = .ok (.iload_n 1, 1) := by decide +kernel
theorem dX3_channelAt_5 : decode cX3_channelAt 5 = .ok (.aload_n 0, 1) := by decide +kernel
theorem dX3_channelAt_6 : decode cX3_channelAt 6 = .ok (.getfield 66, 3) := by decide +kernel
theorem dX3_channelAt_9 : decode cX3_channelAt 9 = .ok (.arraylength, 1) := by decide +kernel
theorem dX3_channelAt_10 : decode cX3_channelAt 10 = .ok (.if_icmp .ge 12, 3) := by decide +kernel
theorem dX3_channelAt_13 : decode cX3_channelAt 13 = .ok (.aload_n 0, 1) := by decide +kernel
theorem dX3_channelAt_14 : decode cX3_channelAt 14 = .ok (.getfield 66, 3) := by decide +kernel
theorem dX3_channelAt_17 : decode cX3_channelAt 17 = .ok (.iload_n 1, 1) := by decide +kernel
theorem dX3_channelAt_18 : decode cX3_channelAt 18 = .ok (.aaload, 1) := by decide +kernel
theorem dX3_channelAt_19 : decode cX3_channelAt 19 = .ok (.goto 4, 3) := by decide +kernel
theorem dX3_channelAt_22 : decode cX3_channelAt 22 = .ok (.aconst_null, 1) := by decide +kernel
theorem dX3_channelAt_23 : decode cX3_channelAt 23 = .ok (.areturn, 1) := by decide +kernel
theorem dX3_packetAt_0 : decode cX3_packetAt 0 = .ok (.iload_n 1, 1) := by decide +kernel
theorem dX3_packetAt_1 : decode cX3_packetAt 1 = .ok (.ifCond .lt 29, 3) := by decide +kernel
theorem dX3_packetAt_4 : decode cX3_packetAt 4 = .ok (.iload_n 1, 1) := by decide +kernel
theorem dX3_packetAt_5 : decode cX3_packetAt 5 = .ok (.aload_n 0, 1) := by decide +kernel
theorem dX3_packetAt_6 : decode cX3_packetAt 6 = .ok (.getfield 31, 3) := by decide +kernel
theorem dX3_packetAt_9 : decode cX3_packetAt 9 = .ok (.if_icmp .ge 21, 3) := by decide +kernel
theorem dX3_packetAt_12 : decode cX3_packetAt 12 = .ok (.iload_n 1, 1) := by decide +kernel
theorem dX3_packetAt_13 : decode cX3_packetAt 13 = .ok (.aload_n 0, 1) := by decide +kernel
theorem dX3_packetAt_14 : decode cX3_packetAt 14 = .ok (.getfield 19, 3) := by decide +kernel
theorem dX3_packetAt_17 : decode cX3_packetAt 17 = .ok (.arraylength, 1) := by decide +kernel
theorem dX3_packetAt_18 : decode cX3_packetAt 18 = .ok (.if_icmp .ge 12, 3) := by decide +kernel
theorem dX3_packetAt_21 : decode cX3_packetAt 21 = .ok (.aload_n 0, 1) := by decide +kernel
theorem dX3_packetAt_22 : decode cX3_packetAt 22 = .ok (.getfield 19, 3) := by decide +kernel
theorem dX3_packetAt_25 : decode cX3_packetAt 25 = .ok (.iload_n 1, 1) := by decide +kernel
theorem dX3_packetAt_26 : decode cX3_packetAt 26 = .ok (.aaload, 1) := by decide +kernel
theorem dX3_packetAt_27 : decode cX3_packetAt 27 = .ok (.goto 4, 3) := by decide +kernel
theorem dX3_packetAt_30 : decode cX3_packetAt 30 = .ok (.aconst_null, 1) := by decide +kernel
theorem dX3_packetAt_31 : decode cX3_packetAt 31 = .ok (.areturn, 1) := by decide +kernel
theorem dX3_flitThatComesIn_0 : decode cX3_flitThatComesIn 0 = .ok (.iload_n 1, 1) := by decide +kernel
theorem dX3_flitThatComesIn_1 : decode cX3_flitThatComesIn 1 = .ok (.ifCond .lt 26, 3) := by decide +kernel
theorem dX3_flitThatComesIn_4 : decode cX3_flitThatComesIn 4 = .ok (.iload_n 1, 1) := by decide +kernel
theorem dX3_flitThatComesIn_5 : decode cX3_flitThatComesIn 5 = .ok (.bipush 16, 2) := by decide +kernel
theorem dX3_flitThatComesIn_7 : decode cX3_flitThatComesIn 7 = .ok (.if_icmp .ge 20, 3) := by decide +kernel
theorem dX3_flitThatComesIn_10 : decode cX3_flitThatComesIn 10 = .ok (.aload_n 0, 1) := by decide +kernel
theorem dX3_flitThatComesIn_11 : decode cX3_flitThatComesIn 11 = .ok (.getfield 11, 3) := by decide +kernel
theorem dX3_flitThatComesIn_14 : decode cX3_flitThatComesIn 14 = .ok (.aload_n 0, 1) := by decide +kernel
theorem dX3_flitThatComesIn_15 : decode cX3_flitThatComesIn 15 = .ok (.getfield 34, 3) := by decide +kernel
theorem dX3_flitThatComesIn_18 : decode cX3_flitThatComesIn 18 = .ok (.iload_n 1, 1) := by decide +kernel
theorem dX3_flitThatComesIn_19 : decode cX3_flitThatComesIn 19 = .ok (.iadd, 1) := by decide +kernel
theorem dX3_flitThatComesIn_20 : decode cX3_flitThatComesIn 20 = .ok (.bipush 15, 2) := by decide +kernel
theorem dX3_flitThatComesIn_22 : decode cX3_flitThatComesIn 22 = .ok (.iand, 1) := by decide +kernel
theorem dX3_flitThatComesIn_23 : decode cX3_flitThatComesIn 23 = .ok (.aaload, 1) := by decide +kernel
theorem dX3_flitThatComesIn_24 : decode cX3_flitThatComesIn 24 = .ok (.goto 4, 3) := by decide +kernel
theorem dX3_flitThatComesIn_27 : decode cX3_flitThatComesIn 27 = .ok (.aconst_null, 1) := by decide +kernel
theorem dX3_flitThatComesIn_28 : decode cX3_flitThatComesIn 28 = .ok (.areturn, 1) := by decide +kernel
theorem dX3_addRow_0 : decode cX3_addRow 0 = .ok (.aload_n 0, 1) := by decide +kernel
theorem dX3_addRow_1 : decode cX3_addRow 1 = .ok (.getfield 27, 3) := by decide +kernel
theorem dX3_addRow_4 : decode cX3_addRow 4 = .ok (.ifCond .lt 15, 3) := by decide +kernel
theorem dX3_addRow_7 : decode cX3_addRow 7 = .ok (.aload_n 0, 1) := by decide +kernel
theorem dX3_addRow_8 : decode cX3_addRow 8 = .ok (.getfield 27, 3) := by decide +kernel
theorem dX3_addRow_11 : decode cX3_addRow 11 = .ok (.aload_n 0, 1) := by decide +kernel
theorem dX3_addRow_12 : decode cX3_addRow 12 = .ok (.getfield 23, 3) := by decide +kernel
theorem dX3_addRow_15 : decode cX3_addRow 15 = .ok (.arraylength, 1) := by decide +kernel
theorem dX3_addRow_16 : decode cX3_addRow 16 = .ok (.if_icmp .lt 5, 3) := by decide +kernel
theorem dX3_addRow_19 : decode cX3_addRow 19 = .ok (.iconst 0, 1) := by decide +kernel
theorem dX3_addRow_20 : decode cX3_addRow 20 = .ok (.ireturn, 1) := by decide +kernel
theorem dX3_addRow_21 : decode cX3_addRow 21 = .ok (.aload_n 0, 1) := by decide +kernel
theorem dX3_addRow_22 : decode cX3_addRow 22 = .ok (.getfield 23, 3) := by decide +kernel
theorem dX3_addRow_25 : decode cX3_addRow 25 = .ok (.aload_n 0, 1) := by decide +kernel
theorem dX3_addRow_26 : decode cX3_addRow 26 = .ok (.getfield 27, 3) := by decide +kernel
theorem dX3_addRow_29 : decode cX3_addRow 29 = .ok (.iload_n 1, 1) := by decide +kernel
theorem dX3_addRow_30 : decode cX3_addRow 30 = .ok (.iastore, 1) := by decide +kernel
theorem dX3_addRow_31 : decode cX3_addRow 31 = .ok (.aload_n 0, 1) := by decide +kernel
theorem dX3_addRow_32 : decode cX3_addRow 32 = .ok (.dup, 1) := by decide +kernel
theorem dX3_addRow_33 : decode cX3_addRow 33 = .ok (.getfield 27, 3) := by decide +kernel
theorem dX3_addRow_36 : decode cX3_addRow 36 = .ok (.iconst 1, 1) := by decide +kernel
theorem dX3_addRow_37 : decode cX3_addRow 37 = .ok (.iadd, 1) := by decide +kernel
theorem dX3_addRow_38 : decode cX3_addRow 38 = .ok (.putfield 27, 3) := by decide +kernel
theorem dX3_addRow_41 : decode cX3_addRow 41 = .ok (.iconst 1, 1) := by decide +kernel
theorem dX3_addRow_42 : decode cX3_addRow 42 = .ok (.ireturn, 1) := by decide +kernel
theorem dX3_addPacket_0 : decode cX3_addPacket 0 = .ok (.aload_n 0, 1) := by decide +kernel
theorem dX3_addPacket_1 : decode cX3_addPacket 1 = .ok (.getfield 31, 3) := by decide +kernel
theorem dX3_addPacket_4 : decode cX3_addPacket 4 = .ok (.istore_n 3, 1) := by decide +kernel
theorem dX3_addPacket_5 : decode cX3_addPacket 5 = .ok (.iload_n 3, 1) := by decide +kernel
theorem dX3_addPacket_6 : decode cX3_addPacket 6 = .ok (.ifCond .lt 12, 3) := by decide +kernel
theorem dX3_addPacket_9 : decode cX3_addPacket 9 = .ok (.iload_n 3, 1) := by decide +kernel
theorem dX3_addPacket_10 : decode cX3_addPacket 10 = .ok (.aload_n 0, 1) := by decide +kernel
theorem dX3_addPacket_11 : decode cX3_addPacket 11 = .ok (.getfield 19, 3) := by decide +kernel
theorem dX3_addPacket_14 : decode cX3_addPacket 14 = .ok (.arraylength, 1) := by decide +kernel
theorem dX3_addPacket_15 : decode cX3_addPacket 15 = .ok (.if_icmp .lt 5, 3) := by decide +kernel
theorem dX3_addPacket_18 : decode cX3_addPacket 18 = .ok (.iconst (-1), 1) := by decide +kernel
theorem dX3_addPacket_19 : decode cX3_addPacket 19 = .ok (.ireturn, 1) := by decide +kernel
theorem dX3_addPacket_20 : decode cX3_addPacket 20 = .ok (.new 17, 3) := by decide +kernel
theorem dX3_addPacket_23 : decode cX3_addPacket 23 = .ok (.dup, 1) := by decide +kernel
theorem dX3_addPacket_24 : decode cX3_addPacket 24 = .ok (.iload_n 3, 1) := by decide +kernel
theorem dX3_addPacket_25 : decode cX3_addPacket 25 = .ok (.aload_n 1, 1) := by decide +kernel
theorem dX3_addPacket_26 : decode cX3_addPacket 26 = .ok (.aload_n 2, 1) := by decide +kernel
theorem dX3_addPacket_27 : decode cX3_addPacket 27 = .ok (.aload_n 0, 1) := by decide +kernel
theorem dX3_addPacket_28 : decode cX3_addPacket 28 = .ok (.getfield 34, 3) := by decide +kernel
theorem dX3_addPacket_31 : decode cX3_addPacket 31 = .ok (.invokespecial 73, 3) := by decide +kernel
theorem dX3_addPacket_34 : decode cX3_addPacket 34 = .ok (.astore 4, 2) := by decide +kernel
theorem dX3_addPacket_36 : decode cX3_addPacket 36 = .ok (.iconst 0, 1) := by decide +kernel
theorem dX3_addPacket_37 : decode cX3_addPacket 37 = .ok (.istore 5, 2) := by decide +kernel
theorem dX3_addPacket_39 : decode cX3_addPacket 39 = .ok (.iload 5, 2) := by decide +kernel
theorem dX3_addPacket_41 : decode cX3_addPacket 41 = .ok (.aload 4, 2) := by decide +kernel
theorem dX3_addPacket_43 : decode cX3_addPacket 43 = .ok (.getfield 76, 3) := by decide +kernel
theorem dX3_addPacket_46 : decode cX3_addPacket 46 = .ok (.if_icmp .ge 27, 3) := by decide +kernel
theorem dX3_addPacket_49 : decode cX3_addPacket 49 = .ok (.aload_n 1, 1) := by decide +kernel
theorem dX3_addPacket_50 : decode cX3_addPacket 50 = .ok (.getfield 79, 3) := by decide +kernel
theorem dX3_addPacket_53 : decode cX3_addPacket 53 = .ok (.new 9, 3) := by decide +kernel
theorem dX3_addPacket_56 : decode cX3_addPacket 56 = .ok (.dup, 1) := by decide +kernel
theorem dX3_addPacket_57 : decode cX3_addPacket 57 = .ok (.aload 4, 2) := by decide +kernel
theorem dX3_addPacket_59 : decode cX3_addPacket 59 = .ok (.iload 5, 2) := by decide +kernel
theorem dX3_addPacket_61 : decode cX3_addPacket 61 = .ok (.invokespecial 83, 3) := by decide +kernel
theorem dX3_addPacket_64 : decode cX3_addPacket 64 = .ok (.invokevirtual 86, 3) := by decide +kernel
theorem dX3_addPacket_67 : decode cX3_addPacket 67 = .ok (.iinc 5 1, 3) := by decide +kernel
theorem dX3_addPacket_70 : decode cX3_addPacket 70 = .ok (.goto (-31), 3) := by decide +kernel
theorem dX3_addPacket_73 : decode cX3_addPacket 73 = .ok (.aload 4, 2) := by decide +kernel
theorem dX3_addPacket_75 : decode cX3_addPacket 75 = .ok (.aload_n 0, 1) := by decide +kernel
theorem dX3_addPacket_76 : decode cX3_addPacket 76 = .ok (.getfield 34, 3) := by decide +kernel
theorem dX3_addPacket_79 : decode cX3_addPacket 79 = .ok (.aload_n 0, 1) := by decide +kernel
theorem dX3_addPacket_80 : decode cX3_addPacket 80 = .ok (.getfield 58, 3) := by decide +kernel
theorem dX3_addPacket_83 : decode cX3_addPacket 83 = .ok (.iadd, 1) := by decide +kernel
theorem dX3_addPacket_84 : decode cX3_addPacket 84 = .ok (.aload_n 1, 1) := by decide +kernel
theorem dX3_addPacket_85 : decode cX3_addPacket 85 = .ok (.getfield 92, 3) := by decide +kernel
theorem dX3_addPacket_88 : decode cX3_addPacket 88 = .ok (.iadd, 1) := by decide +kernel
theorem dX3_addPacket_89 : decode cX3_addPacket 89 = .ok (.aload_n 1, 1) := by decide +kernel
theorem dX3_addPacket_90 : decode cX3_addPacket 90 = .ok (.getfield 79, 3) := by decide +kernel
theorem dX3_addPacket_93 : decode cX3_addPacket 93 = .ok (.getfield 95, 3) := by decide +kernel
theorem dX3_addPacket_96 : decode cX3_addPacket 96 = .ok (.aload_n 0, 1) := by decide +kernel
theorem dX3_addPacket_97 : decode cX3_addPacket 97 = .ok (.getfield 58, 3) := by decide +kernel
theorem dX3_addPacket_100 : decode cX3_addPacket 100 = .ok (.aload_n 0, 1) := by decide +kernel
theorem dX3_addPacket_101 : decode cX3_addPacket 101 = .ok (.getfield 61, 3) := by decide +kernel
theorem dX3_addPacket_104 : decode cX3_addPacket 104 = .ok (.iadd, 1) := by decide +kernel
theorem dX3_addPacket_105 : decode cX3_addPacket 105 = .ok (.aload_n 0, 1) := by decide +kernel
theorem dX3_addPacket_106 : decode cX3_addPacket 106 = .ok (.getfield 66, 3) := by decide +kernel
theorem dX3_addPacket_109 : decode cX3_addPacket 109 = .ok (.arraylength, 1) := by decide +kernel
theorem dX3_addPacket_110 : decode cX3_addPacket 110 = .ok (.iadd, 1) := by decide +kernel
theorem dX3_addPacket_111 : decode cX3_addPacket 111 = .ok (.imul, 1) := by decide +kernel
theorem dX3_addPacket_112 : decode cX3_addPacket 112 = .ok (.iadd, 1) := by decide +kernel
theorem dX3_addPacket_113 : decode cX3_addPacket 113 = .ok (.putfield 98, 3) := by decide +kernel
theorem dX3_addPacket_116 : decode cX3_addPacket 116 = .ok (.aload_n 0, 1) := by decide +kernel
theorem dX3_addPacket_117 : decode cX3_addPacket 117 = .ok (.getfield 19, 3) := by decide +kernel
theorem dX3_addPacket_120 : decode cX3_addPacket 120 = .ok (.iload_n 3, 1) := by decide +kernel
theorem dX3_addPacket_121 : decode cX3_addPacket 121 = .ok (.aload 4, 2) := by decide +kernel
theorem dX3_addPacket_123 : decode cX3_addPacket 123 = .ok (.aastore, 1) := by decide +kernel
theorem dX3_addPacket_124 : decode cX3_addPacket 124 = .ok (.aload_n 0, 1) := by decide +kernel
theorem dX3_addPacket_125 : decode cX3_addPacket 125 = .ok (.dup, 1) := by decide +kernel
theorem dX3_addPacket_126 : decode cX3_addPacket 126 = .ok (.getfield 31, 3) := by decide +kernel
theorem dX3_addPacket_129 : decode cX3_addPacket 129 = .ok (.iconst 1, 1) := by decide +kernel
theorem dX3_addPacket_130 : decode cX3_addPacket 130 = .ok (.iadd, 1) := by decide +kernel
theorem dX3_addPacket_131 : decode cX3_addPacket 131 = .ok (.putfield 31, 3) := by decide +kernel
theorem dX3_addPacket_134 : decode cX3_addPacket 134 = .ok (.iload_n 3, 1) := by decide +kernel
theorem dX3_addPacket_135 : decode cX3_addPacket 135 = .ok (.ireturn, 1) := by decide +kernel
theorem dX3_earliestToTake_0 : decode cX3_earliestToTake 0 = .ok (.iconst 0, 1) := by decide +kernel
theorem dX3_earliestToTake_1 : decode cX3_earliestToTake 1 = .ok (.istore_n 2, 1) := by decide +kernel
theorem dX3_earliestToTake_2 : decode cX3_earliestToTake 2 = .ok (.iload_n 2, 1) := by decide +kernel
theorem dX3_earliestToTake_3 : decode cX3_earliestToTake 3 = .ok (.aload_n 0, 1) := by decide +kernel
theorem dX3_earliestToTake_4 : decode cX3_earliestToTake 4 = .ok (.getfield 31, 3) := by decide +kernel
theorem dX3_earliestToTake_7 : decode cX3_earliestToTake 7 = .ok (.if_icmp .ge 36, 3) := by decide +kernel
theorem dX3_earliestToTake_10 : decode cX3_earliestToTake 10 = .ok (.aload_n 0, 1) := by decide +kernel
theorem dX3_earliestToTake_11 : decode cX3_earliestToTake 11 = .ok (.iload_n 2, 1) := by decide +kernel
theorem dX3_earliestToTake_12 : decode cX3_earliestToTake 12 = .ok (.invokevirtual 101, 3) := by decide +kernel
theorem dX3_earliestToTake_15 : decode cX3_earliestToTake 15 = .ok (.astore_n 3, 1) := by decide +kernel
theorem dX3_earliestToTake_16 : decode cX3_earliestToTake 16 = .ok (.aload_n 3, 1) := by decide +kernel
theorem dX3_earliestToTake_17 : decode cX3_earliestToTake 17 = .ok (.ifnull 20, 3) := by decide +kernel
theorem dX3_earliestToTake_20 : decode cX3_earliestToTake 20 = .ok (.aload_n 3, 1) := by decide +kernel
theorem dX3_earliestToTake_21 : decode cX3_earliestToTake 21 = .ok (.getfield 105, 3) := by decide +kernel
theorem dX3_earliestToTake_24 : decode cX3_earliestToTake 24 = .ok (.aload_n 1, 1) := by decide +kernel
theorem dX3_earliestToTake_25 : decode cX3_earliestToTake 25 = .ok (.if_acmp .ne 12, 3) := by decide +kernel
theorem dX3_earliestToTake_28 : decode cX3_earliestToTake 28 = .ok (.aload_n 3, 1) := by decide +kernel
theorem dX3_earliestToTake_29 : decode cX3_earliestToTake 29 = .ok (.invokevirtual 109, 3) := by decide +kernel
theorem dX3_earliestToTake_32 : decode cX3_earliestToTake 32 = .ok (.ifCond .eq 5, 3) := by decide +kernel
theorem dX3_earliestToTake_35 : decode cX3_earliestToTake 35 = .ok (.aload_n 3, 1) := by decide +kernel
theorem dX3_earliestToTake_36 : decode cX3_earliestToTake 36 = .ok (.areturn, 1) := by decide +kernel
theorem dX3_earliestToTake_37 : decode cX3_earliestToTake 37 = .ok (.iinc 2 1, 3) := by decide +kernel
theorem dX3_earliestToTake_40 : decode cX3_earliestToTake 40 = .ok (.goto (-38), 3) := by decide +kernel
theorem dX3_earliestToTake_43 : decode cX3_earliestToTake 43 = .ok (.aconst_null, 1) := by decide +kernel
theorem dX3_earliestToTake_44 : decode cX3_earliestToTake 44 = .ok (.areturn, 1) := by decide +kernel
theorem dX3_passCycle_0 : decode cX3_passCycle 0 = .ok (.aload_n 0, 1) := by decide +kernel
theorem dX3_passCycle_1 : decode cX3_passCycle 1 = .ok (.getfield 27, 3) := by decide +kernel
theorem dX3_passCycle_4 : decode cX3_passCycle 4 = .ok (.ifCond .gt 10, 3) := by decide +kernel
theorem dX3_passCycle_7 : decode cX3_passCycle 7 = .ok (.aload_n 0, 1) := by decide +kernel
theorem dX3_passCycle_8 : decode cX3_passCycle 8 = .ok (.getfield 37, 3) := by decide +kernel
theorem dX3_passCycle_11 : decode cX3_passCycle 11 = .ok (.ifCond .eq 11, 3) := by decide +kernel
theorem dX3_passCycle_14 : decode cX3_passCycle 14 = .ok (.aload_n 0, 1) := by decide +kernel
theorem dX3_passCycle_15 : decode cX3_passCycle 15 = .ok (.aload_n 0, 1) := by decide +kernel
theorem dX3_passCycle_16 : decode cX3_passCycle 16 = .ok (.getfield 34, 3) := by decide +kernel
theorem dX3_passCycle_19 : decode cX3_passCycle 19 = .ok (.putfield 55, 3) := by decide +kernel
theorem dX3_passCycle_22 : decode cX3_passCycle 22 = .ok (.aload_n 0, 1) := by decide +kernel
theorem dX3_passCycle_23 : decode cX3_passCycle 23 = .ok (.getfield 66, 3) := by decide +kernel
theorem dX3_passCycle_26 : decode cX3_passCycle 26 = .ok (.astore_n 1, 1) := by decide +kernel
theorem dX3_passCycle_27 : decode cX3_passCycle 27 = .ok (.aload_n 1, 1) := by decide +kernel
theorem dX3_passCycle_28 : decode cX3_passCycle 28 = .ok (.arraylength, 1) := by decide +kernel
theorem dX3_passCycle_29 : decode cX3_passCycle 29 = .ok (.istore_n 2, 1) := by decide +kernel
theorem dX3_passCycle_30 : decode cX3_passCycle 30 = .ok (.iconst 0, 1) := by decide +kernel
theorem dX3_passCycle_31 : decode cX3_passCycle 31 = .ok (.istore_n 3, 1) := by decide +kernel
theorem dX3_passCycle_32 : decode cX3_passCycle 32 = .ok (.iload_n 3, 1) := by decide +kernel
theorem dX3_passCycle_33 : decode cX3_passCycle 33 = .ok (.iload_n 2, 1) := by decide +kernel
theorem dX3_passCycle_34 : decode cX3_passCycle 34 = .ok (.if_icmp .ge 23, 3) := by decide +kernel
theorem dX3_passCycle_37 : decode cX3_passCycle 37 = .ok (.aload_n 1, 1) := by decide +kernel
theorem dX3_passCycle_38 : decode cX3_passCycle 38 = .ok (.iload_n 3, 1) := by decide +kernel
theorem dX3_passCycle_39 : decode cX3_passCycle 39 = .ok (.aaload, 1) := by decide +kernel
theorem dX3_passCycle_40 : decode cX3_passCycle 40 = .ok (.astore 4, 2) := by decide +kernel
theorem dX3_passCycle_42 : decode cX3_passCycle 42 = .ok (.aload 4, 2) := by decide +kernel
theorem dX3_passCycle_44 : decode cX3_passCycle 44 = .ok (.aload_n 0, 1) := by decide +kernel
theorem dX3_passCycle_45 : decode cX3_passCycle 45 = .ok (.getfield 34, 3) := by decide +kernel
theorem dX3_passCycle_48 : decode cX3_passCycle 48 = .ok (.invokevirtual 113, 3) := by decide +kernel
theorem dX3_passCycle_51 : decode cX3_passCycle 51 = .ok (.iinc 3 1, 3) := by decide +kernel
theorem dX3_passCycle_54 : decode cX3_passCycle 54 = .ok (.goto (-22), 3) := by decide +kernel
theorem dX3_passCycle_57 : decode cX3_passCycle 57 = .ok (.aload_n 0, 1) := by decide +kernel
theorem dX3_passCycle_58 : decode cX3_passCycle 58 = .ok (.invokevirtual 117, 3) := by decide +kernel
theorem dX3_passCycle_61 : decode cX3_passCycle 61 = .ok (.aload_n 0, 1) := by decide +kernel
theorem dX3_passCycle_62 : decode cX3_passCycle 62 = .ok (.invokevirtual 120, 3) := by decide +kernel
theorem dX3_passCycle_65 : decode cX3_passCycle 65 = .ok (.istore_n 1, 1) := by decide +kernel
theorem dX3_passCycle_66 : decode cX3_passCycle 66 = .ok (.aload_n 0, 1) := by decide +kernel
theorem dX3_passCycle_67 : decode cX3_passCycle 67 = .ok (.invokevirtual 124, 3) := by decide +kernel
theorem dX3_passCycle_70 : decode cX3_passCycle 70 = .ok (.aload_n 0, 1) := by decide +kernel
theorem dX3_passCycle_71 : decode cX3_passCycle 71 = .ok (.dup, 1) := by decide +kernel
theorem dX3_passCycle_72 : decode cX3_passCycle 72 = .ok (.getfield 34, 3) := by decide +kernel
theorem dX3_passCycle_75 : decode cX3_passCycle 75 = .ok (.iconst 1, 1) := by decide +kernel
theorem dX3_passCycle_76 : decode cX3_passCycle 76 = .ok (.iadd, 1) := by decide +kernel
theorem dX3_passCycle_77 : decode cX3_passCycle 77 = .ok (.putfield 34, 3) := by decide +kernel
theorem dX3_passCycle_80 : decode cX3_passCycle 80 = .ok (.iload_n 1, 1) := by decide +kernel
theorem dX3_passCycle_81 : decode cX3_passCycle 81 = .ok (.ireturn, 1) := by decide +kernel
theorem dX3_landFlit_0 : decode cX3_landFlit 0 = .ok (.aload_n 0, 1) := by decide +kernel
theorem dX3_landFlit_1 : decode cX3_landFlit 1 = .ok (.getfield 34, 3) := by decide +kernel
theorem dX3_landFlit_4 : decode cX3_landFlit 4 = .ok (.bipush 15, 2) := by decide +kernel
theorem dX3_landFlit_6 : decode cX3_landFlit 6 = .ok (.iand, 1) := by decide +kernel
theorem dX3_landFlit_7 : decode cX3_landFlit 7 = .ok (.istore_n 1, 1) := by decide +kernel
theorem dX3_landFlit_8 : decode cX3_landFlit 8 = .ok (.aload_n 0, 1) := by decide +kernel
theorem dX3_landFlit_9 : decode cX3_landFlit 9 = .ok (.getfield 11, 3) := by decide +kernel
theorem dX3_landFlit_12 : decode cX3_landFlit 12 = .ok (.iload_n 1, 1) := by decide +kernel
theorem dX3_landFlit_13 : decode cX3_landFlit 13 = .ok (.aaload, 1) := by decide +kernel
theorem dX3_landFlit_14 : decode cX3_landFlit 14 = .ok (.astore_n 2, 1) := by decide +kernel
theorem dX3_landFlit_15 : decode cX3_landFlit 15 = .ok (.aload_n 2, 1) := by decide +kernel
theorem dX3_landFlit_16 : decode cX3_landFlit 16 = .ok (.ifnonnull 4, 3) := by decide +kernel
theorem dX3_landFlit_19 : decode cX3_landFlit 19 = .ok (.return_, 1) := by decide +kernel
theorem dX3_landFlit_20 : decode cX3_landFlit 20 = .ok (.aload_n 0, 1) := by decide +kernel
theorem dX3_landFlit_21 : decode cX3_landFlit 21 = .ok (.getfield 11, 3) := by decide +kernel
theorem dX3_landFlit_24 : decode cX3_landFlit 24 = .ok (.iload_n 1, 1) := by decide +kernel
theorem dX3_landFlit_25 : decode cX3_landFlit 25 = .ok (.aconst_null, 1) := by decide +kernel
theorem dX3_landFlit_26 : decode cX3_landFlit 26 = .ok (.aastore, 1) := by decide +kernel
theorem dX3_landFlit_27 : decode cX3_landFlit 27 = .ok (.aload_n 2, 1) := by decide +kernel
theorem dX3_landFlit_28 : decode cX3_landFlit 28 = .ok (.getfield 127, 3) := by decide +kernel
theorem dX3_landFlit_31 : decode cX3_landFlit 31 = .ok (.getfield 105, 3) := by decide +kernel
theorem dX3_landFlit_34 : decode cX3_landFlit 34 = .ok (.astore_n 3, 1) := by decide +kernel
theorem dX3_landFlit_35 : decode cX3_landFlit 35 = .ok (.aload_n 3, 1) := by decide +kernel
theorem dX3_landFlit_36 : decode cX3_landFlit 36 = .ok (.getfield 131, 3) := by decide +kernel
theorem dX3_landFlit_39 : decode cX3_landFlit 39 = .ok (.getfield 95, 3) := by decide +kernel
theorem dX3_landFlit_42 : decode cX3_landFlit 42 = .ok (.aload_n 3, 1) := by decide +kernel
theorem dX3_landFlit_43 : decode cX3_landFlit 43 = .ok (.getfield 92, 3) := by decide +kernel
theorem dX3_landFlit_46 : decode cX3_landFlit 46 = .ok (.if_icmp .lt 13, 3) := by decide +kernel
theorem dX3_landFlit_49 : decode cX3_landFlit 49 = .ok (.aload_n 0, 1) := by decide +kernel
theorem dX3_landFlit_50 : decode cX3_landFlit 50 = .ok (.dup, 1) := by decide +kernel
theorem dX3_landFlit_51 : decode cX3_landFlit 51 = .ok (.getfield 49, 3) := by decide +kernel
theorem dX3_landFlit_54 : decode cX3_landFlit 54 = .ok (.iconst 1, 1) := by decide +kernel
theorem dX3_landFlit_55 : decode cX3_landFlit 55 = .ok (.iadd, 1) := by decide +kernel
theorem dX3_landFlit_56 : decode cX3_landFlit 56 = .ok (.putfield 49, 3) := by decide +kernel
theorem dX3_landFlit_59 : decode cX3_landFlit 59 = .ok (.aload_n 3, 1) := by decide +kernel
theorem dX3_landFlit_60 : decode cX3_landFlit 60 = .ok (.aload_n 2, 1) := by decide +kernel
theorem dX3_landFlit_61 : decode cX3_landFlit 61 = .ok (.invokevirtual 134, 3) := by decide +kernel
theorem dX3_landFlit_64 : decode cX3_landFlit 64 = .ok (.return_, 1) := by decide +kernel
theorem dX3_drainBuffers_0 : decode cX3_drainBuffers 0 = .ok (.aload_n 0, 1) := by decide +kernel
theorem dX3_drainBuffers_1 : decode cX3_drainBuffers 1 = .ok (.invokevirtual 137, 3) := by decide +kernel
theorem dX3_drainBuffers_4 : decode cX3_drainBuffers 4 = .ok (.istore_n 1, 1) := by decide +kernel
theorem dX3_drainBuffers_5 : decode cX3_drainBuffers 5 = .ok (.iconst 0, 1) := by decide +kernel
theorem dX3_drainBuffers_6 : decode cX3_drainBuffers 6 = .ok (.istore_n 2, 1) := by decide +kernel
theorem dX3_drainBuffers_7 : decode cX3_drainBuffers 7 = .ok (.aload_n 0, 1) := by decide +kernel
theorem dX3_drainBuffers_8 : decode cX3_drainBuffers 8 = .ok (.getfield 66, 3) := by decide +kernel
theorem dX3_drainBuffers_11 : decode cX3_drainBuffers 11 = .ok (.astore_n 3, 1) := by decide +kernel
theorem dX3_drainBuffers_12 : decode cX3_drainBuffers 12 = .ok (.aload_n 3, 1) := by decide +kernel
theorem dX3_drainBuffers_13 : decode cX3_drainBuffers 13 = .ok (.arraylength, 1) := by decide +kernel
theorem dX3_drainBuffers_14 : decode cX3_drainBuffers 14 = .ok (.istore 4, 2) := by decide +kernel
theorem dX3_drainBuffers_16 : decode cX3_drainBuffers 16 = .ok (.iconst 0, 1) := by decide +kernel
theorem dX3_drainBuffers_17 : decode cX3_drainBuffers 17 = .ok (.istore 5, 2) := by decide +kernel
theorem dX3_drainBuffers_19 : decode cX3_drainBuffers 19 = .ok (.iload 5, 2) := by decide +kernel
theorem dX3_drainBuffers_21 : decode cX3_drainBuffers 21 = .ok (.iload 4, 2) := by decide +kernel
theorem dX3_drainBuffers_23 : decode cX3_drainBuffers 23 = .ok (.if_icmp .ge 56, 3) := by decide +kernel
theorem dX3_drainBuffers_26 : decode cX3_drainBuffers 26 = .ok (.aload_n 3, 1) := by decide +kernel
theorem dX3_drainBuffers_27 : decode cX3_drainBuffers 27 = .ok (.iload 5, 2) := by decide +kernel
theorem dX3_drainBuffers_29 : decode cX3_drainBuffers 29 = .ok (.aaload, 1) := by decide +kernel
theorem dX3_drainBuffers_30 : decode cX3_drainBuffers 30 = .ok (.astore 6, 2) := by decide +kernel
theorem dX3_drainBuffers_32 : decode cX3_drainBuffers 32 = .ok (.iload_n 1, 1) := by decide +kernel
theorem dX3_drainBuffers_33 : decode cX3_drainBuffers 33 = .ok (.aload 6, 2) := by decide +kernel
theorem dX3_drainBuffers_35 : decode cX3_drainBuffers 35 = .ok (.getfield 140, 3) := by decide +kernel
theorem dX3_drainBuffers_38 : decode cX3_drainBuffers 38 = .ok (.iushr, 1) := by decide +kernel
theorem dX3_drainBuffers_39 : decode cX3_drainBuffers 39 = .ok (.iconst 1, 1) := by decide +kernel
theorem dX3_drainBuffers_40 : decode cX3_drainBuffers 40 = .ok (.iand, 1) := by decide +kernel
theorem dX3_drainBuffers_41 : decode cX3_drainBuffers 41 = .ok (.ifCond .eq 32, 3) := by decide +kernel
theorem dX3_drainBuffers_44 : decode cX3_drainBuffers 44 = .ok (.aload 6, 2) := by decide +kernel
theorem dX3_drainBuffers_46 : decode cX3_drainBuffers 46 = .ok (.aload_n 0, 1) := by decide +kernel
theorem dX3_drainBuffers_47 : decode cX3_drainBuffers 47 = .ok (.getfield 34, 3) := by decide +kernel
theorem dX3_drainBuffers_50 : decode cX3_drainBuffers 50 = .ok (.aload_n 0, 1) := by decide +kernel
theorem dX3_drainBuffers_51 : decode cX3_drainBuffers 51 = .ok (.getfield 61, 3) := by decide +kernel
theorem dX3_drainBuffers_54 : decode cX3_drainBuffers 54 = .ok (.invokevirtual 143, 3) := by decide +kernel
theorem dX3_drainBuffers_57 : decode cX3_drainBuffers 57 = .ok (.astore 7, 2) := by decide +kernel
theorem dX3_drainBuffers_59 : decode cX3_drainBuffers 59 = .ok (.aload 7, 2) := by decide +kernel
theorem dX3_drainBuffers_61 : decode cX3_drainBuffers 61 = .ok (.ifnull 12, 3) := by decide +kernel
theorem dX3_drainBuffers_64 : decode cX3_drainBuffers 64 = .ok (.aload_n 0, 1) := by decide +kernel
theorem dX3_drainBuffers_65 : decode cX3_drainBuffers 65 = .ok (.aload 7, 2) := by decide +kernel
theorem dX3_drainBuffers_67 : decode cX3_drainBuffers 67 = .ok (.invokevirtual 147, 3) := by decide +kernel
theorem dX3_drainBuffers_70 : decode cX3_drainBuffers 70 = .ok (.iinc 2 1, 3) := by decide +kernel
theorem dX3_drainBuffers_73 : decode cX3_drainBuffers 73 = .ok (.iinc 5 1, 3) := by decide +kernel
theorem dX3_drainBuffers_76 : decode cX3_drainBuffers 76 = .ok (.goto (-57), 3) := by decide +kernel
theorem dX3_drainBuffers_79 : decode cX3_drainBuffers 79 = .ok (.iload_n 2, 1) := by decide +kernel
theorem dX3_drainBuffers_80 : decode cX3_drainBuffers 80 = .ok (.ireturn, 1) := by decide +kernel
theorem dX3_maskNow_0 : decode cX3_maskNow 0 = .ok (.aload_n 0, 1) := by decide +kernel
theorem dX3_maskNow_1 : decode cX3_maskNow 1 = .ok (.getfield 27, 3) := by decide +kernel
theorem dX3_maskNow_4 : decode cX3_maskNow 4 = .ok (.ifCond .le 15, 3) := by decide +kernel
theorem dX3_maskNow_7 : decode cX3_maskNow 7 = .ok (.aload_n 0, 1) := by decide +kernel
theorem dX3_maskNow_8 : decode cX3_maskNow 8 = .ok (.getfield 27, 3) := by decide +kernel
theorem dX3_maskNow_11 : decode cX3_maskNow 11 = .ok (.aload_n 0, 1) := by decide +kernel
theorem dX3_maskNow_12 : decode cX3_maskNow 12 = .ok (.getfield 23, 3) := by decide +kernel
theorem dX3_maskNow_15 : decode cX3_maskNow 15 = .ok (.arraylength, 1) := by decide +kernel
theorem dX3_maskNow_16 : decode cX3_maskNow 16 = .ok (.if_icmp .le 5, 3) := by decide +kernel
theorem dX3_maskNow_19 : decode cX3_maskNow 19 = .ok (.iconst (-1), 1) := by decide +kernel
theorem dX3_maskNow_20 : decode cX3_maskNow 20 = .ok (.ireturn, 1) := by decide +kernel
theorem dX3_maskNow_21 : decode cX3_maskNow 21 = .ok (.aload_n 0, 1) := by decide +kernel
theorem dX3_maskNow_22 : decode cX3_maskNow 22 = .ok (.getfield 23, 3) := by decide +kernel
theorem dX3_maskNow_25 : decode cX3_maskNow 25 = .ok (.aload_n 0, 1) := by decide +kernel
theorem dX3_maskNow_26 : decode cX3_maskNow 26 = .ok (.getfield 34, 3) := by decide +kernel
theorem dX3_maskNow_29 : decode cX3_maskNow 29 = .ok (.aload_n 0, 1) := by decide +kernel
theorem dX3_maskNow_30 : decode cX3_maskNow 30 = .ok (.getfield 27, 3) := by decide +kernel
theorem dX3_maskNow_33 : decode cX3_maskNow 33 = .ok (.invokestatic 151, 3) := by decide +kernel
theorem dX3_maskNow_36 : decode cX3_maskNow 36 = .ok (.iaload, 1) := by decide +kernel
theorem dX3_maskNow_37 : decode cX3_maskNow 37 = .ok (.ireturn, 1) := by decide +kernel
theorem dX3_noteArrived_0 : decode cX3_noteArrived 0 = .ok (.aload_n 1, 1) := by decide +kernel
theorem dX3_noteArrived_1 : decode cX3_noteArrived 1 = .ok (.aload_n 0, 1) := by decide +kernel
theorem dX3_noteArrived_2 : decode cX3_noteArrived 2 = .ok (.getfield 34, 3) := by decide +kernel
theorem dX3_noteArrived_5 : decode cX3_noteArrived 5 = .ok (.putfield 157, 3) := by decide +kernel
theorem dX3_noteArrived_8 : decode cX3_noteArrived 8 = .ok (.aload_n 0, 1) := by decide +kernel
theorem dX3_noteArrived_9 : decode cX3_noteArrived 9 = .ok (.getfield 34, 3) := by decide +kernel
theorem dX3_noteArrived_12 : decode cX3_noteArrived 12 = .ok (.aload_n 1, 1) := by decide +kernel
theorem dX3_noteArrived_13 : decode cX3_noteArrived 13 = .ok (.getfield 98, 3) := by decide +kernel
theorem dX3_noteArrived_16 : decode cX3_noteArrived 16 = .ok (.if_icmp .le 24, 3) := by decide +kernel
theorem dX3_noteArrived_19 : decode cX3_noteArrived 19 = .ok (.aload_n 0, 1) := by decide +kernel
theorem dX3_noteArrived_20 : decode cX3_noteArrived 20 = .ok (.getfield 55, 3) := by decide +kernel
theorem dX3_noteArrived_23 : decode cX3_noteArrived 23 = .ok (.aload_n 1, 1) := by decide +kernel
theorem dX3_noteArrived_24 : decode cX3_noteArrived 24 = .ok (.getfield 160, 3) := by decide +kernel
theorem dX3_noteArrived_27 : decode cX3_noteArrived 27 = .ok (.if_icmp .ge 13, 3) := by decide +kernel
theorem dX3_noteArrived_30 : decode cX3_noteArrived 30 = .ok (.aload_n 0, 1) := by decide +kernel
theorem dX3_noteArrived_31 : decode cX3_noteArrived 31 = .ok (.dup, 1) := by decide +kernel
theorem dX3_noteArrived_32 : decode cX3_noteArrived 32 = .ok (.getfield 52, 3) := by decide +kernel
theorem dX3_noteArrived_35 : decode cX3_noteArrived 35 = .ok (.iconst 1, 1) := by decide +kernel
theorem dX3_noteArrived_36 : decode cX3_noteArrived 36 = .ok (.iadd, 1) := by decide +kernel
theorem dX3_noteArrived_37 : decode cX3_noteArrived 37 = .ok (.putfield 52, 3) := by decide +kernel
theorem dX3_noteArrived_40 : decode cX3_noteArrived 40 = .ok (.return_, 1) := by decide +kernel
theorem dX3_sendFlit_0 : decode cX3_sendFlit 0 = .ok (.aload_n 0, 1) := by decide +kernel
theorem dX3_sendFlit_1 : decode cX3_sendFlit 1 = .ok (.getfield 37, 3) := by decide +kernel
theorem dX3_sendFlit_4 : decode cX3_sendFlit 4 = .ok (.iconst 2, 1) := by decide +kernel
theorem dX3_sendFlit_5 : decode cX3_sendFlit 5 = .ok (.if_icmp .ne 14, 3) := by decide +kernel
theorem dX3_sendFlit_8 : decode cX3_sendFlit 8 = .ok (.aload_n 0, 1) := by decide +kernel
theorem dX3_sendFlit_9 : decode cX3_sendFlit 9 = .ok (.invokevirtual 163, 3) := by decide +kernel
theorem dX3_sendFlit_12 : decode cX3_sendFlit 12 = .ok (.ifCond .eq 7, 3) := by decide +kernel
theorem dX3_sendFlit_15 : decode cX3_sendFlit 15 = .ok (.iconst 1, 1) := by decide +kernel
theorem dX3_sendFlit_16 : decode cX3_sendFlit 16 = .ok (.goto 4, 3) := by decide +kernel
theorem dX3_sendFlit_19 : decode cX3_sendFlit 19 = .ok (.iconst 0, 1) := by decide +kernel
theorem dX3_sendFlit_20 : decode cX3_sendFlit 20 = .ok (.istore_n 1, 1) := by decide +kernel
theorem dX3_sendFlit_21 : decode cX3_sendFlit 21 = .ok (.aload_n 0, 1) := by decide +kernel
theorem dX3_sendFlit_22 : decode cX3_sendFlit 22 = .ok (.iload_n 1, 1) := by decide +kernel
theorem dX3_sendFlit_23 : decode cX3_sendFlit 23 = .ok (.ifCond .eq 10, 3) := by decide +kernel
theorem dX3_sendFlit_26 : decode cX3_sendFlit 26 = .ok (.aload_n 0, 1) := by decide +kernel
theorem dX3_sendFlit_27 : decode cX3_sendFlit 27 = .ok (.getfield 40, 3) := by decide +kernel
theorem dX3_sendFlit_30 : decode cX3_sendFlit 30 = .ok (.goto 7, 3) := by decide +kernel
theorem dX3_sendFlit_33 : decode cX3_sendFlit 33 = .ok (.aload_n 0, 1) := by decide +kernel
theorem dX3_sendFlit_34 : decode cX3_sendFlit 34 = .ok (.invokevirtual 166, 3) := by decide +kernel
theorem dX3_sendFlit_37 : decode cX3_sendFlit 37 = .ok (.invokevirtual 169, 3) := by decide +kernel
theorem dX3_sendFlit_40 : decode cX3_sendFlit 40 = .ok (.astore_n 2, 1) := by decide +kernel
theorem dX3_sendFlit_41 : decode cX3_sendFlit 41 = .ok (.aload_n 2, 1) := by decide +kernel
theorem dX3_sendFlit_42 : decode cX3_sendFlit 42 = .ok (.ifnonnull 7, 3) := by decide +kernel
theorem dX3_sendFlit_45 : decode cX3_sendFlit 45 = .ok (.aconst_null, 1) := by decide +kernel
theorem dX3_sendFlit_46 : decode cX3_sendFlit 46 = .ok (.goto 7, 3) := by decide +kernel
theorem dX3_sendFlit_49 : decode cX3_sendFlit 49 = .ok (.aload_n 2, 1) := by decide +kernel
theorem dX3_sendFlit_50 : decode cX3_sendFlit 50 = .ok (.invokevirtual 173, 3) := by decide +kernel
theorem dX3_sendFlit_53 : decode cX3_sendFlit 53 = .ok (.astore_n 3, 1) := by decide +kernel
theorem dX3_sendFlit_54 : decode cX3_sendFlit 54 = .ok (.aload_n 2, 1) := by decide +kernel
theorem dX3_sendFlit_55 : decode cX3_sendFlit 55 = .ok (.ifnull 7, 3) := by decide +kernel
theorem dX3_sendFlit_58 : decode cX3_sendFlit 58 = .ok (.aload_n 3, 1) := by decide +kernel
theorem dX3_sendFlit_59 : decode cX3_sendFlit 59 = .ok (.ifnonnull 8, 3) := by decide +kernel
theorem dX3_sendFlit_62 : decode cX3_sendFlit 62 = .ok (.aload_n 0, 1) := by decide +kernel
theorem dX3_sendFlit_63 : decode cX3_sendFlit 63 = .ok (.invokevirtual 177, 3) := by decide +kernel
theorem dX3_sendFlit_66 : decode cX3_sendFlit 66 = .ok (.return_, 1) := by decide +kernel
theorem dX3_sendFlit_67 : decode cX3_sendFlit 67 = .ok (.aload_n 3, 1) := by decide +kernel
theorem dX3_sendFlit_68 : decode cX3_sendFlit 68 = .ok (.getfield 180, 3) := by decide +kernel
theorem dX3_sendFlit_71 : decode cX3_sendFlit 71 = .ok (.ifCond .ne 14, 3) := by decide +kernel
theorem dX3_sendFlit_74 : decode cX3_sendFlit 74 = .ok (.aload_n 3, 1) := by decide +kernel
theorem dX3_sendFlit_75 : decode cX3_sendFlit 75 = .ok (.getfield 127, 3) := by decide +kernel
theorem dX3_sendFlit_78 : decode cX3_sendFlit 78 = .ok (.aload_n 0, 1) := by decide +kernel
theorem dX3_sendFlit_79 : decode cX3_sendFlit 79 = .ok (.getfield 34, 3) := by decide +kernel
theorem dX3_sendFlit_82 : decode cX3_sendFlit 82 = .ok (.putfield 181, 3) := by decide +kernel
theorem dX3_sendFlit_85 : decode cX3_sendFlit 85 = .ok (.aload_n 0, 1) := by decide +kernel
theorem dX3_sendFlit_86 : decode cX3_sendFlit 86 = .ok (.getfield 11, 3) := by decide +kernel
theorem dX3_sendFlit_89 : decode cX3_sendFlit 89 = .ok (.aload_n 0, 1) := by decide +kernel
theorem dX3_sendFlit_90 : decode cX3_sendFlit 90 = .ok (.getfield 34, 3) := by decide +kernel
theorem dX3_sendFlit_93 : decode cX3_sendFlit 93 = .ok (.aload_n 0, 1) := by decide +kernel
theorem dX3_sendFlit_94 : decode cX3_sendFlit 94 = .ok (.getfield 58, 3) := by decide +kernel
theorem dX3_sendFlit_97 : decode cX3_sendFlit 97 = .ok (.iadd, 1) := by decide +kernel
theorem dX3_sendFlit_98 : decode cX3_sendFlit 98 = .ok (.bipush 15, 2) := by decide +kernel
theorem dX3_sendFlit_100 : decode cX3_sendFlit 100 = .ok (.iand, 1) := by decide +kernel
theorem dX3_sendFlit_101 : decode cX3_sendFlit 101 = .ok (.aload_n 3, 1) := by decide +kernel
theorem dX3_sendFlit_102 : decode cX3_sendFlit 102 = .ok (.aastore, 1) := by decide +kernel
theorem dX3_sendFlit_103 : decode cX3_sendFlit 103 = .ok (.aload_n 2, 1) := by decide +kernel
theorem dX3_sendFlit_104 : decode cX3_sendFlit 104 = .ok (.getfield 140, 3) := by decide +kernel
theorem dX3_sendFlit_107 : decode cX3_sendFlit 107 = .ok (.aload_n 0, 1) := by decide +kernel
theorem dX3_sendFlit_108 : decode cX3_sendFlit 108 = .ok (.getfield 40, 3) := by decide +kernel
theorem dX3_sendFlit_111 : decode cX3_sendFlit 111 = .ok (.if_icmp .ne 15, 3) := by decide +kernel
theorem dX3_sendFlit_114 : decode cX3_sendFlit 114 = .ok (.aload_n 0, 1) := by decide +kernel
theorem dX3_sendFlit_115 : decode cX3_sendFlit 115 = .ok (.getfield 37, 3) := by decide +kernel
theorem dX3_sendFlit_118 : decode cX3_sendFlit 118 = .ok (.iconst 2, 1) := by decide +kernel
theorem dX3_sendFlit_119 : decode cX3_sendFlit 119 = .ok (.if_icmp .ne 11, 3) := by decide +kernel
theorem dX3_sendFlit_122 : decode cX3_sendFlit 122 = .ok (.iload_n 1, 1) := by decide +kernel
theorem dX3_sendFlit_123 : decode cX3_sendFlit 123 = .ok (.ifCond .ne 7, 3) := by decide +kernel
theorem dX3_sendFlit_126 : decode cX3_sendFlit 126 = .ok (.iconst 1, 1) := by decide +kernel
theorem dX3_sendFlit_127 : decode cX3_sendFlit 127 = .ok (.goto 4, 3) := by decide +kernel
theorem dX3_sendFlit_130 : decode cX3_sendFlit 130 = .ok (.iconst 0, 1) := by decide +kernel
theorem dX3_sendFlit_131 : decode cX3_sendFlit 131 = .ok (.istore 4, 2) := by decide +kernel
theorem dX3_sendFlit_133 : decode cX3_sendFlit 133 = .ok (.aload_n 0, 1) := by decide +kernel
theorem dX3_sendFlit_134 : decode cX3_sendFlit 134 = .ok (.iload 4, 2) := by decide +kernel
theorem dX3_sendFlit_136 : decode cX3_sendFlit 136 = .ok (.ifCond .eq 7, 3) := by decide +kernel
theorem dX3_sendFlit_139 : decode cX3_sendFlit 139 = .ok (.iconst 1, 1) := by decide +kernel
theorem dX3_sendFlit_140 : decode cX3_sendFlit 140 = .ok (.goto 9, 3) := by decide +kernel
theorem dX3_sendFlit_143 : decode cX3_sendFlit 143 = .ok (.aload_n 0, 1) := by decide +kernel
theorem dX3_sendFlit_144 : decode cX3_sendFlit 144 = .ok (.getfield 43, 3) := by decide +kernel
theorem dX3_sendFlit_147 : decode cX3_sendFlit 147 = .ok (.iconst 1, 1) := by decide +kernel
theorem dX3_sendFlit_148 : decode cX3_sendFlit 148 = .ok (.iadd, 1) := by decide +kernel
theorem dX3_sendFlit_149 : decode cX3_sendFlit 149 = .ok (.putfield 43, 3) := by decide +kernel
theorem dX3_sendFlit_152 : decode cX3_sendFlit 152 = .ok (.aload_n 0, 1) := by decide +kernel
theorem dX3_sendFlit_153 : decode cX3_sendFlit 153 = .ok (.aload_n 2, 1) := by decide +kernel
theorem dX3_sendFlit_154 : decode cX3_sendFlit 154 = .ok (.getfield 140, 3) := by decide +kernel
theorem dX3_sendFlit_157 : decode cX3_sendFlit 157 = .ok (.putfield 40, 3) := by decide +kernel
theorem dX3_sendFlit_160 : decode cX3_sendFlit 160 = .ok (.return_, 1) := by decide +kernel
theorem dX3_lastMayGoOn_0 : decode cX3_lastMayGoOn 0 = .ok (.aload_n 0, 1) := by decide +kernel
theorem dX3_lastMayGoOn_1 : decode cX3_lastMayGoOn 1 = .ok (.aload_n 0, 1) := by decide +kernel
theorem dX3_lastMayGoOn_2 : decode cX3_lastMayGoOn 2 = .ok (.getfield 40, 3) := by decide +kernel
theorem dX3_lastMayGoOn_5 : decode cX3_lastMayGoOn 5 = .ok (.invokevirtual 169, 3) := by decide +kernel
theorem dX3_lastMayGoOn_8 : decode cX3_lastMayGoOn 8 = .ok (.astore_n 1, 1) := by decide +kernel
theorem dX3_lastMayGoOn_9 : decode cX3_lastMayGoOn 9 = .ok (.aload_n 1, 1) := by decide +kernel
theorem dX3_lastMayGoOn_10 : decode cX3_lastMayGoOn 10 = .ok (.ifnull 25, 3) := by decide +kernel
theorem dX3_lastMayGoOn_13 : decode cX3_lastMayGoOn 13 = .ok (.aload_n 1, 1) := by decide +kernel
theorem dX3_lastMayGoOn_14 : decode cX3_lastMayGoOn 14 = .ok (.invokevirtual 184, 3) := by decide +kernel
theorem dX3_lastMayGoOn_17 : decode cX3_lastMayGoOn 17 = .ok (.ifCond .eq 18, 3) := by decide +kernel
theorem dX3_lastMayGoOn_20 : decode cX3_lastMayGoOn 20 = .ok (.aload_n 0, 1) := by decide +kernel
theorem dX3_lastMayGoOn_21 : decode cX3_lastMayGoOn 21 = .ok (.getfield 43, 3) := by decide +kernel
theorem dX3_lastMayGoOn_24 : decode cX3_lastMayGoOn 24 = .ok (.aload_n 1, 1) := by decide +kernel
theorem dX3_lastMayGoOn_25 : decode cX3_lastMayGoOn 25 = .ok (.getfield 187, 3) := by decide +kernel
theorem dX3_lastMayGoOn_28 : decode cX3_lastMayGoOn 28 = .ok (.if_icmp .ge 7, 3) := by decide +kernel
theorem dX3_lastMayGoOn_31 : decode cX3_lastMayGoOn 31 = .ok (.iconst 1, 1) := by decide +kernel
theorem dX3_lastMayGoOn_32 : decode cX3_lastMayGoOn 32 = .ok (.goto 4, 3) := by decide +kernel
theorem dX3_lastMayGoOn_35 : decode cX3_lastMayGoOn 35 = .ok (.iconst 0, 1) := by decide +kernel
theorem dX3_lastMayGoOn_36 : decode cX3_lastMayGoOn 36 = .ok (.ireturn, 1) := by decide +kernel
theorem dX3_chooseChannel_0 : decode cX3_chooseChannel 0 = .ok (.aload_n 0, 1) := by decide +kernel
theorem dX3_chooseChannel_1 : decode cX3_chooseChannel 1 = .ok (.getfield 37, 3) := by decide +kernel
theorem dX3_chooseChannel_4 : decode cX3_chooseChannel 4 = .ok (.iconst 1, 1) := by decide +kernel
theorem dX3_chooseChannel_5 : decode cX3_chooseChannel 5 = .ok (.if_icmp .ne 9, 3) := by decide +kernel
theorem dX3_chooseChannel_8 : decode cX3_chooseChannel 8 = .ok (.aload_n 0, 1) := by decide +kernel
theorem dX3_chooseChannel_9 : decode cX3_chooseChannel 9 = .ok (.iconst 0, 1) := by decide +kernel
theorem dX3_chooseChannel_10 : decode cX3_chooseChannel 10 = .ok (.invokevirtual 190, 3) := by decide +kernel
theorem dX3_chooseChannel_13 : decode cX3_chooseChannel 13 = .ok (.ireturn, 1) := by decide +kernel
theorem dX3_chooseChannel_14 : decode cX3_chooseChannel 14 = .ok (.aload_n 0, 1) := by decide +kernel
theorem dX3_chooseChannel_15 : decode cX3_chooseChannel 15 = .ok (.getfield 37, 3) := by decide +kernel
theorem dX3_chooseChannel_18 : decode cX3_chooseChannel 18 = .ok (.iconst 3, 1) := by decide +kernel
theorem dX3_chooseChannel_19 : decode cX3_chooseChannel 19 = .ok (.if_icmp .ne 10, 3) := by decide +kernel
theorem dX3_chooseChannel_22 : decode cX3_chooseChannel 22 = .ok (.aload_n 0, 1) := by decide +kernel
theorem dX3_chooseChannel_23 : decode cX3_chooseChannel 23 = .ok (.invokevirtual 194, 3) := by decide +kernel
theorem dX3_chooseChannel_26 : decode cX3_chooseChannel 26 = .ok (.goto 4, 3) := by decide +kernel
theorem dX3_chooseChannel_29 : decode cX3_chooseChannel 29 = .ok (.aconst_null, 1) := by decide +kernel
theorem dX3_chooseChannel_30 : decode cX3_chooseChannel 30 = .ok (.astore_n 1, 1) := by decide +kernel
theorem dX3_chooseChannel_31 : decode cX3_chooseChannel 31 = .ok (.aload_n 1, 1) := by decide +kernel
theorem dX3_chooseChannel_32 : decode cX3_chooseChannel 32 = .ok (.ifnull 19, 3) := by decide +kernel
theorem dX3_chooseChannel_35 : decode cX3_chooseChannel 35 = .ok (.aload_n 1, 1) := by decide +kernel
theorem dX3_chooseChannel_36 : decode cX3_chooseChannel 36 = .ok (.invokevirtual 184, 3) := by decide +kernel
theorem dX3_chooseChannel_39 : decode cX3_chooseChannel 39 = .ok (.ifCond .eq 10, 3) := by decide +kernel
theorem dX3_chooseChannel_42 : decode cX3_chooseChannel 42 = .ok (.aload_n 1, 1) := by decide +kernel
theorem dX3_chooseChannel_43 : decode cX3_chooseChannel 43 = .ok (.getfield 140, 3) := by decide +kernel
theorem dX3_chooseChannel_46 : decode cX3_chooseChannel 46 = .ok (.goto 4, 3) := by decide +kernel
theorem dX3_chooseChannel_49 : decode cX3_chooseChannel 49 = .ok (.iconst (-1), 1) := by decide +kernel
theorem dX3_chooseChannel_50 : decode cX3_chooseChannel 50 = .ok (.ireturn, 1) := by decide +kernel
theorem dX3_chooseChannel_51 : decode cX3_chooseChannel 51 = .ok (.aload_n 0, 1) := by decide +kernel
theorem dX3_chooseChannel_52 : decode cX3_chooseChannel 52 = .ok (.aload_n 0, 1) := by decide +kernel
theorem dX3_chooseChannel_53 : decode cX3_chooseChannel 53 = .ok (.getfield 40, 3) := by decide +kernel
theorem dX3_chooseChannel_56 : decode cX3_chooseChannel 56 = .ok (.iconst 1, 1) := by decide +kernel
theorem dX3_chooseChannel_57 : decode cX3_chooseChannel 57 = .ok (.iadd, 1) := by decide +kernel
theorem dX3_chooseChannel_58 : decode cX3_chooseChannel 58 = .ok (.invokevirtual 190, 3) := by decide +kernel
theorem dX3_chooseChannel_61 : decode cX3_chooseChannel 61 = .ok (.ireturn, 1) := by decide +kernel
theorem dX3_firstInsidePacket_0 : decode cX3_firstInsidePacket 0 = .ok (.aload_n 0, 1) := by decide +kernel
theorem dX3_firstInsidePacket_1 : decode cX3_firstInsidePacket 1 = .ok (.getfield 66, 3) := by decide +kernel
theorem dX3_firstInsidePacket_4 : decode cX3_firstInsidePacket 4 = .ok (.astore_n 1, 1) := by decide +kernel
theorem dX3_firstInsidePacket_5 : decode cX3_firstInsidePacket 5 = .ok (.aload_n 1, 1) := by decide +kernel
theorem dX3_firstInsidePacket_6 : decode cX3_firstInsidePacket 6 = .ok (.arraylength, 1) := by decide +kernel
theorem dX3_firstInsidePacket_7 : decode cX3_firstInsidePacket 7 = .ok (.istore_n 2, 1) := by decide +kernel
theorem dX3_firstInsidePacket_8 : decode cX3_firstInsidePacket 8 = .ok (.iconst 0, 1) := by decide +kernel
theorem dX3_firstInsidePacket_9 : decode cX3_firstInsidePacket 9 = .ok (.istore_n 3, 1) := by decide +kernel
theorem dX3_firstInsidePacket_10 : decode cX3_firstInsidePacket 10 = .ok (.iload_n 3, 1) := by decide +kernel
theorem dX3_firstInsidePacket_11 : decode cX3_firstInsidePacket 11 = .ok (.iload_n 2, 1) := by decide +kernel
theorem dX3_firstInsidePacket_12 : decode cX3_firstInsidePacket 12 = .ok (.if_icmp .ge 25, 3) := by decide +kernel
theorem dX3_firstInsidePacket_15 : decode cX3_firstInsidePacket 15 = .ok (.aload_n 1, 1) := by decide +kernel
theorem dX3_firstInsidePacket_16 : decode cX3_firstInsidePacket 16 = .ok (.iload_n 3, 1) := by decide +kernel
theorem dX3_firstInsidePacket_17 : decode cX3_firstInsidePacket 17 = .ok (.aaload, 1) := by decide +kernel
theorem dX3_firstInsidePacket_18 : decode cX3_firstInsidePacket 18 = .ok (.astore 4, 2) := by decide +kernel
theorem dX3_firstInsidePacket_20 : decode cX3_firstInsidePacket 20 = .ok (.aload 4, 2) := by decide +kernel
theorem dX3_firstInsidePacket_22 : decode cX3_firstInsidePacket 22 = .ok (.invokevirtual 198, 3) := by decide +kernel
theorem dX3_firstInsidePacket_25 : decode cX3_firstInsidePacket 25 = .ok (.ifCond .eq 6, 3) := by decide +kernel
theorem dX3_firstInsidePacket_28 : decode cX3_firstInsidePacket 28 = .ok (.aload 4, 2) := by decide +kernel
theorem dX3_firstInsidePacket_30 : decode cX3_firstInsidePacket 30 = .ok (.areturn, 1) := by decide +kernel
theorem dX3_firstInsidePacket_31 : decode cX3_firstInsidePacket 31 = .ok (.iinc 3 1, 3) := by decide +kernel
theorem dX3_firstInsidePacket_34 : decode cX3_firstInsidePacket 34 = .ok (.goto (-24), 3) := by decide +kernel
theorem dX3_firstInsidePacket_37 : decode cX3_firstInsidePacket 37 = .ok (.aconst_null, 1) := by decide +kernel
theorem dX3_firstInsidePacket_38 : decode cX3_firstInsidePacket 38 = .ok (.areturn, 1) := by decide +kernel
theorem dX3_firstAbleFrom_0 : decode cX3_firstAbleFrom 0 = .ok (.iconst 0, 1) := by decide +kernel
theorem dX3_firstAbleFrom_1 : decode cX3_firstAbleFrom 1 = .ok (.istore_n 2, 1) := by decide +kernel
theorem dX3_firstAbleFrom_2 : decode cX3_firstAbleFrom 2 = .ok (.iload_n 2, 1) := by decide +kernel
theorem dX3_firstAbleFrom_3 : decode cX3_firstAbleFrom 3 = .ok (.aload_n 0, 1) := by decide +kernel
theorem dX3_firstAbleFrom_4 : decode cX3_firstAbleFrom 4 = .ok (.getfield 66, 3) := by decide +kernel
theorem dX3_firstAbleFrom_7 : decode cX3_firstAbleFrom 7 = .ok (.arraylength, 1) := by decide +kernel
theorem dX3_firstAbleFrom_8 : decode cX3_firstAbleFrom 8 = .ok (.if_icmp .ge 58, 3) := by decide +kernel
theorem dX3_firstAbleFrom_11 : decode cX3_firstAbleFrom 11 = .ok (.iload_n 1, 1) := by decide +kernel
theorem dX3_firstAbleFrom_12 : decode cX3_firstAbleFrom 12 = .ok (.iload_n 2, 1) := by decide +kernel
theorem dX3_firstAbleFrom_13 : decode cX3_firstAbleFrom 13 = .ok (.iadd, 1) := by decide +kernel
theorem dX3_firstAbleFrom_14 : decode cX3_firstAbleFrom 14 = .ok (.istore_n 3, 1) := by decide +kernel
theorem dX3_firstAbleFrom_15 : decode cX3_firstAbleFrom 15 = .ok (.aload_n 0, 1) := by decide +kernel
theorem dX3_firstAbleFrom_16 : decode cX3_firstAbleFrom 16 = .ok (.iload_n 3, 1) := by decide +kernel
theorem dX3_firstAbleFrom_17 : decode cX3_firstAbleFrom 17 = .ok (.aload_n 0, 1) := by decide +kernel
theorem dX3_firstAbleFrom_18 : decode cX3_firstAbleFrom 18 = .ok (.getfield 66, 3) := by decide +kernel
theorem dX3_firstAbleFrom_21 : decode cX3_firstAbleFrom 21 = .ok (.arraylength, 1) := by decide +kernel
theorem dX3_firstAbleFrom_22 : decode cX3_firstAbleFrom 22 = .ok (.if_icmp .ge 7, 3) := by decide +kernel
theorem dX3_firstAbleFrom_25 : decode cX3_firstAbleFrom 25 = .ok (.iload_n 3, 1) := by decide +kernel
theorem dX3_firstAbleFrom_26 : decode cX3_firstAbleFrom 26 = .ok (.goto 10, 3) := by decide +kernel
theorem dX3_firstAbleFrom_29 : decode cX3_firstAbleFrom 29 = .ok (.iload_n 3, 1) := by decide +kernel
theorem dX3_firstAbleFrom_30 : decode cX3_firstAbleFrom 30 = .ok (.aload_n 0, 1) := by decide +kernel
theorem dX3_firstAbleFrom_31 : decode cX3_firstAbleFrom 31 = .ok (.getfield 66, 3) := by decide +kernel
theorem dX3_firstAbleFrom_34 : decode cX3_firstAbleFrom 34 = .ok (.arraylength, 1) := by decide +kernel
theorem dX3_firstAbleFrom_35 : decode cX3_firstAbleFrom 35 = .ok (.isub, 1) := by decide +kernel
theorem dX3_firstAbleFrom_36 : decode cX3_firstAbleFrom 36 = .ok (.invokevirtual 169, 3) := by decide +kernel
theorem dX3_firstAbleFrom_39 : decode cX3_firstAbleFrom 39 = .ok (.astore 4, 2) := by decide +kernel
theorem dX3_firstAbleFrom_41 : decode cX3_firstAbleFrom 41 = .ok (.aload 4, 2) := by decide +kernel
theorem dX3_firstAbleFrom_43 : decode cX3_firstAbleFrom 43 = .ok (.ifnull 17, 3) := by decide +kernel
theorem dX3_firstAbleFrom_46 : decode cX3_firstAbleFrom 46 = .ok (.aload 4, 2) := by decide +kernel
theorem dX3_firstAbleFrom_48 : decode cX3_firstAbleFrom 48 = .ok (.invokevirtual 184, 3) := by decide +kernel
theorem dX3_firstAbleFrom_51 : decode cX3_firstAbleFrom 51 = .ok (.ifCond .eq 9, 3) := by decide +kernel
theorem dX3_firstAbleFrom_54 : decode cX3_firstAbleFrom 54 = .ok (.aload 4, 2) := by decide +kernel
theorem dX3_firstAbleFrom_56 : decode cX3_firstAbleFrom 56 = .ok (.getfield 140, 3) := by decide +kernel
theorem dX3_firstAbleFrom_59 : decode cX3_firstAbleFrom 59 = .ok (.ireturn, 1) := by decide +kernel
theorem dX3_firstAbleFrom_60 : decode cX3_firstAbleFrom 60 = .ok (.iinc 2 1, 3) := by decide +kernel
theorem dX3_firstAbleFrom_63 : decode cX3_firstAbleFrom 63 = .ok (.goto (-61), 3) := by decide +kernel
theorem dX3_firstAbleFrom_66 : decode cX3_firstAbleFrom 66 = .ok (.iconst (-1), 1) := by decide +kernel
theorem dX3_firstAbleFrom_67 : decode cX3_firstAbleFrom 67 = .ok (.ireturn, 1) := by decide +kernel
theorem dX3_noteStalled_0 : decode cX3_noteStalled 0 = .ok (.aload_n 0, 1) := by decide +kernel
theorem dX3_noteStalled_1 : decode cX3_noteStalled 1 = .ok (.getfield 66, 3) := by decide +kernel
theorem dX3_noteStalled_4 : decode cX3_noteStalled 4 = .ok (.astore_n 1, 1) := by decide +kernel
theorem dX3_noteStalled_5 : decode cX3_noteStalled 5 = .ok (.aload_n 1, 1) := by decide +kernel
theorem dX3_noteStalled_6 : decode cX3_noteStalled 6 = .ok (.arraylength, 1) := by decide +kernel
theorem dX3_noteStalled_7 : decode cX3_noteStalled 7 = .ok (.istore_n 2, 1) := by decide +kernel
theorem dX3_noteStalled_8 : decode cX3_noteStalled 8 = .ok (.iconst 0, 1) := by decide +kernel
theorem dX3_noteStalled_9 : decode cX3_noteStalled 9 = .ok (.istore_n 3, 1) := by decide +kernel
theorem dX3_noteStalled_10 : decode cX3_noteStalled 10 = .ok (.iload_n 3, 1) := by decide +kernel
theorem dX3_noteStalled_11 : decode cX3_noteStalled 11 = .ok (.iload_n 2, 1) := by decide +kernel
theorem dX3_noteStalled_12 : decode cX3_noteStalled 12 = .ok (.if_icmp .ge 36, 3) := by decide +kernel
theorem dX3_noteStalled_15 : decode cX3_noteStalled 15 = .ok (.aload_n 1, 1) := by decide +kernel
theorem dX3_noteStalled_16 : decode cX3_noteStalled 16 = .ok (.iload_n 3, 1) := by decide +kernel
theorem dX3_noteStalled_17 : decode cX3_noteStalled 17 = .ok (.aaload, 1) := by decide +kernel
theorem dX3_noteStalled_18 : decode cX3_noteStalled 18 = .ok (.astore 4, 2) := by decide +kernel
theorem dX3_noteStalled_20 : decode cX3_noteStalled 20 = .ok (.aload 4, 2) := by decide +kernel
theorem dX3_noteStalled_22 : decode cX3_noteStalled 22 = .ok (.getfield 79, 3) := by decide +kernel
theorem dX3_noteStalled_25 : decode cX3_noteStalled 25 = .ok (.getfield 95, 3) := by decide +kernel
theorem dX3_noteStalled_28 : decode cX3_noteStalled 28 = .ok (.ifCond .le 14, 3) := by decide +kernel
theorem dX3_noteStalled_31 : decode cX3_noteStalled 31 = .ok (.aload_n 0, 1) := by decide +kernel
theorem dX3_noteStalled_32 : decode cX3_noteStalled 32 = .ok (.dup, 1) := by decide +kernel
theorem dX3_noteStalled_33 : decode cX3_noteStalled 33 = .ok (.getfield 46, 3) := by decide +kernel
theorem dX3_noteStalled_36 : decode cX3_noteStalled 36 = .ok (.iconst 1, 1) := by decide +kernel
theorem dX3_noteStalled_37 : decode cX3_noteStalled 37 = .ok (.iadd, 1) := by decide +kernel
theorem dX3_noteStalled_38 : decode cX3_noteStalled 38 = .ok (.putfield 46, 3) := by decide +kernel
theorem dX3_noteStalled_41 : decode cX3_noteStalled 41 = .ok (.return_, 1) := by decide +kernel
theorem dX3_noteStalled_42 : decode cX3_noteStalled 42 = .ok (.iinc 3 1, 3) := by decide +kernel
theorem dX3_noteStalled_45 : decode cX3_noteStalled 45 = .ok (.goto (-35), 3) := by decide +kernel
theorem dX3_noteStalled_48 : decode cX3_noteStalled 48 = .ok (.return_, 1) := by decide +kernel
theorem dX3_property_0 : decode cX3_property 0 = .ok (.iload_n 1, 1) := by decide +kernel
theorem dX3_property_1 : decode cX3_property 1 = .ok (.tableswitch 128 0 12 #[67, 72, 78, 83, 88, 93, 98, 128, 103, 108, 113, 118, 123], 67) := by decide +kernel
theorem dX3_property_68 : decode cX3_property 68 = .ok (.aload_n 0, 1) := by decide +kernel
theorem dX3_property_69 : decode cX3_property 69 = .ok (.getfield 34, 3) := by decide +kernel
theorem dX3_property_72 : decode cX3_property 72 = .ok (.ireturn, 1) := by decide +kernel
theorem dX3_property_73 : decode cX3_property 73 = .ok (.aload_n 0, 1) := by decide +kernel
theorem dX3_property_74 : decode cX3_property 74 = .ok (.getfield 66, 3) := by decide +kernel
theorem dX3_property_77 : decode cX3_property 77 = .ok (.arraylength, 1) := by decide +kernel
theorem dX3_property_78 : decode cX3_property 78 = .ok (.ireturn, 1) := by decide +kernel
theorem dX3_property_79 : decode cX3_property 79 = .ok (.aload_n 0, 1) := by decide +kernel
theorem dX3_property_80 : decode cX3_property 80 = .ok (.getfield 58, 3) := by decide +kernel
theorem dX3_property_83 : decode cX3_property 83 = .ok (.ireturn, 1) := by decide +kernel
theorem dX3_property_84 : decode cX3_property 84 = .ok (.aload_n 0, 1) := by decide +kernel
theorem dX3_property_85 : decode cX3_property 85 = .ok (.getfield 61, 3) := by decide +kernel
theorem dX3_property_88 : decode cX3_property 88 = .ok (.ireturn, 1) := by decide +kernel
theorem dX3_property_89 : decode cX3_property 89 = .ok (.aload_n 0, 1) := by decide +kernel
theorem dX3_property_90 : decode cX3_property 90 = .ok (.getfield 37, 3) := by decide +kernel
theorem dX3_property_93 : decode cX3_property 93 = .ok (.ireturn, 1) := by decide +kernel
theorem dX3_property_94 : decode cX3_property 94 = .ok (.aload_n 0, 1) := by decide +kernel
theorem dX3_property_95 : decode cX3_property 95 = .ok (.getfield 27, 3) := by decide +kernel
theorem dX3_property_98 : decode cX3_property 98 = .ok (.ireturn, 1) := by decide +kernel
theorem dX3_property_99 : decode cX3_property 99 = .ok (.aload_n 0, 1) := by decide +kernel
theorem dX3_property_100 : decode cX3_property 100 = .ok (.getfield 31, 3) := by decide +kernel
theorem dX3_property_103 : decode cX3_property 103 = .ok (.ireturn, 1) := by decide +kernel
theorem dX3_property_104 : decode cX3_property 104 = .ok (.aload_n 0, 1) := by decide +kernel
theorem dX3_property_105 : decode cX3_property 105 = .ok (.getfield 40, 3) := by decide +kernel
theorem dX3_property_108 : decode cX3_property 108 = .ok (.ireturn, 1) := by decide +kernel
theorem dX3_property_109 : decode cX3_property 109 = .ok (.aload_n 0, 1) := by decide +kernel
theorem dX3_property_110 : decode cX3_property 110 = .ok (.getfield 43, 3) := by decide +kernel
theorem dX3_property_113 : decode cX3_property 113 = .ok (.ireturn, 1) := by decide +kernel
theorem dX3_property_114 : decode cX3_property 114 = .ok (.aload_n 0, 1) := by decide +kernel
theorem dX3_property_115 : decode cX3_property 115 = .ok (.getfield 46, 3) := by decide +kernel
theorem dX3_property_118 : decode cX3_property 118 = .ok (.ireturn, 1) := by decide +kernel
theorem dX3_property_119 : decode cX3_property 119 = .ok (.aload_n 0, 1) := by decide +kernel
theorem dX3_property_120 : decode cX3_property 120 = .ok (.getfield 49, 3) := by decide +kernel
theorem dX3_property_123 : decode cX3_property 123 = .ok (.ireturn, 1) := by decide +kernel
theorem dX3_property_124 : decode cX3_property 124 = .ok (.aload_n 0, 1) := by decide +kernel
theorem dX3_property_125 : decode cX3_property 125 = .ok (.getfield 52, 3) := by decide +kernel
theorem dX3_property_128 : decode cX3_property 128 = .ok (.ireturn, 1) := by decide +kernel
theorem dX3_property_129 : decode cX3_property 129 = .ok (.iconst (-1), 1) := by decide +kernel
theorem dX3_property_130 : decode cX3_property 130 = .ok (.ireturn, 1) := by decide +kernel
theorem dX4_init_0 : decode cX4_init 0 = .ok (.aload_n 0, 1) := by decide +kernel
theorem dX4_init_1 : decode cX4_init 1 = .ok (.invokespecial 3, 3) := by decide +kernel
theorem dX4_init_4 : decode cX4_init 4 = .ok (.aload_n 0, 1) := by decide +kernel
theorem dX4_init_5 : decode cX4_init 5 = .ok (.iconst (-1), 1) := by decide +kernel
theorem dX4_init_6 : decode cX4_init 6 = .ok (.putfield 9, 3) := by decide +kernel
theorem dX4_init_9 : decode cX4_init 9 = .ok (.aload_n 0, 1) := by decide +kernel
theorem dX4_init_10 : decode cX4_init 10 = .ok (.iconst (-1), 1) := by decide +kernel
theorem dX4_init_11 : decode cX4_init 11 = .ok (.putfield 15, 3) := by decide +kernel
theorem dX4_init_14 : decode cX4_init 14 = .ok (.aload_n 0, 1) := by decide +kernel
theorem dX4_init_15 : decode cX4_init 15 = .ok (.iconst 0, 1) := by decide +kernel
theorem dX4_init_16 : decode cX4_init 16 = .ok (.putfield 18, 3) := by decide +kernel
theorem dX4_init_19 : decode cX4_init 19 = .ok (.aload_n 0, 1) := by decide +kernel
theorem dX4_init_20 : decode cX4_init 20 = .ok (.iconst 0, 1) := by decide +kernel
theorem dX4_init_21 : decode cX4_init 21 = .ok (.putfield 21, 3) := by decide +kernel
theorem dX4_init_24 : decode cX4_init 24 = .ok (.aload_n 0, 1) := by decide +kernel
theorem dX4_init_25 : decode cX4_init 25 = .ok (.iload_n 1, 1) := by decide +kernel
theorem dX4_init_26 : decode cX4_init 26 = .ok (.putfield 25, 3) := by decide +kernel
theorem dX4_init_29 : decode cX4_init 29 = .ok (.aload_n 0, 1) := by decide +kernel
theorem dX4_init_30 : decode cX4_init 30 = .ok (.aload_n 2, 1) := by decide +kernel
theorem dX4_init_31 : decode cX4_init 31 = .ok (.putfield 28, 3) := by decide +kernel
theorem dX4_init_34 : decode cX4_init 34 = .ok (.aload_n 0, 1) := by decide +kernel
theorem dX4_init_35 : decode cX4_init 35 = .ok (.aload_n 3, 1) := by decide +kernel
theorem dX4_init_36 : decode cX4_init 36 = .ok (.putfield 32, 3) := by decide +kernel
theorem dX4_init_39 : decode cX4_init 39 = .ok (.aload_n 0, 1) := by decide +kernel
theorem dX4_init_40 : decode cX4_init 40 = .ok (.iload 4, 2) := by decide +kernel
theorem dX4_init_42 : decode cX4_init 42 = .ok (.putfield 36, 3) := by decide +kernel
theorem dX4_init_45 : decode cX4_init 45 = .ok (.aload_n 0, 1) := by decide +kernel
theorem dX4_init_46 : decode cX4_init 46 = .ok (.aload_n 3, 1) := by decide +kernel
theorem dX4_init_47 : decode cX4_init 47 = .ok (.arraylength, 1) := by decide +kernel
theorem dX4_init_48 : decode cX4_init 48 = .ok (.ifCond .ne 7, 3) := by decide +kernel
theorem dX4_init_51 : decode cX4_init 51 = .ok (.iconst 1, 1) := by decide +kernel
theorem dX4_init_52 : decode cX4_init 52 = .ok (.goto 11, 3) := by decide +kernel
theorem dX4_init_55 : decode cX4_init 55 = .ok (.aload_n 3, 1) := by decide +kernel
theorem dX4_init_56 : decode cX4_init 56 = .ok (.arraylength, 1) := by decide +kernel
theorem dX4_init_57 : decode cX4_init 57 = .ok (.iconst 4, 1) := by decide +kernel
theorem dX4_init_58 : decode cX4_init 58 = .ok (.iadd, 1) := by decide +kernel
theorem dX4_init_59 : decode cX4_init 59 = .ok (.iconst 1, 1) := by decide +kernel
theorem dX4_init_60 : decode cX4_init 60 = .ok (.isub, 1) := by decide +kernel
theorem dX4_init_61 : decode cX4_init 61 = .ok (.iconst 4, 1) := by decide +kernel
theorem dX4_init_62 : decode cX4_init 62 = .ok (.idiv, 1) := by decide +kernel
theorem dX4_init_63 : decode cX4_init 63 = .ok (.putfield 39, 3) := by decide +kernel
theorem dX4_init_66 : decode cX4_init 66 = .ok (.return_, 1) := by decide +kernel
theorem dX4_canBeTaken_0 : decode cX4_canBeTaken 0 = .ok (.aload_n 0, 1) := by decide +kernel
theorem dX4_canBeTaken_1 : decode cX4_canBeTaken 1 = .ok (.getfield 15, 3) := by decide +kernel
theorem dX4_canBeTaken_4 : decode cX4_canBeTaken 4 = .ok (.iconst (-1), 1) := by decide +kernel
theorem dX4_canBeTaken_5 : decode cX4_canBeTaken 5 = .ok (.if_icmp .eq 14, 3) := by decide +kernel
theorem dX4_canBeTaken_8 : decode cX4_canBeTaken 8 = .ok (.aload_n 0, 1) := by decide +kernel
theorem dX4_canBeTaken_9 : decode cX4_canBeTaken 9 = .ok (.getfield 21, 3) := by decide +kernel
theorem dX4_canBeTaken_12 : decode cX4_canBeTaken 12 = .ok (.ifCond .ne 7, 3) := by decide +kernel
theorem dX4_canBeTaken_15 : decode cX4_canBeTaken 15 = .ok (.iconst 1, 1) := by decide +kernel
theorem dX4_canBeTaken_16 : decode cX4_canBeTaken 16 = .ok (.goto 4, 3) := by decide +kernel
theorem dX4_canBeTaken_19 : decode cX4_canBeTaken 19 = .ok (.iconst 0, 1) := by decide +kernel
theorem dX4_canBeTaken_20 : decode cX4_canBeTaken 20 = .ok (.ireturn, 1) := by decide +kernel
theorem dX4_property_0 : decode cX4_property 0 = .ok (.iload_n 1, 1) := by decide +kernel
theorem dX4_property_1 : decode cX4_property 1 = .ok (.tableswitch 99 0 7 #[47, 55, 61, 66, 71, 76, 81, 86], 47) := by decide +kernel
theorem dX4_property_48 : decode cX4_property 48 = .ok (.aload_n 0, 1) := by decide +kernel
theorem dX4_property_49 : decode cX4_property 49 = .ok (.getfield 28, 3) := by decide +kernel
theorem dX4_property_52 : decode cX4_property 52 = .ok (.getfield 42, 3) := by decide +kernel
theorem dX4_property_55 : decode cX4_property 55 = .ok (.ireturn, 1) := by decide +kernel
theorem dX4_property_56 : decode cX4_property 56 = .ok (.aload_n 0, 1) := by decide +kernel
theorem dX4_property_57 : decode cX4_property 57 = .ok (.getfield 32, 3) := by decide +kernel
theorem dX4_property_60 : decode cX4_property 60 = .ok (.arraylength, 1) := by decide +kernel
theorem dX4_property_61 : decode cX4_property 61 = .ok (.ireturn, 1) := by decide +kernel
theorem dX4_property_62 : decode cX4_property 62 = .ok (.aload_n 0, 1) := by decide +kernel
theorem dX4_property_63 : decode cX4_property 63 = .ok (.getfield 39, 3) := by decide +kernel
theorem dX4_property_66 : decode cX4_property 66 = .ok (.ireturn, 1) := by decide +kernel
theorem dX4_property_67 : decode cX4_property 67 = .ok (.aload_n 0, 1) := by decide +kernel
theorem dX4_property_68 : decode cX4_property 68 = .ok (.getfield 36, 3) := by decide +kernel
theorem dX4_property_71 : decode cX4_property 71 = .ok (.ireturn, 1) := by decide +kernel
theorem dX4_property_72 : decode cX4_property 72 = .ok (.aload_n 0, 1) := by decide +kernel
theorem dX4_property_73 : decode cX4_property 73 = .ok (.getfield 9, 3) := by decide +kernel
theorem dX4_property_76 : decode cX4_property 76 = .ok (.ireturn, 1) := by decide +kernel
theorem dX4_property_77 : decode cX4_property 77 = .ok (.aload_n 0, 1) := by decide +kernel
theorem dX4_property_78 : decode cX4_property 78 = .ok (.getfield 15, 3) := by decide +kernel
theorem dX4_property_81 : decode cX4_property 81 = .ok (.ireturn, 1) := by decide +kernel
theorem dX4_property_82 : decode cX4_property 82 = .ok (.aload_n 0, 1) := by decide +kernel
theorem dX4_property_83 : decode cX4_property 83 = .ok (.getfield 18, 3) := by decide +kernel
theorem dX4_property_86 : decode cX4_property 86 = .ok (.ireturn, 1) := by decide +kernel
theorem dX4_property_87 : decode cX4_property 87 = .ok (.aload_n 0, 1) := by decide +kernel
theorem dX4_property_88 : decode cX4_property 88 = .ok (.getfield 21, 3) := by decide +kernel
theorem dX4_property_91 : decode cX4_property 91 = .ok (.ifCond .eq 7, 3) := by decide +kernel
theorem dX4_property_94 : decode cX4_property 94 = .ok (.iconst 1, 1) := by decide +kernel
theorem dX4_property_95 : decode cX4_property 95 = .ok (.goto 4, 3) := by decide +kernel
theorem dX4_property_98 : decode cX4_property 98 = .ok (.iconst 0, 1) := by decide +kernel
theorem dX4_property_99 : decode cX4_property 99 = .ok (.ireturn, 1) := by decide +kernel
theorem dX4_property_100 : decode cX4_property 100 = .ok (.iconst (-1), 1) := by decide +kernel
theorem dX4_property_101 : decode cX4_property 101 = .ok (.ireturn, 1) := by decide +kernel
theorem dX5_init_0 : decode cX5_init 0 = .ok (.aload_n 0, 1) := by decide +kernel
theorem dX5_init_1 : decode cX5_init 1 = .ok (.invokespecial 3, 3) := by decide +kernel
theorem dX5_init_4 : decode cX5_init 4 = .ok (.aload_n 0, 1) := by decide +kernel
theorem dX5_init_5 : decode cX5_init 5 = .ok (.bipush 60, 2) := by decide +kernel
theorem dX5_init_7 : decode cX5_init 7 = .ok (.newarray .byte, 2) := by decide +kernel
theorem dX5_init_9 : decode cX5_init 9 = .ok (.putfield 9, 3) := by decide +kernel
theorem dX5_init_12 : decode cX5_init 12 = .ok (.aload_n 0, 1) := by decide +kernel
theorem dX5_init_13 : decode cX5_init 13 = .ok (.iconst 0, 1) := by decide +kernel
theorem dX5_init_14 : decode cX5_init 14 = .ok (.putfield 13, 3) := by decide +kernel
theorem dX5_init_17 : decode cX5_init 17 = .ok (.aload_n 0, 1) := by decide +kernel
theorem dX5_init_18 : decode cX5_init 18 = .ok (.iconst 0, 1) := by decide +kernel
theorem dX5_init_19 : decode cX5_init 19 = .ok (.newarray .byte, 2) := by decide +kernel
theorem dX5_init_21 : decode cX5_init 21 = .ok (.putfield 17, 3) := by decide +kernel
theorem dX5_init_24 : decode cX5_init 24 = .ok (.aload_n 0, 1) := by decide +kernel
theorem dX5_init_25 : decode cX5_init 25 = .ok (.new 20, 3) := by decide +kernel
theorem dX5_init_28 : decode cX5_init 28 = .ok (.dup, 1) := by decide +kernel
theorem dX5_init_29 : decode cX5_init 29 = .ok (.iconst 4, 1) := by decide +kernel
theorem dX5_init_30 : decode cX5_init 30 = .ok (.iconst 3, 1) := by decide +kernel
theorem dX5_init_31 : decode cX5_init 31 = .ok (.iconst 2, 1) := by decide +kernel
theorem dX5_init_32 : decode cX5_init 32 = .ok (.iconst 4, 1) := by decide +kernel
theorem dX5_init_33 : decode cX5_init 33 = .ok (.invokespecial 22, 3) := by decide +kernel
theorem dX5_init_36 : decode cX5_init 36 = .ok (.putfield 25, 3) := by decide +kernel
theorem dX5_init_39 : decode cX5_init 39 = .ok (.return_, 1) := by decide +kernel
theorem dX5_link_0 : decode cX5_link 0 = .ok (.iload_n 1, 1) := by decide +kernel
theorem dX5_link_1 : decode cX5_link 1 = .ok (.bipush 8, 2) := by decide +kernel
theorem dX5_link_3 : decode cX5_link 3 = .ok (.invokestatic 29, 3) := by decide +kernel
theorem dX5_link_6 : decode cX5_link 6 = .ok (.ifCond .ne 13, 3) := by decide +kernel
theorem dX5_link_9 : decode cX5_link 9 = .ok (.new 33, 3) := by decide +kernel
theorem dX5_link_12 : decode cX5_link 12 = .ok (.dup, 1) := by decide +kernel
theorem dX5_link_13 : decode cX5_link 13 = .ok (.ldc 35, 2) := by decide +kernel
theorem dX5_link_15 : decode cX5_link 15 = .ok (.invokespecial 37, 3) := by decide +kernel
theorem dX5_link_18 : decode cX5_link 18 = .ok (.athrow, 1) := by decide +kernel
theorem dX5_link_19 : decode cX5_link 19 = .ok (.iload_n 2, 1) := by decide +kernel
theorem dX5_link_20 : decode cX5_link 20 = .ok (.bipush 16, 2) := by decide +kernel
theorem dX5_link_22 : decode cX5_link 22 = .ok (.invokestatic 29, 3) := by decide +kernel
theorem dX5_link_25 : decode cX5_link 25 = .ok (.ifCond .eq 12, 3) := by decide +kernel
theorem dX5_link_28 : decode cX5_link 28 = .ok (.iload_n 3, 1) := by decide +kernel
theorem dX5_link_29 : decode cX5_link 29 = .ok (.bipush 16, 2) := by decide +kernel
theorem dX5_link_31 : decode cX5_link 31 = .ok (.invokestatic 29, 3) := by decide +kernel
theorem dX5_link_34 : decode cX5_link 34 = .ok (.ifCond .ne 13, 3) := by decide +kernel
theorem dX5_link_37 : decode cX5_link 37 = .ok (.new 33, 3) := by decide +kernel
theorem dX5_link_40 : decode cX5_link 40 = .ok (.dup, 1) := by decide +kernel
theorem dX5_link_41 : decode cX5_link 41 = .ok (.ldc 40, 2) := by decide +kernel
theorem dX5_link_43 : decode cX5_link 43 = .ok (.invokespecial 37, 3) := by decide +kernel
theorem dX5_link_46 : decode cX5_link 46 = .ok (.athrow, 1) := by decide +kernel
theorem dX5_link_47 : decode cX5_link 47 = .ok (.iload 4, 2) := by decide +kernel
theorem dX5_link_49 : decode cX5_link 49 = .ok (.bipush 16, 2) := by decide +kernel
theorem dX5_link_51 : decode cX5_link 51 = .ok (.invokestatic 29, 3) := by decide +kernel
theorem dX5_link_54 : decode cX5_link 54 = .ok (.ifCond .ne 13, 3) := by decide +kernel
theorem dX5_link_57 : decode cX5_link 57 = .ok (.new 33, 3) := by decide +kernel
theorem dX5_link_60 : decode cX5_link 60 = .ok (.dup, 1) := by decide +kernel
theorem dX5_link_61 : decode cX5_link 61 = .ok (.ldc 42, 2) := by decide +kernel
theorem dX5_link_63 : decode cX5_link 63 = .ok (.invokespecial 37, 3) := by decide +kernel
theorem dX5_link_66 : decode cX5_link 66 = .ok (.athrow, 1) := by decide +kernel
theorem dX5_link_67 : decode cX5_link 67 = .ok (.aload_n 0, 1) := by decide +kernel
theorem dX5_link_68 : decode cX5_link 68 = .ok (.new 20, 3) := by decide +kernel
theorem dX5_link_71 : decode cX5_link 71 = .ok (.dup, 1) := by decide +kernel
theorem dX5_link_72 : decode cX5_link 72 = .ok (.iload_n 1, 1) := by decide +kernel
theorem dX5_link_73 : decode cX5_link 73 = .ok (.iload_n 2, 1) := by decide +kernel
theorem dX5_link_74 : decode cX5_link 74 = .ok (.iload_n 3, 1) := by decide +kernel
theorem dX5_link_75 : decode cX5_link 75 = .ok (.iload 4, 2) := by decide +kernel
theorem dX5_link_77 : decode cX5_link 77 = .ok (.invokespecial 22, 3) := by decide +kernel
theorem dX5_link_80 : decode cX5_link 80 = .ok (.putfield 25, 3) := by decide +kernel
theorem dX5_link_83 : decode cX5_link 83 = .ok (.return_, 1) := by decide +kernel
theorem dX5_depth_0 : decode cX5_depth 0 = .ok (.aload_n 0, 1) := by decide +kernel
theorem dX5_depth_1 : decode cX5_depth 1 = .ok (.getfield 25, 3) := by decide +kernel
theorem dX5_depth_4 : decode cX5_depth 4 = .ok (.iload_n 1, 1) := by decide +kernel
theorem dX5_depth_5 : decode cX5_depth 5 = .ok (.invokevirtual 44, 3) := by decide +kernel
theorem dX5_depth_8 : decode cX5_depth 8 = .ok (.astore_n 3, 1) := by decide +kernel
theorem dX5_depth_9 : decode cX5_depth 9 = .ok (.aload_n 3, 1) := by decide +kernel
theorem dX5_depth_10 : decode cX5_depth 10 = .ok (.ifnull 12, 3) := by decide +kernel
theorem dX5_depth_13 : decode cX5_depth 13 = .ok (.iload_n 2, 1) := by decide +kernel
theorem dX5_depth_14 : decode cX5_depth 14 = .ok (.bipush 16, 2) := by decide +kernel
theorem dX5_depth_16 : decode cX5_depth 16 = .ok (.invokestatic 29, 3) := by decide +kernel
theorem dX5_depth_19 : decode cX5_depth 19 = .ok (.ifCond .ne 13, 3) := by decide +kernel
theorem dX5_depth_22 : decode cX5_depth 22 = .ok (.new 33, 3) := by decide +kernel
theorem dX5_depth_25 : decode cX5_depth 25 = .ok (.dup, 1) := by decide +kernel
theorem dX5_depth_26 : decode cX5_depth 26 = .ok (.ldc 48, 2) := by decide +kernel
theorem dX5_depth_28 : decode cX5_depth 28 = .ok (.invokespecial 37, 3) := by decide +kernel
theorem dX5_depth_31 : decode cX5_depth 31 = .ok (.athrow, 1) := by decide +kernel
theorem dX5_depth_32 : decode cX5_depth 32 = .ok (.aload_n 0, 1) := by decide +kernel
theorem dX5_depth_33 : decode cX5_depth 33 = .ok (.getfield 25, 3) := by decide +kernel
theorem dX5_depth_36 : decode cX5_depth 36 = .ok (.getfield 50, 3) := by decide +kernel
theorem dX5_depth_39 : decode cX5_depth 39 = .ok (.ifCond .eq 13, 3) := by decide +kernel
theorem dX5_depth_42 : decode cX5_depth 42 = .ok (.new 53, 3) := by decide +kernel
theorem dX5_depth_45 : decode cX5_depth 45 = .ok (.dup, 1) := by decide +kernel
theorem dX5_depth_46 : decode cX5_depth 46 = .ok (.ldc 55, 2) := by decide +kernel
theorem dX5_depth_48 : decode cX5_depth 48 = .ok (.invokespecial 57, 3) := by decide +kernel
theorem dX5_depth_51 : decode cX5_depth 51 = .ok (.athrow, 1) := by decide +kernel
theorem dX5_depth_52 : decode cX5_depth 52 = .ok (.aload_n 3, 1) := by decide +kernel
theorem dX5_depth_53 : decode cX5_depth 53 = .ok (.getfield 58, 3) := by decide +kernel
theorem dX5_depth_56 : decode cX5_depth 56 = .ok (.istore 4, 2) := by decide +kernel
theorem dX5_depth_58 : decode cX5_depth 58 = .ok (.aload_n 3, 1) := by decide +kernel
theorem dX5_depth_59 : decode cX5_depth 59 = .ok (.iload_n 2, 1) := by decide +kernel
theorem dX5_depth_60 : decode cX5_depth 60 = .ok (.putfield 58, 3) := by decide +kernel
theorem dX5_depth_63 : decode cX5_depth 63 = .ok (.aload_n 3, 1) := by decide +kernel
theorem dX5_depth_64 : decode cX5_depth 64 = .ok (.iload_n 2, 1) := by decide +kernel
theorem dX5_depth_65 : decode cX5_depth 65 = .ok (.putfield 63, 3) := by decide +kernel
theorem dX5_depth_68 : decode cX5_depth 68 = .ok (.iload 4, 2) := by decide +kernel
theorem dX5_depth_70 : decode cX5_depth 70 = .ok (.ireturn, 1) := by decide +kernel
theorem dX5_weight_0 : decode cX5_weight 0 = .ok (.aload_n 0, 1) := by decide +kernel
theorem dX5_weight_1 : decode cX5_weight 1 = .ok (.getfield 25, 3) := by decide +kernel
theorem dX5_weight_4 : decode cX5_weight 4 = .ok (.iload_n 1, 1) := by decide +kernel
theorem dX5_weight_5 : decode cX5_weight 5 = .ok (.invokevirtual 44, 3) := by decide +kernel
theorem dX5_weight_8 : decode cX5_weight 8 = .ok (.astore_n 3, 1) := by decide +kernel
theorem dX5_weight_9 : decode cX5_weight 9 = .ok (.aload_n 3, 1) := by decide +kernel
theorem dX5_weight_10 : decode cX5_weight 10 = .ok (.ifnull 12, 3) := by decide +kernel
theorem dX5_weight_13 : decode cX5_weight 13 = .ok (.iload_n 2, 1) := by decide +kernel
theorem dX5_weight_14 : decode cX5_weight 14 = .ok (.bipush 15, 2) := by decide +kernel
theorem dX5_weight_16 : decode cX5_weight 16 = .ok (.invokestatic 29, 3) := by decide +kernel
theorem dX5_weight_19 : decode cX5_weight 19 = .ok (.ifCond .ne 13, 3) := by decide +kernel
theorem dX5_weight_22 : decode cX5_weight 22 = .ok (.new 33, 3) := by decide +kernel
theorem dX5_weight_25 : decode cX5_weight 25 = .ok (.dup, 1) := by decide +kernel
theorem dX5_weight_26 : decode cX5_weight 26 = .ok (.ldc 66, 2) := by decide +kernel
theorem dX5_weight_28 : decode cX5_weight 28 = .ok (.invokespecial 37, 3) := by decide +kernel
theorem dX5_weight_31 : decode cX5_weight 31 = .ok (.athrow, 1) := by decide +kernel
theorem dX5_weight_32 : decode cX5_weight 32 = .ok (.aload_n 3, 1) := by decide +kernel
theorem dX5_weight_33 : decode cX5_weight 33 = .ok (.getfield 68, 3) := by decide +kernel
theorem dX5_weight_36 : decode cX5_weight 36 = .ok (.istore 4, 2) := by decide +kernel
theorem dX5_weight_38 : decode cX5_weight 38 = .ok (.aload_n 3, 1) := by decide +kernel
theorem dX5_weight_39 : decode cX5_weight 39 = .ok (.iload_n 2, 1) := by decide +kernel
theorem dX5_weight_40 : decode cX5_weight 40 = .ok (.putfield 68, 3) := by decide +kernel
theorem dX5_weight_43 : decode cX5_weight 43 = .ok (.iload 4, 2) := by decide +kernel
theorem dX5_weight_45 : decode cX5_weight 45 = .ok (.ireturn, 1) := by decide +kernel
theorem dX5_arbiter_0 : decode cX5_arbiter 0 = .ok (.iload_n 1, 1) := by decide +kernel
theorem dX5_arbiter_1 : decode cX5_arbiter 1 = .ok (.ifCond .lt 8, 3) := by decide +kernel
theorem dX5_arbiter_4 : decode cX5_arbiter 4 = .ok (.iload_n 1, 1) := by decide +kernel
theorem dX5_arbiter_5 : decode cX5_arbiter 5 = .ok (.iconst 3, 1) := by decide +kernel
theorem dX5_arbiter_6 : decode cX5_arbiter 6 = .ok (.if_icmp .le 13, 3) := by decide +kernel
theorem dX5_arbiter_9 : decode cX5_arbiter 9 = .ok (.new 33, 3) := by decide +kernel
theorem dX5_arbiter_12 : decode cX5_arbiter 12 = .ok (.dup, 1) := by decide +kernel
theorem dX5_arbiter_13 : decode cX5_arbiter 13 = .ok (.ldc 71, 2) := by decide +kernel
theorem dX5_arbiter_15 : decode cX5_arbiter 15 = .ok (.invokespecial 37, 3) := by decide +kernel
theorem dX5_arbiter_18 : decode cX5_arbiter 18 = .ok (.athrow, 1) := by decide +kernel
theorem dX5_arbiter_19 : decode cX5_arbiter 19 = .ok (.aload_n 0, 1) := by decide +kernel
theorem dX5_arbiter_20 : decode cX5_arbiter 20 = .ok (.getfield 25, 3) := by decide +kernel
theorem dX5_arbiter_23 : decode cX5_arbiter 23 = .ok (.getfield 73, 3) := by decide +kernel
theorem dX5_arbiter_26 : decode cX5_arbiter 26 = .ok (.istore_n 2, 1) := by decide +kernel
theorem dX5_arbiter_27 : decode cX5_arbiter 27 = .ok (.aload_n 0, 1) := by decide +kernel
theorem dX5_arbiter_28 : decode cX5_arbiter 28 = .ok (.getfield 25, 3) := by decide +kernel
theorem dX5_arbiter_31 : decode cX5_arbiter 31 = .ok (.iload_n 1, 1) := by decide +kernel
theorem dX5_arbiter_32 : decode cX5_arbiter 32 = .ok (.putfield 73, 3) := by decide +kernel
theorem dX5_arbiter_35 : decode cX5_arbiter 35 = .ok (.iload_n 2, 1) := by decide +kernel
theorem dX5_arbiter_36 : decode cX5_arbiter 36 = .ok (.ireturn, 1) := by decide +kernel
theorem dX5_mask_0 : decode cX5_mask 0 = .ok (.aload_n 0, 1) := by decide +kernel
theorem dX5_mask_1 : decode cX5_mask 1 = .ok (.getfield 25, 3) := by decide +kernel
theorem dX5_mask_4 : decode cX5_mask 4 = .ok (.iload_n 1, 1) := by decide +kernel
theorem dX5_mask_5 : decode cX5_mask 5 = .ok (.invokevirtual 76, 3) := by decide +kernel
theorem dX5_mask_8 : decode cX5_mask 8 = .ok (.ifCond .ne 13, 3) := by decide +kernel
theorem dX5_mask_11 : decode cX5_mask 11 = .ok (.new 80, 3) := by decide +kernel
theorem dX5_mask_14 : decode cX5_mask 14 = .ok (.dup, 1) := by decide +kernel
theorem dX5_mask_15 : decode cX5_mask 15 = .ok (.ldc 82, 2) := by decide +kernel
theorem dX5_mask_17 : decode cX5_mask 17 = .ok (.invokespecial 84, 3) := by decide +kernel
theorem dX5_mask_20 : decode cX5_mask 20 = .ok (.athrow, 1) := by decide +kernel
theorem dX5_mask_21 : decode cX5_mask 21 = .ok (.aload_n 0, 1) := by decide +kernel
theorem dX5_mask_22 : decode cX5_mask 22 = .ok (.getfield 25, 3) := by decide +kernel
theorem dX5_mask_25 : decode cX5_mask 25 = .ok (.getfield 85, 3) := by decide +kernel
theorem dX5_mask_28 : decode cX5_mask 28 = .ok (.ireturn, 1) := by decide +kernel
theorem dX5_free_0 : decode cX5_free 0 = .ok (.aload_n 0, 1) := by decide +kernel
theorem dX5_free_1 : decode cX5_free 1 = .ok (.getfield 25, 3) := by decide +kernel
theorem dX5_free_4 : decode cX5_free 4 = .ok (.getfield 85, 3) := by decide +kernel
theorem dX5_free_7 : decode cX5_free 7 = .ok (.istore_n 1, 1) := by decide +kernel
theorem dX5_free_8 : decode cX5_free 8 = .ok (.aload_n 0, 1) := by decide +kernel
theorem dX5_free_9 : decode cX5_free 9 = .ok (.getfield 25, 3) := by decide +kernel
theorem dX5_free_12 : decode cX5_free 12 = .ok (.iconst 0, 1) := by decide +kernel
theorem dX5_free_13 : decode cX5_free 13 = .ok (.putfield 85, 3) := by decide +kernel
theorem dX5_free_16 : decode cX5_free 16 = .ok (.iload_n 1, 1) := by decide +kernel
theorem dX5_free_17 : decode cX5_free 17 = .ok (.ireturn, 1) := by decide +kernel
theorem dX5_feed_0 : decode cX5_feed 0 = .ok (.iload_n 1, 1) := by decide +kernel
theorem dX5_feed_1 : decode cX5_feed 1 = .ok (.bipush 16, 2) := by decide +kernel
theorem dX5_feed_3 : decode cX5_feed 3 = .ok (.invokestatic 29, 3) := by decide +kernel
theorem dX5_feed_6 : decode cX5_feed 6 = .ok (.ifCond .ne 13, 3) := by decide +kernel
theorem dX5_feed_9 : decode cX5_feed 9 = .ok (.new 33, 3) := by decide +kernel
theorem dX5_feed_12 : decode cX5_feed 12 = .ok (.dup, 1) := by decide +kernel
theorem dX5_feed_13 : decode cX5_feed 13 = .ok (.ldc 88, 2) := by decide +kernel
theorem dX5_feed_15 : decode cX5_feed 15 = .ok (.invokespecial 37, 3) := by decide +kernel
theorem dX5_feed_18 : decode cX5_feed 18 = .ok (.athrow, 1) := by decide +kernel
theorem dX5_feed_19 : decode cX5_feed 19 = .ok (.aload_n 0, 1) := by decide +kernel
theorem dX5_feed_20 : decode cX5_feed 20 = .ok (.getfield 13, 3) := by decide +kernel
theorem dX5_feed_23 : decode cX5_feed 23 = .ok (.iload_n 1, 1) := by decide +kernel
theorem dX5_feed_24 : decode cX5_feed 24 = .ok (.iadd, 1) := by decide +kernel
theorem dX5_feed_25 : decode cX5_feed 25 = .ok (.bipush 60, 2) := by decide +kernel
theorem dX5_feed_27 : decode cX5_feed 27 = .ok (.if_icmp .le 13, 3) := by decide +kernel
theorem dX5_feed_30 : decode cX5_feed 30 = .ok (.new 80, 3) := by decide +kernel
theorem dX5_feed_33 : decode cX5_feed 33 = .ok (.dup, 1) := by decide +kernel
theorem dX5_feed_34 : decode cX5_feed 34 = .ok (.ldc 90, 2) := by decide +kernel
theorem dX5_feed_36 : decode cX5_feed 36 = .ok (.invokespecial 84, 3) := by decide +kernel
theorem dX5_feed_39 : decode cX5_feed 39 = .ok (.athrow, 1) := by decide +kernel
theorem dX5_feed_40 : decode cX5_feed 40 = .ok (.iconst 0, 1) := by decide +kernel
theorem dX5_feed_41 : decode cX5_feed 41 = .ok (.istore 6, 2) := by decide +kernel
theorem dX5_feed_43 : decode cX5_feed 43 = .ok (.iload 6, 2) := by decide +kernel
theorem dX5_feed_45 : decode cX5_feed 45 = .ok (.iload_n 1, 1) := by decide +kernel
theorem dX5_feed_46 : decode cX5_feed 46 = .ok (.if_icmp .ge 41, 3) := by decide +kernel
theorem dX5_feed_49 : decode cX5_feed 49 = .ok (.iload 6, 2) := by decide +kernel
theorem dX5_feed_51 : decode cX5_feed 51 = .ok (.bipush 8, 2) := by decide +kernel
theorem dX5_feed_53 : decode cX5_feed 53 = .ok (.if_icmp .ge 7, 3) := by decide +kernel
theorem dX5_feed_56 : decode cX5_feed 56 = .ok (.lload_n 2, 1) := by decide +kernel
theorem dX5_feed_57 : decode cX5_feed 57 = .ok (.goto 5, 3) := by decide +kernel
theorem dX5_feed_60 : decode cX5_feed 60 = .ok (.lload 4, 2) := by decide +kernel
theorem dX5_feed_62 : decode cX5_feed 62 = .ok (.lstore 7, 2) := by decide +kernel
theorem dX5_feed_64 : decode cX5_feed 64 = .ok (.aload_n 0, 1) := by decide +kernel
theorem dX5_feed_65 : decode cX5_feed 65 = .ok (.lload 7, 2) := by decide +kernel
theorem dX5_feed_67 : decode cX5_feed 67 = .ok (.bipush 8, 2) := by decide +kernel
theorem dX5_feed_69 : decode cX5_feed 69 = .ok (.iload 6, 2) := by decide +kernel
theorem dX5_feed_71 : decode cX5_feed 71 = .ok (.bipush 7, 2) := by decide +kernel
theorem dX5_feed_73 : decode cX5_feed 73 = .ok (.iand, 1) := by decide +kernel
theorem dX5_feed_74 : decode cX5_feed 74 = .ok (.imul, 1) := by decide +kernel
theorem dX5_feed_75 : decode cX5_feed 75 = .ok (.lushr, 1) := by decide +kernel
theorem dX5_feed_76 : decode cX5_feed 76 = .ok (.l2i, 1) := by decide +kernel
theorem dX5_feed_77 : decode cX5_feed 77 = .ok (.i2b, 1) := by decide +kernel
theorem dX5_feed_78 : decode cX5_feed 78 = .ok (.invokevirtual 92, 3) := by decide +kernel
theorem dX5_feed_81 : decode cX5_feed 81 = .ok (.iinc 6 1, 3) := by decide +kernel
theorem dX5_feed_84 : decode cX5_feed 84 = .ok (.goto (-41), 3) := by decide +kernel
theorem dX5_feed_87 : decode cX5_feed 87 = .ok (.aload_n 0, 1) := by decide +kernel
theorem dX5_feed_88 : decode cX5_feed 88 = .ok (.getfield 13, 3) := by decide +kernel
theorem dX5_feed_91 : decode cX5_feed 91 = .ok (.ireturn, 1) := by decide +kernel
theorem dX5_offer_0 : decode cX5_offer 0 = .ok (.aload_n 0, 1) := by decide +kernel
theorem dX5_offer_1 : decode cX5_offer 1 = .ok (.getfield 13, 3) := by decide +kernel
theorem dX5_offer_4 : decode cX5_offer 4 = .ok (.istore_n 2, 1) := by decide +kernel
theorem dX5_offer_5 : decode cX5_offer 5 = .ok (.aload_n 0, 1) := by decide +kernel
theorem dX5_offer_6 : decode cX5_offer 6 = .ok (.iconst 0, 1) := by decide +kernel
theorem dX5_offer_7 : decode cX5_offer 7 = .ok (.putfield 13, 3) := by decide +kernel
theorem dX5_offer_10 : decode cX5_offer 10 = .ok (.aload_n 0, 1) := by decide +kernel
theorem dX5_offer_11 : decode cX5_offer 11 = .ok (.getfield 25, 3) := by decide +kernel
theorem dX5_offer_14 : decode cX5_offer 14 = .ok (.iload_n 1, 1) := by decide +kernel
theorem dX5_offer_15 : decode cX5_offer 15 = .ok (.invokevirtual 44, 3) := by decide +kernel
theorem dX5_offer_18 : decode cX5_offer 18 = .ok (.astore_n 3, 1) := by decide +kernel
theorem dX5_offer_19 : decode cX5_offer 19 = .ok (.aload_n 3, 1) := by decide +kernel
theorem dX5_offer_20 : decode cX5_offer 20 = .ok (.ifnonnull 13, 3) := by decide +kernel
theorem dX5_offer_23 : decode cX5_offer 23 = .ok (.new 33, 3) := by decide +kernel
theorem dX5_offer_26 : decode cX5_offer 26 = .ok (.dup, 1) := by decide +kernel
theorem dX5_offer_27 : decode cX5_offer 27 = .ok (.ldc 96, 2) := by decide +kernel
theorem dX5_offer_29 : decode cX5_offer 29 = .ok (.invokespecial 37, 3) := by decide +kernel
theorem dX5_offer_32 : decode cX5_offer 32 = .ok (.athrow, 1) := by decide +kernel
theorem dX5_offer_33 : decode cX5_offer 33 = .ok (.aload_n 0, 1) := by decide +kernel
theorem dX5_offer_34 : decode cX5_offer 34 = .ok (.getfield 25, 3) := by decide +kernel
theorem dX5_offer_37 : decode cX5_offer 37 = .ok (.getfield 98, 3) := by decide +kernel
theorem dX5_offer_40 : decode cX5_offer 40 = .ok (.sipush 250, 3) := by decide +kernel
theorem dX5_offer_43 : decode cX5_offer 43 = .ok (.if_icmp .lt 13, 3) := by decide +kernel
theorem dX5_offer_46 : decode cX5_offer 46 = .ok (.new 80, 3) := by decide +kernel
theorem dX5_offer_49 : decode cX5_offer 49 = .ok (.dup, 1) := by decide +kernel
theorem dX5_offer_50 : decode cX5_offer 50 = .ok (.ldc 101, 2) := by decide +kernel
theorem dX5_offer_52 : decode cX5_offer 52 = .ok (.invokespecial 84, 3) := by decide +kernel
theorem dX5_offer_55 : decode cX5_offer 55 = .ok (.athrow, 1) := by decide +kernel
theorem dX5_offer_56 : decode cX5_offer 56 = .ok (.aload_n 0, 1) := by decide +kernel
theorem dX5_offer_57 : decode cX5_offer 57 = .ok (.getfield 25, 3) := by decide +kernel
theorem dX5_offer_60 : decode cX5_offer 60 = .ok (.aload_n 3, 1) := by decide +kernel
theorem dX5_offer_61 : decode cX5_offer 61 = .ok (.aload_n 0, 1) := by decide +kernel
theorem dX5_offer_62 : decode cX5_offer 62 = .ok (.getfield 9, 3) := by decide +kernel
theorem dX5_offer_65 : decode cX5_offer 65 = .ok (.iload_n 2, 1) := by decide +kernel
theorem dX5_offer_66 : decode cX5_offer 66 = .ok (.invokestatic 103, 3) := by decide +kernel
theorem dX5_offer_69 : decode cX5_offer 69 = .ok (.invokevirtual 109, 3) := by decide +kernel
theorem dX5_offer_72 : decode cX5_offer 72 = .ok (.ireturn, 1) := by decide +kernel
theorem dX5_run_0 : decode cX5_run 0 = .ok (.iload_n 1, 1) := by decide +kernel
theorem dX5_run_1 : decode cX5_run 1 = .ok (.sipush 5000, 3) := by decide +kernel
theorem dX5_run_4 : decode cX5_run 4 = .ok (.invokestatic 29, 3) := by decide +kernel
theorem dX5_run_7 : decode cX5_run 7 = .ok (.ifCond .ne 13, 3) := by decide +kernel
theorem dX5_run_10 : decode cX5_run 10 = .ok (.new 33, 3) := by decide +kernel
theorem dX5_run_13 : decode cX5_run 13 = .ok (.dup, 1) := by decide +kernel
theorem dX5_run_14 : decode cX5_run 14 = .ok (.ldc 113, 2) := by decide +kernel
theorem dX5_run_16 : decode cX5_run 16 = .ok (.invokespecial 37, 3) := by decide +kernel
theorem dX5_run_19 : decode cX5_run 19 = .ok (.athrow, 1) := by decide +kernel
theorem dX5_run_20 : decode cX5_run 20 = .ok (.iconst 0, 1) := by decide +kernel
theorem dX5_run_21 : decode cX5_run 21 = .ok (.istore_n 2, 1) := by decide +kernel
theorem dX5_run_22 : decode cX5_run 22 = .ok (.iconst 0, 1) := by decide +kernel
theorem dX5_run_23 : decode cX5_run 23 = .ok (.istore_n 3, 1) := by decide +kernel
theorem dX5_run_24 : decode cX5_run 24 = .ok (.iload_n 3, 1) := by decide +kernel
theorem dX5_run_25 : decode cX5_run 25 = .ok (.iload_n 1, 1) := by decide +kernel
theorem dX5_run_26 : decode cX5_run 26 = .ok (.if_icmp .ge 19, 3) := by decide +kernel
theorem dX5_run_29 : decode cX5_run 29 = .ok (.iload_n 2, 1) := by decide +kernel
theorem dX5_run_30 : decode cX5_run 30 = .ok (.aload_n 0, 1) := by decide +kernel
theorem dX5_run_31 : decode cX5_run 31 = .ok (.getfield 25, 3) := by decide +kernel
theorem dX5_run_34 : decode cX5_run 34 = .ok (.invokevirtual 115, 3) := by decide +kernel
theorem dX5_run_37 : decode cX5_run 37 = .ok (.iadd, 1) := by decide +kernel
theorem dX5_run_38 : decode cX5_run 38 = .ok (.istore_n 2, 1) := by decide +kernel
theorem dX5_run_39 : decode cX5_run 39 = .ok (.iinc 3 1, 3) := by decide +kernel
theorem dX5_run_42 : decode cX5_run 42 = .ok (.goto (-18), 3) := by decide +kernel
theorem dX5_run_45 : decode cX5_run 45 = .ok (.iload_n 2, 1) := by decide +kernel
theorem dX5_run_46 : decode cX5_run 46 = .ok (.ireturn, 1) := by decide +kernel
theorem dX5_take_0 : decode cX5_take 0 = .ok (.aload_n 0, 1) := by decide +kernel
theorem dX5_take_1 : decode cX5_take 1 = .ok (.getfield 25, 3) := by decide +kernel
theorem dX5_take_4 : decode cX5_take 4 = .ok (.iload_n 1, 1) := by decide +kernel
theorem dX5_take_5 : decode cX5_take 5 = .ok (.invokevirtual 44, 3) := by decide +kernel
theorem dX5_take_8 : decode cX5_take 8 = .ok (.astore_n 2, 1) := by decide +kernel
theorem dX5_take_9 : decode cX5_take 9 = .ok (.aload_n 2, 1) := by decide +kernel
theorem dX5_take_10 : decode cX5_take 10 = .ok (.ifnonnull 13, 3) := by decide +kernel
theorem dX5_take_13 : decode cX5_take 13 = .ok (.new 33, 3) := by decide +kernel
theorem dX5_take_16 : decode cX5_take 16 = .ok (.dup, 1) := by decide +kernel
theorem dX5_take_17 : decode cX5_take 17 = .ok (.ldc 96, 2) := by decide +kernel
theorem dX5_take_19 : decode cX5_take 19 = .ok (.invokespecial 37, 3) := by decide +kernel
theorem dX5_take_22 : decode cX5_take 22 = .ok (.athrow, 1) := by decide +kernel
theorem dX5_take_23 : decode cX5_take 23 = .ok (.aload_n 0, 1) := by decide +kernel
theorem dX5_take_24 : decode cX5_take 24 = .ok (.getfield 25, 3) := by decide +kernel
theorem dX5_take_27 : decode cX5_take 27 = .ok (.aload_n 2, 1) := by decide +kernel
theorem dX5_take_28 : decode cX5_take 28 = .ok (.invokevirtual 119, 3) := by decide +kernel
theorem dX5_take_31 : decode cX5_take 31 = .ok (.astore_n 3, 1) := by decide +kernel
theorem dX5_take_32 : decode cX5_take 32 = .ok (.aload_n 3, 1) := by decide +kernel
theorem dX5_take_33 : decode cX5_take 33 = .ok (.ifnonnull 5, 3) := by decide +kernel
theorem dX5_take_36 : decode cX5_take 36 = .ok (.iconst (-1), 1) := by decide +kernel
theorem dX5_take_37 : decode cX5_take 37 = .ok (.ireturn, 1) := by decide +kernel
theorem dX5_take_38 : decode cX5_take 38 = .ok (.aload_n 3, 1) := by decide +kernel
theorem dX5_take_39 : decode cX5_take 39 = .ok (.iconst 1, 1) := by decide +kernel
theorem dX5_take_40 : decode cX5_take 40 = .ok (.putfield 123, 3) := by decide +kernel
theorem dX5_take_43 : decode cX5_take 43 = .ok (.aload_n 2, 1) := by decide +kernel
theorem dX5_take_44 : decode cX5_take 44 = .ok (.dup, 1) := by decide +kernel
theorem dX5_take_45 : decode cX5_take 45 = .ok (.getfield 129, 3) := by decide +kernel
theorem dX5_take_48 : decode cX5_take 48 = .ok (.iconst 1, 1) := by decide +kernel
theorem dX5_take_49 : decode cX5_take 49 = .ok (.iadd, 1) := by decide +kernel
theorem dX5_take_50 : decode cX5_take 50 = .ok (.putfield 129, 3) := by decide +kernel
theorem dX5_take_53 : decode cX5_take 53 = .ok (.aload_n 0, 1) := by decide +kernel
theorem dX5_take_54 : decode cX5_take 54 = .ok (.aload_n 3, 1) := by decide +kernel
theorem dX5_take_55 : decode cX5_take 55 = .ok (.getfield 132, 3) := by decide +kernel
theorem dX5_take_58 : decode cX5_take 58 = .ok (.putfield 17, 3) := by decide +kernel
theorem dX5_take_61 : decode cX5_take 61 = .ok (.aload_n 3, 1) := by decide +kernel
theorem dX5_take_62 : decode cX5_take 62 = .ok (.getfield 135, 3) := by decide +kernel
theorem dX5_take_65 : decode cX5_take 65 = .ok (.ireturn, 1) := by decide +kernel
theorem dX5_answer_0 : decode cX5_answer 0 = .ok (.iload_n 1, 1) := by decide +kernel
theorem dX5_answer_1 : decode cX5_answer 1 = .ok (.ifCond .lt 25, 3) := by decide +kernel
theorem dX5_answer_4 : decode cX5_answer 4 = .ok (.iload_n 1, 1) := by decide +kernel
theorem dX5_answer_5 : decode cX5_answer 5 = .ok (.aload_n 0, 1) := by decide +kernel
theorem dX5_answer_6 : decode cX5_answer 6 = .ok (.getfield 17, 3) := by decide +kernel
theorem dX5_answer_9 : decode cX5_answer 9 = .ok (.arraylength, 1) := by decide +kernel
theorem dX5_answer_10 : decode cX5_answer 10 = .ok (.if_icmp .ge 16, 3) := by decide +kernel
theorem dX5_answer_13 : decode cX5_answer 13 = .ok (.aload_n 0, 1) := by decide +kernel
theorem dX5_answer_14 : decode cX5_answer 14 = .ok (.getfield 17, 3) := by decide +kernel
theorem dX5_answer_17 : decode cX5_answer 17 = .ok (.iload_n 1, 1) := by decide +kernel
theorem dX5_answer_18 : decode cX5_answer 18 = .ok (.baload, 1) := by decide +kernel
theorem dX5_answer_19 : decode cX5_answer 19 = .ok (.sipush 255, 3) := by decide +kernel
theorem dX5_answer_22 : decode cX5_answer 22 = .ok (.iand, 1) := by decide +kernel
theorem dX5_answer_23 : decode cX5_answer 23 = .ok (.goto 4, 3) := by decide +kernel
theorem dX5_answer_26 : decode cX5_answer 26 = .ok (.iconst (-1), 1) := by decide +kernel
theorem dX5_answer_27 : decode cX5_answer 27 = .ok (.ireturn, 1) := by decide +kernel
theorem dX5_look_0 : decode cX5_look 0 = .ok (.aload_n 0, 1) := by decide +kernel
theorem dX5_look_1 : decode cX5_look 1 = .ok (.getfield 25, 3) := by decide +kernel
theorem dX5_look_4 : decode cX5_look 4 = .ok (.iload_n 1, 1) := by decide +kernel
theorem dX5_look_5 : decode cX5_look 5 = .ok (.invokevirtual 44, 3) := by decide +kernel
theorem dX5_look_8 : decode cX5_look 8 = .ok (.astore_n 3, 1) := by decide +kernel
theorem dX5_look_9 : decode cX5_look 9 = .ok (.aload_n 3, 1) := by decide +kernel
theorem dX5_look_10 : decode cX5_look 10 = .ok (.ifnonnull 7, 3) := by decide +kernel
theorem dX5_look_13 : decode cX5_look 13 = .ok (.iconst (-1), 1) := by decide +kernel
theorem dX5_look_14 : decode cX5_look 14 = .ok (.goto 8, 3) := by decide +kernel
theorem dX5_look_17 : decode cX5_look 17 = .ok (.aload_n 3, 1) := by decide +kernel
theorem dX5_look_18 : decode cX5_look 18 = .ok (.iload_n 2, 1) := by decide +kernel
theorem dX5_look_19 : decode cX5_look 19 = .ok (.invokevirtual 138, 3) := by decide +kernel
theorem dX5_look_22 : decode cX5_look 22 = .ok (.ireturn, 1) := by decide +kernel
theorem dX5_packet_0 : decode cX5_packet 0 = .ok (.aload_n 0, 1) := by decide +kernel
theorem dX5_packet_1 : decode cX5_packet 1 = .ok (.getfield 25, 3) := by decide +kernel
theorem dX5_packet_4 : decode cX5_packet 4 = .ok (.iload_n 1, 1) := by decide +kernel
theorem dX5_packet_5 : decode cX5_packet 5 = .ok (.invokevirtual 142, 3) := by decide +kernel
theorem dX5_packet_8 : decode cX5_packet 8 = .ok (.astore_n 3, 1) := by decide +kernel
theorem dX5_packet_9 : decode cX5_packet 9 = .ok (.aload_n 3, 1) := by decide +kernel
theorem dX5_packet_10 : decode cX5_packet 10 = .ok (.ifnonnull 7, 3) := by decide +kernel
theorem dX5_packet_13 : decode cX5_packet 13 = .ok (.iconst (-1), 1) := by decide +kernel
theorem dX5_packet_14 : decode cX5_packet 14 = .ok (.goto 8, 3) := by decide +kernel
theorem dX5_packet_17 : decode cX5_packet 17 = .ok (.aload_n 3, 1) := by decide +kernel
theorem dX5_packet_18 : decode cX5_packet 18 = .ok (.iload_n 2, 1) := by decide +kernel
theorem dX5_packet_19 : decode cX5_packet 19 = .ok (.invokevirtual 146, 3) := by decide +kernel
theorem dX5_packet_22 : decode cX5_packet 22 = .ok (.ireturn, 1) := by decide +kernel
theorem dX5_wire_0 : decode cX5_wire 0 = .ok (.aload_n 0, 1) := by decide +kernel
theorem dX5_wire_1 : decode cX5_wire 1 = .ok (.getfield 25, 3) := by decide +kernel
theorem dX5_wire_4 : decode cX5_wire 4 = .ok (.iload_n 1, 1) := by decide +kernel
theorem dX5_wire_5 : decode cX5_wire 5 = .ok (.invokevirtual 147, 3) := by decide +kernel
theorem dX5_wire_8 : decode cX5_wire 8 = .ok (.astore_n 3, 1) := by decide +kernel
theorem dX5_wire_9 : decode cX5_wire 9 = .ok (.aload_n 3, 1) := by decide +kernel
theorem dX5_wire_10 : decode cX5_wire 10 = .ok (.ifnonnull 7, 3) := by decide +kernel
theorem dX5_wire_13 : decode cX5_wire 13 = .ok (.iconst (-1), 1) := by decide +kernel
theorem dX5_wire_14 : decode cX5_wire 14 = .ok (.goto 8, 3) := by decide +kernel
theorem dX5_wire_17 : decode cX5_wire 17 = .ok (.aload_n 3, 1) := by decide +kernel
theorem dX5_wire_18 : decode cX5_wire 18 = .ok (.iload_n 2, 1) := by decide +kernel
theorem dX5_wire_19 : decode cX5_wire 19 = .ok (.invokevirtual 151, 3) := by decide +kernel
theorem dX5_wire_22 : decode cX5_wire 22 = .ok (.ireturn, 1) := by decide +kernel
theorem dX5_buffer_0 : decode cX5_buffer 0 = .ok (.aload_n 0, 1) := by decide +kernel
theorem dX5_buffer_1 : decode cX5_buffer 1 = .ok (.getfield 25, 3) := by decide +kernel
theorem dX5_buffer_4 : decode cX5_buffer 4 = .ok (.iload_n 1, 1) := by decide +kernel
theorem dX5_buffer_5 : decode cX5_buffer 5 = .ok (.invokevirtual 44, 3) := by decide +kernel
theorem dX5_buffer_8 : decode cX5_buffer 8 = .ok (.astore 4, 2) := by decide +kernel
theorem dX5_buffer_10 : decode cX5_buffer 10 = .ok (.aload 4, 2) := by decide +kernel
theorem dX5_buffer_12 : decode cX5_buffer 12 = .ok (.ifnonnull 5, 3) := by decide +kernel
theorem dX5_buffer_15 : decode cX5_buffer 15 = .ok (.iconst (-1), 1) := by decide +kernel
theorem dX5_buffer_16 : decode cX5_buffer 16 = .ok (.ireturn, 1) := by decide +kernel
theorem dX5_buffer_17 : decode cX5_buffer 17 = .ok (.aload 4, 2) := by decide +kernel
theorem dX5_buffer_19 : decode cX5_buffer 19 = .ok (.getfield 154, 3) := by decide +kernel
theorem dX5_buffer_22 : decode cX5_buffer 22 = .ok (.iload_n 2, 1) := by decide +kernel
theorem dX5_buffer_23 : decode cX5_buffer 23 = .ok (.invokevirtual 158, 3) := by decide +kernel
theorem dX5_buffer_26 : decode cX5_buffer 26 = .ok (.astore 5, 2) := by decide +kernel
theorem dX5_buffer_28 : decode cX5_buffer 28 = .ok (.aload 5, 2) := by decide +kernel
theorem dX5_buffer_30 : decode cX5_buffer 30 = .ok (.ifnonnull 7, 3) := by decide +kernel
theorem dX5_buffer_33 : decode cX5_buffer 33 = .ok (.iconst (-1), 1) := by decide +kernel
theorem dX5_buffer_34 : decode cX5_buffer 34 = .ok (.goto 9, 3) := by decide +kernel
theorem dX5_buffer_37 : decode cX5_buffer 37 = .ok (.aload 5, 2) := by decide +kernel
theorem dX5_buffer_39 : decode cX5_buffer 39 = .ok (.iload_n 3, 1) := by decide +kernel
theorem dX5_buffer_40 : decode cX5_buffer 40 = .ok (.invokevirtual 151, 3) := by decide +kernel
theorem dX5_buffer_43 : decode cX5_buffer 43 = .ok (.ireturn, 1) := by decide +kernel
theorem dX5_back_0 : decode cX5_back 0 = .ok (.aload_n 0, 1) := by decide +kernel
theorem dX5_back_1 : decode cX5_back 1 = .ok (.getfield 25, 3) := by decide +kernel
theorem dX5_back_4 : decode cX5_back 4 = .ok (.iload_n 1, 1) := by decide +kernel
theorem dX5_back_5 : decode cX5_back 5 = .ok (.invokevirtual 44, 3) := by decide +kernel
theorem dX5_back_8 : decode cX5_back 8 = .ok (.astore_n 3, 1) := by decide +kernel
theorem dX5_back_9 : decode cX5_back 9 = .ok (.aload_n 3, 1) := by decide +kernel
theorem dX5_back_10 : decode cX5_back 10 = .ok (.ifnull 13, 3) := by decide +kernel
theorem dX5_back_13 : decode cX5_back 13 = .ok (.iload_n 2, 1) := by decide +kernel
theorem dX5_back_14 : decode cX5_back 14 = .ok (.ifCond .lt 9, 3) := by decide +kernel
theorem dX5_back_17 : decode cX5_back 17 = .ok (.iload_n 2, 1) := by decide +kernel
theorem dX5_back_18 : decode cX5_back 18 = .ok (.bipush 16, 2) := by decide +kernel
theorem dX5_back_20 : decode cX5_back 20 = .ok (.if_icmp .lt 5, 3) := by decide +kernel
theorem dX5_back_23 : decode cX5_back 23 = .ok (.iconst 0, 1) := by decide +kernel
theorem dX5_back_24 : decode cX5_back 24 = .ok (.ireturn, 1) := by decide +kernel
theorem dX5_back_25 : decode cX5_back 25 = .ok (.aload_n 3, 1) := by decide +kernel
theorem dX5_back_26 : decode cX5_back 26 = .ok (.getfield 163, 3) := by decide +kernel
theorem dX5_back_29 : decode cX5_back 29 = .ok (.aload_n 0, 1) := by decide +kernel
theorem dX5_back_30 : decode cX5_back 30 = .ok (.getfield 25, 3) := by decide +kernel
theorem dX5_back_33 : decode cX5_back 33 = .ok (.getfield 50, 3) := by decide +kernel
theorem dX5_back_36 : decode cX5_back 36 = .ok (.iload_n 2, 1) := by decide +kernel
theorem dX5_back_37 : decode cX5_back 37 = .ok (.iadd, 1) := by decide +kernel
theorem dX5_back_38 : decode cX5_back 38 = .ok (.bipush 15, 2) := by decide +kernel
theorem dX5_back_40 : decode cX5_back 40 = .ok (.iand, 1) := by decide +kernel
theorem dX5_back_41 : decode cX5_back 41 = .ok (.iaload, 1) := by decide +kernel
theorem dX5_back_42 : decode cX5_back 42 = .ok (.ireturn, 1) := by decide +kernel
theorem dX5_count_0 : decode cX5_count 0 = .ok (.iload_n 1, 1) := by decide +kernel
theorem dX5_count_1 : decode cX5_count 1 = .ok (.bipush 7, 2) := by decide +kernel
theorem dX5_count_3 : decode cX5_count 3 = .ok (.if_icmp .ne 10, 3) := by decide +kernel
theorem dX5_count_6 : decode cX5_count 6 = .ok (.aload_n 0, 1) := by decide +kernel
theorem dX5_count_7 : decode cX5_count 7 = .ok (.getfield 13, 3) := by decide +kernel
theorem dX5_count_10 : decode cX5_count 10 = .ok (.goto 11, 3) := by decide +kernel
theorem dX5_count_13 : decode cX5_count 13 = .ok (.aload_n 0, 1) := by decide +kernel
theorem dX5_count_14 : decode cX5_count 14 = .ok (.getfield 25, 3) := by decide +kernel
theorem dX5_count_17 : decode cX5_count 17 = .ok (.iload_n 1, 1) := by decide +kernel
theorem dX5_count_18 : decode cX5_count 18 = .ok (.invokevirtual 167, 3) := by decide +kernel
theorem dX5_count_21 : decode cX5_count 21 = .ok (.ireturn, 1) := by decide +kernel
theorem dX5_isWithin_0 : decode cX5_isWithin 0 = .ok (.iload_n 0, 1) := by decide +kernel
theorem dX5_isWithin_1 : decode cX5_isWithin 1 = .ok (.iconst 1, 1) := by decide +kernel
theorem dX5_isWithin_2 : decode cX5_isWithin 2 = .ok (.if_icmp .lt 12, 3) := by decide +kernel
theorem dX5_isWithin_5 : decode cX5_isWithin 5 = .ok (.iload_n 0, 1) := by decide +kernel
theorem dX5_isWithin_6 : decode cX5_isWithin 6 = .ok (.iload_n 1, 1) := by decide +kernel
theorem dX5_isWithin_7 : decode cX5_isWithin 7 = .ok (.if_icmp .gt 7, 3) := by decide +kernel
theorem dX5_isWithin_10 : decode cX5_isWithin 10 = .ok (.iconst 1, 1) := by decide +kernel
theorem dX5_isWithin_11 : decode cX5_isWithin 11 = .ok (.goto 4, 3) := by decide +kernel
theorem dX5_isWithin_14 : decode cX5_isWithin 14 = .ok (.iconst 0, 1) := by decide +kernel
theorem dX5_isWithin_15 : decode cX5_isWithin 15 = .ok (.ireturn, 1) := by decide +kernel
theorem dX5_putOnTape_0 : decode cX5_putOnTape 0 = .ok (.aload_n 0, 1) := by decide +kernel
theorem dX5_putOnTape_1 : decode cX5_putOnTape 1 = .ok (.getfield 13, 3) := by decide +kernel
theorem dX5_putOnTape_4 : decode cX5_putOnTape 4 = .ok (.ifCond .lt 35, 3) := by decide +kernel
theorem dX5_putOnTape_7 : decode cX5_putOnTape 7 = .ok (.aload_n 0, 1) := by decide +kernel
theorem dX5_putOnTape_8 : decode cX5_putOnTape 8 = .ok (.getfield 13, 3) := by decide +kernel
theorem dX5_putOnTape_11 : decode cX5_putOnTape 11 = .ok (.aload_n 0, 1) := by decide +kernel
theorem dX5_putOnTape_12 : decode cX5_putOnTape 12 = .ok (.getfield 9, 3) := by decide +kernel
theorem dX5_putOnTape_15 : decode cX5_putOnTape 15 = .ok (.arraylength, 1) := by decide +kernel
theorem dX5_putOnTape_16 : decode cX5_putOnTape 16 = .ok (.if_icmp .ge 23, 3) := by decide +kernel
theorem dX5_putOnTape_19 : decode cX5_putOnTape 19 = .ok (.aload_n 0, 1) := by decide +kernel
theorem dX5_putOnTape_20 : decode cX5_putOnTape 20 = .ok (.getfield 9, 3) := by decide +kernel
theorem dX5_putOnTape_23 : decode cX5_putOnTape 23 = .ok (.aload_n 0, 1) := by decide +kernel
theorem dX5_putOnTape_24 : decode cX5_putOnTape 24 = .ok (.getfield 13, 3) := by decide +kernel
theorem dX5_putOnTape_27 : decode cX5_putOnTape 27 = .ok (.iload_n 1, 1) := by decide +kernel
theorem dX5_putOnTape_28 : decode cX5_putOnTape 28 = .ok (.bastore, 1) := by decide +kernel
theorem dX5_putOnTape_29 : decode cX5_putOnTape 29 = .ok (.aload_n 0, 1) := by decide +kernel
theorem dX5_putOnTape_30 : decode cX5_putOnTape 30 = .ok (.dup, 1) := by decide +kernel
theorem dX5_putOnTape_31 : decode cX5_putOnTape 31 = .ok (.getfield 13, 3) := by decide +kernel
theorem dX5_putOnTape_34 : decode cX5_putOnTape 34 = .ok (.iconst 1, 1) := by decide +kernel
theorem dX5_putOnTape_35 : decode cX5_putOnTape 35 = .ok (.iadd, 1) := by decide +kernel
theorem dX5_putOnTape_36 : decode cX5_putOnTape 36 = .ok (.putfield 13, 3) := by decide +kernel
theorem dX5_putOnTape_39 : decode cX5_putOnTape 39 = .ok (.return_, 1) := by decide +kernel
theorem dJ9_floorMod_7cf53_0 : decode cJ9_floorMod_7cf53 0 = .ok (.iload_n 0, 1) := by decide +kernel
theorem dJ9_floorMod_7cf53_1 : decode cJ9_floorMod_7cf53 1 = .ok (.iload_n 1, 1) := by decide +kernel
theorem dJ9_floorMod_7cf53_2 : decode cJ9_floorMod_7cf53 2 = .ok (.irem, 1) := by decide +kernel
theorem dJ9_floorMod_7cf53_3 : decode cJ9_floorMod_7cf53 3 = .ok (.istore_n 2, 1) := by decide +kernel
theorem dJ9_floorMod_7cf53_4 : decode cJ9_floorMod_7cf53 4 = .ok (.iload_n 0, 1) := by decide +kernel
theorem dJ9_floorMod_7cf53_5 : decode cJ9_floorMod_7cf53 5 = .ok (.iload_n 1, 1) := by decide +kernel
theorem dJ9_floorMod_7cf53_6 : decode cJ9_floorMod_7cf53 6 = .ok (.ixor, 1) := by decide +kernel
theorem dJ9_floorMod_7cf53_7 : decode cJ9_floorMod_7cf53 7 = .ok (.ifCond .ge 11, 3) := by decide +kernel
theorem dJ9_floorMod_7cf53_10 : decode cJ9_floorMod_7cf53 10 = .ok (.iload_n 2, 1) := by decide +kernel
theorem dJ9_floorMod_7cf53_11 : decode cJ9_floorMod_7cf53 11 = .ok (.ifCond .eq 7, 3) := by decide +kernel
theorem dJ9_floorMod_7cf53_14 : decode cJ9_floorMod_7cf53 14 = .ok (.iload_n 2, 1) := by decide +kernel
theorem dJ9_floorMod_7cf53_15 : decode cJ9_floorMod_7cf53 15 = .ok (.iload_n 1, 1) := by decide +kernel
theorem dJ9_floorMod_7cf53_16 : decode cJ9_floorMod_7cf53 16 = .ok (.iadd, 1) := by decide +kernel
theorem dJ9_floorMod_7cf53_17 : decode cJ9_floorMod_7cf53 17 = .ok (.ireturn, 1) := by decide +kernel
theorem dJ9_floorMod_7cf53_18 : decode cJ9_floorMod_7cf53 18 = .ok (.iload_n 2, 1) := by decide +kernel
theorem dJ9_floorMod_7cf53_19 : decode cJ9_floorMod_7cf53 19 = .ok (.ireturn, 1) := by decide +kernel
theorem dJ9_max_7cf53_0 : decode cJ9_max_7cf53 0 = .ok (.iload_n 0, 1) := by decide +kernel
theorem dJ9_max_7cf53_1 : decode cJ9_max_7cf53 1 = .ok (.iload_n 1, 1) := by decide +kernel
theorem dJ9_max_7cf53_2 : decode cJ9_max_7cf53 2 = .ok (.if_icmp .lt 7, 3) := by decide +kernel
theorem dJ9_max_7cf53_5 : decode cJ9_max_7cf53 5 = .ok (.iload_n 0, 1) := by decide +kernel
theorem dJ9_max_7cf53_6 : decode cJ9_max_7cf53 6 = .ok (.goto 4, 3) := by decide +kernel
theorem dJ9_max_7cf53_9 : decode cJ9_max_7cf53 9 = .ok (.iload_n 1, 1) := by decide +kernel
theorem dJ9_max_7cf53_10 : decode cJ9_max_7cf53 10 = .ok (.ireturn, 1) := by decide +kernel
theorem dJ9_min_7cf53_0 : decode cJ9_min_7cf53 0 = .ok (.iload_n 0, 1) := by decide +kernel
theorem dJ9_min_7cf53_1 : decode cJ9_min_7cf53 1 = .ok (.iload_n 1, 1) := by decide +kernel
theorem dJ9_min_7cf53_2 : decode cJ9_min_7cf53 2 = .ok (.if_icmp .gt 7, 3) := by decide +kernel
theorem dJ9_min_7cf53_5 : decode cJ9_min_7cf53 5 = .ok (.iload_n 0, 1) := by decide +kernel
theorem dJ9_min_7cf53_6 : decode cJ9_min_7cf53 6 = .ok (.goto 4, 3) := by decide +kernel
theorem dJ9_min_7cf53_9 : decode cJ9_min_7cf53 9 = .ok (.iload_n 1, 1) := by decide +kernel
theorem dJ9_min_7cf53_10 : decode cJ9_min_7cf53 10 = .ok (.ireturn, 1) := by decide +kernel
theorem dJ7_copyOf_9075b_0 : decode cJ7_copyOf_9075b 0 = .ok (.iload_n 1, 1) := by decide +kernel
theorem dJ7_copyOf_9075b_1 : decode cJ7_copyOf_9075b 1 = .ok (.aload_n 0, 1) := by decide +kernel
theorem dJ7_copyOf_9075b_2 : decode cJ7_copyOf_9075b 2 = .ok (.arraylength, 1) := by decide +kernel
theorem dJ7_copyOf_9075b_3 : decode cJ7_copyOf_9075b 3 = .ok (.if_icmp .ne 11, 3) := by decide +kernel
theorem dJ7_copyOf_9075b_6 : decode cJ7_copyOf_9075b 6 = .ok (.aload_n 0, 1) := by decide +kernel
theorem dJ7_copyOf_9075b_7 : decode cJ7_copyOf_9075b 7 = .ok (.invokevirtual 310, 3) := by decide +kernel
theorem dJ7_copyOf_9075b_10 : decode cJ7_copyOf_9075b 10 = .ok (.checkcast 311, 3) := by decide +kernel
theorem dJ7_copyOf_9075b_13 : decode cJ7_copyOf_9075b 13 = .ok (.areturn, 1) := by decide +kernel
theorem dJ7_copyOf_9075b_14 : decode cJ7_copyOf_9075b 14 = .ok (.iload_n 1, 1) := by decide +kernel
theorem dJ7_copyOf_9075b_15 : decode cJ7_copyOf_9075b 15 = .ok (.newarray .byte, 2) := by decide +kernel
theorem dJ7_copyOf_9075b_17 : decode cJ7_copyOf_9075b 17 = .ok (.astore_n 2, 1) := by decide +kernel
theorem dJ7_copyOf_9075b_18 : decode cJ7_copyOf_9075b 18 = .ok (.aload_n 0, 1) := by decide +kernel
theorem dJ7_copyOf_9075b_19 : decode cJ7_copyOf_9075b 19 = .ok (.iconst 0, 1) := by decide +kernel
theorem dJ7_copyOf_9075b_20 : decode cJ7_copyOf_9075b 20 = .ok (.aload_n 2, 1) := by decide +kernel
theorem dJ7_copyOf_9075b_21 : decode cJ7_copyOf_9075b 21 = .ok (.iconst 0, 1) := by decide +kernel
theorem dJ7_copyOf_9075b_22 : decode cJ7_copyOf_9075b 22 = .ok (.aload_n 0, 1) := by decide +kernel
theorem dJ7_copyOf_9075b_23 : decode cJ7_copyOf_9075b 23 = .ok (.arraylength, 1) := by decide +kernel
theorem dJ7_copyOf_9075b_24 : decode cJ7_copyOf_9075b 24 = .ok (.iload_n 1, 1) := by decide +kernel
theorem dJ7_copyOf_9075b_25 : decode cJ7_copyOf_9075b 25 = .ok (.invokestatic 304, 3) := by decide +kernel
theorem dJ7_copyOf_9075b_28 : decode cJ7_copyOf_9075b 28 = .ok (.invokestatic 150, 3) := by decide +kernel
theorem dJ7_copyOf_9075b_31 : decode cJ7_copyOf_9075b 31 = .ok (.aload_n 2, 1) := by decide +kernel
theorem dJ7_copyOf_9075b_32 : decode cJ7_copyOf_9075b 32 = .ok (.areturn, 1) := by decide +kernel
end
section
theorem dX6_init_0 : decode cX6_init 0 = .ok (.aload_n 0, 1) := by decide +kernel
theorem dX6_init_1 : decode cX6_init 1 = .ok (.invokespecial 3, 3) := by decide +kernel
theorem dX6_init_4 : decode cX6_init 4 = .ok (.aload_n 0, 1) := by decide +kernel
theorem dX6_init_5 : decode cX6_init 5 = .ok (.bipush 8, 2) := by decide +kernel
theorem dX6_init_7 : decode cX6_init 7 = .ok (.newarray .int, 2) := by decide +kernel
theorem dX6_init_9 : decode cX6_init 9 = .ok (.putfield 9, 3) := by decide +kernel
theorem dX6_init_12 : decode cX6_init 12 = .ok (.aload_n 0, 1) := by decide +kernel
theorem dX6_init_13 : decode cX6_init 13 = .ok (.bipush 8, 2) := by decide +kernel
theorem dX6_init_15 : decode cX6_init 15 = .ok (.newarray .int, 2) := by decide +kernel
theorem dX6_init_17 : decode cX6_init 17 = .ok (.putfield 13, 3) := by decide +kernel
theorem dX6_init_20 : decode cX6_init 20 = .ok (.aload_n 0, 1) := by decide +kernel
theorem dX6_init_21 : decode cX6_init 21 = .ok (.bipush 32, 2) := by decide +kernel
theorem dX6_init_23 : decode cX6_init 23 = .ok (.newarray .int, 2) := by decide +kernel
theorem dX6_init_25 : decode cX6_init 25 = .ok (.putfield 16, 3) := by decide +kernel
theorem dX6_init_28 : decode cX6_init 28 = .ok (.aload_n 0, 1) := by decide +kernel
theorem dX6_init_29 : decode cX6_init 29 = .ok (.sipush 250, 3) := by decide +kernel
theorem dX6_init_32 : decode cX6_init 32 = .ok (.newarray .int, 2) := by decide +kernel
theorem dX6_init_34 : decode cX6_init 34 = .ok (.putfield 19, 3) := by decide +kernel
theorem dX6_init_37 : decode cX6_init 37 = .ok (.aload_n 0, 1) := by decide +kernel
theorem dX6_init_38 : decode cX6_init 38 = .ok (.sipush 250, 3) := by decide +kernel
theorem dX6_init_41 : decode cX6_init 41 = .ok (.newarray .int, 2) := by decide +kernel
theorem dX6_init_43 : decode cX6_init 43 = .ok (.putfield 22, 3) := by decide +kernel
theorem dX6_init_46 : decode cX6_init 46 = .ok (.aload_n 0, 1) := by decide +kernel
theorem dX6_init_47 : decode cX6_init 47 = .ok (.sipush 15000, 3) := by decide +kernel
theorem dX6_init_50 : decode cX6_init 50 = .ok (.newarray .byte, 2) := by decide +kernel
theorem dX6_init_52 : decode cX6_init 52 = .ok (.putfield 25, 3) := by decide +kernel
theorem dX6_init_55 : decode cX6_init 55 = .ok (.aload_n 0, 1) := by decide +kernel
theorem dX6_init_56 : decode cX6_init 56 = .ok (.sipush 250, 3) := by decide +kernel
theorem dX6_init_59 : decode cX6_init 59 = .ok (.newarray .int, 2) := by decide +kernel
theorem dX6_init_61 : decode cX6_init 61 = .ok (.putfield 29, 3) := by decide +kernel
theorem dX6_init_64 : decode cX6_init 64 = .ok (.aload_n 0, 1) := by decide +kernel
theorem dX6_init_65 : decode cX6_init 65 = .ok (.sipush 250, 3) := by decide +kernel
theorem dX6_init_68 : decode cX6_init 68 = .ok (.newarray .int, 2) := by decide +kernel
theorem dX6_init_70 : decode cX6_init 70 = .ok (.putfield 32, 3) := by decide +kernel
theorem dX6_init_73 : decode cX6_init 73 = .ok (.aload_n 0, 1) := by decide +kernel
theorem dX6_init_74 : decode cX6_init 74 = .ok (.sipush 250, 3) := by decide +kernel
theorem dX6_init_77 : decode cX6_init 77 = .ok (.newarray .int, 2) := by decide +kernel
theorem dX6_init_79 : decode cX6_init 79 = .ok (.putfield 35, 3) := by decide +kernel
theorem dX6_init_82 : decode cX6_init 82 = .ok (.aload_n 0, 1) := by decide +kernel
theorem dX6_init_83 : decode cX6_init 83 = .ok (.sipush 250, 3) := by decide +kernel
theorem dX6_init_86 : decode cX6_init 86 = .ok (.newarray .int, 2) := by decide +kernel
theorem dX6_init_88 : decode cX6_init 88 = .ok (.putfield 38, 3) := by decide +kernel
theorem dX6_init_91 : decode cX6_init 91 = .ok (.aload_n 0, 1) := by decide +kernel
theorem dX6_init_92 : decode cX6_init 92 = .ok (.sipush 250, 3) := by decide +kernel
theorem dX6_init_95 : decode cX6_init 95 = .ok (.newarray .boolean, 2) := by decide +kernel
theorem dX6_init_97 : decode cX6_init 97 = .ok (.putfield 41, 3) := by decide +kernel
theorem dX6_init_100 : decode cX6_init 100 = .ok (.aload_n 0, 1) := by decide +kernel
theorem dX6_init_101 : decode cX6_init 101 = .ok (.sipush 250, 3) := by decide +kernel
theorem dX6_init_104 : decode cX6_init 104 = .ok (.newarray .boolean, 2) := by decide +kernel
theorem dX6_init_106 : decode cX6_init 106 = .ok (.putfield 45, 3) := by decide +kernel
theorem dX6_init_109 : decode cX6_init 109 = .ok (.aload_n 0, 1) := by decide +kernel
theorem dX6_init_110 : decode cX6_init 110 = .ok (.sipush 32000, 3) := by decide +kernel
theorem dX6_init_113 : decode cX6_init 113 = .ok (.newarray .int, 2) := by decide +kernel
theorem dX6_init_115 : decode cX6_init 115 = .ok (.putfield 48, 3) := by decide +kernel
theorem dX6_init_118 : decode cX6_init 118 = .ok (.aload_n 0, 1) := by decide +kernel
theorem dX6_init_119 : decode cX6_init 119 = .ok (.sipush 32000, 3) := by decide +kernel
theorem dX6_init_122 : decode cX6_init 122 = .ok (.newarray .int, 2) := by decide +kernel
theorem dX6_init_124 : decode cX6_init 124 = .ok (.putfield 51, 3) := by decide +kernel
theorem dX6_init_127 : decode cX6_init 127 = .ok (.aload_n 0, 1) := by decide +kernel
theorem dX6_init_128 : decode cX6_init 128 = .ok (.sipush 32000, 3) := by decide +kernel
theorem dX6_init_131 : decode cX6_init 131 = .ok (.newarray .int, 2) := by decide +kernel
theorem dX6_init_133 : decode cX6_init 133 = .ok (.putfield 54, 3) := by decide +kernel
theorem dX6_init_136 : decode cX6_init 136 = .ok (.aload_n 0, 1) := by decide +kernel
theorem dX6_init_137 : decode cX6_init 137 = .ok (.sipush 32000, 3) := by decide +kernel
theorem dX6_init_140 : decode cX6_init 140 = .ok (.newarray .int, 2) := by decide +kernel
theorem dX6_init_142 : decode cX6_init 142 = .ok (.putfield 57, 3) := by decide +kernel
theorem dX6_init_145 : decode cX6_init 145 = .ok (.aload_n 0, 1) := by decide +kernel
theorem dX6_init_146 : decode cX6_init 146 = .ok (.bipush 8, 2) := by decide +kernel
theorem dX6_init_148 : decode cX6_init 148 = .ok (.newarray .int, 2) := by decide +kernel
theorem dX6_init_150 : decode cX6_init 150 = .ok (.putfield 60, 3) := by decide +kernel
theorem dX6_init_153 : decode cX6_init 153 = .ok (.aload_n 0, 1) := by decide +kernel
theorem dX6_init_154 : decode cX6_init 154 = .ok (.bipush 8, 2) := by decide +kernel
theorem dX6_init_156 : decode cX6_init 156 = .ok (.newarray .int, 2) := by decide +kernel
theorem dX6_init_158 : decode cX6_init 158 = .ok (.putfield 63, 3) := by decide +kernel
theorem dX6_init_161 : decode cX6_init 161 = .ok (.aload_n 0, 1) := by decide +kernel
theorem dX6_init_162 : decode cX6_init 162 = .ok (.bipush 8, 2) := by decide +kernel
theorem dX6_init_164 : decode cX6_init 164 = .ok (.newarray .int, 2) := by decide +kernel
theorem dX6_init_166 : decode cX6_init 166 = .ok (.putfield 66, 3) := by decide +kernel
theorem dX6_init_169 : decode cX6_init 169 = .ok (.aload_n 0, 1) := by decide +kernel
theorem dX6_init_170 : decode cX6_init 170 = .ok (.bipush 8, 2) := by decide +kernel
theorem dX6_init_172 : decode cX6_init 172 = .ok (.newarray .int, 2) := by decide +kernel
theorem dX6_init_174 : decode cX6_init 174 = .ok (.putfield 69, 3) := by decide +kernel
theorem dX6_init_177 : decode cX6_init 177 = .ok (.aload_n 0, 1) := by decide +kernel
theorem dX6_init_178 : decode cX6_init 178 = .ok (.bipush 8, 2) := by decide +kernel
theorem dX6_init_180 : decode cX6_init 180 = .ok (.newarray .int, 2) := by decide +kernel
theorem dX6_init_182 : decode cX6_init 182 = .ok (.putfield 72, 3) := by decide +kernel
theorem dX6_init_185 : decode cX6_init 185 = .ok (.aload_n 0, 1) := by decide +kernel
theorem dX6_init_186 : decode cX6_init 186 = .ok (.bipush 8, 2) := by decide +kernel
theorem dX6_init_188 : decode cX6_init 188 = .ok (.newarray .int, 2) := by decide +kernel
theorem dX6_init_190 : decode cX6_init 190 = .ok (.putfield 75, 3) := by decide +kernel
theorem dX6_init_193 : decode cX6_init 193 = .ok (.aload_n 0, 1) := by decide +kernel
theorem dX6_init_194 : decode cX6_init 194 = .ok (.bipush 60, 2) := by decide +kernel
theorem dX6_init_196 : decode cX6_init 196 = .ok (.newarray .byte, 2) := by decide +kernel
theorem dX6_init_198 : decode cX6_init 198 = .ok (.putfield 78, 3) := by decide +kernel
theorem dX6_init_201 : decode cX6_init 201 = .ok (.aload_n 0, 1) := by decide +kernel
theorem dX6_init_202 : decode cX6_init 202 = .ok (.bipush 60, 2) := by decide +kernel
theorem dX6_init_204 : decode cX6_init 204 = .ok (.newarray .byte, 2) := by decide +kernel
theorem dX6_init_206 : decode cX6_init 206 = .ok (.putfield 81, 3) := by decide +kernel
theorem dX6_init_209 : decode cX6_init 209 = .ok (.aload_n 0, 1) := by decide +kernel
theorem dX6_init_210 : decode cX6_init 210 = .ok (.iconst 4, 1) := by decide +kernel
theorem dX6_init_211 : decode cX6_init 211 = .ok (.iconst 3, 1) := by decide +kernel
theorem dX6_init_212 : decode cX6_init 212 = .ok (.iconst 2, 1) := by decide +kernel
theorem dX6_init_213 : decode cX6_init 213 = .ok (.iconst 4, 1) := by decide +kernel
theorem dX6_init_214 : decode cX6_init 214 = .ok (.invokevirtual 84, 3) := by decide +kernel
theorem dX6_init_217 : decode cX6_init 217 = .ok (.return_, 1) := by decide +kernel
theorem dX6_thrown_0 : decode cX6_thrown 0 = .ok (.aload_n 0, 1) := by decide +kernel
theorem dX6_thrown_1 : decode cX6_thrown 1 = .ok (.getfield 88, 3) := by decide +kernel
theorem dX6_thrown_4 : decode cX6_thrown 4 = .ok (.ireturn, 1) := by decide +kernel
theorem dX6_isIn_0 : decode cX6_isIn 0 = .ok (.iload_n 0, 1) := by decide +kernel
theorem dX6_isIn_1 : decode cX6_isIn 1 = .ok (.iload_n 1, 1) := by decide +kernel
theorem dX6_isIn_2 : decode cX6_isIn 2 = .ok (.if_icmp .lt 12, 3) := by decide +kernel
theorem dX6_isIn_5 : decode cX6_isIn 5 = .ok (.iload_n 0, 1) := by decide +kernel
theorem dX6_isIn_6 : decode cX6_isIn 6 = .ok (.iload_n 2, 1) := by decide +kernel
theorem dX6_isIn_7 : decode cX6_isIn 7 = .ok (.if_icmp .gt 7, 3) := by decide +kernel
theorem dX6_isIn_10 : decode cX6_isIn 10 = .ok (.iconst 1, 1) := by decide +kernel
theorem dX6_isIn_11 : decode cX6_isIn 11 = .ok (.goto 4, 3) := by decide +kernel
theorem dX6_isIn_14 : decode cX6_isIn 14 = .ok (.iconst 0, 1) := by decide +kernel
theorem dX6_isIn_15 : decode cX6_isIn 15 = .ok (.ireturn, 1) := by decide +kernel
theorem dX6_link_0 : decode cX6_link 0 = .ok (.aload_n 0, 1) := by decide +kernel
theorem dX6_link_1 : decode cX6_link 1 = .ok (.iload_n 1, 1) := by decide +kernel
theorem dX6_link_2 : decode cX6_link 2 = .ok (.iconst 1, 1) := by decide +kernel
theorem dX6_link_3 : decode cX6_link 3 = .ok (.bipush 8, 2) := by decide +kernel
theorem dX6_link_5 : decode cX6_link 5 = .ok (.invokestatic 92, 3) := by decide +kernel
theorem dX6_link_8 : decode cX6_link 8 = .ok (.ifCond .eq 38, 3) := by decide +kernel
theorem dX6_link_11 : decode cX6_link 11 = .ok (.iload_n 2, 1) := by decide +kernel
theorem dX6_link_12 : decode cX6_link 12 = .ok (.iconst 1, 1) := by decide +kernel
theorem dX6_link_13 : decode cX6_link 13 = .ok (.bipush 16, 2) := by decide +kernel
theorem dX6_link_15 : decode cX6_link 15 = .ok (.invokestatic 92, 3) := by decide +kernel
theorem dX6_link_18 : decode cX6_link 18 = .ok (.ifCond .eq 28, 3) := by decide +kernel
theorem dX6_link_21 : decode cX6_link 21 = .ok (.iload_n 3, 1) := by decide +kernel
theorem dX6_link_22 : decode cX6_link 22 = .ok (.iconst 1, 1) := by decide +kernel
theorem dX6_link_23 : decode cX6_link 23 = .ok (.bipush 16, 2) := by decide +kernel
theorem dX6_link_25 : decode cX6_link 25 = .ok (.invokestatic 92, 3) := by decide +kernel
theorem dX6_link_28 : decode cX6_link 28 = .ok (.ifCond .eq 18, 3) := by decide +kernel
theorem dX6_link_31 : decode cX6_link 31 = .ok (.iload 4, 2) := by decide +kernel
theorem dX6_link_33 : decode cX6_link 33 = .ok (.iconst 1, 1) := by decide +kernel
theorem dX6_link_34 : decode cX6_link 34 = .ok (.bipush 16, 2) := by decide +kernel
theorem dX6_link_36 : decode cX6_link 36 = .ok (.invokestatic 92, 3) := by decide +kernel
theorem dX6_link_39 : decode cX6_link 39 = .ok (.ifCond .eq 7, 3) := by decide +kernel
theorem dX6_link_42 : decode cX6_link 42 = .ok (.iconst 0, 1) := by decide +kernel
theorem dX6_link_43 : decode cX6_link 43 = .ok (.goto 4, 3) := by decide +kernel
theorem dX6_link_46 : decode cX6_link 46 = .ok (.iconst 1, 1) := by decide +kernel
theorem dX6_link_47 : decode cX6_link 47 = .ok (.putfield 88, 3) := by decide +kernel
theorem dX6_link_50 : decode cX6_link 50 = .ok (.aload_n 0, 1) := by decide +kernel
theorem dX6_link_51 : decode cX6_link 51 = .ok (.getfield 88, 3) := by decide +kernel
theorem dX6_link_54 : decode cX6_link 54 = .ok (.ifCond .le 4, 3) := by decide +kernel
theorem dX6_link_57 : decode cX6_link 57 = .ok (.return_, 1) := by decide +kernel
theorem dX6_link_58 : decode cX6_link 58 = .ok (.aload_n 0, 1) := by decide +kernel
theorem dX6_link_59 : decode cX6_link 59 = .ok (.iload_n 1, 1) := by decide +kernel
theorem dX6_link_60 : decode cX6_link 60 = .ok (.putfield 96, 3) := by decide +kernel
theorem dX6_link_63 : decode cX6_link 63 = .ok (.aload_n 0, 1) := by decide +kernel
theorem dX6_link_64 : decode cX6_link 64 = .ok (.iload_n 2, 1) := by decide +kernel
theorem dX6_link_65 : decode cX6_link 65 = .ok (.putfield 99, 3) := by decide +kernel
theorem dX6_link_68 : decode cX6_link 68 = .ok (.aload_n 0, 1) := by decide +kernel
theorem dX6_link_69 : decode cX6_link 69 = .ok (.iload_n 3, 1) := by decide +kernel
theorem dX6_link_70 : decode cX6_link 70 = .ok (.putfield 102, 3) := by decide +kernel
theorem dX6_link_73 : decode cX6_link 73 = .ok (.aload_n 0, 1) := by decide +kernel
theorem dX6_link_74 : decode cX6_link 74 = .ok (.iconst 0, 1) := by decide +kernel
theorem dX6_link_75 : decode cX6_link 75 = .ok (.putfield 105, 3) := by decide +kernel
theorem dX6_link_78 : decode cX6_link 78 = .ok (.aload_n 0, 1) := by decide +kernel
theorem dX6_link_79 : decode cX6_link 79 = .ok (.iconst 0, 1) := by decide +kernel
theorem dX6_link_80 : decode cX6_link 80 = .ok (.putfield 108, 3) := by decide +kernel
theorem dX6_link_83 : decode cX6_link 83 = .ok (.aload_n 0, 1) := by decide +kernel
theorem dX6_link_84 : decode cX6_link 84 = .ok (.iconst 0, 1) := by decide +kernel
theorem dX6_link_85 : decode cX6_link 85 = .ok (.putfield 111, 3) := by decide +kernel
theorem dX6_link_88 : decode cX6_link 88 = .ok (.aload_n 0, 1) := by decide +kernel
theorem dX6_link_89 : decode cX6_link 89 = .ok (.iconst 0, 1) := by decide +kernel
theorem dX6_link_90 : decode cX6_link 90 = .ok (.putfield 114, 3) := by decide +kernel
theorem dX6_link_93 : decode cX6_link 93 = .ok (.aload_n 0, 1) := by decide +kernel
theorem dX6_link_94 : decode cX6_link 94 = .ok (.iconst (-1), 1) := by decide +kernel
theorem dX6_link_95 : decode cX6_link 95 = .ok (.putfield 117, 3) := by decide +kernel
theorem dX6_link_98 : decode cX6_link 98 = .ok (.aload_n 0, 1) := by decide +kernel
theorem dX6_link_99 : decode cX6_link 99 = .ok (.iconst 0, 1) := by decide +kernel
theorem dX6_link_100 : decode cX6_link 100 = .ok (.putfield 120, 3) := by decide +kernel
theorem dX6_link_103 : decode cX6_link 103 = .ok (.aload_n 0, 1) := by decide +kernel
theorem dX6_link_104 : decode cX6_link 104 = .ok (.iconst 0, 1) := by decide +kernel
theorem dX6_link_105 : decode cX6_link 105 = .ok (.putfield 123, 3) := by decide +kernel
theorem dX6_link_108 : decode cX6_link 108 = .ok (.aload_n 0, 1) := by decide +kernel
theorem dX6_link_109 : decode cX6_link 109 = .ok (.iconst 0, 1) := by decide +kernel
theorem dX6_link_110 : decode cX6_link 110 = .ok (.putfield 126, 3) := by decide +kernel
theorem dX6_link_113 : decode cX6_link 113 = .ok (.aload_n 0, 1) := by decide +kernel
theorem dX6_link_114 : decode cX6_link 114 = .ok (.iconst 0, 1) := by decide +kernel
theorem dX6_link_115 : decode cX6_link 115 = .ok (.putfield 129, 3) := by decide +kernel
theorem dX6_link_118 : decode cX6_link 118 = .ok (.iconst 0, 1) := by decide +kernel
theorem dX6_link_119 : decode cX6_link 119 = .ok (.istore 5, 2) := by decide +kernel
theorem dX6_link_121 : decode cX6_link 121 = .ok (.iload 5, 2) := by decide +kernel
theorem dX6_link_123 : decode cX6_link 123 = .ok (.bipush 8, 2) := by decide +kernel
theorem dX6_link_125 : decode cX6_link 125 = .ok (.if_icmp .ge 74, 3) := by decide +kernel
theorem dX6_link_128 : decode cX6_link 128 = .ok (.aload_n 0, 1) := by decide +kernel
theorem dX6_link_129 : decode cX6_link 129 = .ok (.getfield 9, 3) := by decide +kernel
theorem dX6_link_132 : decode cX6_link 132 = .ok (.iload 5, 2) := by decide +kernel
theorem dX6_link_134 : decode cX6_link 134 = .ok (.iload 4, 2) := by decide +kernel
theorem dX6_link_136 : decode cX6_link 136 = .ok (.iastore, 1) := by decide +kernel
theorem dX6_link_137 : decode cX6_link 137 = .ok (.aload_n 0, 1) := by decide +kernel
theorem dX6_link_138 : decode cX6_link 138 = .ok (.getfield 13, 3) := by decide +kernel
theorem dX6_link_141 : decode cX6_link 141 = .ok (.iload 5, 2) := by decide +kernel
theorem dX6_link_143 : decode cX6_link 143 = .ok (.iconst 1, 1) := by decide +kernel
theorem dX6_link_144 : decode cX6_link 144 = .ok (.iastore, 1) := by decide +kernel
theorem dX6_link_145 : decode cX6_link 145 = .ok (.aload_n 0, 1) := by decide +kernel
theorem dX6_link_146 : decode cX6_link 146 = .ok (.getfield 60, 3) := by decide +kernel
theorem dX6_link_149 : decode cX6_link 149 = .ok (.iload 5, 2) := by decide +kernel
theorem dX6_link_151 : decode cX6_link 151 = .ok (.iconst 0, 1) := by decide +kernel
theorem dX6_link_152 : decode cX6_link 152 = .ok (.iastore, 1) := by decide +kernel
theorem dX6_link_153 : decode cX6_link 153 = .ok (.aload_n 0, 1) := by decide +kernel
theorem dX6_link_154 : decode cX6_link 154 = .ok (.getfield 63, 3) := by decide +kernel
theorem dX6_link_157 : decode cX6_link 157 = .ok (.iload 5, 2) := by decide +kernel
theorem dX6_link_159 : decode cX6_link 159 = .ok (.iconst 0, 1) := by decide +kernel
theorem dX6_link_160 : decode cX6_link 160 = .ok (.iastore, 1) := by decide +kernel
theorem dX6_link_161 : decode cX6_link 161 = .ok (.aload_n 0, 1) := by decide +kernel
theorem dX6_link_162 : decode cX6_link 162 = .ok (.getfield 66, 3) := by decide +kernel
theorem dX6_link_165 : decode cX6_link 165 = .ok (.iload 5, 2) := by decide +kernel
theorem dX6_link_167 : decode cX6_link 167 = .ok (.iconst 0, 1) := by decide +kernel
theorem dX6_link_168 : decode cX6_link 168 = .ok (.iastore, 1) := by decide +kernel
theorem dX6_link_169 : decode cX6_link 169 = .ok (.aload_n 0, 1) := by decide +kernel
theorem dX6_link_170 : decode cX6_link 170 = .ok (.getfield 69, 3) := by decide +kernel
theorem dX6_link_173 : decode cX6_link 173 = .ok (.iload 5, 2) := by decide +kernel
theorem dX6_link_175 : decode cX6_link 175 = .ok (.iconst 0, 1) := by decide +kernel
theorem dX6_link_176 : decode cX6_link 176 = .ok (.iastore, 1) := by decide +kernel
theorem dX6_link_177 : decode cX6_link 177 = .ok (.aload_n 0, 1) := by decide +kernel
theorem dX6_link_178 : decode cX6_link 178 = .ok (.getfield 72, 3) := by decide +kernel
theorem dX6_link_181 : decode cX6_link 181 = .ok (.iload 5, 2) := by decide +kernel
theorem dX6_link_183 : decode cX6_link 183 = .ok (.iconst 0, 1) := by decide +kernel
theorem dX6_link_184 : decode cX6_link 184 = .ok (.iastore, 1) := by decide +kernel
theorem dX6_link_185 : decode cX6_link 185 = .ok (.aload_n 0, 1) := by decide +kernel
theorem dX6_link_186 : decode cX6_link 186 = .ok (.getfield 75, 3) := by decide +kernel
theorem dX6_link_189 : decode cX6_link 189 = .ok (.iload 5, 2) := by decide +kernel
theorem dX6_link_191 : decode cX6_link 191 = .ok (.iconst 0, 1) := by decide +kernel
theorem dX6_link_192 : decode cX6_link 192 = .ok (.iastore, 1) := by decide +kernel
theorem dX6_link_193 : decode cX6_link 193 = .ok (.iinc 5 1, 3) := by decide +kernel
theorem dX6_link_196 : decode cX6_link 196 = .ok (.goto (-75), 3) := by decide +kernel
theorem dX6_link_199 : decode cX6_link 199 = .ok (.return_, 1) := by decide +kernel
theorem dX6_isChannel_0 : decode cX6_isChannel 0 = .ok (.iload_n 1, 1) := by decide +kernel
theorem dX6_isChannel_1 : decode cX6_isChannel 1 = .ok (.ifCond .lt 15, 3) := by decide +kernel
theorem dX6_isChannel_4 : decode cX6_isChannel 4 = .ok (.iload_n 1, 1) := by decide +kernel
theorem dX6_isChannel_5 : decode cX6_isChannel 5 = .ok (.aload_n 0, 1) := by decide +kernel
theorem dX6_isChannel_6 : decode cX6_isChannel 6 = .ok (.getfield 96, 3) := by decide +kernel
theorem dX6_isChannel_9 : decode cX6_isChannel 9 = .ok (.if_icmp .ge 7, 3) := by decide +kernel
theorem dX6_isChannel_12 : decode cX6_isChannel 12 = .ok (.iconst 1, 1) := by decide +kernel
theorem dX6_isChannel_13 : decode cX6_isChannel 13 = .ok (.goto 4, 3) := by decide +kernel
theorem dX6_isChannel_16 : decode cX6_isChannel 16 = .ok (.iconst 0, 1) := by decide +kernel
theorem dX6_isChannel_17 : decode cX6_isChannel 17 = .ok (.ireturn, 1) := by decide +kernel
theorem dX6_depth_0 : decode cX6_depth 0 = .ok (.aload_n 0, 1) := by decide +kernel
theorem dX6_depth_1 : decode cX6_depth 1 = .ok (.aload_n 0, 1) := by decide +kernel
theorem dX6_depth_2 : decode cX6_depth 2 = .ok (.iload_n 1, 1) := by decide +kernel
theorem dX6_depth_3 : decode cX6_depth 3 = .ok (.invokevirtual 132, 3) := by decide +kernel
theorem dX6_depth_6 : decode cX6_depth 6 = .ok (.ifCond .eq 13, 3) := by decide +kernel
theorem dX6_depth_9 : decode cX6_depth 9 = .ok (.iload_n 2, 1) := by decide +kernel
theorem dX6_depth_10 : decode cX6_depth 10 = .ok (.iconst 1, 1) := by decide +kernel
theorem dX6_depth_11 : decode cX6_depth 11 = .ok (.bipush 16, 2) := by decide +kernel
theorem dX6_depth_13 : decode cX6_depth 13 = .ok (.invokestatic 92, 3) := by decide +kernel
theorem dX6_depth_16 : decode cX6_depth 16 = .ok (.ifCond .ne 7, 3) := by decide +kernel
theorem dX6_depth_19 : decode cX6_depth 19 = .ok (.iconst 1, 1) := by decide +kernel
theorem dX6_depth_20 : decode cX6_depth 20 = .ok (.goto 15, 3) := by decide +kernel
theorem dX6_depth_23 : decode cX6_depth 23 = .ok (.aload_n 0, 1) := by decide +kernel
theorem dX6_depth_24 : decode cX6_depth 24 = .ok (.getfield 114, 3) := by decide +kernel
theorem dX6_depth_27 : decode cX6_depth 27 = .ok (.ifCond .eq 7, 3) := by decide +kernel
theorem dX6_depth_30 : decode cX6_depth 30 = .ok (.iconst 2, 1) := by decide +kernel
theorem dX6_depth_31 : decode cX6_depth 31 = .ok (.goto 4, 3) := by decide +kernel
theorem dX6_depth_34 : decode cX6_depth 34 = .ok (.iconst 0, 1) := by decide +kernel
theorem dX6_depth_35 : decode cX6_depth 35 = .ok (.putfield 88, 3) := by decide +kernel
theorem dX6_depth_38 : decode cX6_depth 38 = .ok (.aload_n 0, 1) := by decide +kernel
theorem dX6_depth_39 : decode cX6_depth 39 = .ok (.getfield 88, 3) := by decide +kernel
theorem dX6_depth_42 : decode cX6_depth 42 = .ok (.ifCond .le 5, 3) := by decide +kernel
theorem dX6_depth_45 : decode cX6_depth 45 = .ok (.iconst 0, 1) := by decide +kernel
theorem dX6_depth_46 : decode cX6_depth 46 = .ok (.ireturn, 1) := by decide +kernel
theorem dX6_depth_47 : decode cX6_depth 47 = .ok (.aload_n 0, 1) := by decide +kernel
theorem dX6_depth_48 : decode cX6_depth 48 = .ok (.getfield 9, 3) := by decide +kernel
theorem dX6_depth_51 : decode cX6_depth 51 = .ok (.iload_n 1, 1) := by decide +kernel
theorem dX6_depth_52 : decode cX6_depth 52 = .ok (.iaload, 1) := by decide +kernel
theorem dX6_depth_53 : decode cX6_depth 53 = .ok (.istore_n 3, 1) := by decide +kernel
theorem dX6_depth_54 : decode cX6_depth 54 = .ok (.aload_n 0, 1) := by decide +kernel
theorem dX6_depth_55 : decode cX6_depth 55 = .ok (.getfield 9, 3) := by decide +kernel
theorem dX6_depth_58 : decode cX6_depth 58 = .ok (.iload_n 1, 1) := by decide +kernel
theorem dX6_depth_59 : decode cX6_depth 59 = .ok (.iload_n 2, 1) := by decide +kernel
theorem dX6_depth_60 : decode cX6_depth 60 = .ok (.iastore, 1) := by decide +kernel
theorem dX6_depth_61 : decode cX6_depth 61 = .ok (.iload_n 3, 1) := by decide +kernel
theorem dX6_depth_62 : decode cX6_depth 62 = .ok (.ireturn, 1) := by decide +kernel
theorem dX6_weight_0 : decode cX6_weight 0 = .ok (.aload_n 0, 1) := by decide +kernel
theorem dX6_weight_1 : decode cX6_weight 1 = .ok (.aload_n 0, 1) := by decide +kernel
theorem dX6_weight_2 : decode cX6_weight 2 = .ok (.iload_n 1, 1) := by decide +kernel
theorem dX6_weight_3 : decode cX6_weight 3 = .ok (.invokevirtual 132, 3) := by decide +kernel
theorem dX6_weight_6 : decode cX6_weight 6 = .ok (.ifCond .eq 13, 3) := by decide +kernel
theorem dX6_weight_9 : decode cX6_weight 9 = .ok (.iload_n 2, 1) := by decide +kernel
theorem dX6_weight_10 : decode cX6_weight 10 = .ok (.iconst 1, 1) := by decide +kernel
theorem dX6_weight_11 : decode cX6_weight 11 = .ok (.bipush 15, 2) := by decide +kernel
theorem dX6_weight_13 : decode cX6_weight 13 = .ok (.invokestatic 92, 3) := by decide +kernel
theorem dX6_weight_16 : decode cX6_weight 16 = .ok (.ifCond .ne 7, 3) := by decide +kernel
theorem dX6_weight_19 : decode cX6_weight 19 = .ok (.iconst 1, 1) := by decide +kernel
theorem dX6_weight_20 : decode cX6_weight 20 = .ok (.goto 4, 3) := by decide +kernel
theorem dX6_weight_23 : decode cX6_weight 23 = .ok (.iconst 0, 1) := by decide +kernel
theorem dX6_weight_24 : decode cX6_weight 24 = .ok (.putfield 88, 3) := by decide +kernel
theorem dX6_weight_27 : decode cX6_weight 27 = .ok (.aload_n 0, 1) := by decide +kernel
theorem dX6_weight_28 : decode cX6_weight 28 = .ok (.getfield 88, 3) := by decide +kernel
theorem dX6_weight_31 : decode cX6_weight 31 = .ok (.ifCond .le 5, 3) := by decide +kernel
theorem dX6_weight_34 : decode cX6_weight 34 = .ok (.iconst 0, 1) := by decide +kernel
theorem dX6_weight_35 : decode cX6_weight 35 = .ok (.ireturn, 1) := by decide +kernel
theorem dX6_weight_36 : decode cX6_weight 36 = .ok (.aload_n 0, 1) := by decide +kernel
theorem dX6_weight_37 : decode cX6_weight 37 = .ok (.getfield 13, 3) := by decide +kernel
theorem dX6_weight_40 : decode cX6_weight 40 = .ok (.iload_n 1, 1) := by decide +kernel
theorem dX6_weight_41 : decode cX6_weight 41 = .ok (.iaload, 1) := by decide +kernel
theorem dX6_weight_42 : decode cX6_weight 42 = .ok (.istore_n 3, 1) := by decide +kernel
theorem dX6_weight_43 : decode cX6_weight 43 = .ok (.aload_n 0, 1) := by decide +kernel
theorem dX6_weight_44 : decode cX6_weight 44 = .ok (.getfield 13, 3) := by decide +kernel
theorem dX6_weight_47 : decode cX6_weight 47 = .ok (.iload_n 1, 1) := by decide +kernel
theorem dX6_weight_48 : decode cX6_weight 48 = .ok (.iload_n 2, 1) := by decide +kernel
theorem dX6_weight_49 : decode cX6_weight 49 = .ok (.iastore, 1) := by decide +kernel
theorem dX6_weight_50 : decode cX6_weight 50 = .ok (.iload_n 3, 1) := by decide +kernel
theorem dX6_weight_51 : decode cX6_weight 51 = .ok (.ireturn, 1) := by decide +kernel
theorem dX6_arbiter_0 : decode cX6_arbiter 0 = .ok (.aload_n 0, 1) := by decide +kernel
theorem dX6_arbiter_1 : decode cX6_arbiter 1 = .ok (.iload_n 1, 1) := by decide +kernel
theorem dX6_arbiter_2 : decode cX6_arbiter 2 = .ok (.iconst 0, 1) := by decide +kernel
theorem dX6_arbiter_3 : decode cX6_arbiter 3 = .ok (.iconst 3, 1) := by decide +kernel
theorem dX6_arbiter_4 : decode cX6_arbiter 4 = .ok (.invokestatic 92, 3) := by decide +kernel
theorem dX6_arbiter_7 : decode cX6_arbiter 7 = .ok (.ifCond .eq 7, 3) := by decide +kernel
theorem dX6_arbiter_10 : decode cX6_arbiter 10 = .ok (.iconst 0, 1) := by decide +kernel
theorem dX6_arbiter_11 : decode cX6_arbiter 11 = .ok (.goto 4, 3) := by decide +kernel
theorem dX6_arbiter_14 : decode cX6_arbiter 14 = .ok (.iconst 1, 1) := by decide +kernel
theorem dX6_arbiter_15 : decode cX6_arbiter 15 = .ok (.putfield 88, 3) := by decide +kernel
theorem dX6_arbiter_18 : decode cX6_arbiter 18 = .ok (.aload_n 0, 1) := by decide +kernel
theorem dX6_arbiter_19 : decode cX6_arbiter 19 = .ok (.getfield 88, 3) := by decide +kernel
theorem dX6_arbiter_22 : decode cX6_arbiter 22 = .ok (.ifCond .le 5, 3) := by decide +kernel
theorem dX6_arbiter_25 : decode cX6_arbiter 25 = .ok (.iconst 0, 1) := by decide +kernel
theorem dX6_arbiter_26 : decode cX6_arbiter 26 = .ok (.ireturn, 1) := by decide +kernel
theorem dX6_arbiter_27 : decode cX6_arbiter 27 = .ok (.aload_n 0, 1) := by decide +kernel
theorem dX6_arbiter_28 : decode cX6_arbiter 28 = .ok (.getfield 105, 3) := by decide +kernel
theorem dX6_arbiter_31 : decode cX6_arbiter 31 = .ok (.istore_n 2, 1) := by decide +kernel
theorem dX6_arbiter_32 : decode cX6_arbiter 32 = .ok (.aload_n 0, 1) := by decide +kernel
theorem dX6_arbiter_33 : decode cX6_arbiter 33 = .ok (.iload_n 1, 1) := by decide +kernel
theorem dX6_arbiter_34 : decode cX6_arbiter 34 = .ok (.putfield 105, 3) := by decide +kernel
theorem dX6_arbiter_37 : decode cX6_arbiter 37 = .ok (.iload_n 2, 1) := by decide +kernel
theorem dX6_arbiter_38 : decode cX6_arbiter 38 = .ok (.ireturn, 1) := by decide +kernel
theorem dX6_mask_0 : decode cX6_mask 0 = .ok (.aload_n 0, 1) := by decide +kernel
theorem dX6_mask_1 : decode cX6_mask 1 = .ok (.aload_n 0, 1) := by decide +kernel
theorem dX6_mask_2 : decode cX6_mask 2 = .ok (.getfield 108, 3) := by decide +kernel
theorem dX6_mask_5 : decode cX6_mask 5 = .ok (.bipush 32, 2) := by decide +kernel
theorem dX6_mask_7 : decode cX6_mask 7 = .ok (.if_icmp .ne 7, 3) := by decide +kernel
theorem dX6_mask_10 : decode cX6_mask 10 = .ok (.iconst 1, 1) := by decide +kernel
theorem dX6_mask_11 : decode cX6_mask 11 = .ok (.goto 4, 3) := by decide +kernel
theorem dX6_mask_14 : decode cX6_mask 14 = .ok (.iconst 0, 1) := by decide +kernel
theorem dX6_mask_15 : decode cX6_mask 15 = .ok (.putfield 88, 3) := by decide +kernel
theorem dX6_mask_18 : decode cX6_mask 18 = .ok (.aload_n 0, 1) := by decide +kernel
theorem dX6_mask_19 : decode cX6_mask 19 = .ok (.getfield 88, 3) := by decide +kernel
theorem dX6_mask_22 : decode cX6_mask 22 = .ok (.ifCond .le 5, 3) := by decide +kernel
theorem dX6_mask_25 : decode cX6_mask 25 = .ok (.iconst 0, 1) := by decide +kernel
theorem dX6_mask_26 : decode cX6_mask 26 = .ok (.ireturn, 1) := by decide +kernel
theorem dX6_mask_27 : decode cX6_mask 27 = .ok (.aload_n 0, 1) := by decide +kernel
theorem dX6_mask_28 : decode cX6_mask 28 = .ok (.getfield 16, 3) := by decide +kernel
theorem dX6_mask_31 : decode cX6_mask 31 = .ok (.aload_n 0, 1) := by decide +kernel
theorem dX6_mask_32 : decode cX6_mask 32 = .ok (.getfield 108, 3) := by decide +kernel
theorem dX6_mask_35 : decode cX6_mask 35 = .ok (.iload_n 1, 1) := by decide +kernel
theorem dX6_mask_36 : decode cX6_mask 36 = .ok (.iastore, 1) := by decide +kernel
theorem dX6_mask_37 : decode cX6_mask 37 = .ok (.aload_n 0, 1) := by decide +kernel
theorem dX6_mask_38 : decode cX6_mask 38 = .ok (.dup, 1) := by decide +kernel
theorem dX6_mask_39 : decode cX6_mask 39 = .ok (.getfield 108, 3) := by decide +kernel
theorem dX6_mask_42 : decode cX6_mask 42 = .ok (.iconst 1, 1) := by decide +kernel
theorem dX6_mask_43 : decode cX6_mask 43 = .ok (.iadd, 1) := by decide +kernel
theorem dX6_mask_44 : decode cX6_mask 44 = .ok (.putfield 108, 3) := by decide +kernel
theorem dX6_mask_47 : decode cX6_mask 47 = .ok (.aload_n 0, 1) := by decide +kernel
theorem dX6_mask_48 : decode cX6_mask 48 = .ok (.getfield 108, 3) := by decide +kernel
theorem dX6_mask_51 : decode cX6_mask 51 = .ok (.ireturn, 1) := by decide +kernel
theorem dX6_free_0 : decode cX6_free 0 = .ok (.aload_n 0, 1) := by decide +kernel
theorem dX6_free_1 : decode cX6_free 1 = .ok (.iconst 0, 1) := by decide +kernel
theorem dX6_free_2 : decode cX6_free 2 = .ok (.putfield 88, 3) := by decide +kernel
theorem dX6_free_5 : decode cX6_free 5 = .ok (.aload_n 0, 1) := by decide +kernel
theorem dX6_free_6 : decode cX6_free 6 = .ok (.getfield 108, 3) := by decide +kernel
theorem dX6_free_9 : decode cX6_free 9 = .ok (.istore_n 1, 1) := by decide +kernel
theorem dX6_free_10 : decode cX6_free 10 = .ok (.aload_n 0, 1) := by decide +kernel
theorem dX6_free_11 : decode cX6_free 11 = .ok (.iconst 0, 1) := by decide +kernel
theorem dX6_free_12 : decode cX6_free 12 = .ok (.putfield 108, 3) := by decide +kernel
theorem dX6_free_15 : decode cX6_free 15 = .ok (.iload_n 1, 1) := by decide +kernel
theorem dX6_free_16 : decode cX6_free 16 = .ok (.ireturn, 1) := by decide +kernel
theorem dX6_feed_0 : decode cX6_feed 0 = .ok (.aload_n 0, 1) := by decide +kernel
theorem dX6_feed_1 : decode cX6_feed 1 = .ok (.iload_n 1, 1) := by decide +kernel
theorem dX6_feed_2 : decode cX6_feed 2 = .ok (.iconst 1, 1) := by decide +kernel
theorem dX6_feed_3 : decode cX6_feed 3 = .ok (.bipush 16, 2) := by decide +kernel
theorem dX6_feed_5 : decode cX6_feed 5 = .ok (.invokestatic 92, 3) := by decide +kernel
theorem dX6_feed_8 : decode cX6_feed 8 = .ok (.ifCond .ne 7, 3) := by decide +kernel
theorem dX6_feed_11 : decode cX6_feed 11 = .ok (.iconst 1, 1) := by decide +kernel
theorem dX6_feed_12 : decode cX6_feed 12 = .ok (.goto 19, 3) := by decide +kernel
theorem dX6_feed_15 : decode cX6_feed 15 = .ok (.aload_n 0, 1) := by decide +kernel
theorem dX6_feed_16 : decode cX6_feed 16 = .ok (.getfield 136, 3) := by decide +kernel
theorem dX6_feed_19 : decode cX6_feed 19 = .ok (.iload_n 1, 1) := by decide +kernel
theorem dX6_feed_20 : decode cX6_feed 20 = .ok (.iadd, 1) := by decide +kernel
theorem dX6_feed_21 : decode cX6_feed 21 = .ok (.bipush 60, 2) := by decide +kernel
theorem dX6_feed_23 : decode cX6_feed 23 = .ok (.if_icmp .le 7, 3) := by decide +kernel
theorem dX6_feed_26 : decode cX6_feed 26 = .ok (.iconst 2, 1) := by decide +kernel
theorem dX6_feed_27 : decode cX6_feed 27 = .ok (.goto 4, 3) := by decide +kernel
theorem dX6_feed_30 : decode cX6_feed 30 = .ok (.iconst 0, 1) := by decide +kernel
theorem dX6_feed_31 : decode cX6_feed 31 = .ok (.putfield 88, 3) := by decide +kernel
theorem dX6_feed_34 : decode cX6_feed 34 = .ok (.aload_n 0, 1) := by decide +kernel
theorem dX6_feed_35 : decode cX6_feed 35 = .ok (.getfield 88, 3) := by decide +kernel
theorem dX6_feed_38 : decode cX6_feed 38 = .ok (.ifCond .le 5, 3) := by decide +kernel
theorem dX6_feed_41 : decode cX6_feed 41 = .ok (.iconst 0, 1) := by decide +kernel
theorem dX6_feed_42 : decode cX6_feed 42 = .ok (.ireturn, 1) := by decide +kernel
theorem dX6_feed_43 : decode cX6_feed 43 = .ok (.iconst 0, 1) := by decide +kernel
theorem dX6_feed_44 : decode cX6_feed 44 = .ok (.istore 6, 2) := by decide +kernel
theorem dX6_feed_46 : decode cX6_feed 46 = .ok (.iload 6, 2) := by decide +kernel
theorem dX6_feed_48 : decode cX6_feed 48 = .ok (.iload_n 1, 1) := by decide +kernel
theorem dX6_feed_49 : decode cX6_feed 49 = .ok (.if_icmp .ge 58, 3) := by decide +kernel
theorem dX6_feed_52 : decode cX6_feed 52 = .ok (.aload_n 0, 1) := by decide +kernel
theorem dX6_feed_53 : decode cX6_feed 53 = .ok (.getfield 78, 3) := by decide +kernel
theorem dX6_feed_56 : decode cX6_feed 56 = .ok (.aload_n 0, 1) := by decide +kernel
theorem dX6_feed_57 : decode cX6_feed 57 = .ok (.getfield 136, 3) := by decide +kernel
theorem dX6_feed_60 : decode cX6_feed 60 = .ok (.iload 6, 2) := by decide +kernel
theorem dX6_feed_62 : decode cX6_feed 62 = .ok (.bipush 8, 2) := by decide +kernel
theorem dX6_feed_64 : decode cX6_feed 64 = .ok (.if_icmp .ge 13, 3) := by decide +kernel
theorem dX6_feed_67 : decode cX6_feed 67 = .ok (.lload_n 2, 1) := by decide +kernel
theorem dX6_feed_68 : decode cX6_feed 68 = .ok (.bipush 8, 2) := by decide +kernel
theorem dX6_feed_70 : decode cX6_feed 70 = .ok (.iload 6, 2) := by decide +kernel
theorem dX6_feed_72 : decode cX6_feed 72 = .ok (.imul, 1) := by decide +kernel
theorem dX6_feed_73 : decode cX6_feed 73 = .ok (.lshr, 1) := by decide +kernel
theorem dX6_feed_74 : decode cX6_feed 74 = .ok (.goto 14, 3) := by decide +kernel
theorem dX6_feed_77 : decode cX6_feed 77 = .ok (.lload 4, 2) := by decide +kernel
theorem dX6_feed_79 : decode cX6_feed 79 = .ok (.bipush 8, 2) := by decide +kernel
theorem dX6_feed_81 : decode cX6_feed 81 = .ok (.iload 6, 2) := by decide +kernel
theorem dX6_feed_83 : decode cX6_feed 83 = .ok (.bipush 8, 2) := by decide +kernel
theorem dX6_feed_85 : decode cX6_feed 85 = .ok (.isub, 1) := by decide +kernel
theorem dX6_feed_86 : decode cX6_feed 86 = .ok (.imul, 1) := by decide +kernel
theorem dX6_feed_87 : decode cX6_feed 87 = .ok (.lshr, 1) := by decide +kernel
theorem dX6_feed_88 : decode cX6_feed 88 = .ok (.l2i, 1) := by decide +kernel
theorem dX6_feed_89 : decode cX6_feed 89 = .ok (.i2b, 1) := by decide +kernel
theorem dX6_feed_90 : decode cX6_feed 90 = .ok (.bastore, 1) := by decide +kernel
theorem dX6_feed_91 : decode cX6_feed 91 = .ok (.aload_n 0, 1) := by decide +kernel
theorem dX6_feed_92 : decode cX6_feed 92 = .ok (.dup, 1) := by decide +kernel
theorem dX6_feed_93 : decode cX6_feed 93 = .ok (.getfield 136, 3) := by decide +kernel
theorem dX6_feed_96 : decode cX6_feed 96 = .ok (.iconst 1, 1) := by decide +kernel
theorem dX6_feed_97 : decode cX6_feed 97 = .ok (.iadd, 1) := by decide +kernel
theorem dX6_feed_98 : decode cX6_feed 98 = .ok (.putfield 136, 3) := by decide +kernel
theorem dX6_feed_101 : decode cX6_feed 101 = .ok (.iinc 6 1, 3) := by decide +kernel
theorem dX6_feed_104 : decode cX6_feed 104 = .ok (.goto (-58), 3) := by decide +kernel
theorem dX6_feed_107 : decode cX6_feed 107 = .ok (.aload_n 0, 1) := by decide +kernel
theorem dX6_feed_108 : decode cX6_feed 108 = .ok (.getfield 136, 3) := by decide +kernel
theorem dX6_feed_111 : decode cX6_feed 111 = .ok (.ireturn, 1) := by decide +kernel
theorem dX6_flitsOf_0 : decode cX6_flitsOf 0 = .ok (.iload_n 0, 1) := by decide +kernel
theorem dX6_flitsOf_1 : decode cX6_flitsOf 1 = .ok (.ifCond .ne 7, 3) := by decide +kernel
theorem dX6_flitsOf_4 : decode cX6_flitsOf 4 = .ok (.iconst 1, 1) := by decide +kernel
theorem dX6_flitsOf_5 : decode cX6_flitsOf 5 = .ok (.goto 8, 3) := by decide +kernel
theorem dX6_flitsOf_8 : decode cX6_flitsOf 8 = .ok (.iload_n 0, 1) := by decide +kernel
theorem dX6_flitsOf_9 : decode cX6_flitsOf 9 = .ok (.iconst 3, 1) := by decide +kernel
theorem dX6_flitsOf_10 : decode cX6_flitsOf 10 = .ok (.iadd, 1) := by decide +kernel
theorem dX6_flitsOf_11 : decode cX6_flitsOf 11 = .ok (.iconst 4, 1) := by decide +kernel
theorem dX6_flitsOf_12 : decode cX6_flitsOf 12 = .ok (.idiv, 1) := by decide +kernel
theorem dX6_flitsOf_13 : decode cX6_flitsOf 13 = .ok (.ireturn, 1) := by decide +kernel
theorem dX6_flitBytes_0 : decode cX6_flitBytes 0 = .ok (.iconst 4, 1) := by decide +kernel
theorem dX6_flitBytes_1 : decode cX6_flitBytes 1 = .ok (.aload_n 0, 1) := by decide +kernel
theorem dX6_flitBytes_2 : decode cX6_flitBytes 2 = .ok (.getfield 22, 3) := by decide +kernel
theorem dX6_flitBytes_5 : decode cX6_flitBytes 5 = .ok (.aload_n 0, 1) := by decide +kernel
theorem dX6_flitBytes_6 : decode cX6_flitBytes 6 = .ok (.getfield 48, 3) := by decide +kernel
theorem dX6_flitBytes_9 : decode cX6_flitBytes 9 = .ok (.sipush 4000, 3) := by decide +kernel
theorem dX6_flitBytes_12 : decode cX6_flitBytes 12 = .ok (.iload_n 1, 1) := by decide +kernel
theorem dX6_flitBytes_13 : decode cX6_flitBytes 13 = .ok (.imul, 1) := by decide +kernel
theorem dX6_flitBytes_14 : decode cX6_flitBytes 14 = .ok (.iload_n 2, 1) := by decide +kernel
theorem dX6_flitBytes_15 : decode cX6_flitBytes 15 = .ok (.iadd, 1) := by decide +kernel
theorem dX6_flitBytes_16 : decode cX6_flitBytes 16 = .ok (.iaload, 1) := by decide +kernel
theorem dX6_flitBytes_17 : decode cX6_flitBytes 17 = .ok (.iaload, 1) := by decide +kernel
theorem dX6_flitBytes_18 : decode cX6_flitBytes 18 = .ok (.iconst 4, 1) := by decide +kernel
theorem dX6_flitBytes_19 : decode cX6_flitBytes 19 = .ok (.aload_n 0, 1) := by decide +kernel
theorem dX6_flitBytes_20 : decode cX6_flitBytes 20 = .ok (.getfield 51, 3) := by decide +kernel
theorem dX6_flitBytes_23 : decode cX6_flitBytes 23 = .ok (.sipush 4000, 3) := by decide +kernel
theorem dX6_flitBytes_26 : decode cX6_flitBytes 26 = .ok (.iload_n 1, 1) := by decide +kernel
theorem dX6_flitBytes_27 : decode cX6_flitBytes 27 = .ok (.imul, 1) := by decide +kernel
theorem dX6_flitBytes_28 : decode cX6_flitBytes 28 = .ok (.iload_n 2, 1) := by decide +kernel
theorem dX6_flitBytes_29 : decode cX6_flitBytes 29 = .ok (.iadd, 1) := by decide +kernel
theorem dX6_flitBytes_30 : decode cX6_flitBytes 30 = .ok (.iaload, 1) := by decide +kernel
theorem dX6_flitBytes_31 : decode cX6_flitBytes 31 = .ok (.imul, 1) := by decide +kernel
theorem dX6_flitBytes_32 : decode cX6_flitBytes 32 = .ok (.isub, 1) := by decide +kernel
theorem dX6_flitBytes_33 : decode cX6_flitBytes 33 = .ok (.invokestatic 139, 3) := by decide +kernel
theorem dX6_flitBytes_36 : decode cX6_flitBytes 36 = .ok (.ireturn, 1) := by decide +kernel
theorem dX6_offer_0 : decode cX6_offer 0 = .ok (.aload_n 0, 1) := by decide +kernel
theorem dX6_offer_1 : decode cX6_offer 1 = .ok (.getfield 136, 3) := by decide +kernel
theorem dX6_offer_4 : decode cX6_offer 4 = .ok (.istore_n 2, 1) := by decide +kernel
theorem dX6_offer_5 : decode cX6_offer 5 = .ok (.aload_n 0, 1) := by decide +kernel
theorem dX6_offer_6 : decode cX6_offer 6 = .ok (.iconst 0, 1) := by decide +kernel
theorem dX6_offer_7 : decode cX6_offer 7 = .ok (.putfield 136, 3) := by decide +kernel
theorem dX6_offer_10 : decode cX6_offer 10 = .ok (.aload_n 0, 1) := by decide +kernel
theorem dX6_offer_11 : decode cX6_offer 11 = .ok (.aload_n 0, 1) := by decide +kernel
theorem dX6_offer_12 : decode cX6_offer 12 = .ok (.iload_n 1, 1) := by decide +kernel
theorem dX6_offer_13 : decode cX6_offer 13 = .ok (.invokevirtual 132, 3) := by decide +kernel
theorem dX6_offer_16 : decode cX6_offer 16 = .ok (.ifCond .ne 7, 3) := by decide +kernel
theorem dX6_offer_19 : decode cX6_offer 19 = .ok (.iconst 1, 1) := by decide +kernel
theorem dX6_offer_20 : decode cX6_offer 20 = .ok (.goto 18, 3) := by decide +kernel
theorem dX6_offer_23 : decode cX6_offer 23 = .ok (.aload_n 0, 1) := by decide +kernel
theorem dX6_offer_24 : decode cX6_offer 24 = .ok (.getfield 111, 3) := by decide +kernel
theorem dX6_offer_27 : decode cX6_offer 27 = .ok (.sipush 250, 3) := by decide +kernel
theorem dX6_offer_30 : decode cX6_offer 30 = .ok (.if_icmp .ne 7, 3) := by decide +kernel
theorem dX6_offer_33 : decode cX6_offer 33 = .ok (.iconst 2, 1) := by decide +kernel
theorem dX6_offer_34 : decode cX6_offer 34 = .ok (.goto 4, 3) := by decide +kernel
theorem dX6_offer_37 : decode cX6_offer 37 = .ok (.iconst 0, 1) := by decide +kernel
theorem dX6_offer_38 : decode cX6_offer 38 = .ok (.putfield 88, 3) := by decide +kernel
theorem dX6_offer_41 : decode cX6_offer 41 = .ok (.aload_n 0, 1) := by decide +kernel
theorem dX6_offer_42 : decode cX6_offer 42 = .ok (.getfield 88, 3) := by decide +kernel
theorem dX6_offer_45 : decode cX6_offer 45 = .ok (.ifCond .le 5, 3) := by decide +kernel
theorem dX6_offer_48 : decode cX6_offer 48 = .ok (.iconst 0, 1) := by decide +kernel
theorem dX6_offer_49 : decode cX6_offer 49 = .ok (.ireturn, 1) := by decide +kernel
theorem dX6_offer_50 : decode cX6_offer 50 = .ok (.aload_n 0, 1) := by decide +kernel
theorem dX6_offer_51 : decode cX6_offer 51 = .ok (.getfield 111, 3) := by decide +kernel
theorem dX6_offer_54 : decode cX6_offer 54 = .ok (.istore_n 3, 1) := by decide +kernel
theorem dX6_offer_55 : decode cX6_offer 55 = .ok (.aload_n 0, 1) := by decide +kernel
theorem dX6_offer_56 : decode cX6_offer 56 = .ok (.dup, 1) := by decide +kernel
theorem dX6_offer_57 : decode cX6_offer 57 = .ok (.getfield 111, 3) := by decide +kernel
theorem dX6_offer_60 : decode cX6_offer 60 = .ok (.iconst 1, 1) := by decide +kernel
theorem dX6_offer_61 : decode cX6_offer 61 = .ok (.iadd, 1) := by decide +kernel
theorem dX6_offer_62 : decode cX6_offer 62 = .ok (.putfield 111, 3) := by decide +kernel
theorem dX6_offer_65 : decode cX6_offer 65 = .ok (.aload_n 0, 1) := by decide +kernel
theorem dX6_offer_66 : decode cX6_offer 66 = .ok (.getfield 19, 3) := by decide +kernel
theorem dX6_offer_69 : decode cX6_offer 69 = .ok (.iload_n 3, 1) := by decide +kernel
theorem dX6_offer_70 : decode cX6_offer 70 = .ok (.iload_n 1, 1) := by decide +kernel
theorem dX6_offer_71 : decode cX6_offer 71 = .ok (.iastore, 1) := by decide +kernel
theorem dX6_offer_72 : decode cX6_offer 72 = .ok (.aload_n 0, 1) := by decide +kernel
theorem dX6_offer_73 : decode cX6_offer 73 = .ok (.getfield 22, 3) := by decide +kernel
theorem dX6_offer_76 : decode cX6_offer 76 = .ok (.iload_n 3, 1) := by decide +kernel
theorem dX6_offer_77 : decode cX6_offer 77 = .ok (.iload_n 2, 1) := by decide +kernel
theorem dX6_offer_78 : decode cX6_offer 78 = .ok (.iastore, 1) := by decide +kernel
theorem dX6_offer_79 : decode cX6_offer 79 = .ok (.iconst 0, 1) := by decide +kernel
theorem dX6_offer_80 : decode cX6_offer 80 = .ok (.istore 4, 2) := by decide +kernel
theorem dX6_offer_82 : decode cX6_offer 82 = .ok (.iload 4, 2) := by decide +kernel
theorem dX6_offer_84 : decode cX6_offer 84 = .ok (.iload_n 2, 1) := by decide +kernel
theorem dX6_offer_85 : decode cX6_offer 85 = .ok (.if_icmp .ge 28, 3) := by decide +kernel
theorem dX6_offer_88 : decode cX6_offer 88 = .ok (.aload_n 0, 1) := by decide +kernel
theorem dX6_offer_89 : decode cX6_offer 89 = .ok (.getfield 25, 3) := by decide +kernel
theorem dX6_offer_92 : decode cX6_offer 92 = .ok (.bipush 60, 2) := by decide +kernel
theorem dX6_offer_94 : decode cX6_offer 94 = .ok (.iload_n 3, 1) := by decide +kernel
theorem dX6_offer_95 : decode cX6_offer 95 = .ok (.imul, 1) := by decide +kernel
theorem dX6_offer_96 : decode cX6_offer 96 = .ok (.iload 4, 2) := by decide +kernel
theorem dX6_offer_98 : decode cX6_offer 98 = .ok (.iadd, 1) := by decide +kernel
theorem dX6_offer_99 : decode cX6_offer 99 = .ok (.aload_n 0, 1) := by decide +kernel
theorem dX6_offer_100 : decode cX6_offer 100 = .ok (.getfield 78, 3) := by decide +kernel
theorem dX6_offer_103 : decode cX6_offer 103 = .ok (.iload 4, 2) := by decide +kernel
theorem dX6_offer_105 : decode cX6_offer 105 = .ok (.baload, 1) := by decide +kernel
theorem dX6_offer_106 : decode cX6_offer 106 = .ok (.bastore, 1) := by decide +kernel
theorem dX6_offer_107 : decode cX6_offer 107 = .ok (.iinc 4 1, 3) := by decide +kernel
theorem dX6_offer_110 : decode cX6_offer 110 = .ok (.goto (-28), 3) := by decide +kernel
theorem dX6_offer_113 : decode cX6_offer 113 = .ok (.aload_n 0, 1) := by decide +kernel
theorem dX6_offer_114 : decode cX6_offer 114 = .ok (.getfield 29, 3) := by decide +kernel
theorem dX6_offer_117 : decode cX6_offer 117 = .ok (.iload_n 3, 1) := by decide +kernel
theorem dX6_offer_118 : decode cX6_offer 118 = .ok (.aload_n 0, 1) := by decide +kernel
theorem dX6_offer_119 : decode cX6_offer 119 = .ok (.getfield 114, 3) := by decide +kernel
theorem dX6_offer_122 : decode cX6_offer 122 = .ok (.iastore, 1) := by decide +kernel
theorem dX6_offer_123 : decode cX6_offer 123 = .ok (.aload_n 0, 1) := by decide +kernel
theorem dX6_offer_124 : decode cX6_offer 124 = .ok (.getfield 32, 3) := by decide +kernel
theorem dX6_offer_127 : decode cX6_offer 127 = .ok (.iload_n 3, 1) := by decide +kernel
theorem dX6_offer_128 : decode cX6_offer 128 = .ok (.iconst (-1), 1) := by decide +kernel
theorem dX6_offer_129 : decode cX6_offer 129 = .ok (.iastore, 1) := by decide +kernel
theorem dX6_offer_130 : decode cX6_offer 130 = .ok (.aload_n 0, 1) := by decide +kernel
theorem dX6_offer_131 : decode cX6_offer 131 = .ok (.getfield 35, 3) := by decide +kernel
theorem dX6_offer_134 : decode cX6_offer 134 = .ok (.iload_n 3, 1) := by decide +kernel
theorem dX6_offer_135 : decode cX6_offer 135 = .ok (.iconst (-1), 1) := by decide +kernel
theorem dX6_offer_136 : decode cX6_offer 136 = .ok (.iastore, 1) := by decide +kernel
theorem dX6_offer_137 : decode cX6_offer 137 = .ok (.aload_n 0, 1) := by decide +kernel
theorem dX6_offer_138 : decode cX6_offer 138 = .ok (.getfield 41, 3) := by decide +kernel
theorem dX6_offer_141 : decode cX6_offer 141 = .ok (.iload_n 3, 1) := by decide +kernel
theorem dX6_offer_142 : decode cX6_offer 142 = .ok (.iconst 0, 1) := by decide +kernel
theorem dX6_offer_143 : decode cX6_offer 143 = .ok (.bastore, 1) := by decide +kernel
theorem dX6_offer_144 : decode cX6_offer 144 = .ok (.aload_n 0, 1) := by decide +kernel
theorem dX6_offer_145 : decode cX6_offer 145 = .ok (.getfield 45, 3) := by decide +kernel
theorem dX6_offer_148 : decode cX6_offer 148 = .ok (.iload_n 3, 1) := by decide +kernel
theorem dX6_offer_149 : decode cX6_offer 149 = .ok (.iconst 1, 1) := by decide +kernel
theorem dX6_offer_150 : decode cX6_offer 150 = .ok (.bastore, 1) := by decide +kernel
theorem dX6_offer_151 : decode cX6_offer 151 = .ok (.iconst 0, 1) := by decide +kernel
theorem dX6_offer_152 : decode cX6_offer 152 = .ok (.istore 4, 2) := by decide +kernel
theorem dX6_offer_154 : decode cX6_offer 154 = .ok (.iload 4, 2) := by decide +kernel
theorem dX6_offer_156 : decode cX6_offer 156 = .ok (.iload_n 2, 1) := by decide +kernel
theorem dX6_offer_157 : decode cX6_offer 157 = .ok (.invokestatic 145, 3) := by decide +kernel
theorem dX6_offer_160 : decode cX6_offer 160 = .ok (.if_icmp .ge 50, 3) := by decide +kernel
theorem dX6_offer_163 : decode cX6_offer 163 = .ok (.sipush 4000, 3) := by decide +kernel
theorem dX6_offer_166 : decode cX6_offer 166 = .ok (.iload_n 1, 1) := by decide +kernel
theorem dX6_offer_167 : decode cX6_offer 167 = .ok (.imul, 1) := by decide +kernel
theorem dX6_offer_168 : decode cX6_offer 168 = .ok (.aload_n 0, 1) := by decide +kernel
theorem dX6_offer_169 : decode cX6_offer 169 = .ok (.getfield 60, 3) := by decide +kernel
theorem dX6_offer_172 : decode cX6_offer 172 = .ok (.iload_n 1, 1) := by decide +kernel
theorem dX6_offer_173 : decode cX6_offer 173 = .ok (.iaload, 1) := by decide +kernel
theorem dX6_offer_174 : decode cX6_offer 174 = .ok (.iadd, 1) := by decide +kernel
theorem dX6_offer_175 : decode cX6_offer 175 = .ok (.istore 5, 2) := by decide +kernel
theorem dX6_offer_177 : decode cX6_offer 177 = .ok (.aload_n 0, 1) := by decide +kernel
theorem dX6_offer_178 : decode cX6_offer 178 = .ok (.getfield 48, 3) := by decide +kernel
theorem dX6_offer_181 : decode cX6_offer 181 = .ok (.iload 5, 2) := by decide +kernel
theorem dX6_offer_183 : decode cX6_offer 183 = .ok (.iload_n 3, 1) := by decide +kernel
theorem dX6_offer_184 : decode cX6_offer 184 = .ok (.iastore, 1) := by decide +kernel
theorem dX6_offer_185 : decode cX6_offer 185 = .ok (.aload_n 0, 1) := by decide +kernel
theorem dX6_offer_186 : decode cX6_offer 186 = .ok (.getfield 51, 3) := by decide +kernel
theorem dX6_offer_189 : decode cX6_offer 189 = .ok (.iload 5, 2) := by decide +kernel
theorem dX6_offer_191 : decode cX6_offer 191 = .ok (.iload 4, 2) := by decide +kernel
theorem dX6_offer_193 : decode cX6_offer 193 = .ok (.iastore, 1) := by decide +kernel
theorem dX6_offer_194 : decode cX6_offer 194 = .ok (.aload_n 0, 1) := by decide +kernel
theorem dX6_offer_195 : decode cX6_offer 195 = .ok (.getfield 60, 3) := by decide +kernel
theorem dX6_offer_198 : decode cX6_offer 198 = .ok (.iload_n 1, 1) := by decide +kernel
theorem dX6_offer_199 : decode cX6_offer 199 = .ok (.dup2, 1) := by decide +kernel
theorem dX6_offer_200 : decode cX6_offer 200 = .ok (.iaload, 1) := by decide +kernel
theorem dX6_offer_201 : decode cX6_offer 201 = .ok (.iconst 1, 1) := by decide +kernel
theorem dX6_offer_202 : decode cX6_offer 202 = .ok (.iadd, 1) := by decide +kernel
theorem dX6_offer_203 : decode cX6_offer 203 = .ok (.iastore, 1) := by decide +kernel
theorem dX6_offer_204 : decode cX6_offer 204 = .ok (.iinc 4 1, 3) := by decide +kernel
theorem dX6_offer_207 : decode cX6_offer 207 = .ok (.goto (-53), 3) := by decide +kernel
theorem dX6_offer_210 : decode cX6_offer 210 = .ok (.aload_n 0, 1) := by decide +kernel
theorem dX6_offer_211 : decode cX6_offer 211 = .ok (.getfield 38, 3) := by decide +kernel
theorem dX6_offer_214 : decode cX6_offer 214 = .ok (.iload_n 3, 1) := by decide +kernel
theorem dX6_offer_215 : decode cX6_offer 215 = .ok (.aload_n 0, 1) := by decide +kernel
theorem dX6_offer_216 : decode cX6_offer 216 = .ok (.getfield 114, 3) := by decide +kernel
theorem dX6_offer_219 : decode cX6_offer 219 = .ok (.aload_n 0, 1) := by decide +kernel
theorem dX6_offer_220 : decode cX6_offer 220 = .ok (.getfield 99, 3) := by decide +kernel
theorem dX6_offer_223 : decode cX6_offer 223 = .ok (.iadd, 1) := by decide +kernel
theorem dX6_offer_224 : decode cX6_offer 224 = .ok (.aload_n 0, 1) := by decide +kernel
theorem dX6_offer_225 : decode cX6_offer 225 = .ok (.getfield 9, 3) := by decide +kernel
theorem dX6_offer_228 : decode cX6_offer 228 = .ok (.iload_n 1, 1) := by decide +kernel
theorem dX6_offer_229 : decode cX6_offer 229 = .ok (.iaload, 1) := by decide +kernel
theorem dX6_offer_230 : decode cX6_offer 230 = .ok (.iadd, 1) := by decide +kernel
theorem dX6_offer_231 : decode cX6_offer 231 = .ok (.aload_n 0, 1) := by decide +kernel
theorem dX6_offer_232 : decode cX6_offer 232 = .ok (.getfield 60, 3) := by decide +kernel
theorem dX6_offer_235 : decode cX6_offer 235 = .ok (.iload_n 1, 1) := by decide +kernel
theorem dX6_offer_236 : decode cX6_offer 236 = .ok (.iaload, 1) := by decide +kernel
theorem dX6_offer_237 : decode cX6_offer 237 = .ok (.aload_n 0, 1) := by decide +kernel
theorem dX6_offer_238 : decode cX6_offer 238 = .ok (.getfield 63, 3) := by decide +kernel
theorem dX6_offer_241 : decode cX6_offer 241 = .ok (.iload_n 1, 1) := by decide +kernel
theorem dX6_offer_242 : decode cX6_offer 242 = .ok (.iaload, 1) := by decide +kernel
theorem dX6_offer_243 : decode cX6_offer 243 = .ok (.isub, 1) := by decide +kernel
theorem dX6_offer_244 : decode cX6_offer 244 = .ok (.aload_n 0, 1) := by decide +kernel
theorem dX6_offer_245 : decode cX6_offer 245 = .ok (.getfield 99, 3) := by decide +kernel
theorem dX6_offer_248 : decode cX6_offer 248 = .ok (.aload_n 0, 1) := by decide +kernel
theorem dX6_offer_249 : decode cX6_offer 249 = .ok (.getfield 102, 3) := by decide +kernel
theorem dX6_offer_252 : decode cX6_offer 252 = .ok (.iadd, 1) := by decide +kernel
theorem dX6_offer_253 : decode cX6_offer 253 = .ok (.aload_n 0, 1) := by decide +kernel
theorem dX6_offer_254 : decode cX6_offer 254 = .ok (.getfield 96, 3) := by decide +kernel
theorem dX6_offer_257 : decode cX6_offer 257 = .ok (.iadd, 1) := by decide +kernel
theorem dX6_offer_258 : decode cX6_offer 258 = .ok (.imul, 1) := by decide +kernel
theorem dX6_offer_259 : decode cX6_offer 259 = .ok (.iadd, 1) := by decide +kernel
theorem dX6_offer_260 : decode cX6_offer 260 = .ok (.iastore, 1) := by decide +kernel
theorem dX6_offer_261 : decode cX6_offer 261 = .ok (.iload_n 3, 1) := by decide +kernel
theorem dX6_offer_262 : decode cX6_offer 262 = .ok (.ireturn, 1) := by decide +kernel
theorem dX6_credits_0 : decode cX6_credits 0 = .ok (.aload_n 0, 1) := by decide +kernel
theorem dX6_credits_1 : decode cX6_credits 1 = .ok (.getfield 9, 3) := by decide +kernel
theorem dX6_credits_4 : decode cX6_credits 4 = .ok (.iload_n 1, 1) := by decide +kernel
theorem dX6_credits_5 : decode cX6_credits 5 = .ok (.iaload, 1) := by decide +kernel
theorem dX6_credits_6 : decode cX6_credits 6 = .ok (.aload_n 0, 1) := by decide +kernel
theorem dX6_credits_7 : decode cX6_credits 7 = .ok (.getfield 63, 3) := by decide +kernel
theorem dX6_credits_10 : decode cX6_credits 10 = .ok (.iload_n 1, 1) := by decide +kernel
theorem dX6_credits_11 : decode cX6_credits 11 = .ok (.iaload, 1) := by decide +kernel
theorem dX6_credits_12 : decode cX6_credits 12 = .ok (.isub, 1) := by decide +kernel
theorem dX6_credits_13 : decode cX6_credits 13 = .ok (.aload_n 0, 1) := by decide +kernel
theorem dX6_credits_14 : decode cX6_credits 14 = .ok (.getfield 72, 3) := by decide +kernel
theorem dX6_credits_17 : decode cX6_credits 17 = .ok (.iload_n 1, 1) := by decide +kernel
theorem dX6_credits_18 : decode cX6_credits 18 = .ok (.iaload, 1) := by decide +kernel
theorem dX6_credits_19 : decode cX6_credits 19 = .ok (.iadd, 1) := by decide +kernel
theorem dX6_credits_20 : decode cX6_credits 20 = .ok (.ireturn, 1) := by decide +kernel
theorem dX6_comesBack_0 : decode cX6_comesBack 0 = .ok (.iconst 0, 1) := by decide +kernel
theorem dX6_comesBack_1 : decode cX6_comesBack 1 = .ok (.istore_n 1, 1) := by decide +kernel
theorem dX6_comesBack_2 : decode cX6_comesBack 2 = .ok (.iload_n 1, 1) := by decide +kernel
theorem dX6_comesBack_3 : decode cX6_comesBack 3 = .ok (.aload_n 0, 1) := by decide +kernel
theorem dX6_comesBack_4 : decode cX6_comesBack 4 = .ok (.getfield 96, 3) := by decide +kernel
theorem dX6_comesBack_7 : decode cX6_comesBack 7 = .ok (.if_icmp .ge 63, 3) := by decide +kernel
theorem dX6_comesBack_10 : decode cX6_comesBack 10 = .ok (.aload_n 0, 1) := by decide +kernel
theorem dX6_comesBack_11 : decode cX6_comesBack 11 = .ok (.getfield 72, 3) := by decide +kernel
theorem dX6_comesBack_14 : decode cX6_comesBack 14 = .ok (.iload_n 1, 1) := by decide +kernel
theorem dX6_comesBack_15 : decode cX6_comesBack 15 = .ok (.iaload, 1) := by decide +kernel
theorem dX6_comesBack_16 : decode cX6_comesBack 16 = .ok (.aload_n 0, 1) := by decide +kernel
theorem dX6_comesBack_17 : decode cX6_comesBack 17 = .ok (.getfield 69, 3) := by decide +kernel
theorem dX6_comesBack_20 : decode cX6_comesBack 20 = .ok (.iload_n 1, 1) := by decide +kernel
theorem dX6_comesBack_21 : decode cX6_comesBack 21 = .ok (.iaload, 1) := by decide +kernel
theorem dX6_comesBack_22 : decode cX6_comesBack 22 = .ok (.if_icmp .ge 42, 3) := by decide +kernel
theorem dX6_comesBack_25 : decode cX6_comesBack 25 = .ok (.aload_n 0, 1) := by decide +kernel
theorem dX6_comesBack_26 : decode cX6_comesBack 26 = .ok (.getfield 57, 3) := by decide +kernel
theorem dX6_comesBack_29 : decode cX6_comesBack 29 = .ok (.sipush 4000, 3) := by decide +kernel
theorem dX6_comesBack_32 : decode cX6_comesBack 32 = .ok (.iload_n 1, 1) := by decide +kernel
theorem dX6_comesBack_33 : decode cX6_comesBack 33 = .ok (.imul, 1) := by decide +kernel
theorem dX6_comesBack_34 : decode cX6_comesBack 34 = .ok (.aload_n 0, 1) := by decide +kernel
theorem dX6_comesBack_35 : decode cX6_comesBack 35 = .ok (.getfield 72, 3) := by decide +kernel
theorem dX6_comesBack_38 : decode cX6_comesBack 38 = .ok (.iload_n 1, 1) := by decide +kernel
theorem dX6_comesBack_39 : decode cX6_comesBack 39 = .ok (.iaload, 1) := by decide +kernel
theorem dX6_comesBack_40 : decode cX6_comesBack 40 = .ok (.iadd, 1) := by decide +kernel
theorem dX6_comesBack_41 : decode cX6_comesBack 41 = .ok (.iaload, 1) := by decide +kernel
theorem dX6_comesBack_42 : decode cX6_comesBack 42 = .ok (.aload_n 0, 1) := by decide +kernel
theorem dX6_comesBack_43 : decode cX6_comesBack 43 = .ok (.getfield 102, 3) := by decide +kernel
theorem dX6_comesBack_46 : decode cX6_comesBack 46 = .ok (.iadd, 1) := by decide +kernel
theorem dX6_comesBack_47 : decode cX6_comesBack 47 = .ok (.aload_n 0, 1) := by decide +kernel
theorem dX6_comesBack_48 : decode cX6_comesBack 48 = .ok (.getfield 114, 3) := by decide +kernel
theorem dX6_comesBack_51 : decode cX6_comesBack 51 = .ok (.if_icmp .ne 13, 3) := by decide +kernel
theorem dX6_comesBack_54 : decode cX6_comesBack 54 = .ok (.aload_n 0, 1) := by decide +kernel
theorem dX6_comesBack_55 : decode cX6_comesBack 55 = .ok (.getfield 72, 3) := by decide +kernel
theorem dX6_comesBack_58 : decode cX6_comesBack 58 = .ok (.iload_n 1, 1) := by decide +kernel
theorem dX6_comesBack_59 : decode cX6_comesBack 59 = .ok (.dup2, 1) := by decide +kernel
theorem dX6_comesBack_60 : decode cX6_comesBack 60 = .ok (.iaload, 1) := by decide +kernel
theorem dX6_comesBack_61 : decode cX6_comesBack 61 = .ok (.iconst 1, 1) := by decide +kernel
theorem dX6_comesBack_62 : decode cX6_comesBack 62 = .ok (.iadd, 1) := by decide +kernel
theorem dX6_comesBack_63 : decode cX6_comesBack 63 = .ok (.iastore, 1) := by decide +kernel
theorem dX6_comesBack_64 : decode cX6_comesBack 64 = .ok (.iinc 1 1, 3) := by decide +kernel
theorem dX6_comesBack_67 : decode cX6_comesBack 67 = .ok (.goto (-65), 3) := by decide +kernel
theorem dX6_comesBack_70 : decode cX6_comesBack 70 = .ok (.return_, 1) := by decide +kernel
theorem dX6_comes_0 : decode cX6_comes 0 = .ok (.iconst 0, 1) := by decide +kernel
theorem dX6_comes_1 : decode cX6_comes 1 = .ok (.istore_n 1, 1) := by decide +kernel
theorem dX6_comes_2 : decode cX6_comes 2 = .ok (.iload_n 1, 1) := by decide +kernel
theorem dX6_comes_3 : decode cX6_comes 3 = .ok (.aload_n 0, 1) := by decide +kernel
theorem dX6_comes_4 : decode cX6_comes 4 = .ok (.getfield 96, 3) := by decide +kernel
theorem dX6_comes_7 : decode cX6_comes 7 = .ok (.if_icmp .ge 126, 3) := by decide +kernel
theorem dX6_comes_10 : decode cX6_comes 10 = .ok (.aload_n 0, 1) := by decide +kernel
theorem dX6_comes_11 : decode cX6_comes 11 = .ok (.getfield 66, 3) := by decide +kernel
theorem dX6_comes_14 : decode cX6_comes 14 = .ok (.iload_n 1, 1) := by decide +kernel
theorem dX6_comes_15 : decode cX6_comes 15 = .ok (.iaload, 1) := by decide +kernel
theorem dX6_comes_16 : decode cX6_comes 16 = .ok (.aload_n 0, 1) := by decide +kernel
theorem dX6_comes_17 : decode cX6_comes 17 = .ok (.getfield 63, 3) := by decide +kernel
theorem dX6_comes_20 : decode cX6_comes 20 = .ok (.iload_n 1, 1) := by decide +kernel
theorem dX6_comes_21 : decode cX6_comes 21 = .ok (.iaload, 1) := by decide +kernel
theorem dX6_comes_22 : decode cX6_comes 22 = .ok (.if_icmp .eq 105, 3) := by decide +kernel
theorem dX6_comes_25 : decode cX6_comes 25 = .ok (.aload_n 0, 1) := by decide +kernel
theorem dX6_comes_26 : decode cX6_comes 26 = .ok (.getfield 54, 3) := by decide +kernel
theorem dX6_comes_29 : decode cX6_comes 29 = .ok (.sipush 4000, 3) := by decide +kernel
theorem dX6_comes_32 : decode cX6_comes 32 = .ok (.iload_n 1, 1) := by decide +kernel
theorem dX6_comes_33 : decode cX6_comes 33 = .ok (.imul, 1) := by decide +kernel
theorem dX6_comes_34 : decode cX6_comes 34 = .ok (.aload_n 0, 1) := by decide +kernel
theorem dX6_comes_35 : decode cX6_comes 35 = .ok (.getfield 66, 3) := by decide +kernel
theorem dX6_comes_38 : decode cX6_comes 38 = .ok (.iload_n 1, 1) := by decide +kernel
theorem dX6_comes_39 : decode cX6_comes 39 = .ok (.iaload, 1) := by decide +kernel
theorem dX6_comes_40 : decode cX6_comes 40 = .ok (.iadd, 1) := by decide +kernel
theorem dX6_comes_41 : decode cX6_comes 41 = .ok (.iaload, 1) := by decide +kernel
theorem dX6_comes_42 : decode cX6_comes 42 = .ok (.aload_n 0, 1) := by decide +kernel
theorem dX6_comes_43 : decode cX6_comes 43 = .ok (.getfield 99, 3) := by decide +kernel
theorem dX6_comes_46 : decode cX6_comes 46 = .ok (.iadd, 1) := by decide +kernel
theorem dX6_comes_47 : decode cX6_comes 47 = .ok (.aload_n 0, 1) := by decide +kernel
theorem dX6_comes_48 : decode cX6_comes 48 = .ok (.getfield 114, 3) := by decide +kernel
theorem dX6_comes_51 : decode cX6_comes 51 = .ok (.if_icmp .eq 6, 3) := by decide +kernel
theorem dX6_comes_54 : decode cX6_comes 54 = .ok (.goto 73, 3) := by decide +kernel
theorem dX6_comes_57 : decode cX6_comes 57 = .ok (.aload_n 0, 1) := by decide +kernel
theorem dX6_comes_58 : decode cX6_comes 58 = .ok (.getfield 66, 3) := by decide +kernel
theorem dX6_comes_61 : decode cX6_comes 61 = .ok (.iload_n 1, 1) := by decide +kernel
theorem dX6_comes_62 : decode cX6_comes 62 = .ok (.iaload, 1) := by decide +kernel
theorem dX6_comes_63 : decode cX6_comes 63 = .ok (.aload_n 0, 1) := by decide +kernel
theorem dX6_comes_64 : decode cX6_comes 64 = .ok (.getfield 69, 3) := by decide +kernel
theorem dX6_comes_67 : decode cX6_comes 67 = .ok (.iload_n 1, 1) := by decide +kernel
theorem dX6_comes_68 : decode cX6_comes 68 = .ok (.iaload, 1) := by decide +kernel
theorem dX6_comes_69 : decode cX6_comes 69 = .ok (.isub, 1) := by decide +kernel
theorem dX6_comes_70 : decode cX6_comes 70 = .ok (.aload_n 0, 1) := by decide +kernel
theorem dX6_comes_71 : decode cX6_comes 71 = .ok (.getfield 9, 3) := by decide +kernel
theorem dX6_comes_74 : decode cX6_comes 74 = .ok (.iload_n 1, 1) := by decide +kernel
theorem dX6_comes_75 : decode cX6_comes 75 = .ok (.iaload, 1) := by decide +kernel
theorem dX6_comes_76 : decode cX6_comes 76 = .ok (.if_icmp .lt 13, 3) := by decide +kernel
theorem dX6_comes_79 : decode cX6_comes 79 = .ok (.aload_n 0, 1) := by decide +kernel
theorem dX6_comes_80 : decode cX6_comes 80 = .ok (.dup, 1) := by decide +kernel
theorem dX6_comes_81 : decode cX6_comes 81 = .ok (.getfield 126, 3) := by decide +kernel
theorem dX6_comes_84 : decode cX6_comes 84 = .ok (.iconst 1, 1) := by decide +kernel
theorem dX6_comes_85 : decode cX6_comes 85 = .ok (.iadd, 1) := by decide +kernel
theorem dX6_comes_86 : decode cX6_comes 86 = .ok (.putfield 126, 3) := by decide +kernel
theorem dX6_comes_89 : decode cX6_comes 89 = .ok (.aload_n 0, 1) := by decide +kernel
theorem dX6_comes_90 : decode cX6_comes 90 = .ok (.getfield 66, 3) := by decide +kernel
theorem dX6_comes_93 : decode cX6_comes 93 = .ok (.iload_n 1, 1) := by decide +kernel
theorem dX6_comes_94 : decode cX6_comes 94 = .ok (.dup2, 1) := by decide +kernel
theorem dX6_comes_95 : decode cX6_comes 95 = .ok (.iaload, 1) := by decide +kernel
theorem dX6_comes_96 : decode cX6_comes 96 = .ok (.iconst 1, 1) := by decide +kernel
theorem dX6_comes_97 : decode cX6_comes 97 = .ok (.iadd, 1) := by decide +kernel
theorem dX6_comes_98 : decode cX6_comes 98 = .ok (.iastore, 1) := by decide +kernel
theorem dX6_comes_99 : decode cX6_comes 99 = .ok (.aload_n 0, 1) := by decide +kernel
theorem dX6_comes_100 : decode cX6_comes 100 = .ok (.getfield 75, 3) := by decide +kernel
theorem dX6_comes_103 : decode cX6_comes 103 = .ok (.iload_n 1, 1) := by decide +kernel
theorem dX6_comes_104 : decode cX6_comes 104 = .ok (.aload_n 0, 1) := by decide +kernel
theorem dX6_comes_105 : decode cX6_comes 105 = .ok (.getfield 75, 3) := by decide +kernel
theorem dX6_comes_108 : decode cX6_comes 108 = .ok (.iload_n 1, 1) := by decide +kernel
theorem dX6_comes_109 : decode cX6_comes 109 = .ok (.iaload, 1) := by decide +kernel
theorem dX6_comes_110 : decode cX6_comes 110 = .ok (.aload_n 0, 1) := by decide +kernel
theorem dX6_comes_111 : decode cX6_comes 111 = .ok (.getfield 66, 3) := by decide +kernel
theorem dX6_comes_114 : decode cX6_comes 114 = .ok (.iload_n 1, 1) := by decide +kernel
theorem dX6_comes_115 : decode cX6_comes 115 = .ok (.iaload, 1) := by decide +kernel
theorem dX6_comes_116 : decode cX6_comes 116 = .ok (.aload_n 0, 1) := by decide +kernel
theorem dX6_comes_117 : decode cX6_comes 117 = .ok (.getfield 69, 3) := by decide +kernel
theorem dX6_comes_120 : decode cX6_comes 120 = .ok (.iload_n 1, 1) := by decide +kernel
theorem dX6_comes_121 : decode cX6_comes 121 = .ok (.iaload, 1) := by decide +kernel
theorem dX6_comes_122 : decode cX6_comes 122 = .ok (.isub, 1) := by decide +kernel
theorem dX6_comes_123 : decode cX6_comes 123 = .ok (.invokestatic 149, 3) := by decide +kernel
theorem dX6_comes_126 : decode cX6_comes 126 = .ok (.iastore, 1) := by decide +kernel
theorem dX6_comes_127 : decode cX6_comes 127 = .ok (.iinc 1 1, 3) := by decide +kernel
theorem dX6_comes_130 : decode cX6_comes 130 = .ok (.goto (-128), 3) := by decide +kernel
theorem dX6_comes_133 : decode cX6_comes 133 = .ok (.return_, 1) := by decide +kernel
theorem dX6_drains_0 : decode cX6_drains 0 = .ok (.aload_n 0, 1) := by decide +kernel
theorem dX6_drains_1 : decode cX6_drains 1 = .ok (.getfield 108, 3) := by decide +kernel
theorem dX6_drains_4 : decode cX6_drains 4 = .ok (.ifCond .ne 7, 3) := by decide +kernel
theorem dX6_drains_7 : decode cX6_drains 7 = .ok (.iconst (-1), 1) := by decide +kernel
theorem dX6_drains_8 : decode cX6_drains 8 = .ok (.goto 17, 3) := by decide +kernel
theorem dX6_drains_11 : decode cX6_drains 11 = .ok (.aload_n 0, 1) := by decide +kernel
theorem dX6_drains_12 : decode cX6_drains 12 = .ok (.getfield 16, 3) := by decide +kernel
theorem dX6_drains_15 : decode cX6_drains 15 = .ok (.aload_n 0, 1) := by decide +kernel
theorem dX6_drains_16 : decode cX6_drains 16 = .ok (.getfield 114, 3) := by decide +kernel
theorem dX6_drains_19 : decode cX6_drains 19 = .ok (.aload_n 0, 1) := by decide +kernel
theorem dX6_drains_20 : decode cX6_drains 20 = .ok (.getfield 108, 3) := by decide +kernel
theorem dX6_drains_23 : decode cX6_drains 23 = .ok (.irem, 1) := by decide +kernel
theorem dX6_drains_24 : decode cX6_drains 24 = .ok (.iaload, 1) := by decide +kernel
theorem dX6_drains_25 : decode cX6_drains 25 = .ok (.istore_n 1, 1) := by decide +kernel
theorem dX6_drains_26 : decode cX6_drains 26 = .ok (.iconst 0, 1) := by decide +kernel
theorem dX6_drains_27 : decode cX6_drains 27 = .ok (.istore_n 2, 1) := by decide +kernel
theorem dX6_drains_28 : decode cX6_drains 28 = .ok (.iconst 0, 1) := by decide +kernel
theorem dX6_drains_29 : decode cX6_drains 29 = .ok (.istore_n 3, 1) := by decide +kernel
theorem dX6_drains_30 : decode cX6_drains 30 = .ok (.iload_n 3, 1) := by decide +kernel
theorem dX6_drains_31 : decode cX6_drains 31 = .ok (.aload_n 0, 1) := by decide +kernel
theorem dX6_drains_32 : decode cX6_drains 32 = .ok (.getfield 96, 3) := by decide +kernel
theorem dX6_drains_35 : decode cX6_drains 35 = .ok (.if_icmp .ge 156, 3) := by decide +kernel
theorem dX6_drains_38 : decode cX6_drains 38 = .ok (.iload_n 1, 1) := by decide +kernel
theorem dX6_drains_39 : decode cX6_drains 39 = .ok (.iload_n 3, 1) := by decide +kernel
theorem dX6_drains_40 : decode cX6_drains 40 = .ok (.ishr, 1) := by decide +kernel
theorem dX6_drains_41 : decode cX6_drains 41 = .ok (.iconst 1, 1) := by decide +kernel
theorem dX6_drains_42 : decode cX6_drains 42 = .ok (.iand, 1) := by decide +kernel
theorem dX6_drains_43 : decode cX6_drains 43 = .ok (.ifCond .eq 142, 3) := by decide +kernel
theorem dX6_drains_46 : decode cX6_drains 46 = .ok (.aload_n 0, 1) := by decide +kernel
theorem dX6_drains_47 : decode cX6_drains 47 = .ok (.getfield 69, 3) := by decide +kernel
theorem dX6_drains_50 : decode cX6_drains 50 = .ok (.iload_n 3, 1) := by decide +kernel
theorem dX6_drains_51 : decode cX6_drains 51 = .ok (.iaload, 1) := by decide +kernel
theorem dX6_drains_52 : decode cX6_drains 52 = .ok (.aload_n 0, 1) := by decide +kernel
theorem dX6_drains_53 : decode cX6_drains 53 = .ok (.getfield 66, 3) := by decide +kernel
theorem dX6_drains_56 : decode cX6_drains 56 = .ok (.iload_n 3, 1) := by decide +kernel
theorem dX6_drains_57 : decode cX6_drains 57 = .ok (.iaload, 1) := by decide +kernel
theorem dX6_drains_58 : decode cX6_drains 58 = .ok (.if_icmp .ne 6, 3) := by decide +kernel
theorem dX6_drains_61 : decode cX6_drains 61 = .ok (.goto 124, 3) := by decide +kernel
theorem dX6_drains_64 : decode cX6_drains 64 = .ok (.sipush 4000, 3) := by decide +kernel
theorem dX6_drains_67 : decode cX6_drains 67 = .ok (.iload_n 3, 1) := by decide +kernel
theorem dX6_drains_68 : decode cX6_drains 68 = .ok (.imul, 1) := by decide +kernel
theorem dX6_drains_69 : decode cX6_drains 69 = .ok (.aload_n 0, 1) := by decide +kernel
theorem dX6_drains_70 : decode cX6_drains 70 = .ok (.getfield 69, 3) := by decide +kernel
theorem dX6_drains_73 : decode cX6_drains 73 = .ok (.iload_n 3, 1) := by decide +kernel
theorem dX6_drains_74 : decode cX6_drains 74 = .ok (.iaload, 1) := by decide +kernel
theorem dX6_drains_75 : decode cX6_drains 75 = .ok (.iadd, 1) := by decide +kernel
theorem dX6_drains_76 : decode cX6_drains 76 = .ok (.istore 4, 2) := by decide +kernel
theorem dX6_drains_78 : decode cX6_drains 78 = .ok (.aload_n 0, 1) := by decide +kernel
theorem dX6_drains_79 : decode cX6_drains 79 = .ok (.getfield 48, 3) := by decide +kernel
theorem dX6_drains_82 : decode cX6_drains 82 = .ok (.iload 4, 2) := by decide +kernel
theorem dX6_drains_84 : decode cX6_drains 84 = .ok (.iaload, 1) := by decide +kernel
theorem dX6_drains_85 : decode cX6_drains 85 = .ok (.istore 5, 2) := by decide +kernel
theorem dX6_drains_87 : decode cX6_drains 87 = .ok (.aload_n 0, 1) := by decide +kernel
theorem dX6_drains_88 : decode cX6_drains 88 = .ok (.getfield 57, 3) := by decide +kernel
theorem dX6_drains_91 : decode cX6_drains 91 = .ok (.iload 4, 2) := by decide +kernel
theorem dX6_drains_93 : decode cX6_drains 93 = .ok (.aload_n 0, 1) := by decide +kernel
theorem dX6_drains_94 : decode cX6_drains 94 = .ok (.getfield 114, 3) := by decide +kernel
theorem dX6_drains_97 : decode cX6_drains 97 = .ok (.iastore, 1) := by decide +kernel
theorem dX6_drains_98 : decode cX6_drains 98 = .ok (.aload_n 0, 1) := by decide +kernel
theorem dX6_drains_99 : decode cX6_drains 99 = .ok (.getfield 69, 3) := by decide +kernel
theorem dX6_drains_102 : decode cX6_drains 102 = .ok (.iload_n 3, 1) := by decide +kernel
theorem dX6_drains_103 : decode cX6_drains 103 = .ok (.dup2, 1) := by decide +kernel
theorem dX6_drains_104 : decode cX6_drains 104 = .ok (.iaload, 1) := by decide +kernel
theorem dX6_drains_105 : decode cX6_drains 105 = .ok (.iconst 1, 1) := by decide +kernel
theorem dX6_drains_106 : decode cX6_drains 106 = .ok (.iadd, 1) := by decide +kernel
theorem dX6_drains_107 : decode cX6_drains 107 = .ok (.iastore, 1) := by decide +kernel
theorem dX6_drains_108 : decode cX6_drains 108 = .ok (.aload_n 0, 1) := by decide +kernel
theorem dX6_drains_109 : decode cX6_drains 109 = .ok (.getfield 51, 3) := by decide +kernel
theorem dX6_drains_112 : decode cX6_drains 112 = .ok (.iload 4, 2) := by decide +kernel
theorem dX6_drains_114 : decode cX6_drains 114 = .ok (.iaload, 1) := by decide +kernel
theorem dX6_drains_115 : decode cX6_drains 115 = .ok (.iconst 1, 1) := by decide +kernel
theorem dX6_drains_116 : decode cX6_drains 116 = .ok (.iadd, 1) := by decide +kernel
theorem dX6_drains_117 : decode cX6_drains 117 = .ok (.aload_n 0, 1) := by decide +kernel
theorem dX6_drains_118 : decode cX6_drains 118 = .ok (.getfield 22, 3) := by decide +kernel
theorem dX6_drains_121 : decode cX6_drains 121 = .ok (.iload 5, 2) := by decide +kernel
theorem dX6_drains_123 : decode cX6_drains 123 = .ok (.iaload, 1) := by decide +kernel
theorem dX6_drains_124 : decode cX6_drains 124 = .ok (.invokestatic 145, 3) := by decide +kernel
theorem dX6_drains_127 : decode cX6_drains 127 = .ok (.if_icmp .ge 6, 3) := by decide +kernel
theorem dX6_drains_130 : decode cX6_drains 130 = .ok (.goto 55, 3) := by decide +kernel
theorem dX6_drains_133 : decode cX6_drains 133 = .ok (.aload_n 0, 1) := by decide +kernel
theorem dX6_drains_134 : decode cX6_drains 134 = .ok (.getfield 35, 3) := by decide +kernel
theorem dX6_drains_137 : decode cX6_drains 137 = .ok (.iload 5, 2) := by decide +kernel
theorem dX6_drains_139 : decode cX6_drains 139 = .ok (.aload_n 0, 1) := by decide +kernel
theorem dX6_drains_140 : decode cX6_drains 140 = .ok (.getfield 114, 3) := by decide +kernel
theorem dX6_drains_143 : decode cX6_drains 143 = .ok (.iastore, 1) := by decide +kernel
theorem dX6_drains_144 : decode cX6_drains 144 = .ok (.iinc 2 1, 3) := by decide +kernel
theorem dX6_drains_147 : decode cX6_drains 147 = .ok (.aload_n 0, 1) := by decide +kernel
theorem dX6_drains_148 : decode cX6_drains 148 = .ok (.dup, 1) := by decide +kernel
theorem dX6_drains_149 : decode cX6_drains 149 = .ok (.getfield 129, 3) := by decide +kernel
theorem dX6_drains_152 : decode cX6_drains 152 = .ok (.aload_n 0, 1) := by decide +kernel
theorem dX6_drains_153 : decode cX6_drains 153 = .ok (.getfield 45, 3) := by decide +kernel
theorem dX6_drains_156 : decode cX6_drains 156 = .ok (.iload 5, 2) := by decide +kernel
theorem dX6_drains_158 : decode cX6_drains 158 = .ok (.baload, 1) := by decide +kernel
theorem dX6_drains_159 : decode cX6_drains 159 = .ok (.ifCond .eq 21, 3) := by decide +kernel
theorem dX6_drains_162 : decode cX6_drains 162 = .ok (.aload_n 0, 1) := by decide +kernel
theorem dX6_drains_163 : decode cX6_drains 163 = .ok (.getfield 114, 3) := by decide +kernel
theorem dX6_drains_166 : decode cX6_drains 166 = .ok (.aload_n 0, 1) := by decide +kernel
theorem dX6_drains_167 : decode cX6_drains 167 = .ok (.getfield 38, 3) := by decide +kernel
theorem dX6_drains_170 : decode cX6_drains 170 = .ok (.iload 5, 2) := by decide +kernel
theorem dX6_drains_172 : decode cX6_drains 172 = .ok (.iaload, 1) := by decide +kernel
theorem dX6_drains_173 : decode cX6_drains 173 = .ok (.if_icmp .le 7, 3) := by decide +kernel
theorem dX6_drains_176 : decode cX6_drains 176 = .ok (.iconst 1, 1) := by decide +kernel
theorem dX6_drains_177 : decode cX6_drains 177 = .ok (.goto 4, 3) := by decide +kernel
theorem dX6_drains_180 : decode cX6_drains 180 = .ok (.iconst 0, 1) := by decide +kernel
theorem dX6_drains_181 : decode cX6_drains 181 = .ok (.iadd, 1) := by decide +kernel
theorem dX6_drains_182 : decode cX6_drains 182 = .ok (.putfield 129, 3) := by decide +kernel
theorem dX6_drains_185 : decode cX6_drains 185 = .ok (.iinc 3 1, 3) := by decide +kernel
theorem dX6_drains_188 : decode cX6_drains 188 = .ok (.goto (-158), 3) := by decide +kernel
theorem dX6_drains_191 : decode cX6_drains 191 = .ok (.iload_n 2, 1) := by decide +kernel
theorem dX6_drains_192 : decode cX6_drains 192 = .ok (.ireturn, 1) := by decide +kernel
theorem dX6_isAble_0 : decode cX6_isAble 0 = .ok (.aload_n 0, 1) := by decide +kernel
theorem dX6_isAble_1 : decode cX6_isAble 1 = .ok (.getfield 63, 3) := by decide +kernel
theorem dX6_isAble_4 : decode cX6_isAble 4 = .ok (.iload_n 1, 1) := by decide +kernel
theorem dX6_isAble_5 : decode cX6_isAble 5 = .ok (.iaload, 1) := by decide +kernel
theorem dX6_isAble_6 : decode cX6_isAble 6 = .ok (.aload_n 0, 1) := by decide +kernel
theorem dX6_isAble_7 : decode cX6_isAble 7 = .ok (.getfield 60, 3) := by decide +kernel
theorem dX6_isAble_10 : decode cX6_isAble 10 = .ok (.iload_n 1, 1) := by decide +kernel
theorem dX6_isAble_11 : decode cX6_isAble 11 = .ok (.iaload, 1) := by decide +kernel
theorem dX6_isAble_12 : decode cX6_isAble 12 = .ok (.if_icmp .ge 15, 3) := by decide +kernel
theorem dX6_isAble_15 : decode cX6_isAble 15 = .ok (.aload_n 0, 1) := by decide +kernel
theorem dX6_isAble_16 : decode cX6_isAble 16 = .ok (.iload_n 1, 1) := by decide +kernel
theorem dX6_isAble_17 : decode cX6_isAble 17 = .ok (.invokevirtual 152, 3) := by decide +kernel
theorem dX6_isAble_20 : decode cX6_isAble 20 = .ok (.ifCond .le 7, 3) := by decide +kernel
theorem dX6_isAble_23 : decode cX6_isAble 23 = .ok (.iconst 1, 1) := by decide +kernel
theorem dX6_isAble_24 : decode cX6_isAble 24 = .ok (.goto 4, 3) := by decide +kernel
theorem dX6_isAble_27 : decode cX6_isAble 27 = .ok (.iconst 0, 1) := by decide +kernel
theorem dX6_isAble_28 : decode cX6_isAble 28 = .ok (.ireturn, 1) := by decide +kernel
theorem dX6_byTurns_0 : decode cX6_byTurns 0 = .ok (.iconst 1, 1) := by decide +kernel
theorem dX6_byTurns_1 : decode cX6_byTurns 1 = .ok (.istore_n 1, 1) := by decide +kernel
theorem dX6_byTurns_2 : decode cX6_byTurns 2 = .ok (.iload_n 1, 1) := by decide +kernel
theorem dX6_byTurns_3 : decode cX6_byTurns 3 = .ok (.aload_n 0, 1) := by decide +kernel
theorem dX6_byTurns_4 : decode cX6_byTurns 4 = .ok (.getfield 96, 3) := by decide +kernel
theorem dX6_byTurns_7 : decode cX6_byTurns 7 = .ok (.if_icmp .gt 45, 3) := by decide +kernel
theorem dX6_byTurns_10 : decode cX6_byTurns 10 = .ok (.aload_n 0, 1) := by decide +kernel
theorem dX6_byTurns_11 : decode cX6_byTurns 11 = .ok (.getfield 117, 3) := by decide +kernel
theorem dX6_byTurns_14 : decode cX6_byTurns 14 = .ok (.iconst (-1), 1) := by decide +kernel
theorem dX6_byTurns_15 : decode cX6_byTurns 15 = .ok (.if_icmp .ne 9, 3) := by decide +kernel
theorem dX6_byTurns_18 : decode cX6_byTurns 18 = .ok (.iload_n 1, 1) := by decide +kernel
theorem dX6_byTurns_19 : decode cX6_byTurns 19 = .ok (.iconst 1, 1) := by decide +kernel
theorem dX6_byTurns_20 : decode cX6_byTurns 20 = .ok (.isub, 1) := by decide +kernel
theorem dX6_byTurns_21 : decode cX6_byTurns 21 = .ok (.goto 14, 3) := by decide +kernel
theorem dX6_byTurns_24 : decode cX6_byTurns 24 = .ok (.aload_n 0, 1) := by decide +kernel
theorem dX6_byTurns_25 : decode cX6_byTurns 25 = .ok (.getfield 117, 3) := by decide +kernel
theorem dX6_byTurns_28 : decode cX6_byTurns 28 = .ok (.iload_n 1, 1) := by decide +kernel
theorem dX6_byTurns_29 : decode cX6_byTurns 29 = .ok (.iadd, 1) := by decide +kernel
theorem dX6_byTurns_30 : decode cX6_byTurns 30 = .ok (.aload_n 0, 1) := by decide +kernel
theorem dX6_byTurns_31 : decode cX6_byTurns 31 = .ok (.getfield 96, 3) := by decide +kernel
theorem dX6_byTurns_34 : decode cX6_byTurns 34 = .ok (.irem, 1) := by decide +kernel
theorem dX6_byTurns_35 : decode cX6_byTurns 35 = .ok (.istore_n 2, 1) := by decide +kernel
theorem dX6_byTurns_36 : decode cX6_byTurns 36 = .ok (.aload_n 0, 1) := by decide +kernel
theorem dX6_byTurns_37 : decode cX6_byTurns 37 = .ok (.iload_n 2, 1) := by decide +kernel
theorem dX6_byTurns_38 : decode cX6_byTurns 38 = .ok (.invokevirtual 155, 3) := by decide +kernel
theorem dX6_byTurns_41 : decode cX6_byTurns 41 = .ok (.ifCond .eq 5, 3) := by decide +kernel
theorem dX6_byTurns_44 : decode cX6_byTurns 44 = .ok (.iload_n 2, 1) := by decide +kernel
theorem dX6_byTurns_45 : decode cX6_byTurns 45 = .ok (.ireturn, 1) := by decide +kernel
theorem dX6_byTurns_46 : decode cX6_byTurns 46 = .ok (.iinc 1 1, 3) := by decide +kernel
theorem dX6_byTurns_49 : decode cX6_byTurns 49 = .ok (.goto (-47), 3) := by decide +kernel
theorem dX6_byTurns_52 : decode cX6_byTurns 52 = .ok (.iconst (-1), 1) := by decide +kernel
theorem dX6_byTurns_53 : decode cX6_byTurns 53 = .ok (.ireturn, 1) := by decide +kernel
theorem dX6_least_0 : decode cX6_least 0 = .ok (.iconst 0, 1) := by decide +kernel
theorem dX6_least_1 : decode cX6_least 1 = .ok (.istore_n 1, 1) := by decide +kernel
theorem dX6_least_2 : decode cX6_least 2 = .ok (.iload_n 1, 1) := by decide +kernel
theorem dX6_least_3 : decode cX6_least 3 = .ok (.aload_n 0, 1) := by decide +kernel
theorem dX6_least_4 : decode cX6_least 4 = .ok (.getfield 96, 3) := by decide +kernel
theorem dX6_least_7 : decode cX6_least 7 = .ok (.if_icmp .ge 19, 3) := by decide +kernel
theorem dX6_least_10 : decode cX6_least 10 = .ok (.aload_n 0, 1) := by decide +kernel
theorem dX6_least_11 : decode cX6_least 11 = .ok (.iload_n 1, 1) := by decide +kernel
theorem dX6_least_12 : decode cX6_least 12 = .ok (.invokevirtual 155, 3) := by decide +kernel
theorem dX6_least_15 : decode cX6_least 15 = .ok (.ifCond .eq 5, 3) := by decide +kernel
theorem dX6_least_18 : decode cX6_least 18 = .ok (.iload_n 1, 1) := by decide +kernel
theorem dX6_least_19 : decode cX6_least 19 = .ok (.ireturn, 1) := by decide +kernel
theorem dX6_least_20 : decode cX6_least 20 = .ok (.iinc 1 1, 3) := by decide +kernel
theorem dX6_least_23 : decode cX6_least 23 = .ok (.goto (-21), 3) := by decide +kernel
theorem dX6_least_26 : decode cX6_least 26 = .ok (.iconst (-1), 1) := by decide +kernel
theorem dX6_least_27 : decode cX6_least 27 = .ok (.ireturn, 1) := by decide +kernel
theorem dX6_begun_0 : decode cX6_begun 0 = .ok (.iconst 0, 1) := by decide +kernel
theorem dX6_begun_1 : decode cX6_begun 1 = .ok (.istore_n 1, 1) := by decide +kernel
theorem dX6_begun_2 : decode cX6_begun 2 = .ok (.iload_n 1, 1) := by decide +kernel
theorem dX6_begun_3 : decode cX6_begun 3 = .ok (.aload_n 0, 1) := by decide +kernel
theorem dX6_begun_4 : decode cX6_begun 4 = .ok (.getfield 96, 3) := by decide +kernel
theorem dX6_begun_7 : decode cX6_begun 7 = .ok (.if_icmp .ge 46, 3) := by decide +kernel
theorem dX6_begun_10 : decode cX6_begun 10 = .ok (.aload_n 0, 1) := by decide +kernel
theorem dX6_begun_11 : decode cX6_begun 11 = .ok (.getfield 63, 3) := by decide +kernel
theorem dX6_begun_14 : decode cX6_begun 14 = .ok (.iload_n 1, 1) := by decide +kernel
theorem dX6_begun_15 : decode cX6_begun 15 = .ok (.iaload, 1) := by decide +kernel
theorem dX6_begun_16 : decode cX6_begun 16 = .ok (.aload_n 0, 1) := by decide +kernel
theorem dX6_begun_17 : decode cX6_begun 17 = .ok (.getfield 60, 3) := by decide +kernel
theorem dX6_begun_20 : decode cX6_begun 20 = .ok (.iload_n 1, 1) := by decide +kernel
theorem dX6_begun_21 : decode cX6_begun 21 = .ok (.iaload, 1) := by decide +kernel
theorem dX6_begun_22 : decode cX6_begun 22 = .ok (.if_icmp .ge 25, 3) := by decide +kernel
theorem dX6_begun_25 : decode cX6_begun 25 = .ok (.aload_n 0, 1) := by decide +kernel
theorem dX6_begun_26 : decode cX6_begun 26 = .ok (.getfield 51, 3) := by decide +kernel
theorem dX6_begun_29 : decode cX6_begun 29 = .ok (.sipush 4000, 3) := by decide +kernel
theorem dX6_begun_32 : decode cX6_begun 32 = .ok (.iload_n 1, 1) := by decide +kernel
theorem dX6_begun_33 : decode cX6_begun 33 = .ok (.imul, 1) := by decide +kernel
theorem dX6_begun_34 : decode cX6_begun 34 = .ok (.aload_n 0, 1) := by decide +kernel
theorem dX6_begun_35 : decode cX6_begun 35 = .ok (.getfield 63, 3) := by decide +kernel
theorem dX6_begun_38 : decode cX6_begun 38 = .ok (.iload_n 1, 1) := by decide +kernel
theorem dX6_begun_39 : decode cX6_begun 39 = .ok (.iaload, 1) := by decide +kernel
theorem dX6_begun_40 : decode cX6_begun 40 = .ok (.iadd, 1) := by decide +kernel
theorem dX6_begun_41 : decode cX6_begun 41 = .ok (.iaload, 1) := by decide +kernel
theorem dX6_begun_42 : decode cX6_begun 42 = .ok (.ifCond .le 5, 3) := by decide +kernel
theorem dX6_begun_45 : decode cX6_begun 45 = .ok (.iload_n 1, 1) := by decide +kernel
theorem dX6_begun_46 : decode cX6_begun 46 = .ok (.ireturn, 1) := by decide +kernel
theorem dX6_begun_47 : decode cX6_begun 47 = .ok (.iinc 1 1, 3) := by decide +kernel
theorem dX6_begun_50 : decode cX6_begun 50 = .ok (.goto (-48), 3) := by decide +kernel
theorem dX6_begun_53 : decode cX6_begun 53 = .ok (.iconst (-1), 1) := by decide +kernel
theorem dX6_begun_54 : decode cX6_begun 54 = .ok (.ireturn, 1) := by decide +kernel
theorem dX6_doesWait_0 : decode cX6_doesWait 0 = .ok (.iconst 0, 1) := by decide +kernel
theorem dX6_doesWait_1 : decode cX6_doesWait 1 = .ok (.istore_n 1, 1) := by decide +kernel
theorem dX6_doesWait_2 : decode cX6_doesWait 2 = .ok (.iload_n 1, 1) := by decide +kernel
theorem dX6_doesWait_3 : decode cX6_doesWait 3 = .ok (.aload_n 0, 1) := by decide +kernel
theorem dX6_doesWait_4 : decode cX6_doesWait 4 = .ok (.getfield 96, 3) := by decide +kernel
theorem dX6_doesWait_7 : decode cX6_doesWait 7 = .ok (.if_icmp .ge 26, 3) := by decide +kernel
theorem dX6_doesWait_10 : decode cX6_doesWait 10 = .ok (.aload_n 0, 1) := by decide +kernel
theorem dX6_doesWait_11 : decode cX6_doesWait 11 = .ok (.getfield 63, 3) := by decide +kernel
theorem dX6_doesWait_14 : decode cX6_doesWait 14 = .ok (.iload_n 1, 1) := by decide +kernel
theorem dX6_doesWait_15 : decode cX6_doesWait 15 = .ok (.iaload, 1) := by decide +kernel
theorem dX6_doesWait_16 : decode cX6_doesWait 16 = .ok (.aload_n 0, 1) := by decide +kernel
theorem dX6_doesWait_17 : decode cX6_doesWait 17 = .ok (.getfield 60, 3) := by decide +kernel
theorem dX6_doesWait_20 : decode cX6_doesWait 20 = .ok (.iload_n 1, 1) := by decide +kernel
theorem dX6_doesWait_21 : decode cX6_doesWait 21 = .ok (.iaload, 1) := by decide +kernel
theorem dX6_doesWait_22 : decode cX6_doesWait 22 = .ok (.if_icmp .ge 5, 3) := by decide +kernel
theorem dX6_doesWait_25 : decode cX6_doesWait 25 = .ok (.iconst 1, 1) := by decide +kernel
theorem dX6_doesWait_26 : decode cX6_doesWait 26 = .ok (.ireturn, 1) := by decide +kernel
theorem dX6_doesWait_27 : decode cX6_doesWait 27 = .ok (.iinc 1 1, 3) := by decide +kernel
theorem dX6_doesWait_30 : decode cX6_doesWait 30 = .ok (.goto (-28), 3) := by decide +kernel
theorem dX6_doesWait_33 : decode cX6_doesWait 33 = .ok (.iconst 0, 1) := by decide +kernel
theorem dX6_doesWait_34 : decode cX6_doesWait 34 = .ok (.ireturn, 1) := by decide +kernel
theorem dX6_sends_0 : decode cX6_sends 0 = .ok (.aload_n 0, 1) := by decide +kernel
theorem dX6_sends_1 : decode cX6_sends 1 = .ok (.invokevirtual 158, 3) := by decide +kernel
theorem dX6_sends_4 : decode cX6_sends 4 = .ok (.istore_n 1, 1) := by decide +kernel
theorem dX6_sends_5 : decode cX6_sends 5 = .ok (.aload_n 0, 1) := by decide +kernel
theorem dX6_sends_6 : decode cX6_sends 6 = .ok (.getfield 105, 3) := by decide +kernel
theorem dX6_sends_9 : decode cX6_sends 9 = .ok (.iconst 2, 1) := by decide +kernel
theorem dX6_sends_10 : decode cX6_sends 10 = .ok (.if_icmp .ne 42, 3) := by decide +kernel
theorem dX6_sends_13 : decode cX6_sends 13 = .ok (.aload_n 0, 1) := by decide +kernel
theorem dX6_sends_14 : decode cX6_sends 14 = .ok (.getfield 117, 3) := by decide +kernel
theorem dX6_sends_17 : decode cX6_sends 17 = .ok (.iconst (-1), 1) := by decide +kernel
theorem dX6_sends_18 : decode cX6_sends 18 = .ok (.if_icmp .eq 34, 3) := by decide +kernel
theorem dX6_sends_21 : decode cX6_sends 21 = .ok (.aload_n 0, 1) := by decide +kernel
theorem dX6_sends_22 : decode cX6_sends 22 = .ok (.aload_n 0, 1) := by decide +kernel
theorem dX6_sends_23 : decode cX6_sends 23 = .ok (.getfield 117, 3) := by decide +kernel
theorem dX6_sends_26 : decode cX6_sends 26 = .ok (.invokevirtual 155, 3) := by decide +kernel
theorem dX6_sends_29 : decode cX6_sends 29 = .ok (.ifCond .eq 23, 3) := by decide +kernel
theorem dX6_sends_32 : decode cX6_sends 32 = .ok (.aload_n 0, 1) := by decide +kernel
theorem dX6_sends_33 : decode cX6_sends 33 = .ok (.getfield 120, 3) := by decide +kernel
theorem dX6_sends_36 : decode cX6_sends 36 = .ok (.aload_n 0, 1) := by decide +kernel
theorem dX6_sends_37 : decode cX6_sends 37 = .ok (.getfield 13, 3) := by decide +kernel
theorem dX6_sends_40 : decode cX6_sends 40 = .ok (.aload_n 0, 1) := by decide +kernel
theorem dX6_sends_41 : decode cX6_sends 41 = .ok (.getfield 117, 3) := by decide +kernel
theorem dX6_sends_44 : decode cX6_sends 44 = .ok (.iaload, 1) := by decide +kernel
theorem dX6_sends_45 : decode cX6_sends 45 = .ok (.if_icmp .ge 7, 3) := by decide +kernel
theorem dX6_sends_48 : decode cX6_sends 48 = .ok (.iconst 1, 1) := by decide +kernel
theorem dX6_sends_49 : decode cX6_sends 49 = .ok (.goto 4, 3) := by decide +kernel
theorem dX6_sends_52 : decode cX6_sends 52 = .ok (.iconst 0, 1) := by decide +kernel
theorem dX6_sends_53 : decode cX6_sends 53 = .ok (.istore_n 2, 1) := by decide +kernel
theorem dX6_sends_54 : decode cX6_sends 54 = .ok (.aload_n 0, 1) := by decide +kernel
theorem dX6_sends_55 : decode cX6_sends 55 = .ok (.getfield 105, 3) := by decide +kernel
theorem dX6_sends_58 : decode cX6_sends 58 = .ok (.iconst 3, 1) := by decide +kernel
theorem dX6_sends_59 : decode cX6_sends 59 = .ok (.if_icmp .ne 10, 3) := by decide +kernel
theorem dX6_sends_62 : decode cX6_sends 62 = .ok (.aload_n 0, 1) := by decide +kernel
theorem dX6_sends_63 : decode cX6_sends 63 = .ok (.invokevirtual 162, 3) := by decide +kernel
theorem dX6_sends_66 : decode cX6_sends 66 = .ok (.goto 4, 3) := by decide +kernel
theorem dX6_sends_69 : decode cX6_sends 69 = .ok (.iconst (-1), 1) := by decide +kernel
theorem dX6_sends_70 : decode cX6_sends 70 = .ok (.istore_n 3, 1) := by decide +kernel
theorem dX6_sends_71 : decode cX6_sends 71 = .ok (.aload_n 0, 1) := by decide +kernel
theorem dX6_sends_72 : decode cX6_sends 72 = .ok (.getfield 105, 3) := by decide +kernel
theorem dX6_sends_75 : decode cX6_sends 75 = .ok (.iconst 1, 1) := by decide +kernel
theorem dX6_sends_76 : decode cX6_sends 76 = .ok (.if_icmp .ne 10, 3) := by decide +kernel
theorem dX6_sends_79 : decode cX6_sends 79 = .ok (.aload_n 0, 1) := by decide +kernel
theorem dX6_sends_80 : decode cX6_sends 80 = .ok (.invokevirtual 166, 3) := by decide +kernel
theorem dX6_sends_83 : decode cX6_sends 83 = .ok (.goto 39, 3) := by decide +kernel
theorem dX6_sends_86 : decode cX6_sends 86 = .ok (.iload_n 2, 1) := by decide +kernel
theorem dX6_sends_87 : decode cX6_sends 87 = .ok (.ifCond .eq 10, 3) := by decide +kernel
theorem dX6_sends_90 : decode cX6_sends 90 = .ok (.aload_n 0, 1) := by decide +kernel
theorem dX6_sends_91 : decode cX6_sends 91 = .ok (.getfield 117, 3) := by decide +kernel
theorem dX6_sends_94 : decode cX6_sends 94 = .ok (.goto 28, 3) := by decide +kernel
theorem dX6_sends_97 : decode cX6_sends 97 = .ok (.iload_n 3, 1) := by decide +kernel
theorem dX6_sends_98 : decode cX6_sends 98 = .ok (.iconst (-1), 1) := by decide +kernel
theorem dX6_sends_99 : decode cX6_sends 99 = .ok (.if_icmp .eq 19, 3) := by decide +kernel
theorem dX6_sends_102 : decode cX6_sends 102 = .ok (.aload_n 0, 1) := by decide +kernel
theorem dX6_sends_103 : decode cX6_sends 103 = .ok (.iload_n 3, 1) := by decide +kernel
theorem dX6_sends_104 : decode cX6_sends 104 = .ok (.invokevirtual 155, 3) := by decide +kernel
theorem dX6_sends_107 : decode cX6_sends 107 = .ok (.ifCond .eq 7, 3) := by decide +kernel
theorem dX6_sends_110 : decode cX6_sends 110 = .ok (.iload_n 3, 1) := by decide +kernel
theorem dX6_sends_111 : decode cX6_sends 111 = .ok (.goto 11, 3) := by decide +kernel
theorem dX6_sends_114 : decode cX6_sends 114 = .ok (.iconst (-1), 1) := by decide +kernel
theorem dX6_sends_115 : decode cX6_sends 115 = .ok (.goto 7, 3) := by decide +kernel
theorem dX6_sends_118 : decode cX6_sends 118 = .ok (.aload_n 0, 1) := by decide +kernel
theorem dX6_sends_119 : decode cX6_sends 119 = .ok (.invokevirtual 169, 3) := by decide +kernel
theorem dX6_sends_122 : decode cX6_sends 122 = .ok (.istore 4, 2) := by decide +kernel
theorem dX6_sends_124 : decode cX6_sends 124 = .ok (.iload 4, 2) := by decide +kernel
theorem dX6_sends_126 : decode cX6_sends 126 = .ok (.iconst (-1), 1) := by decide +kernel
theorem dX6_sends_127 : decode cX6_sends 127 = .ok (.if_icmp .ne 22, 3) := by decide +kernel
theorem dX6_sends_130 : decode cX6_sends 130 = .ok (.aload_n 0, 1) := by decide +kernel
theorem dX6_sends_131 : decode cX6_sends 131 = .ok (.dup, 1) := by decide +kernel
theorem dX6_sends_132 : decode cX6_sends 132 = .ok (.getfield 123, 3) := by decide +kernel
theorem dX6_sends_135 : decode cX6_sends 135 = .ok (.iload_n 1, 1) := by decide +kernel
theorem dX6_sends_136 : decode cX6_sends 136 = .ok (.ifCond .eq 7, 3) := by decide +kernel
theorem dX6_sends_139 : decode cX6_sends 139 = .ok (.iconst 1, 1) := by decide +kernel
theorem dX6_sends_140 : decode cX6_sends 140 = .ok (.goto 4, 3) := by decide +kernel
theorem dX6_sends_143 : decode cX6_sends 143 = .ok (.iconst 0, 1) := by decide +kernel
theorem dX6_sends_144 : decode cX6_sends 144 = .ok (.iadd, 1) := by decide +kernel
theorem dX6_sends_145 : decode cX6_sends 145 = .ok (.putfield 123, 3) := by decide +kernel
theorem dX6_sends_148 : decode cX6_sends 148 = .ok (.return_, 1) := by decide +kernel
theorem dX6_sends_149 : decode cX6_sends 149 = .ok (.sipush 4000, 3) := by decide +kernel
theorem dX6_sends_152 : decode cX6_sends 152 = .ok (.iload 4, 2) := by decide +kernel
theorem dX6_sends_154 : decode cX6_sends 154 = .ok (.imul, 1) := by decide +kernel
theorem dX6_sends_155 : decode cX6_sends 155 = .ok (.aload_n 0, 1) := by decide +kernel
theorem dX6_sends_156 : decode cX6_sends 156 = .ok (.getfield 63, 3) := by decide +kernel
theorem dX6_sends_159 : decode cX6_sends 159 = .ok (.iload 4, 2) := by decide +kernel
theorem dX6_sends_161 : decode cX6_sends 161 = .ok (.iaload, 1) := by decide +kernel
theorem dX6_sends_162 : decode cX6_sends 162 = .ok (.iadd, 1) := by decide +kernel
theorem dX6_sends_163 : decode cX6_sends 163 = .ok (.istore 5, 2) := by decide +kernel
theorem dX6_sends_165 : decode cX6_sends 165 = .ok (.aload_n 0, 1) := by decide +kernel
theorem dX6_sends_166 : decode cX6_sends 166 = .ok (.getfield 54, 3) := by decide +kernel
theorem dX6_sends_169 : decode cX6_sends 169 = .ok (.iload 5, 2) := by decide +kernel
theorem dX6_sends_171 : decode cX6_sends 171 = .ok (.aload_n 0, 1) := by decide +kernel
theorem dX6_sends_172 : decode cX6_sends 172 = .ok (.getfield 114, 3) := by decide +kernel
theorem dX6_sends_175 : decode cX6_sends 175 = .ok (.iastore, 1) := by decide +kernel
theorem dX6_sends_176 : decode cX6_sends 176 = .ok (.aload_n 0, 1) := by decide +kernel
theorem dX6_sends_177 : decode cX6_sends 177 = .ok (.getfield 51, 3) := by decide +kernel
theorem dX6_sends_180 : decode cX6_sends 180 = .ok (.iload 5, 2) := by decide +kernel
theorem dX6_sends_182 : decode cX6_sends 182 = .ok (.iaload, 1) := by decide +kernel
theorem dX6_sends_183 : decode cX6_sends 183 = .ok (.ifCond .ne 19, 3) := by decide +kernel
theorem dX6_sends_186 : decode cX6_sends 186 = .ok (.aload_n 0, 1) := by decide +kernel
theorem dX6_sends_187 : decode cX6_sends 187 = .ok (.getfield 32, 3) := by decide +kernel
theorem dX6_sends_190 : decode cX6_sends 190 = .ok (.aload_n 0, 1) := by decide +kernel
theorem dX6_sends_191 : decode cX6_sends 191 = .ok (.getfield 48, 3) := by decide +kernel
theorem dX6_sends_194 : decode cX6_sends 194 = .ok (.iload 5, 2) := by decide +kernel
theorem dX6_sends_196 : decode cX6_sends 196 = .ok (.iaload, 1) := by decide +kernel
theorem dX6_sends_197 : decode cX6_sends 197 = .ok (.aload_n 0, 1) := by decide +kernel
theorem dX6_sends_198 : decode cX6_sends 198 = .ok (.getfield 114, 3) := by decide +kernel
theorem dX6_sends_201 : decode cX6_sends 201 = .ok (.iastore, 1) := by decide +kernel
theorem dX6_sends_202 : decode cX6_sends 202 = .ok (.aload_n 0, 1) := by decide +kernel
theorem dX6_sends_203 : decode cX6_sends 203 = .ok (.getfield 63, 3) := by decide +kernel
theorem dX6_sends_206 : decode cX6_sends 206 = .ok (.iload 4, 2) := by decide +kernel
theorem dX6_sends_208 : decode cX6_sends 208 = .ok (.dup2, 1) := by decide +kernel
theorem dX6_sends_209 : decode cX6_sends 209 = .ok (.iaload, 1) := by decide +kernel
theorem dX6_sends_210 : decode cX6_sends 210 = .ok (.iconst 1, 1) := by decide +kernel
theorem dX6_sends_211 : decode cX6_sends 211 = .ok (.iadd, 1) := by decide +kernel
theorem dX6_sends_212 : decode cX6_sends 212 = .ok (.iastore, 1) := by decide +kernel
theorem dX6_sends_213 : decode cX6_sends 213 = .ok (.aload_n 0, 1) := by decide +kernel
theorem dX6_sends_214 : decode cX6_sends 214 = .ok (.iload 4, 2) := by decide +kernel
theorem dX6_sends_216 : decode cX6_sends 216 = .ok (.aload_n 0, 1) := by decide +kernel
theorem dX6_sends_217 : decode cX6_sends 217 = .ok (.getfield 117, 3) := by decide +kernel
theorem dX6_sends_220 : decode cX6_sends 220 = .ok (.if_icmp .ne 15, 3) := by decide +kernel
theorem dX6_sends_223 : decode cX6_sends 223 = .ok (.aload_n 0, 1) := by decide +kernel
theorem dX6_sends_224 : decode cX6_sends 224 = .ok (.getfield 105, 3) := by decide +kernel
theorem dX6_sends_227 : decode cX6_sends 227 = .ok (.iconst 2, 1) := by decide +kernel
theorem dX6_sends_228 : decode cX6_sends 228 = .ok (.if_icmp .ne 11, 3) := by decide +kernel
theorem dX6_sends_231 : decode cX6_sends 231 = .ok (.iload_n 2, 1) := by decide +kernel
theorem dX6_sends_232 : decode cX6_sends 232 = .ok (.ifCond .ne 7, 3) := by decide +kernel
theorem dX6_sends_235 : decode cX6_sends 235 = .ok (.iconst 1, 1) := by decide +kernel
theorem dX6_sends_236 : decode cX6_sends 236 = .ok (.goto 9, 3) := by decide +kernel
theorem dX6_sends_239 : decode cX6_sends 239 = .ok (.aload_n 0, 1) := by decide +kernel
theorem dX6_sends_240 : decode cX6_sends 240 = .ok (.getfield 120, 3) := by decide +kernel
theorem dX6_sends_243 : decode cX6_sends 243 = .ok (.iconst 1, 1) := by decide +kernel
theorem dX6_sends_244 : decode cX6_sends 244 = .ok (.iadd, 1) := by decide +kernel
theorem dX6_sends_245 : decode cX6_sends 245 = .ok (.putfield 120, 3) := by decide +kernel
theorem dX6_sends_248 : decode cX6_sends 248 = .ok (.aload_n 0, 1) := by decide +kernel
theorem dX6_sends_249 : decode cX6_sends 249 = .ok (.iload 4, 2) := by decide +kernel
theorem dX6_sends_251 : decode cX6_sends 251 = .ok (.putfield 117, 3) := by decide +kernel
theorem dX6_sends_254 : decode cX6_sends 254 = .ok (.return_, 1) := by decide +kernel
theorem dX6_cycle_0 : decode cX6_cycle 0 = .ok (.iconst 0, 1) := by decide +kernel
theorem dX6_cycle_1 : decode cX6_cycle 1 = .ok (.istore_n 1, 1) := by decide +kernel
theorem dX6_cycle_2 : decode cX6_cycle 2 = .ok (.iload_n 1, 1) := by decide +kernel
theorem dX6_cycle_3 : decode cX6_cycle 3 = .ok (.aload_n 0, 1) := by decide +kernel
theorem dX6_cycle_4 : decode cX6_cycle 4 = .ok (.getfield 111, 3) := by decide +kernel
theorem dX6_cycle_7 : decode cX6_cycle 7 = .ok (.if_icmp .ge 53, 3) := by decide +kernel
theorem dX6_cycle_10 : decode cX6_cycle 10 = .ok (.aload_n 0, 1) := by decide +kernel
theorem dX6_cycle_11 : decode cX6_cycle 11 = .ok (.getfield 45, 3) := by decide +kernel
theorem dX6_cycle_14 : decode cX6_cycle 14 = .ok (.iload_n 1, 1) := by decide +kernel
theorem dX6_cycle_15 : decode cX6_cycle 15 = .ok (.aload_n 0, 1) := by decide +kernel
theorem dX6_cycle_16 : decode cX6_cycle 16 = .ok (.getfield 45, 3) := by decide +kernel
theorem dX6_cycle_19 : decode cX6_cycle 19 = .ok (.iload_n 1, 1) := by decide +kernel
theorem dX6_cycle_20 : decode cX6_cycle 20 = .ok (.baload, 1) := by decide +kernel
theorem dX6_cycle_21 : decode cX6_cycle 21 = .ok (.ifCond .eq 31, 3) := by decide +kernel
theorem dX6_cycle_24 : decode cX6_cycle 24 = .ok (.aload_n 0, 1) := by decide +kernel
theorem dX6_cycle_25 : decode cX6_cycle 25 = .ok (.getfield 35, 3) := by decide +kernel
theorem dX6_cycle_28 : decode cX6_cycle 28 = .ok (.iload_n 1, 1) := by decide +kernel
theorem dX6_cycle_29 : decode cX6_cycle 29 = .ok (.iaload, 1) := by decide +kernel
theorem dX6_cycle_30 : decode cX6_cycle 30 = .ok (.iconst (-1), 1) := by decide +kernel
theorem dX6_cycle_31 : decode cX6_cycle 31 = .ok (.if_icmp .ne 17, 3) := by decide +kernel
theorem dX6_cycle_34 : decode cX6_cycle 34 = .ok (.aload_n 0, 1) := by decide +kernel
theorem dX6_cycle_35 : decode cX6_cycle 35 = .ok (.getfield 108, 3) := by decide +kernel
theorem dX6_cycle_38 : decode cX6_cycle 38 = .ok (.ifCond .ne 14, 3) := by decide +kernel
theorem dX6_cycle_41 : decode cX6_cycle 41 = .ok (.aload_n 0, 1) := by decide +kernel
theorem dX6_cycle_42 : decode cX6_cycle 42 = .ok (.getfield 105, 3) := by decide +kernel
theorem dX6_cycle_45 : decode cX6_cycle 45 = .ok (.ifCond .ne 7, 3) := by decide +kernel
theorem dX6_cycle_48 : decode cX6_cycle 48 = .ok (.iconst 1, 1) := by decide +kernel
theorem dX6_cycle_49 : decode cX6_cycle 49 = .ok (.goto 4, 3) := by decide +kernel
theorem dX6_cycle_52 : decode cX6_cycle 52 = .ok (.iconst 0, 1) := by decide +kernel
theorem dX6_cycle_53 : decode cX6_cycle 53 = .ok (.bastore, 1) := by decide +kernel
theorem dX6_cycle_54 : decode cX6_cycle 54 = .ok (.iinc 1 1, 3) := by decide +kernel
theorem dX6_cycle_57 : decode cX6_cycle 57 = .ok (.goto (-55), 3) := by decide +kernel
theorem dX6_cycle_60 : decode cX6_cycle 60 = .ok (.aload_n 0, 1) := by decide +kernel
theorem dX6_cycle_61 : decode cX6_cycle 61 = .ok (.invokevirtual 172, 3) := by decide +kernel
theorem dX6_cycle_64 : decode cX6_cycle 64 = .ok (.aload_n 0, 1) := by decide +kernel
theorem dX6_cycle_65 : decode cX6_cycle 65 = .ok (.invokevirtual 175, 3) := by decide +kernel
theorem dX6_cycle_68 : decode cX6_cycle 68 = .ok (.aload_n 0, 1) := by decide +kernel
theorem dX6_cycle_69 : decode cX6_cycle 69 = .ok (.invokevirtual 178, 3) := by decide +kernel
theorem dX6_cycle_72 : decode cX6_cycle 72 = .ok (.istore_n 1, 1) := by decide +kernel
theorem dX6_cycle_73 : decode cX6_cycle 73 = .ok (.aload_n 0, 1) := by decide +kernel
theorem dX6_cycle_74 : decode cX6_cycle 74 = .ok (.invokevirtual 181, 3) := by decide +kernel
theorem dX6_cycle_77 : decode cX6_cycle 77 = .ok (.aload_n 0, 1) := by decide +kernel
theorem dX6_cycle_78 : decode cX6_cycle 78 = .ok (.dup, 1) := by decide +kernel
theorem dX6_cycle_79 : decode cX6_cycle 79 = .ok (.getfield 114, 3) := by decide +kernel
theorem dX6_cycle_82 : decode cX6_cycle 82 = .ok (.iconst 1, 1) := by decide +kernel
theorem dX6_cycle_83 : decode cX6_cycle 83 = .ok (.iadd, 1) := by decide +kernel
theorem dX6_cycle_84 : decode cX6_cycle 84 = .ok (.putfield 114, 3) := by decide +kernel
theorem dX6_cycle_87 : decode cX6_cycle 87 = .ok (.iload_n 1, 1) := by decide +kernel
theorem dX6_cycle_88 : decode cX6_cycle 88 = .ok (.ireturn, 1) := by decide +kernel
theorem dX6_run_0 : decode cX6_run 0 = .ok (.aload_n 0, 1) := by decide +kernel
theorem dX6_run_1 : decode cX6_run 1 = .ok (.iload_n 1, 1) := by decide +kernel
theorem dX6_run_2 : decode cX6_run 2 = .ok (.iconst 1, 1) := by decide +kernel
theorem dX6_run_3 : decode cX6_run 3 = .ok (.sipush 5000, 3) := by decide +kernel
theorem dX6_run_6 : decode cX6_run 6 = .ok (.invokestatic 92, 3) := by decide +kernel
theorem dX6_run_9 : decode cX6_run 9 = .ok (.ifCond .eq 7, 3) := by decide +kernel
theorem dX6_run_12 : decode cX6_run 12 = .ok (.iconst 0, 1) := by decide +kernel
theorem dX6_run_13 : decode cX6_run 13 = .ok (.goto 4, 3) := by decide +kernel
theorem dX6_run_16 : decode cX6_run 16 = .ok (.iconst 1, 1) := by decide +kernel
theorem dX6_run_17 : decode cX6_run 17 = .ok (.putfield 88, 3) := by decide +kernel
theorem dX6_run_20 : decode cX6_run 20 = .ok (.iconst 0, 1) := by decide +kernel
theorem dX6_run_21 : decode cX6_run 21 = .ok (.istore_n 2, 1) := by decide +kernel
theorem dX6_run_22 : decode cX6_run 22 = .ok (.iconst 0, 1) := by decide +kernel
theorem dX6_run_23 : decode cX6_run 23 = .ok (.istore_n 3, 1) := by decide +kernel
theorem dX6_run_24 : decode cX6_run 24 = .ok (.iload_n 3, 1) := by decide +kernel
theorem dX6_run_25 : decode cX6_run 25 = .ok (.iload_n 1, 1) := by decide +kernel
theorem dX6_run_26 : decode cX6_run 26 = .ok (.if_icmp .ge 23, 3) := by decide +kernel
theorem dX6_run_29 : decode cX6_run 29 = .ok (.aload_n 0, 1) := by decide +kernel
theorem dX6_run_30 : decode cX6_run 30 = .ok (.getfield 88, 3) := by decide +kernel
theorem dX6_run_33 : decode cX6_run 33 = .ok (.ifCond .ne 16, 3) := by decide +kernel
theorem dX6_run_36 : decode cX6_run 36 = .ok (.iload_n 2, 1) := by decide +kernel
theorem dX6_run_37 : decode cX6_run 37 = .ok (.aload_n 0, 1) := by decide +kernel
theorem dX6_run_38 : decode cX6_run 38 = .ok (.invokevirtual 184, 3) := by decide +kernel
theorem dX6_run_41 : decode cX6_run 41 = .ok (.iadd, 1) := by decide +kernel
theorem dX6_run_42 : decode cX6_run 42 = .ok (.istore_n 2, 1) := by decide +kernel
theorem dX6_run_43 : decode cX6_run 43 = .ok (.iinc 3 1, 3) := by decide +kernel
theorem dX6_run_46 : decode cX6_run 46 = .ok (.goto (-22), 3) := by decide +kernel
theorem dX6_run_49 : decode cX6_run 49 = .ok (.iload_n 2, 1) := by decide +kernel
theorem dX6_run_50 : decode cX6_run 50 = .ok (.ireturn, 1) := by decide +kernel
theorem dX6_take_0 : decode cX6_take 0 = .ok (.aload_n 0, 1) := by decide +kernel
theorem dX6_take_1 : decode cX6_take 1 = .ok (.aload_n 0, 1) := by decide +kernel
theorem dX6_take_2 : decode cX6_take 2 = .ok (.iload_n 1, 1) := by decide +kernel
theorem dX6_take_3 : decode cX6_take 3 = .ok (.invokevirtual 132, 3) := by decide +kernel
theorem dX6_take_6 : decode cX6_take 6 = .ok (.ifCond .eq 7, 3) := by decide +kernel
theorem dX6_take_9 : decode cX6_take 9 = .ok (.iconst 0, 1) := by decide +kernel
theorem dX6_take_10 : decode cX6_take 10 = .ok (.goto 4, 3) := by decide +kernel
theorem dX6_take_13 : decode cX6_take 13 = .ok (.iconst 1, 1) := by decide +kernel
theorem dX6_take_14 : decode cX6_take 14 = .ok (.putfield 88, 3) := by decide +kernel
theorem dX6_take_17 : decode cX6_take 17 = .ok (.aload_n 0, 1) := by decide +kernel
theorem dX6_take_18 : decode cX6_take 18 = .ok (.getfield 88, 3) := by decide +kernel
theorem dX6_take_21 : decode cX6_take 21 = .ok (.ifCond .le 5, 3) := by decide +kernel
theorem dX6_take_24 : decode cX6_take 24 = .ok (.iconst 0, 1) := by decide +kernel
theorem dX6_take_25 : decode cX6_take 25 = .ok (.ireturn, 1) := by decide +kernel
theorem dX6_take_26 : decode cX6_take 26 = .ok (.iconst 0, 1) := by decide +kernel
theorem dX6_take_27 : decode cX6_take 27 = .ok (.istore_n 2, 1) := by decide +kernel
theorem dX6_take_28 : decode cX6_take 28 = .ok (.iload_n 2, 1) := by decide +kernel
theorem dX6_take_29 : decode cX6_take 29 = .ok (.aload_n 0, 1) := by decide +kernel
theorem dX6_take_30 : decode cX6_take 30 = .ok (.getfield 111, 3) := by decide +kernel
theorem dX6_take_33 : decode cX6_take 33 = .ok (.if_icmp .ge 93, 3) := by decide +kernel
theorem dX6_take_36 : decode cX6_take 36 = .ok (.aload_n 0, 1) := by decide +kernel
theorem dX6_take_37 : decode cX6_take 37 = .ok (.getfield 19, 3) := by decide +kernel
theorem dX6_take_40 : decode cX6_take 40 = .ok (.iload_n 2, 1) := by decide +kernel
theorem dX6_take_41 : decode cX6_take 41 = .ok (.iaload, 1) := by decide +kernel
theorem dX6_take_42 : decode cX6_take 42 = .ok (.iload_n 1, 1) := by decide +kernel
theorem dX6_take_43 : decode cX6_take 43 = .ok (.if_icmp .ne 77, 3) := by decide +kernel
theorem dX6_take_46 : decode cX6_take 46 = .ok (.aload_n 0, 1) := by decide +kernel
theorem dX6_take_47 : decode cX6_take 47 = .ok (.getfield 35, 3) := by decide +kernel
theorem dX6_take_50 : decode cX6_take 50 = .ok (.iload_n 2, 1) := by decide +kernel
theorem dX6_take_51 : decode cX6_take 51 = .ok (.iaload, 1) := by decide +kernel
theorem dX6_take_52 : decode cX6_take 52 = .ok (.iconst (-1), 1) := by decide +kernel
theorem dX6_take_53 : decode cX6_take 53 = .ok (.if_icmp .eq 67, 3) := by decide +kernel
theorem dX6_take_56 : decode cX6_take 56 = .ok (.aload_n 0, 1) := by decide +kernel
theorem dX6_take_57 : decode cX6_take 57 = .ok (.getfield 41, 3) := by decide +kernel
theorem dX6_take_60 : decode cX6_take 60 = .ok (.iload_n 2, 1) := by decide +kernel
theorem dX6_take_61 : decode cX6_take 61 = .ok (.baload, 1) := by decide +kernel
theorem dX6_take_62 : decode cX6_take 62 = .ok (.ifCond .eq 6, 3) := by decide +kernel
theorem dX6_take_65 : decode cX6_take 65 = .ok (.goto 55, 3) := by decide +kernel
theorem dX6_take_68 : decode cX6_take 68 = .ok (.aload_n 0, 1) := by decide +kernel
theorem dX6_take_69 : decode cX6_take 69 = .ok (.getfield 41, 3) := by decide +kernel
theorem dX6_take_72 : decode cX6_take 72 = .ok (.iload_n 2, 1) := by decide +kernel
theorem dX6_take_73 : decode cX6_take 73 = .ok (.iconst 1, 1) := by decide +kernel
theorem dX6_take_74 : decode cX6_take 74 = .ok (.bastore, 1) := by decide +kernel
theorem dX6_take_75 : decode cX6_take 75 = .ok (.aload_n 0, 1) := by decide +kernel
theorem dX6_take_76 : decode cX6_take 76 = .ok (.aload_n 0, 1) := by decide +kernel
theorem dX6_take_77 : decode cX6_take 77 = .ok (.getfield 22, 3) := by decide +kernel
theorem dX6_take_80 : decode cX6_take 80 = .ok (.iload_n 2, 1) := by decide +kernel
theorem dX6_take_81 : decode cX6_take 81 = .ok (.iaload, 1) := by decide +kernel
theorem dX6_take_82 : decode cX6_take 82 = .ok (.putfield 187, 3) := by decide +kernel
theorem dX6_take_85 : decode cX6_take 85 = .ok (.iconst 0, 1) := by decide +kernel
theorem dX6_take_86 : decode cX6_take 86 = .ok (.istore_n 3, 1) := by decide +kernel
theorem dX6_take_87 : decode cX6_take 87 = .ok (.iload_n 3, 1) := by decide +kernel
theorem dX6_take_88 : decode cX6_take 88 = .ok (.aload_n 0, 1) := by decide +kernel
theorem dX6_take_89 : decode cX6_take 89 = .ok (.getfield 187, 3) := by decide +kernel
theorem dX6_take_92 : decode cX6_take 92 = .ok (.if_icmp .ge 26, 3) := by decide +kernel
theorem dX6_take_95 : decode cX6_take 95 = .ok (.aload_n 0, 1) := by decide +kernel
theorem dX6_take_96 : decode cX6_take 96 = .ok (.getfield 81, 3) := by decide +kernel
theorem dX6_take_99 : decode cX6_take 99 = .ok (.iload_n 3, 1) := by decide +kernel
theorem dX6_take_100 : decode cX6_take 100 = .ok (.aload_n 0, 1) := by decide +kernel
theorem dX6_take_101 : decode cX6_take 101 = .ok (.getfield 25, 3) := by decide +kernel
theorem dX6_take_104 : decode cX6_take 104 = .ok (.bipush 60, 2) := by decide +kernel
theorem dX6_take_106 : decode cX6_take 106 = .ok (.iload_n 2, 1) := by decide +kernel
theorem dX6_take_107 : decode cX6_take 107 = .ok (.imul, 1) := by decide +kernel
theorem dX6_take_108 : decode cX6_take 108 = .ok (.iload_n 3, 1) := by decide +kernel
theorem dX6_take_109 : decode cX6_take 109 = .ok (.iadd, 1) := by decide +kernel
theorem dX6_take_110 : decode cX6_take 110 = .ok (.baload, 1) := by decide +kernel
theorem dX6_take_111 : decode cX6_take 111 = .ok (.bastore, 1) := by decide +kernel
theorem dX6_take_112 : decode cX6_take 112 = .ok (.iinc 3 1, 3) := by decide +kernel
theorem dX6_take_115 : decode cX6_take 115 = .ok (.goto (-28), 3) := by decide +kernel
theorem dX6_take_118 : decode cX6_take 118 = .ok (.iload_n 2, 1) := by decide +kernel
theorem dX6_take_119 : decode cX6_take 119 = .ok (.ireturn, 1) := by decide +kernel
theorem dX6_take_120 : decode cX6_take 120 = .ok (.iinc 2 1, 3) := by decide +kernel
theorem dX6_take_123 : decode cX6_take 123 = .ok (.goto (-95), 3) := by decide +kernel
theorem dX6_take_126 : decode cX6_take 126 = .ok (.iconst (-1), 1) := by decide +kernel
theorem dX6_take_127 : decode cX6_take 127 = .ok (.ireturn, 1) := by decide +kernel
theorem dX6_answer_0 : decode cX6_answer 0 = .ok (.aload_n 0, 1) := by decide +kernel
theorem dX6_answer_1 : decode cX6_answer 1 = .ok (.iconst 0, 1) := by decide +kernel
theorem dX6_answer_2 : decode cX6_answer 2 = .ok (.putfield 88, 3) := by decide +kernel
theorem dX6_answer_5 : decode cX6_answer 5 = .ok (.iload_n 1, 1) := by decide +kernel
theorem dX6_answer_6 : decode cX6_answer 6 = .ok (.ifCond .lt 11, 3) := by decide +kernel
theorem dX6_answer_9 : decode cX6_answer 9 = .ok (.iload_n 1, 1) := by decide +kernel
theorem dX6_answer_10 : decode cX6_answer 10 = .ok (.aload_n 0, 1) := by decide +kernel
theorem dX6_answer_11 : decode cX6_answer 11 = .ok (.getfield 187, 3) := by decide +kernel
theorem dX6_answer_14 : decode cX6_answer 14 = .ok (.if_icmp .lt 7, 3) := by decide +kernel
theorem dX6_answer_17 : decode cX6_answer 17 = .ok (.iconst (-1), 1) := by decide +kernel
theorem dX6_answer_18 : decode cX6_answer 18 = .ok (.goto 13, 3) := by decide +kernel
theorem dX6_answer_21 : decode cX6_answer 21 = .ok (.aload_n 0, 1) := by decide +kernel
theorem dX6_answer_22 : decode cX6_answer 22 = .ok (.getfield 81, 3) := by decide +kernel
theorem dX6_answer_25 : decode cX6_answer 25 = .ok (.iload_n 1, 1) := by decide +kernel
theorem dX6_answer_26 : decode cX6_answer 26 = .ok (.baload, 1) := by decide +kernel
theorem dX6_answer_27 : decode cX6_answer 27 = .ok (.sipush 255, 3) := by decide +kernel
theorem dX6_answer_30 : decode cX6_answer 30 = .ok (.iand, 1) := by decide +kernel
theorem dX6_answer_31 : decode cX6_answer 31 = .ok (.ireturn, 1) := by decide +kernel
theorem dX6_arrived_0 : decode cX6_arrived 0 = .ok (.iconst 0, 1) := by decide +kernel
theorem dX6_arrived_1 : decode cX6_arrived 1 = .ok (.istore_n 3, 1) := by decide +kernel
theorem dX6_arrived_2 : decode cX6_arrived 2 = .ok (.iconst 0, 1) := by decide +kernel
theorem dX6_arrived_3 : decode cX6_arrived 3 = .ok (.istore 4, 2) := by decide +kernel
theorem dX6_arrived_5 : decode cX6_arrived 5 = .ok (.iload 4, 2) := by decide +kernel
theorem dX6_arrived_7 : decode cX6_arrived 7 = .ok (.aload_n 0, 1) := by decide +kernel
theorem dX6_arrived_8 : decode cX6_arrived 8 = .ok (.getfield 111, 3) := by decide +kernel
theorem dX6_arrived_11 : decode cX6_arrived 11 = .ok (.if_icmp .ge 53, 3) := by decide +kernel
theorem dX6_arrived_14 : decode cX6_arrived 14 = .ok (.iload_n 3, 1) := by decide +kernel
theorem dX6_arrived_15 : decode cX6_arrived 15 = .ok (.aload_n 0, 1) := by decide +kernel
theorem dX6_arrived_16 : decode cX6_arrived 16 = .ok (.getfield 19, 3) := by decide +kernel
theorem dX6_arrived_19 : decode cX6_arrived 19 = .ok (.iload 4, 2) := by decide +kernel
theorem dX6_arrived_21 : decode cX6_arrived 21 = .ok (.iaload, 1) := by decide +kernel
theorem dX6_arrived_22 : decode cX6_arrived 22 = .ok (.iload_n 1, 1) := by decide +kernel
theorem dX6_arrived_23 : decode cX6_arrived 23 = .ok (.if_icmp .ne 32, 3) := by decide +kernel
theorem dX6_arrived_26 : decode cX6_arrived 26 = .ok (.aload_n 0, 1) := by decide +kernel
theorem dX6_arrived_27 : decode cX6_arrived 27 = .ok (.getfield 35, 3) := by decide +kernel
theorem dX6_arrived_30 : decode cX6_arrived 30 = .ok (.iload 4, 2) := by decide +kernel
theorem dX6_arrived_32 : decode cX6_arrived 32 = .ok (.iaload, 1) := by decide +kernel
theorem dX6_arrived_33 : decode cX6_arrived 33 = .ok (.iconst (-1), 1) := by decide +kernel
theorem dX6_arrived_34 : decode cX6_arrived 34 = .ok (.if_icmp .eq 21, 3) := by decide +kernel
theorem dX6_arrived_37 : decode cX6_arrived 37 = .ok (.iload_n 2, 1) := by decide +kernel
theorem dX6_arrived_38 : decode cX6_arrived 38 = .ok (.ifCond .eq 13, 3) := by decide +kernel
theorem dX6_arrived_41 : decode cX6_arrived 41 = .ok (.aload_n 0, 1) := by decide +kernel
theorem dX6_arrived_42 : decode cX6_arrived 42 = .ok (.getfield 41, 3) := by decide +kernel
theorem dX6_arrived_45 : decode cX6_arrived 45 = .ok (.iload 4, 2) := by decide +kernel
theorem dX6_arrived_47 : decode cX6_arrived 47 = .ok (.baload, 1) := by decide +kernel
theorem dX6_arrived_48 : decode cX6_arrived 48 = .ok (.ifCond .ne 7, 3) := by decide +kernel
theorem dX6_arrived_51 : decode cX6_arrived 51 = .ok (.iconst 1, 1) := by decide +kernel
theorem dX6_arrived_52 : decode cX6_arrived 52 = .ok (.goto 4, 3) := by decide +kernel
theorem dX6_arrived_55 : decode cX6_arrived 55 = .ok (.iconst 0, 1) := by decide +kernel
theorem dX6_arrived_56 : decode cX6_arrived 56 = .ok (.iadd, 1) := by decide +kernel
theorem dX6_arrived_57 : decode cX6_arrived 57 = .ok (.istore_n 3, 1) := by decide +kernel
theorem dX6_arrived_58 : decode cX6_arrived 58 = .ok (.iinc 4 1, 3) := by decide +kernel
theorem dX6_arrived_61 : decode cX6_arrived 61 = .ok (.goto (-56), 3) := by decide +kernel
theorem dX6_arrived_64 : decode cX6_arrived 64 = .ok (.iload_n 3, 1) := by decide +kernel
theorem dX6_arrived_65 : decode cX6_arrived 65 = .ok (.ireturn, 1) := by decide +kernel
theorem dX6_together_0 : decode cX6_together 0 = .ok (.iconst 0, 1) := by decide +kernel
theorem dX6_together_1 : decode cX6_together 1 = .ok (.istore_n 2, 1) := by decide +kernel
theorem dX6_together_2 : decode cX6_together 2 = .ok (.iconst 0, 1) := by decide +kernel
theorem dX6_together_3 : decode cX6_together 3 = .ok (.istore_n 3, 1) := by decide +kernel
theorem dX6_together_4 : decode cX6_together 4 = .ok (.iload_n 3, 1) := by decide +kernel
theorem dX6_together_5 : decode cX6_together 5 = .ok (.aload_n 0, 1) := by decide +kernel
theorem dX6_together_6 : decode cX6_together 6 = .ok (.getfield 69, 3) := by decide +kernel
theorem dX6_together_9 : decode cX6_together 9 = .ok (.iload_n 1, 1) := by decide +kernel
theorem dX6_together_10 : decode cX6_together 10 = .ok (.iaload, 1) := by decide +kernel
theorem dX6_together_11 : decode cX6_together 11 = .ok (.if_icmp .ge 43, 3) := by decide +kernel
theorem dX6_together_14 : decode cX6_together 14 = .ok (.iload_n 2, 1) := by decide +kernel
theorem dX6_together_15 : decode cX6_together 15 = .ok (.aload_n 0, 1) := by decide +kernel
theorem dX6_together_16 : decode cX6_together 16 = .ok (.getfield 35, 3) := by decide +kernel
theorem dX6_together_19 : decode cX6_together 19 = .ok (.aload_n 0, 1) := by decide +kernel
theorem dX6_together_20 : decode cX6_together 20 = .ok (.getfield 48, 3) := by decide +kernel
theorem dX6_together_23 : decode cX6_together 23 = .ok (.sipush 4000, 3) := by decide +kernel
theorem dX6_together_26 : decode cX6_together 26 = .ok (.iload_n 1, 1) := by decide +kernel
theorem dX6_together_27 : decode cX6_together 27 = .ok (.imul, 1) := by decide +kernel
theorem dX6_together_28 : decode cX6_together 28 = .ok (.iload_n 3, 1) := by decide +kernel
theorem dX6_together_29 : decode cX6_together 29 = .ok (.iadd, 1) := by decide +kernel
theorem dX6_together_30 : decode cX6_together 30 = .ok (.iaload, 1) := by decide +kernel
theorem dX6_together_31 : decode cX6_together 31 = .ok (.iaload, 1) := by decide +kernel
theorem dX6_together_32 : decode cX6_together 32 = .ok (.iconst (-1), 1) := by decide +kernel
theorem dX6_together_33 : decode cX6_together 33 = .ok (.if_icmp .ne 12, 3) := by decide +kernel
theorem dX6_together_36 : decode cX6_together 36 = .ok (.aload_n 0, 1) := by decide +kernel
theorem dX6_together_37 : decode cX6_together 37 = .ok (.iload_n 1, 1) := by decide +kernel
theorem dX6_together_38 : decode cX6_together 38 = .ok (.iload_n 3, 1) := by decide +kernel
theorem dX6_together_39 : decode cX6_together 39 = .ok (.invokevirtual 190, 3) := by decide +kernel
theorem dX6_together_42 : decode cX6_together 42 = .ok (.goto 4, 3) := by decide +kernel
theorem dX6_together_45 : decode cX6_together 45 = .ok (.iconst 0, 1) := by decide +kernel
theorem dX6_together_46 : decode cX6_together 46 = .ok (.iadd, 1) := by decide +kernel
theorem dX6_together_47 : decode cX6_together 47 = .ok (.istore_n 2, 1) := by decide +kernel
theorem dX6_together_48 : decode cX6_together 48 = .ok (.iinc 3 1, 3) := by decide +kernel
theorem dX6_together_51 : decode cX6_together 51 = .ok (.goto (-47), 3) := by decide +kernel
theorem dX6_together_54 : decode cX6_together 54 = .ok (.iload_n 2, 1) := by decide +kernel
theorem dX6_together_55 : decode cX6_together 55 = .ok (.ireturn, 1) := by decide +kernel
theorem dX6_look_0 : decode cX6_look 0 = .ok (.aload_n 0, 1) := by decide +kernel
theorem dX6_look_1 : decode cX6_look 1 = .ok (.iconst 0, 1) := by decide +kernel
theorem dX6_look_2 : decode cX6_look 2 = .ok (.putfield 88, 3) := by decide +kernel
theorem dX6_look_5 : decode cX6_look 5 = .ok (.aload_n 0, 1) := by decide +kernel
theorem dX6_look_6 : decode cX6_look 6 = .ok (.iload_n 1, 1) := by decide +kernel
theorem dX6_look_7 : decode cX6_look 7 = .ok (.invokevirtual 132, 3) := by decide +kernel
theorem dX6_look_10 : decode cX6_look 10 = .ok (.ifCond .ne 5, 3) := by decide +kernel
theorem dX6_look_13 : decode cX6_look 13 = .ok (.iconst (-1), 1) := by decide +kernel
theorem dX6_look_14 : decode cX6_look 14 = .ok (.ireturn, 1) := by decide +kernel
theorem dX6_look_15 : decode cX6_look 15 = .ok (.iload_n 2, 1) := by decide +kernel
theorem dX6_look_16 : decode cX6_look 16 = .ok (.tableswitch 174 0 11 #[64, 71, 78, 84, 98, 112, 126, 140, 147, 154, 161, 167], 64) := by decide +kernel
theorem dX6_look_80 : decode cX6_look 80 = .ok (.aload_n 0, 1) := by decide +kernel
theorem dX6_look_81 : decode cX6_look 81 = .ok (.getfield 9, 3) := by decide +kernel
theorem dX6_look_84 : decode cX6_look 84 = .ok (.iload_n 1, 1) := by decide +kernel
theorem dX6_look_85 : decode cX6_look 85 = .ok (.iaload, 1) := by decide +kernel
theorem dX6_look_86 : decode cX6_look 86 = .ok (.ireturn, 1) := by decide +kernel
theorem dX6_look_87 : decode cX6_look 87 = .ok (.aload_n 0, 1) := by decide +kernel
theorem dX6_look_88 : decode cX6_look 88 = .ok (.getfield 13, 3) := by decide +kernel
theorem dX6_look_91 : decode cX6_look 91 = .ok (.iload_n 1, 1) := by decide +kernel
theorem dX6_look_92 : decode cX6_look 92 = .ok (.iaload, 1) := by decide +kernel
theorem dX6_look_93 : decode cX6_look 93 = .ok (.ireturn, 1) := by decide +kernel
theorem dX6_look_94 : decode cX6_look 94 = .ok (.aload_n 0, 1) := by decide +kernel
theorem dX6_look_95 : decode cX6_look 95 = .ok (.iload_n 1, 1) := by decide +kernel
theorem dX6_look_96 : decode cX6_look 96 = .ok (.invokevirtual 152, 3) := by decide +kernel
theorem dX6_look_99 : decode cX6_look 99 = .ok (.ireturn, 1) := by decide +kernel
theorem dX6_look_100 : decode cX6_look 100 = .ok (.aload_n 0, 1) := by decide +kernel
theorem dX6_look_101 : decode cX6_look 101 = .ok (.getfield 69, 3) := by decide +kernel
theorem dX6_look_104 : decode cX6_look 104 = .ok (.iload_n 1, 1) := by decide +kernel
theorem dX6_look_105 : decode cX6_look 105 = .ok (.iaload, 1) := by decide +kernel
theorem dX6_look_106 : decode cX6_look 106 = .ok (.aload_n 0, 1) := by decide +kernel
theorem dX6_look_107 : decode cX6_look 107 = .ok (.getfield 72, 3) := by decide +kernel
theorem dX6_look_110 : decode cX6_look 110 = .ok (.iload_n 1, 1) := by decide +kernel
theorem dX6_look_111 : decode cX6_look 111 = .ok (.iaload, 1) := by decide +kernel
theorem dX6_look_112 : decode cX6_look 112 = .ok (.isub, 1) := by decide +kernel
theorem dX6_look_113 : decode cX6_look 113 = .ok (.ireturn, 1) := by decide +kernel
theorem dX6_look_114 : decode cX6_look 114 = .ok (.aload_n 0, 1) := by decide +kernel
theorem dX6_look_115 : decode cX6_look 115 = .ok (.getfield 63, 3) := by decide +kernel
theorem dX6_look_118 : decode cX6_look 118 = .ok (.iload_n 1, 1) := by decide +kernel
theorem dX6_look_119 : decode cX6_look 119 = .ok (.iaload, 1) := by decide +kernel
theorem dX6_look_120 : decode cX6_look 120 = .ok (.aload_n 0, 1) := by decide +kernel
theorem dX6_look_121 : decode cX6_look 121 = .ok (.getfield 66, 3) := by decide +kernel
theorem dX6_look_124 : decode cX6_look 124 = .ok (.iload_n 1, 1) := by decide +kernel
theorem dX6_look_125 : decode cX6_look 125 = .ok (.iaload, 1) := by decide +kernel
theorem dX6_look_126 : decode cX6_look 126 = .ok (.isub, 1) := by decide +kernel
theorem dX6_look_127 : decode cX6_look 127 = .ok (.ireturn, 1) := by decide +kernel
theorem dX6_look_128 : decode cX6_look 128 = .ok (.aload_n 0, 1) := by decide +kernel
theorem dX6_look_129 : decode cX6_look 129 = .ok (.getfield 66, 3) := by decide +kernel
theorem dX6_look_132 : decode cX6_look 132 = .ok (.iload_n 1, 1) := by decide +kernel
theorem dX6_look_133 : decode cX6_look 133 = .ok (.iaload, 1) := by decide +kernel
theorem dX6_look_134 : decode cX6_look 134 = .ok (.aload_n 0, 1) := by decide +kernel
theorem dX6_look_135 : decode cX6_look 135 = .ok (.getfield 69, 3) := by decide +kernel
theorem dX6_look_138 : decode cX6_look 138 = .ok (.iload_n 1, 1) := by decide +kernel
theorem dX6_look_139 : decode cX6_look 139 = .ok (.iaload, 1) := by decide +kernel
theorem dX6_look_140 : decode cX6_look 140 = .ok (.isub, 1) := by decide +kernel
theorem dX6_look_141 : decode cX6_look 141 = .ok (.ireturn, 1) := by decide +kernel
theorem dX6_look_142 : decode cX6_look 142 = .ok (.aload_n 0, 1) := by decide +kernel
theorem dX6_look_143 : decode cX6_look 143 = .ok (.getfield 60, 3) := by decide +kernel
theorem dX6_look_146 : decode cX6_look 146 = .ok (.iload_n 1, 1) := by decide +kernel
theorem dX6_look_147 : decode cX6_look 147 = .ok (.iaload, 1) := by decide +kernel
theorem dX6_look_148 : decode cX6_look 148 = .ok (.aload_n 0, 1) := by decide +kernel
theorem dX6_look_149 : decode cX6_look 149 = .ok (.getfield 63, 3) := by decide +kernel
theorem dX6_look_152 : decode cX6_look 152 = .ok (.iload_n 1, 1) := by decide +kernel
theorem dX6_look_153 : decode cX6_look 153 = .ok (.iaload, 1) := by decide +kernel
theorem dX6_look_154 : decode cX6_look 154 = .ok (.isub, 1) := by decide +kernel
theorem dX6_look_155 : decode cX6_look 155 = .ok (.ireturn, 1) := by decide +kernel
theorem dX6_look_156 : decode cX6_look 156 = .ok (.aload_n 0, 1) := by decide +kernel
theorem dX6_look_157 : decode cX6_look 157 = .ok (.getfield 63, 3) := by decide +kernel
theorem dX6_look_160 : decode cX6_look 160 = .ok (.iload_n 1, 1) := by decide +kernel
theorem dX6_look_161 : decode cX6_look 161 = .ok (.iaload, 1) := by decide +kernel
theorem dX6_look_162 : decode cX6_look 162 = .ok (.ireturn, 1) := by decide +kernel
theorem dX6_look_163 : decode cX6_look 163 = .ok (.aload_n 0, 1) := by decide +kernel
theorem dX6_look_164 : decode cX6_look 164 = .ok (.iload_n 1, 1) := by decide +kernel
theorem dX6_look_165 : decode cX6_look 165 = .ok (.iconst 0, 1) := by decide +kernel
theorem dX6_look_166 : decode cX6_look 166 = .ok (.invokevirtual 193, 3) := by decide +kernel
theorem dX6_look_169 : decode cX6_look 169 = .ok (.ireturn, 1) := by decide +kernel
theorem dX6_look_170 : decode cX6_look 170 = .ok (.aload_n 0, 1) := by decide +kernel
theorem dX6_look_171 : decode cX6_look 171 = .ok (.iload_n 1, 1) := by decide +kernel
theorem dX6_look_172 : decode cX6_look 172 = .ok (.iconst 1, 1) := by decide +kernel
theorem dX6_look_173 : decode cX6_look 173 = .ok (.invokevirtual 193, 3) := by decide +kernel
theorem dX6_look_176 : decode cX6_look 176 = .ok (.ireturn, 1) := by decide +kernel
theorem dX6_look_177 : decode cX6_look 177 = .ok (.aload_n 0, 1) := by decide +kernel
theorem dX6_look_178 : decode cX6_look 178 = .ok (.iload_n 1, 1) := by decide +kernel
theorem dX6_look_179 : decode cX6_look 179 = .ok (.invokevirtual 197, 3) := by decide +kernel
theorem dX6_look_182 : decode cX6_look 182 = .ok (.ireturn, 1) := by decide +kernel
theorem dX6_look_183 : decode cX6_look 183 = .ok (.aload_n 0, 1) := by decide +kernel
theorem dX6_look_184 : decode cX6_look 184 = .ok (.getfield 75, 3) := by decide +kernel
theorem dX6_look_187 : decode cX6_look 187 = .ok (.iload_n 1, 1) := by decide +kernel
theorem dX6_look_188 : decode cX6_look 188 = .ok (.iaload, 1) := by decide +kernel
theorem dX6_look_189 : decode cX6_look 189 = .ok (.ireturn, 1) := by decide +kernel
theorem dX6_look_190 : decode cX6_look 190 = .ok (.iconst (-1), 1) := by decide +kernel
theorem dX6_look_191 : decode cX6_look 191 = .ok (.ireturn, 1) := by decide +kernel
theorem dX6_packet_0 : decode cX6_packet 0 = .ok (.aload_n 0, 1) := by decide +kernel
theorem dX6_packet_1 : decode cX6_packet 1 = .ok (.iconst 0, 1) := by decide +kernel
theorem dX6_packet_2 : decode cX6_packet 2 = .ok (.putfield 88, 3) := by decide +kernel
theorem dX6_packet_5 : decode cX6_packet 5 = .ok (.iload_n 1, 1) := by decide +kernel
theorem dX6_packet_6 : decode cX6_packet 6 = .ok (.ifCond .lt 11, 3) := by decide +kernel
theorem dX6_packet_9 : decode cX6_packet 9 = .ok (.iload_n 1, 1) := by decide +kernel
theorem dX6_packet_10 : decode cX6_packet 10 = .ok (.aload_n 0, 1) := by decide +kernel
theorem dX6_packet_11 : decode cX6_packet 11 = .ok (.getfield 111, 3) := by decide +kernel
theorem dX6_packet_14 : decode cX6_packet 14 = .ok (.if_icmp .lt 5, 3) := by decide +kernel
theorem dX6_packet_17 : decode cX6_packet 17 = .ok (.iconst (-1), 1) := by decide +kernel
theorem dX6_packet_18 : decode cX6_packet 18 = .ok (.ireturn, 1) := by decide +kernel
theorem dX6_packet_19 : decode cX6_packet 19 = .ok (.iload_n 2, 1) := by decide +kernel
theorem dX6_packet_20 : decode cX6_packet 20 = .ok (.tableswitch 115 0 7 #[48, 55, 62, 72, 79, 86, 93, 100], 48) := by decide +kernel
theorem dX6_packet_68 : decode cX6_packet 68 = .ok (.aload_n 0, 1) := by decide +kernel
theorem dX6_packet_69 : decode cX6_packet 69 = .ok (.getfield 19, 3) := by decide +kernel
theorem dX6_packet_72 : decode cX6_packet 72 = .ok (.iload_n 1, 1) := by decide +kernel
theorem dX6_packet_73 : decode cX6_packet 73 = .ok (.iaload, 1) := by decide +kernel
theorem dX6_packet_74 : decode cX6_packet 74 = .ok (.ireturn, 1) := by decide +kernel
theorem dX6_packet_75 : decode cX6_packet 75 = .ok (.aload_n 0, 1) := by decide +kernel
theorem dX6_packet_76 : decode cX6_packet 76 = .ok (.getfield 22, 3) := by decide +kernel
theorem dX6_packet_79 : decode cX6_packet 79 = .ok (.iload_n 1, 1) := by decide +kernel
theorem dX6_packet_80 : decode cX6_packet 80 = .ok (.iaload, 1) := by decide +kernel
theorem dX6_packet_81 : decode cX6_packet 81 = .ok (.ireturn, 1) := by decide +kernel
theorem dX6_packet_82 : decode cX6_packet 82 = .ok (.aload_n 0, 1) := by decide +kernel
theorem dX6_packet_83 : decode cX6_packet 83 = .ok (.getfield 22, 3) := by decide +kernel
theorem dX6_packet_86 : decode cX6_packet 86 = .ok (.iload_n 1, 1) := by decide +kernel
theorem dX6_packet_87 : decode cX6_packet 87 = .ok (.iaload, 1) := by decide +kernel
theorem dX6_packet_88 : decode cX6_packet 88 = .ok (.invokestatic 145, 3) := by decide +kernel
theorem dX6_packet_91 : decode cX6_packet 91 = .ok (.ireturn, 1) := by decide +kernel
theorem dX6_packet_92 : decode cX6_packet 92 = .ok (.aload_n 0, 1) := by decide +kernel
theorem dX6_packet_93 : decode cX6_packet 93 = .ok (.getfield 29, 3) := by decide +kernel
theorem dX6_packet_96 : decode cX6_packet 96 = .ok (.iload_n 1, 1) := by decide +kernel
theorem dX6_packet_97 : decode cX6_packet 97 = .ok (.iaload, 1) := by decide +kernel
theorem dX6_packet_98 : decode cX6_packet 98 = .ok (.ireturn, 1) := by decide +kernel
theorem dX6_packet_99 : decode cX6_packet 99 = .ok (.aload_n 0, 1) := by decide +kernel
theorem dX6_packet_100 : decode cX6_packet 100 = .ok (.getfield 32, 3) := by decide +kernel
theorem dX6_packet_103 : decode cX6_packet 103 = .ok (.iload_n 1, 1) := by decide +kernel
theorem dX6_packet_104 : decode cX6_packet 104 = .ok (.iaload, 1) := by decide +kernel
theorem dX6_packet_105 : decode cX6_packet 105 = .ok (.ireturn, 1) := by decide +kernel
theorem dX6_packet_106 : decode cX6_packet 106 = .ok (.aload_n 0, 1) := by decide +kernel
theorem dX6_packet_107 : decode cX6_packet 107 = .ok (.getfield 35, 3) := by decide +kernel
theorem dX6_packet_110 : decode cX6_packet 110 = .ok (.iload_n 1, 1) := by decide +kernel
theorem dX6_packet_111 : decode cX6_packet 111 = .ok (.iaload, 1) := by decide +kernel
theorem dX6_packet_112 : decode cX6_packet 112 = .ok (.ireturn, 1) := by decide +kernel
theorem dX6_packet_113 : decode cX6_packet 113 = .ok (.aload_n 0, 1) := by decide +kernel
theorem dX6_packet_114 : decode cX6_packet 114 = .ok (.getfield 38, 3) := by decide +kernel
theorem dX6_packet_117 : decode cX6_packet 117 = .ok (.iload_n 1, 1) := by decide +kernel
theorem dX6_packet_118 : decode cX6_packet 118 = .ok (.iaload, 1) := by decide +kernel
theorem dX6_packet_119 : decode cX6_packet 119 = .ok (.ireturn, 1) := by decide +kernel
theorem dX6_packet_120 : decode cX6_packet 120 = .ok (.aload_n 0, 1) := by decide +kernel
theorem dX6_packet_121 : decode cX6_packet 121 = .ok (.getfield 41, 3) := by decide +kernel
theorem dX6_packet_124 : decode cX6_packet 124 = .ok (.iload_n 1, 1) := by decide +kernel
theorem dX6_packet_125 : decode cX6_packet 125 = .ok (.baload, 1) := by decide +kernel
theorem dX6_packet_126 : decode cX6_packet 126 = .ok (.ifCond .eq 7, 3) := by decide +kernel
theorem dX6_packet_129 : decode cX6_packet 129 = .ok (.iconst 1, 1) := by decide +kernel
theorem dX6_packet_130 : decode cX6_packet 130 = .ok (.goto 4, 3) := by decide +kernel
theorem dX6_packet_133 : decode cX6_packet 133 = .ok (.iconst 0, 1) := by decide +kernel
theorem dX6_packet_134 : decode cX6_packet 134 = .ok (.ireturn, 1) := by decide +kernel
theorem dX6_packet_135 : decode cX6_packet 135 = .ok (.iconst (-1), 1) := by decide +kernel
theorem dX6_packet_136 : decode cX6_packet 136 = .ok (.ireturn, 1) := by decide +kernel
theorem dX6_flit_0 : decode cX6_flit 0 = .ok (.iload_n 3, 1) := by decide +kernel
theorem dX6_flit_1 : decode cX6_flit 1 = .ok (.tableswitch 66 0 3 #[31, 33, 46, 59], 31) := by decide +kernel
theorem dX6_flit_32 : decode cX6_flit 32 = .ok (.iload_n 1, 1) := by decide +kernel
theorem dX6_flit_33 : decode cX6_flit 33 = .ok (.ireturn, 1) := by decide +kernel
theorem dX6_flit_34 : decode cX6_flit 34 = .ok (.aload_n 0, 1) := by decide +kernel
theorem dX6_flit_35 : decode cX6_flit 35 = .ok (.getfield 48, 3) := by decide +kernel
theorem dX6_flit_38 : decode cX6_flit 38 = .ok (.sipush 4000, 3) := by decide +kernel
theorem dX6_flit_41 : decode cX6_flit 41 = .ok (.iload_n 1, 1) := by decide +kernel
theorem dX6_flit_42 : decode cX6_flit 42 = .ok (.imul, 1) := by decide +kernel
theorem dX6_flit_43 : decode cX6_flit 43 = .ok (.iload_n 2, 1) := by decide +kernel
theorem dX6_flit_44 : decode cX6_flit 44 = .ok (.iadd, 1) := by decide +kernel
theorem dX6_flit_45 : decode cX6_flit 45 = .ok (.iaload, 1) := by decide +kernel
theorem dX6_flit_46 : decode cX6_flit 46 = .ok (.ireturn, 1) := by decide +kernel
theorem dX6_flit_47 : decode cX6_flit 47 = .ok (.aload_n 0, 1) := by decide +kernel
theorem dX6_flit_48 : decode cX6_flit 48 = .ok (.getfield 51, 3) := by decide +kernel
theorem dX6_flit_51 : decode cX6_flit 51 = .ok (.sipush 4000, 3) := by decide +kernel
theorem dX6_flit_54 : decode cX6_flit 54 = .ok (.iload_n 1, 1) := by decide +kernel
theorem dX6_flit_55 : decode cX6_flit 55 = .ok (.imul, 1) := by decide +kernel
theorem dX6_flit_56 : decode cX6_flit 56 = .ok (.iload_n 2, 1) := by decide +kernel
theorem dX6_flit_57 : decode cX6_flit 57 = .ok (.iadd, 1) := by decide +kernel
theorem dX6_flit_58 : decode cX6_flit 58 = .ok (.iaload, 1) := by decide +kernel
theorem dX6_flit_59 : decode cX6_flit 59 = .ok (.ireturn, 1) := by decide +kernel
theorem dX6_flit_60 : decode cX6_flit 60 = .ok (.aload_n 0, 1) := by decide +kernel
theorem dX6_flit_61 : decode cX6_flit 61 = .ok (.iload_n 1, 1) := by decide +kernel
theorem dX6_flit_62 : decode cX6_flit 62 = .ok (.iload_n 2, 1) := by decide +kernel
theorem dX6_flit_63 : decode cX6_flit 63 = .ok (.invokevirtual 190, 3) := by decide +kernel
theorem dX6_flit_66 : decode cX6_flit 66 = .ok (.ireturn, 1) := by decide +kernel
theorem dX6_flit_67 : decode cX6_flit 67 = .ok (.iconst (-1), 1) := by decide +kernel
theorem dX6_flit_68 : decode cX6_flit 68 = .ok (.ireturn, 1) := by decide +kernel
theorem dX6_wire_0 : decode cX6_wire 0 = .ok (.aload_n 0, 1) := by decide +kernel
theorem dX6_wire_1 : decode cX6_wire 1 = .ok (.iconst 0, 1) := by decide +kernel
theorem dX6_wire_2 : decode cX6_wire 2 = .ok (.putfield 88, 3) := by decide +kernel
theorem dX6_wire_5 : decode cX6_wire 5 = .ok (.iconst 0, 1) := by decide +kernel
theorem dX6_wire_6 : decode cX6_wire 6 = .ok (.istore_n 3, 1) := by decide +kernel
theorem dX6_wire_7 : decode cX6_wire 7 = .ok (.iload_n 3, 1) := by decide +kernel
theorem dX6_wire_8 : decode cX6_wire 8 = .ok (.aload_n 0, 1) := by decide +kernel
theorem dX6_wire_9 : decode cX6_wire 9 = .ok (.getfield 96, 3) := by decide +kernel
theorem dX6_wire_12 : decode cX6_wire 12 = .ok (.if_icmp .ge 74, 3) := by decide +kernel
theorem dX6_wire_15 : decode cX6_wire 15 = .ok (.iload_n 1, 1) := by decide +kernel
theorem dX6_wire_16 : decode cX6_wire 16 = .ok (.ifCond .lt 70, 3) := by decide +kernel
theorem dX6_wire_19 : decode cX6_wire 19 = .ok (.aload_n 0, 1) := by decide +kernel
theorem dX6_wire_20 : decode cX6_wire 20 = .ok (.getfield 66, 3) := by decide +kernel
theorem dX6_wire_23 : decode cX6_wire 23 = .ok (.iload_n 3, 1) := by decide +kernel
theorem dX6_wire_24 : decode cX6_wire 24 = .ok (.iaload, 1) := by decide +kernel
theorem dX6_wire_25 : decode cX6_wire 25 = .ok (.istore 4, 2) := by decide +kernel
theorem dX6_wire_27 : decode cX6_wire 27 = .ok (.iload 4, 2) := by decide +kernel
theorem dX6_wire_29 : decode cX6_wire 29 = .ok (.aload_n 0, 1) := by decide +kernel
theorem dX6_wire_30 : decode cX6_wire 30 = .ok (.getfield 63, 3) := by decide +kernel
theorem dX6_wire_33 : decode cX6_wire 33 = .ok (.iload_n 3, 1) := by decide +kernel
theorem dX6_wire_34 : decode cX6_wire 34 = .ok (.iaload, 1) := by decide +kernel
theorem dX6_wire_35 : decode cX6_wire 35 = .ok (.if_icmp .ge 45, 3) := by decide +kernel
theorem dX6_wire_38 : decode cX6_wire 38 = .ok (.aload_n 0, 1) := by decide +kernel
theorem dX6_wire_39 : decode cX6_wire 39 = .ok (.getfield 54, 3) := by decide +kernel
theorem dX6_wire_42 : decode cX6_wire 42 = .ok (.sipush 4000, 3) := by decide +kernel
theorem dX6_wire_45 : decode cX6_wire 45 = .ok (.iload_n 3, 1) := by decide +kernel
theorem dX6_wire_46 : decode cX6_wire 46 = .ok (.imul, 1) := by decide +kernel
theorem dX6_wire_47 : decode cX6_wire 47 = .ok (.iload 4, 2) := by decide +kernel
theorem dX6_wire_49 : decode cX6_wire 49 = .ok (.iadd, 1) := by decide +kernel
theorem dX6_wire_50 : decode cX6_wire 50 = .ok (.iaload, 1) := by decide +kernel
theorem dX6_wire_51 : decode cX6_wire 51 = .ok (.aload_n 0, 1) := by decide +kernel
theorem dX6_wire_52 : decode cX6_wire 52 = .ok (.getfield 99, 3) := by decide +kernel
theorem dX6_wire_55 : decode cX6_wire 55 = .ok (.iadd, 1) := by decide +kernel
theorem dX6_wire_56 : decode cX6_wire 56 = .ok (.aload_n 0, 1) := by decide +kernel
theorem dX6_wire_57 : decode cX6_wire 57 = .ok (.getfield 114, 3) := by decide +kernel
theorem dX6_wire_60 : decode cX6_wire 60 = .ok (.isub, 1) := by decide +kernel
theorem dX6_wire_61 : decode cX6_wire 61 = .ok (.iload_n 1, 1) := by decide +kernel
theorem dX6_wire_62 : decode cX6_wire 62 = .ok (.if_icmp .ne 12, 3) := by decide +kernel
theorem dX6_wire_65 : decode cX6_wire 65 = .ok (.aload_n 0, 1) := by decide +kernel
theorem dX6_wire_66 : decode cX6_wire 66 = .ok (.iload_n 3, 1) := by decide +kernel
theorem dX6_wire_67 : decode cX6_wire 67 = .ok (.iload 4, 2) := by decide +kernel
theorem dX6_wire_69 : decode cX6_wire 69 = .ok (.iload_n 2, 1) := by decide +kernel
theorem dX6_wire_70 : decode cX6_wire 70 = .ok (.invokevirtual 200, 3) := by decide +kernel
theorem dX6_wire_73 : decode cX6_wire 73 = .ok (.ireturn, 1) := by decide +kernel
theorem dX6_wire_74 : decode cX6_wire 74 = .ok (.iinc 4 1, 3) := by decide +kernel
theorem dX6_wire_77 : decode cX6_wire 77 = .ok (.goto (-50), 3) := by decide +kernel
theorem dX6_wire_80 : decode cX6_wire 80 = .ok (.iinc 3 1, 3) := by decide +kernel
theorem dX6_wire_83 : decode cX6_wire 83 = .ok (.goto (-76), 3) := by decide +kernel
theorem dX6_wire_86 : decode cX6_wire 86 = .ok (.iconst (-1), 1) := by decide +kernel
theorem dX6_wire_87 : decode cX6_wire 87 = .ok (.ireturn, 1) := by decide +kernel
theorem dX6_buffer_0 : decode cX6_buffer 0 = .ok (.aload_n 0, 1) := by decide +kernel
theorem dX6_buffer_1 : decode cX6_buffer 1 = .ok (.iconst 0, 1) := by decide +kernel
theorem dX6_buffer_2 : decode cX6_buffer 2 = .ok (.putfield 88, 3) := by decide +kernel
theorem dX6_buffer_5 : decode cX6_buffer 5 = .ok (.aload_n 0, 1) := by decide +kernel
theorem dX6_buffer_6 : decode cX6_buffer 6 = .ok (.iload_n 1, 1) := by decide +kernel
theorem dX6_buffer_7 : decode cX6_buffer 7 = .ok (.invokevirtual 132, 3) := by decide +kernel
theorem dX6_buffer_10 : decode cX6_buffer 10 = .ok (.ifCond .eq 24, 3) := by decide +kernel
theorem dX6_buffer_13 : decode cX6_buffer 13 = .ok (.iload_n 2, 1) := by decide +kernel
theorem dX6_buffer_14 : decode cX6_buffer 14 = .ok (.ifCond .lt 20, 3) := by decide +kernel
theorem dX6_buffer_17 : decode cX6_buffer 17 = .ok (.iload_n 2, 1) := by decide +kernel
theorem dX6_buffer_18 : decode cX6_buffer 18 = .ok (.aload_n 0, 1) := by decide +kernel
theorem dX6_buffer_19 : decode cX6_buffer 19 = .ok (.getfield 66, 3) := by decide +kernel
theorem dX6_buffer_22 : decode cX6_buffer 22 = .ok (.iload_n 1, 1) := by decide +kernel
theorem dX6_buffer_23 : decode cX6_buffer 23 = .ok (.iaload, 1) := by decide +kernel
theorem dX6_buffer_24 : decode cX6_buffer 24 = .ok (.aload_n 0, 1) := by decide +kernel
theorem dX6_buffer_25 : decode cX6_buffer 25 = .ok (.getfield 69, 3) := by decide +kernel
theorem dX6_buffer_28 : decode cX6_buffer 28 = .ok (.iload_n 1, 1) := by decide +kernel
theorem dX6_buffer_29 : decode cX6_buffer 29 = .ok (.iaload, 1) := by decide +kernel
theorem dX6_buffer_30 : decode cX6_buffer 30 = .ok (.isub, 1) := by decide +kernel
theorem dX6_buffer_31 : decode cX6_buffer 31 = .ok (.if_icmp .lt 7, 3) := by decide +kernel
theorem dX6_buffer_34 : decode cX6_buffer 34 = .ok (.iconst (-1), 1) := by decide +kernel
theorem dX6_buffer_35 : decode cX6_buffer 35 = .ok (.goto 17, 3) := by decide +kernel
theorem dX6_buffer_38 : decode cX6_buffer 38 = .ok (.aload_n 0, 1) := by decide +kernel
theorem dX6_buffer_39 : decode cX6_buffer 39 = .ok (.iload_n 1, 1) := by decide +kernel
theorem dX6_buffer_40 : decode cX6_buffer 40 = .ok (.aload_n 0, 1) := by decide +kernel
theorem dX6_buffer_41 : decode cX6_buffer 41 = .ok (.getfield 69, 3) := by decide +kernel
theorem dX6_buffer_44 : decode cX6_buffer 44 = .ok (.iload_n 1, 1) := by decide +kernel
theorem dX6_buffer_45 : decode cX6_buffer 45 = .ok (.iaload, 1) := by decide +kernel
theorem dX6_buffer_46 : decode cX6_buffer 46 = .ok (.iload_n 2, 1) := by decide +kernel
theorem dX6_buffer_47 : decode cX6_buffer 47 = .ok (.iadd, 1) := by decide +kernel
theorem dX6_buffer_48 : decode cX6_buffer 48 = .ok (.iload_n 3, 1) := by decide +kernel
theorem dX6_buffer_49 : decode cX6_buffer 49 = .ok (.invokevirtual 200, 3) := by decide +kernel
theorem dX6_buffer_52 : decode cX6_buffer 52 = .ok (.ireturn, 1) := by decide +kernel
theorem dX6_back_0 : decode cX6_back 0 = .ok (.aload_n 0, 1) := by decide +kernel
theorem dX6_back_1 : decode cX6_back 1 = .ok (.iconst 0, 1) := by decide +kernel
theorem dX6_back_2 : decode cX6_back 2 = .ok (.putfield 88, 3) := by decide +kernel
theorem dX6_back_5 : decode cX6_back 5 = .ok (.iconst 0, 1) := by decide +kernel
theorem dX6_back_6 : decode cX6_back 6 = .ok (.istore_n 3, 1) := by decide +kernel
theorem dX6_back_7 : decode cX6_back 7 = .ok (.aload_n 0, 1) := by decide +kernel
theorem dX6_back_8 : decode cX6_back 8 = .ok (.iload_n 1, 1) := by decide +kernel
theorem dX6_back_9 : decode cX6_back 9 = .ok (.invokevirtual 132, 3) := by decide +kernel
theorem dX6_back_12 : decode cX6_back 12 = .ok (.ifCond .eq 12, 3) := by decide +kernel
theorem dX6_back_15 : decode cX6_back 15 = .ok (.aload_n 0, 1) := by decide +kernel
theorem dX6_back_16 : decode cX6_back 16 = .ok (.getfield 72, 3) := by decide +kernel
theorem dX6_back_19 : decode cX6_back 19 = .ok (.iload_n 1, 1) := by decide +kernel
theorem dX6_back_20 : decode cX6_back 20 = .ok (.iaload, 1) := by decide +kernel
theorem dX6_back_21 : decode cX6_back 21 = .ok (.goto 6, 3) := by decide +kernel
theorem dX6_back_24 : decode cX6_back 24 = .ok (.sipush 4000, 3) := by decide +kernel
theorem dX6_back_27 : decode cX6_back 27 = .ok (.istore 4, 2) := by decide +kernel
theorem dX6_back_29 : decode cX6_back 29 = .ok (.iload 4, 2) := by decide +kernel
theorem dX6_back_31 : decode cX6_back 31 = .ok (.sipush 4000, 3) := by decide +kernel
theorem dX6_back_34 : decode cX6_back 34 = .ok (.if_icmp .ge 55, 3) := by decide +kernel
theorem dX6_back_37 : decode cX6_back 37 = .ok (.iload 4, 2) := by decide +kernel
theorem dX6_back_39 : decode cX6_back 39 = .ok (.aload_n 0, 1) := by decide +kernel
theorem dX6_back_40 : decode cX6_back 40 = .ok (.getfield 69, 3) := by decide +kernel
theorem dX6_back_43 : decode cX6_back 43 = .ok (.iload_n 1, 1) := by decide +kernel
theorem dX6_back_44 : decode cX6_back 44 = .ok (.iaload, 1) := by decide +kernel
theorem dX6_back_45 : decode cX6_back 45 = .ok (.if_icmp .ge 44, 3) := by decide +kernel
theorem dX6_back_48 : decode cX6_back 48 = .ok (.iload_n 3, 1) := by decide +kernel
theorem dX6_back_49 : decode cX6_back 49 = .ok (.aload_n 0, 1) := by decide +kernel
theorem dX6_back_50 : decode cX6_back 50 = .ok (.getfield 57, 3) := by decide +kernel
theorem dX6_back_53 : decode cX6_back 53 = .ok (.sipush 4000, 3) := by decide +kernel
theorem dX6_back_56 : decode cX6_back 56 = .ok (.iload_n 1, 1) := by decide +kernel
theorem dX6_back_57 : decode cX6_back 57 = .ok (.imul, 1) := by decide +kernel
theorem dX6_back_58 : decode cX6_back 58 = .ok (.iload 4, 2) := by decide +kernel
theorem dX6_back_60 : decode cX6_back 60 = .ok (.iadd, 1) := by decide +kernel
theorem dX6_back_61 : decode cX6_back 61 = .ok (.iaload, 1) := by decide +kernel
theorem dX6_back_62 : decode cX6_back 62 = .ok (.aload_n 0, 1) := by decide +kernel
theorem dX6_back_63 : decode cX6_back 63 = .ok (.getfield 102, 3) := by decide +kernel
theorem dX6_back_66 : decode cX6_back 66 = .ok (.iadd, 1) := by decide +kernel
theorem dX6_back_67 : decode cX6_back 67 = .ok (.aload_n 0, 1) := by decide +kernel
theorem dX6_back_68 : decode cX6_back 68 = .ok (.getfield 114, 3) := by decide +kernel
theorem dX6_back_71 : decode cX6_back 71 = .ok (.isub, 1) := by decide +kernel
theorem dX6_back_72 : decode cX6_back 72 = .ok (.iload_n 2, 1) := by decide +kernel
theorem dX6_back_73 : decode cX6_back 73 = .ok (.if_icmp .ne 7, 3) := by decide +kernel
theorem dX6_back_76 : decode cX6_back 76 = .ok (.iconst 1, 1) := by decide +kernel
theorem dX6_back_77 : decode cX6_back 77 = .ok (.goto 4, 3) := by decide +kernel
theorem dX6_back_80 : decode cX6_back 80 = .ok (.iconst 0, 1) := by decide +kernel
theorem dX6_back_81 : decode cX6_back 81 = .ok (.iadd, 1) := by decide +kernel
theorem dX6_back_82 : decode cX6_back 82 = .ok (.istore_n 3, 1) := by decide +kernel
theorem dX6_back_83 : decode cX6_back 83 = .ok (.iinc 4 1, 3) := by decide +kernel
theorem dX6_back_86 : decode cX6_back 86 = .ok (.goto (-57), 3) := by decide +kernel
theorem dX6_back_89 : decode cX6_back 89 = .ok (.iload_n 3, 1) := by decide +kernel
theorem dX6_back_90 : decode cX6_back 90 = .ok (.ireturn, 1) := by decide +kernel
theorem dX6_count_0 : decode cX6_count 0 = .ok (.aload_n 0, 1) := by decide +kernel
theorem dX6_count_1 : decode cX6_count 1 = .ok (.iconst 0, 1) := by decide +kernel
theorem dX6_count_2 : decode cX6_count 2 = .ok (.putfield 88, 3) := by decide +kernel
theorem dX6_count_5 : decode cX6_count 5 = .ok (.iload_n 1, 1) := by decide +kernel
theorem dX6_count_6 : decode cX6_count 6 = .ok (.tableswitch 131 0 12 #[66, 71, 76, 81, 86, 91, 96, 101, 106, 111, 116, 121, 126], 66) := by decide +kernel
theorem dX6_count_72 : decode cX6_count 72 = .ok (.aload_n 0, 1) := by decide +kernel
theorem dX6_count_73 : decode cX6_count 73 = .ok (.getfield 114, 3) := by decide +kernel
theorem dX6_count_76 : decode cX6_count 76 = .ok (.ireturn, 1) := by decide +kernel
theorem dX6_count_77 : decode cX6_count 77 = .ok (.aload_n 0, 1) := by decide +kernel
theorem dX6_count_78 : decode cX6_count 78 = .ok (.getfield 96, 3) := by decide +kernel
theorem dX6_count_81 : decode cX6_count 81 = .ok (.ireturn, 1) := by decide +kernel
theorem dX6_count_82 : decode cX6_count 82 = .ok (.aload_n 0, 1) := by decide +kernel
theorem dX6_count_83 : decode cX6_count 83 = .ok (.getfield 99, 3) := by decide +kernel
theorem dX6_count_86 : decode cX6_count 86 = .ok (.ireturn, 1) := by decide +kernel
theorem dX6_count_87 : decode cX6_count 87 = .ok (.aload_n 0, 1) := by decide +kernel
theorem dX6_count_88 : decode cX6_count 88 = .ok (.getfield 102, 3) := by decide +kernel
theorem dX6_count_91 : decode cX6_count 91 = .ok (.ireturn, 1) := by decide +kernel
theorem dX6_count_92 : decode cX6_count 92 = .ok (.aload_n 0, 1) := by decide +kernel
theorem dX6_count_93 : decode cX6_count 93 = .ok (.getfield 105, 3) := by decide +kernel
theorem dX6_count_96 : decode cX6_count 96 = .ok (.ireturn, 1) := by decide +kernel
theorem dX6_count_97 : decode cX6_count 97 = .ok (.aload_n 0, 1) := by decide +kernel
theorem dX6_count_98 : decode cX6_count 98 = .ok (.getfield 108, 3) := by decide +kernel
theorem dX6_count_101 : decode cX6_count 101 = .ok (.ireturn, 1) := by decide +kernel
theorem dX6_count_102 : decode cX6_count 102 = .ok (.aload_n 0, 1) := by decide +kernel
theorem dX6_count_103 : decode cX6_count 103 = .ok (.getfield 111, 3) := by decide +kernel
theorem dX6_count_106 : decode cX6_count 106 = .ok (.ireturn, 1) := by decide +kernel
theorem dX6_count_107 : decode cX6_count 107 = .ok (.aload_n 0, 1) := by decide +kernel
theorem dX6_count_108 : decode cX6_count 108 = .ok (.getfield 136, 3) := by decide +kernel
theorem dX6_count_111 : decode cX6_count 111 = .ok (.ireturn, 1) := by decide +kernel
theorem dX6_count_112 : decode cX6_count 112 = .ok (.aload_n 0, 1) := by decide +kernel
theorem dX6_count_113 : decode cX6_count 113 = .ok (.getfield 117, 3) := by decide +kernel
theorem dX6_count_116 : decode cX6_count 116 = .ok (.ireturn, 1) := by decide +kernel
theorem dX6_count_117 : decode cX6_count 117 = .ok (.aload_n 0, 1) := by decide +kernel
theorem dX6_count_118 : decode cX6_count 118 = .ok (.getfield 120, 3) := by decide +kernel
theorem dX6_count_121 : decode cX6_count 121 = .ok (.ireturn, 1) := by decide +kernel
theorem dX6_count_122 : decode cX6_count 122 = .ok (.aload_n 0, 1) := by decide +kernel
theorem dX6_count_123 : decode cX6_count 123 = .ok (.getfield 123, 3) := by decide +kernel
theorem dX6_count_126 : decode cX6_count 126 = .ok (.ireturn, 1) := by decide +kernel
theorem dX6_count_127 : decode cX6_count 127 = .ok (.aload_n 0, 1) := by decide +kernel
theorem dX6_count_128 : decode cX6_count 128 = .ok (.getfield 126, 3) := by decide +kernel
theorem dX6_count_131 : decode cX6_count 131 = .ok (.ireturn, 1) := by decide +kernel
theorem dX6_count_132 : decode cX6_count 132 = .ok (.aload_n 0, 1) := by decide +kernel
theorem dX6_count_133 : decode cX6_count 133 = .ok (.getfield 129, 3) := by decide +kernel
theorem dX6_count_136 : decode cX6_count 136 = .ok (.ireturn, 1) := by decide +kernel
theorem dX6_count_137 : decode cX6_count 137 = .ok (.iconst (-1), 1) := by decide +kernel
theorem dX6_count_138 : decode cX6_count 138 = .ok (.ireturn, 1) := by decide +kernel
end
section
theorem dL_link_0 : decode cL_link 0 = .ok (.aload_n 0, 1) := by decide +kernel
theorem dL_link_1 : decode cL_link 1 = .ok (.iload_n 1, 1) := by decide +kernel
theorem dL_link_2 : decode cL_link 2 = .ok (.iload_n 2, 1) := by decide +kernel
theorem dL_link_3 : decode cL_link 3 = .ok (.iload_n 3, 1) := by decide +kernel
theorem dL_link_4 : decode cL_link 4 = .ok (.iload 4, 2) := by decide +kernel
theorem dL_link_6 : decode cL_link 6 = .ok (.invokevirtual 7, 3) := by decide +kernel
theorem dL_link_9 : decode cL_link 9 = .ok (.goto 7, 3) := by decide +kernel
theorem dL_link_12 : decode cL_link 12 = .ok (.astore 5, 2) := by decide +kernel
theorem dL_link_14 : decode cL_link 14 = .ok (.iconst 1, 1) := by decide +kernel
theorem dL_link_15 : decode cL_link 15 = .ok (.ireturn, 1) := by decide +kernel
theorem dL_link_16 : decode cL_link 16 = .ok (.iconst 0, 1) := by decide +kernel
theorem dL_link_17 : decode cL_link 17 = .ok (.ireturn, 1) := by decide +kernel
theorem dL_depth_0 : decode cL_depth 0 = .ok (.aload_n 3, 1) := by decide +kernel
theorem dL_depth_1 : decode cL_depth 1 = .ok (.iconst 0, 1) := by decide +kernel
theorem dL_depth_2 : decode cL_depth 2 = .ok (.aload_n 0, 1) := by decide +kernel
theorem dL_depth_3 : decode cL_depth 3 = .ok (.iload_n 1, 1) := by decide +kernel
theorem dL_depth_4 : decode cL_depth 4 = .ok (.iload_n 2, 1) := by decide +kernel
theorem dL_depth_5 : decode cL_depth 5 = .ok (.invokevirtual 15, 3) := by decide +kernel
theorem dL_depth_8 : decode cL_depth 8 = .ok (.i2l, 1) := by decide +kernel
theorem dL_depth_9 : decode cL_depth 9 = .ok (.lastore, 1) := by decide +kernel
theorem dL_depth_10 : decode cL_depth 10 = .ok (.goto 11, 3) := by decide +kernel
theorem dL_depth_13 : decode cL_depth 13 = .ok (.astore 4, 2) := by decide +kernel
theorem dL_depth_15 : decode cL_depth 15 = .ok (.iconst 1, 1) := by decide +kernel
theorem dL_depth_16 : decode cL_depth 16 = .ok (.ireturn, 1) := by decide +kernel
theorem dL_depth_17 : decode cL_depth 17 = .ok (.astore 4, 2) := by decide +kernel
theorem dL_depth_19 : decode cL_depth 19 = .ok (.iconst 2, 1) := by decide +kernel
theorem dL_depth_20 : decode cL_depth 20 = .ok (.ireturn, 1) := by decide +kernel
theorem dL_depth_21 : decode cL_depth 21 = .ok (.iconst 0, 1) := by decide +kernel
theorem dL_depth_22 : decode cL_depth 22 = .ok (.ireturn, 1) := by decide +kernel
theorem dL_weight_0 : decode cL_weight 0 = .ok (.aload_n 3, 1) := by decide +kernel
theorem dL_weight_1 : decode cL_weight 1 = .ok (.iconst 0, 1) := by decide +kernel
theorem dL_weight_2 : decode cL_weight 2 = .ok (.aload_n 0, 1) := by decide +kernel
theorem dL_weight_3 : decode cL_weight 3 = .ok (.iload_n 1, 1) := by decide +kernel
theorem dL_weight_4 : decode cL_weight 4 = .ok (.iload_n 2, 1) := by decide +kernel
theorem dL_weight_5 : decode cL_weight 5 = .ok (.invokevirtual 21, 3) := by decide +kernel
theorem dL_weight_8 : decode cL_weight 8 = .ok (.i2l, 1) := by decide +kernel
theorem dL_weight_9 : decode cL_weight 9 = .ok (.lastore, 1) := by decide +kernel
theorem dL_weight_10 : decode cL_weight 10 = .ok (.goto 7, 3) := by decide +kernel
theorem dL_weight_13 : decode cL_weight 13 = .ok (.astore 4, 2) := by decide +kernel
theorem dL_weight_15 : decode cL_weight 15 = .ok (.iconst 1, 1) := by decide +kernel
theorem dL_weight_16 : decode cL_weight 16 = .ok (.ireturn, 1) := by decide +kernel
theorem dL_weight_17 : decode cL_weight 17 = .ok (.iconst 0, 1) := by decide +kernel
theorem dL_weight_18 : decode cL_weight 18 = .ok (.ireturn, 1) := by decide +kernel
theorem dL_arbiter_0 : decode cL_arbiter 0 = .ok (.aload_n 2, 1) := by decide +kernel
theorem dL_arbiter_1 : decode cL_arbiter 1 = .ok (.iconst 0, 1) := by decide +kernel
theorem dL_arbiter_2 : decode cL_arbiter 2 = .ok (.aload_n 0, 1) := by decide +kernel
theorem dL_arbiter_3 : decode cL_arbiter 3 = .ok (.iload_n 1, 1) := by decide +kernel
theorem dL_arbiter_4 : decode cL_arbiter 4 = .ok (.invokevirtual 24, 3) := by decide +kernel
theorem dL_arbiter_7 : decode cL_arbiter 7 = .ok (.i2l, 1) := by decide +kernel
theorem dL_arbiter_8 : decode cL_arbiter 8 = .ok (.lastore, 1) := by decide +kernel
theorem dL_arbiter_9 : decode cL_arbiter 9 = .ok (.goto 6, 3) := by decide +kernel
theorem dL_arbiter_12 : decode cL_arbiter 12 = .ok (.astore_n 3, 1) := by decide +kernel
theorem dL_arbiter_13 : decode cL_arbiter 13 = .ok (.iconst 1, 1) := by decide +kernel
theorem dL_arbiter_14 : decode cL_arbiter 14 = .ok (.ireturn, 1) := by decide +kernel
theorem dL_arbiter_15 : decode cL_arbiter 15 = .ok (.iconst 0, 1) := by decide +kernel
theorem dL_arbiter_16 : decode cL_arbiter 16 = .ok (.ireturn, 1) := by decide +kernel
theorem dL_mask_0 : decode cL_mask 0 = .ok (.aload_n 2, 1) := by decide +kernel
theorem dL_mask_1 : decode cL_mask 1 = .ok (.iconst 0, 1) := by decide +kernel
theorem dL_mask_2 : decode cL_mask 2 = .ok (.aload_n 0, 1) := by decide +kernel
theorem dL_mask_3 : decode cL_mask 3 = .ok (.iload_n 1, 1) := by decide +kernel
theorem dL_mask_4 : decode cL_mask 4 = .ok (.invokevirtual 28, 3) := by decide +kernel
theorem dL_mask_7 : decode cL_mask 7 = .ok (.i2l, 1) := by decide +kernel
theorem dL_mask_8 : decode cL_mask 8 = .ok (.lastore, 1) := by decide +kernel
theorem dL_mask_9 : decode cL_mask 9 = .ok (.goto 6, 3) := by decide +kernel
theorem dL_mask_12 : decode cL_mask 12 = .ok (.astore_n 3, 1) := by decide +kernel
theorem dL_mask_13 : decode cL_mask 13 = .ok (.iconst 1, 1) := by decide +kernel
theorem dL_mask_14 : decode cL_mask 14 = .ok (.ireturn, 1) := by decide +kernel
theorem dL_mask_15 : decode cL_mask 15 = .ok (.iconst 0, 1) := by decide +kernel
theorem dL_mask_16 : decode cL_mask 16 = .ok (.ireturn, 1) := by decide +kernel
theorem dL_feed_0 : decode cL_feed 0 = .ok (.aload 6, 2) := by decide +kernel
theorem dL_feed_2 : decode cL_feed 2 = .ok (.iconst 0, 1) := by decide +kernel
theorem dL_feed_3 : decode cL_feed 3 = .ok (.aload_n 0, 1) := by decide +kernel
theorem dL_feed_4 : decode cL_feed 4 = .ok (.iload_n 1, 1) := by decide +kernel
theorem dL_feed_5 : decode cL_feed 5 = .ok (.lload_n 2, 1) := by decide +kernel
theorem dL_feed_6 : decode cL_feed 6 = .ok (.lload 4, 2) := by decide +kernel
theorem dL_feed_8 : decode cL_feed 8 = .ok (.invokevirtual 33, 3) := by decide +kernel
theorem dL_feed_11 : decode cL_feed 11 = .ok (.i2l, 1) := by decide +kernel
theorem dL_feed_12 : decode cL_feed 12 = .ok (.lastore, 1) := by decide +kernel
theorem dL_feed_13 : decode cL_feed 13 = .ok (.goto 11, 3) := by decide +kernel
theorem dL_feed_16 : decode cL_feed 16 = .ok (.astore 7, 2) := by decide +kernel
theorem dL_feed_18 : decode cL_feed 18 = .ok (.iconst 1, 1) := by decide +kernel
theorem dL_feed_19 : decode cL_feed 19 = .ok (.ireturn, 1) := by decide +kernel
theorem dL_feed_20 : decode cL_feed 20 = .ok (.astore 7, 2) := by decide +kernel
theorem dL_feed_22 : decode cL_feed 22 = .ok (.iconst 2, 1) := by decide +kernel
theorem dL_feed_23 : decode cL_feed 23 = .ok (.ireturn, 1) := by decide +kernel
theorem dL_feed_24 : decode cL_feed 24 = .ok (.iconst 0, 1) := by decide +kernel
theorem dL_feed_25 : decode cL_feed 25 = .ok (.ireturn, 1) := by decide +kernel
theorem dL_offer_0 : decode cL_offer 0 = .ok (.aload_n 2, 1) := by decide +kernel
theorem dL_offer_1 : decode cL_offer 1 = .ok (.iconst 0, 1) := by decide +kernel
theorem dL_offer_2 : decode cL_offer 2 = .ok (.aload_n 0, 1) := by decide +kernel
theorem dL_offer_3 : decode cL_offer 3 = .ok (.iload_n 1, 1) := by decide +kernel
theorem dL_offer_4 : decode cL_offer 4 = .ok (.invokevirtual 37, 3) := by decide +kernel
theorem dL_offer_7 : decode cL_offer 7 = .ok (.i2l, 1) := by decide +kernel
theorem dL_offer_8 : decode cL_offer 8 = .ok (.lastore, 1) := by decide +kernel
theorem dL_offer_9 : decode cL_offer 9 = .ok (.goto 9, 3) := by decide +kernel
theorem dL_offer_12 : decode cL_offer 12 = .ok (.astore_n 3, 1) := by decide +kernel
theorem dL_offer_13 : decode cL_offer 13 = .ok (.iconst 1, 1) := by decide +kernel
theorem dL_offer_14 : decode cL_offer 14 = .ok (.ireturn, 1) := by decide +kernel
theorem dL_offer_15 : decode cL_offer 15 = .ok (.astore_n 3, 1) := by decide +kernel
theorem dL_offer_16 : decode cL_offer 16 = .ok (.iconst 2, 1) := by decide +kernel
theorem dL_offer_17 : decode cL_offer 17 = .ok (.ireturn, 1) := by decide +kernel
theorem dL_offer_18 : decode cL_offer 18 = .ok (.iconst 0, 1) := by decide +kernel
theorem dL_offer_19 : decode cL_offer 19 = .ok (.ireturn, 1) := by decide +kernel
theorem dL_run_0 : decode cL_run 0 = .ok (.aload_n 2, 1) := by decide +kernel
theorem dL_run_1 : decode cL_run 1 = .ok (.iconst 0, 1) := by decide +kernel
theorem dL_run_2 : decode cL_run 2 = .ok (.aload_n 0, 1) := by decide +kernel
theorem dL_run_3 : decode cL_run 3 = .ok (.iload_n 1, 1) := by decide +kernel
theorem dL_run_4 : decode cL_run 4 = .ok (.invokevirtual 40, 3) := by decide +kernel
theorem dL_run_7 : decode cL_run 7 = .ok (.i2l, 1) := by decide +kernel
theorem dL_run_8 : decode cL_run 8 = .ok (.lastore, 1) := by decide +kernel
theorem dL_run_9 : decode cL_run 9 = .ok (.goto 6, 3) := by decide +kernel
theorem dL_run_12 : decode cL_run 12 = .ok (.astore_n 3, 1) := by decide +kernel
theorem dL_run_13 : decode cL_run 13 = .ok (.iconst 1, 1) := by decide +kernel
theorem dL_run_14 : decode cL_run 14 = .ok (.ireturn, 1) := by decide +kernel
theorem dL_run_15 : decode cL_run 15 = .ok (.iconst 0, 1) := by decide +kernel
theorem dL_run_16 : decode cL_run 16 = .ok (.ireturn, 1) := by decide +kernel
theorem dL_take_0 : decode cL_take 0 = .ok (.aload_n 2, 1) := by decide +kernel
theorem dL_take_1 : decode cL_take 1 = .ok (.iconst 0, 1) := by decide +kernel
theorem dL_take_2 : decode cL_take 2 = .ok (.aload_n 0, 1) := by decide +kernel
theorem dL_take_3 : decode cL_take 3 = .ok (.iload_n 1, 1) := by decide +kernel
theorem dL_take_4 : decode cL_take 4 = .ok (.invokevirtual 43, 3) := by decide +kernel
theorem dL_take_7 : decode cL_take 7 = .ok (.i2l, 1) := by decide +kernel
theorem dL_take_8 : decode cL_take 8 = .ok (.lastore, 1) := by decide +kernel
theorem dL_take_9 : decode cL_take 9 = .ok (.goto 6, 3) := by decide +kernel
theorem dL_take_12 : decode cL_take 12 = .ok (.astore_n 3, 1) := by decide +kernel
theorem dL_take_13 : decode cL_take 13 = .ok (.iconst 1, 1) := by decide +kernel
theorem dL_take_14 : decode cL_take 14 = .ok (.ireturn, 1) := by decide +kernel
theorem dL_take_15 : decode cL_take 15 = .ok (.iconst 0, 1) := by decide +kernel
theorem dL_take_16 : decode cL_take 16 = .ok (.ireturn, 1) := by decide +kernel
theorem dL_law_0 : decode cL_law 0 = .ok (.new 8, 3) := by decide +kernel
theorem dL_law_3 : decode cL_law 3 = .ok (.dup, 1) := by decide +kernel
theorem dL_law_4 : decode cL_law 4 = .ok (.invokespecial 46, 3) := by decide +kernel
theorem dL_law_7 : decode cL_law 7 = .ok (.astore_n 1, 1) := by decide +kernel
theorem dL_law_8 : decode cL_law 8 = .ok (.new 47, 3) := by decide +kernel
theorem dL_law_11 : decode cL_law 11 = .ok (.dup, 1) := by decide +kernel
theorem dL_law_12 : decode cL_law 12 = .ok (.invokespecial 49, 3) := by decide +kernel
theorem dL_law_15 : decode cL_law 15 = .ok (.astore_n 2, 1) := by decide +kernel
theorem dL_law_16 : decode cL_law 16 = .ok (.iconst 1, 1) := by decide +kernel
theorem dL_law_17 : decode cL_law 17 = .ok (.newarray .long, 2) := by decide +kernel
theorem dL_law_19 : decode cL_law 19 = .ok (.astore_n 3, 1) := by decide +kernel
theorem dL_law_20 : decode cL_law 20 = .ok (.iconst 0, 1) := by decide +kernel
theorem dL_law_21 : decode cL_law 21 = .ok (.istore 4, 2) := by decide +kernel
theorem dL_law_23 : decode cL_law 23 = .ok (.iload 4, 2) := by decide +kernel
theorem dL_law_25 : decode cL_law 25 = .ok (.aload_n 0, 1) := by decide +kernel
theorem dL_law_26 : decode cL_law 26 = .ok (.arraylength, 1) := by decide +kernel
theorem dL_law_27 : decode cL_law 27 = .ok (.bipush 6, 2) := by decide +kernel
theorem dL_law_29 : decode cL_law 29 = .ok (.isub, 1) := by decide +kernel
theorem dL_law_30 : decode cL_law 30 = .ok (.if_icmp .gt 992, 3) := by decide +kernel
theorem dL_law_33 : decode cL_law 33 = .ok (.aload_n 0, 1) := by decide +kernel
theorem dL_law_34 : decode cL_law 34 = .ok (.iload 4, 2) := by decide +kernel
theorem dL_law_36 : decode cL_law 36 = .ok (.iaload, 1) := by decide +kernel
theorem dL_law_37 : decode cL_law 37 = .ok (.bipush 31, 2) := by decide +kernel
theorem dL_law_39 : decode cL_law 39 = .ok (.iand, 1) := by decide +kernel
theorem dL_law_40 : decode cL_law 40 = .ok (.tableswitch 976 0 16 #[84, 156, 224, 292, 348, 404, 417, 561, 617, 673, 729, 754, 791, 828, 865, 914, 951], 84) := by decide +kernel
theorem dL_law_124 : decode cL_law 124 = .ok (.aload_n 1, 1) := by decide +kernel
theorem dL_law_125 : decode cL_law 125 = .ok (.aload_n 0, 1) := by decide +kernel
theorem dL_law_126 : decode cL_law 126 = .ok (.iload 4, 2) := by decide +kernel
theorem dL_law_128 : decode cL_law 128 = .ok (.iconst 1, 1) := by decide +kernel
theorem dL_law_129 : decode cL_law 129 = .ok (.iadd, 1) := by decide +kernel
theorem dL_law_130 : decode cL_law 130 = .ok (.iaload, 1) := by decide +kernel
theorem dL_law_131 : decode cL_law 131 = .ok (.aload_n 0, 1) := by decide +kernel
theorem dL_law_132 : decode cL_law 132 = .ok (.iload 4, 2) := by decide +kernel
theorem dL_law_134 : decode cL_law 134 = .ok (.iconst 2, 1) := by decide +kernel
theorem dL_law_135 : decode cL_law 135 = .ok (.iadd, 1) := by decide +kernel
theorem dL_law_136 : decode cL_law 136 = .ok (.iaload, 1) := by decide +kernel
theorem dL_law_137 : decode cL_law 137 = .ok (.aload_n 0, 1) := by decide +kernel
theorem dL_law_138 : decode cL_law 138 = .ok (.iload 4, 2) := by decide +kernel
theorem dL_law_140 : decode cL_law 140 = .ok (.iconst 3, 1) := by decide +kernel
theorem dL_law_141 : decode cL_law 141 = .ok (.iadd, 1) := by decide +kernel
theorem dL_law_142 : decode cL_law 142 = .ok (.iaload, 1) := by decide +kernel
theorem dL_law_143 : decode cL_law 143 = .ok (.aload_n 0, 1) := by decide +kernel
theorem dL_law_144 : decode cL_law 144 = .ok (.iload 4, 2) := by decide +kernel
theorem dL_law_146 : decode cL_law 146 = .ok (.iconst 4, 1) := by decide +kernel
theorem dL_law_147 : decode cL_law 147 = .ok (.iadd, 1) := by decide +kernel
theorem dL_law_148 : decode cL_law 148 = .ok (.iaload, 1) := by decide +kernel
theorem dL_law_149 : decode cL_law 149 = .ok (.invokestatic 50, 3) := by decide +kernel
theorem dL_law_152 : decode cL_law 152 = .ok (.istore 5, 2) := by decide +kernel
theorem dL_law_154 : decode cL_law 154 = .ok (.aload_n 2, 1) := by decide +kernel
theorem dL_law_155 : decode cL_law 155 = .ok (.aload_n 0, 1) := by decide +kernel
theorem dL_law_156 : decode cL_law 156 = .ok (.iload 4, 2) := by decide +kernel
theorem dL_law_158 : decode cL_law 158 = .ok (.iconst 1, 1) := by decide +kernel
theorem dL_law_159 : decode cL_law 159 = .ok (.iadd, 1) := by decide +kernel
theorem dL_law_160 : decode cL_law 160 = .ok (.iaload, 1) := by decide +kernel
theorem dL_law_161 : decode cL_law 161 = .ok (.aload_n 0, 1) := by decide +kernel
theorem dL_law_162 : decode cL_law 162 = .ok (.iload 4, 2) := by decide +kernel
theorem dL_law_164 : decode cL_law 164 = .ok (.iconst 2, 1) := by decide +kernel
theorem dL_law_165 : decode cL_law 165 = .ok (.iadd, 1) := by decide +kernel
theorem dL_law_166 : decode cL_law 166 = .ok (.iaload, 1) := by decide +kernel
theorem dL_law_167 : decode cL_law 167 = .ok (.aload_n 0, 1) := by decide +kernel
theorem dL_law_168 : decode cL_law 168 = .ok (.iload 4, 2) := by decide +kernel
theorem dL_law_170 : decode cL_law 170 = .ok (.iconst 3, 1) := by decide +kernel
theorem dL_law_171 : decode cL_law 171 = .ok (.iadd, 1) := by decide +kernel
theorem dL_law_172 : decode cL_law 172 = .ok (.iaload, 1) := by decide +kernel
theorem dL_law_173 : decode cL_law 173 = .ok (.aload_n 0, 1) := by decide +kernel
theorem dL_law_174 : decode cL_law 174 = .ok (.iload 4, 2) := by decide +kernel
theorem dL_law_176 : decode cL_law 176 = .ok (.iconst 4, 1) := by decide +kernel
theorem dL_law_177 : decode cL_law 177 = .ok (.iadd, 1) := by decide +kernel
theorem dL_law_178 : decode cL_law 178 = .ok (.iaload, 1) := by decide +kernel
theorem dL_law_179 : decode cL_law 179 = .ok (.invokevirtual 55, 3) := by decide +kernel
theorem dL_law_182 : decode cL_law 182 = .ok (.aload_n 2, 1) := by decide +kernel
theorem dL_law_183 : decode cL_law 183 = .ok (.invokevirtual 56, 3) := by decide +kernel
theorem dL_law_186 : decode cL_law 186 = .ok (.iload 5, 2) := by decide +kernel
theorem dL_law_188 : decode cL_law 188 = .ok (.if_icmp .eq 5, 3) := by decide +kernel
theorem dL_law_191 : decode cL_law 191 = .ok (.iconst 0, 1) := by decide +kernel
theorem dL_law_192 : decode cL_law 192 = .ok (.ireturn, 1) := by decide +kernel
theorem dL_law_193 : decode cL_law 193 = .ok (.goto 823, 3) := by decide +kernel
theorem dL_law_196 : decode cL_law 196 = .ok (.aload_n 1, 1) := by decide +kernel
theorem dL_law_197 : decode cL_law 197 = .ok (.aload_n 0, 1) := by decide +kernel
theorem dL_law_198 : decode cL_law 198 = .ok (.iload 4, 2) := by decide +kernel
theorem dL_law_200 : decode cL_law 200 = .ok (.iconst 1, 1) := by decide +kernel
theorem dL_law_201 : decode cL_law 201 = .ok (.iadd, 1) := by decide +kernel
theorem dL_law_202 : decode cL_law 202 = .ok (.iaload, 1) := by decide +kernel
theorem dL_law_203 : decode cL_law 203 = .ok (.aload_n 0, 1) := by decide +kernel
theorem dL_law_204 : decode cL_law 204 = .ok (.iload 4, 2) := by decide +kernel
theorem dL_law_206 : decode cL_law 206 = .ok (.iconst 2, 1) := by decide +kernel
theorem dL_law_207 : decode cL_law 207 = .ok (.iadd, 1) := by decide +kernel
theorem dL_law_208 : decode cL_law 208 = .ok (.iaload, 1) := by decide +kernel
theorem dL_law_209 : decode cL_law 209 = .ok (.aload_n 3, 1) := by decide +kernel
theorem dL_law_210 : decode cL_law 210 = .ok (.invokestatic 60, 3) := by decide +kernel
theorem dL_law_213 : decode cL_law 213 = .ok (.istore 5, 2) := by decide +kernel
theorem dL_law_215 : decode cL_law 215 = .ok (.aload_n 2, 1) := by decide +kernel
theorem dL_law_216 : decode cL_law 216 = .ok (.aload_n 0, 1) := by decide +kernel
theorem dL_law_217 : decode cL_law 217 = .ok (.iload 4, 2) := by decide +kernel
theorem dL_law_219 : decode cL_law 219 = .ok (.iconst 1, 1) := by decide +kernel
theorem dL_law_220 : decode cL_law 220 = .ok (.iadd, 1) := by decide +kernel
theorem dL_law_221 : decode cL_law 221 = .ok (.iaload, 1) := by decide +kernel
theorem dL_law_222 : decode cL_law 222 = .ok (.aload_n 0, 1) := by decide +kernel
theorem dL_law_223 : decode cL_law 223 = .ok (.iload 4, 2) := by decide +kernel
theorem dL_law_225 : decode cL_law 225 = .ok (.iconst 2, 1) := by decide +kernel
theorem dL_law_226 : decode cL_law 226 = .ok (.iadd, 1) := by decide +kernel
theorem dL_law_227 : decode cL_law 227 = .ok (.iaload, 1) := by decide +kernel
theorem dL_law_228 : decode cL_law 228 = .ok (.invokevirtual 63, 3) := by decide +kernel
theorem dL_law_231 : decode cL_law 231 = .ok (.istore 6, 2) := by decide +kernel
theorem dL_law_233 : decode cL_law 233 = .ok (.aload_n 2, 1) := by decide +kernel
theorem dL_law_234 : decode cL_law 234 = .ok (.invokevirtual 56, 3) := by decide +kernel
theorem dL_law_237 : decode cL_law 237 = .ok (.iload 5, 2) := by decide +kernel
theorem dL_law_239 : decode cL_law 239 = .ok (.if_icmp .eq 5, 3) := by decide +kernel
theorem dL_law_242 : decode cL_law 242 = .ok (.iconst 0, 1) := by decide +kernel
theorem dL_law_243 : decode cL_law 243 = .ok (.ireturn, 1) := by decide +kernel
theorem dL_law_244 : decode cL_law 244 = .ok (.iload 5, 2) := by decide +kernel
theorem dL_law_246 : decode cL_law 246 = .ok (.ifCond .ne 15, 3) := by decide +kernel
theorem dL_law_249 : decode cL_law 249 = .ok (.aload_n 3, 1) := by decide +kernel
theorem dL_law_250 : decode cL_law 250 = .ok (.iconst 0, 1) := by decide +kernel
theorem dL_law_251 : decode cL_law 251 = .ok (.laload, 1) := by decide +kernel
theorem dL_law_252 : decode cL_law 252 = .ok (.iload 6, 2) := by decide +kernel
theorem dL_law_254 : decode cL_law 254 = .ok (.i2l, 1) := by decide +kernel
theorem dL_law_255 : decode cL_law 255 = .ok (.lcmp, 1) := by decide +kernel
theorem dL_law_256 : decode cL_law 256 = .ok (.ifCond .eq 5, 3) := by decide +kernel
theorem dL_law_259 : decode cL_law 259 = .ok (.iconst 0, 1) := by decide +kernel
theorem dL_law_260 : decode cL_law 260 = .ok (.ireturn, 1) := by decide +kernel
theorem dL_law_261 : decode cL_law 261 = .ok (.goto 755, 3) := by decide +kernel
theorem dL_law_264 : decode cL_law 264 = .ok (.aload_n 1, 1) := by decide +kernel
theorem dL_law_265 : decode cL_law 265 = .ok (.aload_n 0, 1) := by decide +kernel
theorem dL_law_266 : decode cL_law 266 = .ok (.iload 4, 2) := by decide +kernel
theorem dL_law_268 : decode cL_law 268 = .ok (.iconst 1, 1) := by decide +kernel
theorem dL_law_269 : decode cL_law 269 = .ok (.iadd, 1) := by decide +kernel
theorem dL_law_270 : decode cL_law 270 = .ok (.iaload, 1) := by decide +kernel
theorem dL_law_271 : decode cL_law 271 = .ok (.aload_n 0, 1) := by decide +kernel
theorem dL_law_272 : decode cL_law 272 = .ok (.iload 4, 2) := by decide +kernel
theorem dL_law_274 : decode cL_law 274 = .ok (.iconst 2, 1) := by decide +kernel
theorem dL_law_275 : decode cL_law 275 = .ok (.iadd, 1) := by decide +kernel
theorem dL_law_276 : decode cL_law 276 = .ok (.iaload, 1) := by decide +kernel
theorem dL_law_277 : decode cL_law 277 = .ok (.aload_n 3, 1) := by decide +kernel
theorem dL_law_278 : decode cL_law 278 = .ok (.invokestatic 64, 3) := by decide +kernel
theorem dL_law_281 : decode cL_law 281 = .ok (.istore 5, 2) := by decide +kernel
theorem dL_law_283 : decode cL_law 283 = .ok (.aload_n 2, 1) := by decide +kernel
theorem dL_law_284 : decode cL_law 284 = .ok (.aload_n 0, 1) := by decide +kernel
theorem dL_law_285 : decode cL_law 285 = .ok (.iload 4, 2) := by decide +kernel
theorem dL_law_287 : decode cL_law 287 = .ok (.iconst 1, 1) := by decide +kernel
theorem dL_law_288 : decode cL_law 288 = .ok (.iadd, 1) := by decide +kernel
theorem dL_law_289 : decode cL_law 289 = .ok (.iaload, 1) := by decide +kernel
theorem dL_law_290 : decode cL_law 290 = .ok (.aload_n 0, 1) := by decide +kernel
theorem dL_law_291 : decode cL_law 291 = .ok (.iload 4, 2) := by decide +kernel
theorem dL_law_293 : decode cL_law 293 = .ok (.iconst 2, 1) := by decide +kernel
theorem dL_law_294 : decode cL_law 294 = .ok (.iadd, 1) := by decide +kernel
theorem dL_law_295 : decode cL_law 295 = .ok (.iaload, 1) := by decide +kernel
theorem dL_law_296 : decode cL_law 296 = .ok (.invokevirtual 66, 3) := by decide +kernel
theorem dL_law_299 : decode cL_law 299 = .ok (.istore 6, 2) := by decide +kernel
theorem dL_law_301 : decode cL_law 301 = .ok (.aload_n 2, 1) := by decide +kernel
theorem dL_law_302 : decode cL_law 302 = .ok (.invokevirtual 56, 3) := by decide +kernel
theorem dL_law_305 : decode cL_law 305 = .ok (.iload 5, 2) := by decide +kernel
theorem dL_law_307 : decode cL_law 307 = .ok (.if_icmp .eq 5, 3) := by decide +kernel
theorem dL_law_310 : decode cL_law 310 = .ok (.iconst 0, 1) := by decide +kernel
theorem dL_law_311 : decode cL_law 311 = .ok (.ireturn, 1) := by decide +kernel
theorem dL_law_312 : decode cL_law 312 = .ok (.iload 5, 2) := by decide +kernel
theorem dL_law_314 : decode cL_law 314 = .ok (.ifCond .ne 15, 3) := by decide +kernel
theorem dL_law_317 : decode cL_law 317 = .ok (.aload_n 3, 1) := by decide +kernel
theorem dL_law_318 : decode cL_law 318 = .ok (.iconst 0, 1) := by decide +kernel
theorem dL_law_319 : decode cL_law 319 = .ok (.laload, 1) := by decide +kernel
theorem dL_law_320 : decode cL_law 320 = .ok (.iload 6, 2) := by decide +kernel
theorem dL_law_322 : decode cL_law 322 = .ok (.i2l, 1) := by decide +kernel
theorem dL_law_323 : decode cL_law 323 = .ok (.lcmp, 1) := by decide +kernel
theorem dL_law_324 : decode cL_law 324 = .ok (.ifCond .eq 5, 3) := by decide +kernel
theorem dL_law_327 : decode cL_law 327 = .ok (.iconst 0, 1) := by decide +kernel
theorem dL_law_328 : decode cL_law 328 = .ok (.ireturn, 1) := by decide +kernel
theorem dL_law_329 : decode cL_law 329 = .ok (.goto 687, 3) := by decide +kernel
theorem dL_law_332 : decode cL_law 332 = .ok (.aload_n 1, 1) := by decide +kernel
theorem dL_law_333 : decode cL_law 333 = .ok (.aload_n 0, 1) := by decide +kernel
theorem dL_law_334 : decode cL_law 334 = .ok (.iload 4, 2) := by decide +kernel
theorem dL_law_336 : decode cL_law 336 = .ok (.iconst 1, 1) := by decide +kernel
theorem dL_law_337 : decode cL_law 337 = .ok (.iadd, 1) := by decide +kernel
theorem dL_law_338 : decode cL_law 338 = .ok (.iaload, 1) := by decide +kernel
theorem dL_law_339 : decode cL_law 339 = .ok (.aload_n 3, 1) := by decide +kernel
theorem dL_law_340 : decode cL_law 340 = .ok (.invokestatic 67, 3) := by decide +kernel
theorem dL_law_343 : decode cL_law 343 = .ok (.istore 5, 2) := by decide +kernel
theorem dL_law_345 : decode cL_law 345 = .ok (.aload_n 2, 1) := by decide +kernel
theorem dL_law_346 : decode cL_law 346 = .ok (.aload_n 0, 1) := by decide +kernel
theorem dL_law_347 : decode cL_law 347 = .ok (.iload 4, 2) := by decide +kernel
theorem dL_law_349 : decode cL_law 349 = .ok (.iconst 1, 1) := by decide +kernel
theorem dL_law_350 : decode cL_law 350 = .ok (.iadd, 1) := by decide +kernel
theorem dL_law_351 : decode cL_law 351 = .ok (.iaload, 1) := by decide +kernel
theorem dL_law_352 : decode cL_law 352 = .ok (.invokevirtual 70, 3) := by decide +kernel
theorem dL_law_355 : decode cL_law 355 = .ok (.istore 6, 2) := by decide +kernel
theorem dL_law_357 : decode cL_law 357 = .ok (.aload_n 2, 1) := by decide +kernel
theorem dL_law_358 : decode cL_law 358 = .ok (.invokevirtual 56, 3) := by decide +kernel
theorem dL_law_361 : decode cL_law 361 = .ok (.iload 5, 2) := by decide +kernel
theorem dL_law_363 : decode cL_law 363 = .ok (.if_icmp .eq 5, 3) := by decide +kernel
theorem dL_law_366 : decode cL_law 366 = .ok (.iconst 0, 1) := by decide +kernel
theorem dL_law_367 : decode cL_law 367 = .ok (.ireturn, 1) := by decide +kernel
theorem dL_law_368 : decode cL_law 368 = .ok (.iload 5, 2) := by decide +kernel
theorem dL_law_370 : decode cL_law 370 = .ok (.ifCond .ne 15, 3) := by decide +kernel
theorem dL_law_373 : decode cL_law 373 = .ok (.aload_n 3, 1) := by decide +kernel
theorem dL_law_374 : decode cL_law 374 = .ok (.iconst 0, 1) := by decide +kernel
theorem dL_law_375 : decode cL_law 375 = .ok (.laload, 1) := by decide +kernel
theorem dL_law_376 : decode cL_law 376 = .ok (.iload 6, 2) := by decide +kernel
theorem dL_law_378 : decode cL_law 378 = .ok (.i2l, 1) := by decide +kernel
theorem dL_law_379 : decode cL_law 379 = .ok (.lcmp, 1) := by decide +kernel
theorem dL_law_380 : decode cL_law 380 = .ok (.ifCond .eq 5, 3) := by decide +kernel
theorem dL_law_383 : decode cL_law 383 = .ok (.iconst 0, 1) := by decide +kernel
theorem dL_law_384 : decode cL_law 384 = .ok (.ireturn, 1) := by decide +kernel
theorem dL_law_385 : decode cL_law 385 = .ok (.goto 631, 3) := by decide +kernel
theorem dL_law_388 : decode cL_law 388 = .ok (.aload_n 1, 1) := by decide +kernel
theorem dL_law_389 : decode cL_law 389 = .ok (.aload_n 0, 1) := by decide +kernel
theorem dL_law_390 : decode cL_law 390 = .ok (.iload 4, 2) := by decide +kernel
theorem dL_law_392 : decode cL_law 392 = .ok (.iconst 1, 1) := by decide +kernel
theorem dL_law_393 : decode cL_law 393 = .ok (.iadd, 1) := by decide +kernel
theorem dL_law_394 : decode cL_law 394 = .ok (.iaload, 1) := by decide +kernel
theorem dL_law_395 : decode cL_law 395 = .ok (.aload_n 3, 1) := by decide +kernel
theorem dL_law_396 : decode cL_law 396 = .ok (.invokestatic 71, 3) := by decide +kernel
theorem dL_law_399 : decode cL_law 399 = .ok (.istore 5, 2) := by decide +kernel
theorem dL_law_401 : decode cL_law 401 = .ok (.aload_n 2, 1) := by decide +kernel
theorem dL_law_402 : decode cL_law 402 = .ok (.aload_n 0, 1) := by decide +kernel
theorem dL_law_403 : decode cL_law 403 = .ok (.iload 4, 2) := by decide +kernel
theorem dL_law_405 : decode cL_law 405 = .ok (.iconst 1, 1) := by decide +kernel
theorem dL_law_406 : decode cL_law 406 = .ok (.iadd, 1) := by decide +kernel
theorem dL_law_407 : decode cL_law 407 = .ok (.iaload, 1) := by decide +kernel
theorem dL_law_408 : decode cL_law 408 = .ok (.invokevirtual 73, 3) := by decide +kernel
theorem dL_law_411 : decode cL_law 411 = .ok (.istore 6, 2) := by decide +kernel
theorem dL_law_413 : decode cL_law 413 = .ok (.aload_n 2, 1) := by decide +kernel
theorem dL_law_414 : decode cL_law 414 = .ok (.invokevirtual 56, 3) := by decide +kernel
theorem dL_law_417 : decode cL_law 417 = .ok (.iload 5, 2) := by decide +kernel
theorem dL_law_419 : decode cL_law 419 = .ok (.if_icmp .eq 5, 3) := by decide +kernel
theorem dL_law_422 : decode cL_law 422 = .ok (.iconst 0, 1) := by decide +kernel
theorem dL_law_423 : decode cL_law 423 = .ok (.ireturn, 1) := by decide +kernel
theorem dL_law_424 : decode cL_law 424 = .ok (.iload 5, 2) := by decide +kernel
theorem dL_law_426 : decode cL_law 426 = .ok (.ifCond .ne 15, 3) := by decide +kernel
theorem dL_law_429 : decode cL_law 429 = .ok (.aload_n 3, 1) := by decide +kernel
theorem dL_law_430 : decode cL_law 430 = .ok (.iconst 0, 1) := by decide +kernel
theorem dL_law_431 : decode cL_law 431 = .ok (.laload, 1) := by decide +kernel
theorem dL_law_432 : decode cL_law 432 = .ok (.iload 6, 2) := by decide +kernel
theorem dL_law_434 : decode cL_law 434 = .ok (.i2l, 1) := by decide +kernel
theorem dL_law_435 : decode cL_law 435 = .ok (.lcmp, 1) := by decide +kernel
theorem dL_law_436 : decode cL_law 436 = .ok (.ifCond .eq 5, 3) := by decide +kernel
theorem dL_law_439 : decode cL_law 439 = .ok (.iconst 0, 1) := by decide +kernel
theorem dL_law_440 : decode cL_law 440 = .ok (.ireturn, 1) := by decide +kernel
theorem dL_law_441 : decode cL_law 441 = .ok (.goto 575, 3) := by decide +kernel
theorem dL_law_444 : decode cL_law 444 = .ok (.aload_n 1, 1) := by decide +kernel
theorem dL_law_445 : decode cL_law 445 = .ok (.invokevirtual 74, 3) := by decide +kernel
theorem dL_law_448 : decode cL_law 448 = .ok (.aload_n 2, 1) := by decide +kernel
theorem dL_law_449 : decode cL_law 449 = .ok (.invokevirtual 77, 3) := by decide +kernel
theorem dL_law_452 : decode cL_law 452 = .ok (.if_icmp .eq 564, 3) := by decide +kernel
theorem dL_law_455 : decode cL_law 455 = .ok (.iconst 0, 1) := by decide +kernel
theorem dL_law_456 : decode cL_law 456 = .ok (.ireturn, 1) := by decide +kernel
theorem dL_law_457 : decode cL_law 457 = .ok (.aload_n 1, 1) := by decide +kernel
theorem dL_law_458 : decode cL_law 458 = .ok (.aload_n 0, 1) := by decide +kernel
theorem dL_law_459 : decode cL_law 459 = .ok (.iload 4, 2) := by decide +kernel
theorem dL_law_461 : decode cL_law 461 = .ok (.iconst 1, 1) := by decide +kernel
theorem dL_law_462 : decode cL_law 462 = .ok (.iadd, 1) := by decide +kernel
theorem dL_law_463 : decode cL_law 463 = .ok (.iaload, 1) := by decide +kernel
theorem dL_law_464 : decode cL_law 464 = .ok (.aload_n 0, 1) := by decide +kernel
theorem dL_law_465 : decode cL_law 465 = .ok (.iload 4, 2) := by decide +kernel
theorem dL_law_467 : decode cL_law 467 = .ok (.iconst 2, 1) := by decide +kernel
theorem dL_law_468 : decode cL_law 468 = .ok (.iadd, 1) := by decide +kernel
theorem dL_law_469 : decode cL_law 469 = .ok (.iaload, 1) := by decide +kernel
theorem dL_law_470 : decode cL_law 470 = .ok (.i2l, 1) := by decide +kernel
theorem dL_law_471 : decode cL_law 471 = .ok (.bipush 32, 2) := by decide +kernel
theorem dL_law_473 : decode cL_law 473 = .ok (.lshl, 1) := by decide +kernel
theorem dL_law_474 : decode cL_law 474 = .ok (.aload_n 0, 1) := by decide +kernel
theorem dL_law_475 : decode cL_law 475 = .ok (.iload 4, 2) := by decide +kernel
theorem dL_law_477 : decode cL_law 477 = .ok (.iconst 3, 1) := by decide +kernel
theorem dL_law_478 : decode cL_law 478 = .ok (.iadd, 1) := by decide +kernel
theorem dL_law_479 : decode cL_law 479 = .ok (.iaload, 1) := by decide +kernel
theorem dL_law_480 : decode cL_law 480 = .ok (.i2l, 1) := by decide +kernel
theorem dL_law_481 : decode cL_law 481 = .ok (.ldc2_w 78, 3) := by decide +kernel
theorem dL_law_484 : decode cL_law 484 = .ok (.land, 1) := by decide +kernel
theorem dL_law_485 : decode cL_law 485 = .ok (.lor, 1) := by decide +kernel
theorem dL_law_486 : decode cL_law 486 = .ok (.aload_n 0, 1) := by decide +kernel
theorem dL_law_487 : decode cL_law 487 = .ok (.iload 4, 2) := by decide +kernel
theorem dL_law_489 : decode cL_law 489 = .ok (.iconst 4, 1) := by decide +kernel
theorem dL_law_490 : decode cL_law 490 = .ok (.iadd, 1) := by decide +kernel
theorem dL_law_491 : decode cL_law 491 = .ok (.iaload, 1) := by decide +kernel
theorem dL_law_492 : decode cL_law 492 = .ok (.i2l, 1) := by decide +kernel
theorem dL_law_493 : decode cL_law 493 = .ok (.bipush 32, 2) := by decide +kernel
theorem dL_law_495 : decode cL_law 495 = .ok (.lshl, 1) := by decide +kernel
theorem dL_law_496 : decode cL_law 496 = .ok (.aload_n 0, 1) := by decide +kernel
theorem dL_law_497 : decode cL_law 497 = .ok (.iload 4, 2) := by decide +kernel
theorem dL_law_499 : decode cL_law 499 = .ok (.iconst 5, 1) := by decide +kernel
theorem dL_law_500 : decode cL_law 500 = .ok (.iadd, 1) := by decide +kernel
theorem dL_law_501 : decode cL_law 501 = .ok (.iaload, 1) := by decide +kernel
theorem dL_law_502 : decode cL_law 502 = .ok (.i2l, 1) := by decide +kernel
theorem dL_law_503 : decode cL_law 503 = .ok (.ldc2_w 78, 3) := by decide +kernel
theorem dL_law_506 : decode cL_law 506 = .ok (.land, 1) := by decide +kernel
theorem dL_law_507 : decode cL_law 507 = .ok (.lor, 1) := by decide +kernel
theorem dL_law_508 : decode cL_law 508 = .ok (.aload_n 3, 1) := by decide +kernel
theorem dL_law_509 : decode cL_law 509 = .ok (.invokestatic 80, 3) := by decide +kernel
theorem dL_law_512 : decode cL_law 512 = .ok (.istore 5, 2) := by decide +kernel
theorem dL_law_514 : decode cL_law 514 = .ok (.aload_n 2, 1) := by decide +kernel
theorem dL_law_515 : decode cL_law 515 = .ok (.aload_n 0, 1) := by decide +kernel
theorem dL_law_516 : decode cL_law 516 = .ok (.iload 4, 2) := by decide +kernel
theorem dL_law_518 : decode cL_law 518 = .ok (.iconst 1, 1) := by decide +kernel
theorem dL_law_519 : decode cL_law 519 = .ok (.iadd, 1) := by decide +kernel
theorem dL_law_520 : decode cL_law 520 = .ok (.iaload, 1) := by decide +kernel
theorem dL_law_521 : decode cL_law 521 = .ok (.aload_n 0, 1) := by decide +kernel
theorem dL_law_522 : decode cL_law 522 = .ok (.iload 4, 2) := by decide +kernel
theorem dL_law_524 : decode cL_law 524 = .ok (.iconst 2, 1) := by decide +kernel
theorem dL_law_525 : decode cL_law 525 = .ok (.iadd, 1) := by decide +kernel
theorem dL_law_526 : decode cL_law 526 = .ok (.iaload, 1) := by decide +kernel
theorem dL_law_527 : decode cL_law 527 = .ok (.i2l, 1) := by decide +kernel
theorem dL_law_528 : decode cL_law 528 = .ok (.bipush 32, 2) := by decide +kernel
theorem dL_law_530 : decode cL_law 530 = .ok (.lshl, 1) := by decide +kernel
theorem dL_law_531 : decode cL_law 531 = .ok (.aload_n 0, 1) := by decide +kernel
theorem dL_law_532 : decode cL_law 532 = .ok (.iload 4, 2) := by decide +kernel
theorem dL_law_534 : decode cL_law 534 = .ok (.iconst 3, 1) := by decide +kernel
theorem dL_law_535 : decode cL_law 535 = .ok (.iadd, 1) := by decide +kernel
theorem dL_law_536 : decode cL_law 536 = .ok (.iaload, 1) := by decide +kernel
theorem dL_law_537 : decode cL_law 537 = .ok (.i2l, 1) := by decide +kernel
theorem dL_law_538 : decode cL_law 538 = .ok (.ldc2_w 78, 3) := by decide +kernel
theorem dL_law_541 : decode cL_law 541 = .ok (.land, 1) := by decide +kernel
theorem dL_law_542 : decode cL_law 542 = .ok (.lor, 1) := by decide +kernel
theorem dL_law_543 : decode cL_law 543 = .ok (.aload_n 0, 1) := by decide +kernel
theorem dL_law_544 : decode cL_law 544 = .ok (.iload 4, 2) := by decide +kernel
theorem dL_law_546 : decode cL_law 546 = .ok (.iconst 4, 1) := by decide +kernel
theorem dL_law_547 : decode cL_law 547 = .ok (.iadd, 1) := by decide +kernel
theorem dL_law_548 : decode cL_law 548 = .ok (.iaload, 1) := by decide +kernel
theorem dL_law_549 : decode cL_law 549 = .ok (.i2l, 1) := by decide +kernel
theorem dL_law_550 : decode cL_law 550 = .ok (.bipush 32, 2) := by decide +kernel
theorem dL_law_552 : decode cL_law 552 = .ok (.lshl, 1) := by decide +kernel
theorem dL_law_553 : decode cL_law 553 = .ok (.aload_n 0, 1) := by decide +kernel
theorem dL_law_554 : decode cL_law 554 = .ok (.iload 4, 2) := by decide +kernel
theorem dL_law_556 : decode cL_law 556 = .ok (.iconst 5, 1) := by decide +kernel
theorem dL_law_557 : decode cL_law 557 = .ok (.iadd, 1) := by decide +kernel
theorem dL_law_558 : decode cL_law 558 = .ok (.iaload, 1) := by decide +kernel
theorem dL_law_559 : decode cL_law 559 = .ok (.i2l, 1) := by decide +kernel
theorem dL_law_560 : decode cL_law 560 = .ok (.ldc2_w 78, 3) := by decide +kernel
theorem dL_law_563 : decode cL_law 563 = .ok (.land, 1) := by decide +kernel
theorem dL_law_564 : decode cL_law 564 = .ok (.lor, 1) := by decide +kernel
theorem dL_law_565 : decode cL_law 565 = .ok (.invokevirtual 83, 3) := by decide +kernel
theorem dL_law_568 : decode cL_law 568 = .ok (.istore 6, 2) := by decide +kernel
theorem dL_law_570 : decode cL_law 570 = .ok (.aload_n 2, 1) := by decide +kernel
theorem dL_law_571 : decode cL_law 571 = .ok (.invokevirtual 56, 3) := by decide +kernel
theorem dL_law_574 : decode cL_law 574 = .ok (.iload 5, 2) := by decide +kernel
theorem dL_law_576 : decode cL_law 576 = .ok (.if_icmp .eq 5, 3) := by decide +kernel
theorem dL_law_579 : decode cL_law 579 = .ok (.iconst 0, 1) := by decide +kernel
theorem dL_law_580 : decode cL_law 580 = .ok (.ireturn, 1) := by decide +kernel
theorem dL_law_581 : decode cL_law 581 = .ok (.iload 5, 2) := by decide +kernel
theorem dL_law_583 : decode cL_law 583 = .ok (.ifCond .ne 15, 3) := by decide +kernel
theorem dL_law_586 : decode cL_law 586 = .ok (.aload_n 3, 1) := by decide +kernel
theorem dL_law_587 : decode cL_law 587 = .ok (.iconst 0, 1) := by decide +kernel
theorem dL_law_588 : decode cL_law 588 = .ok (.laload, 1) := by decide +kernel
theorem dL_law_589 : decode cL_law 589 = .ok (.iload 6, 2) := by decide +kernel
theorem dL_law_591 : decode cL_law 591 = .ok (.i2l, 1) := by decide +kernel
theorem dL_law_592 : decode cL_law 592 = .ok (.lcmp, 1) := by decide +kernel
theorem dL_law_593 : decode cL_law 593 = .ok (.ifCond .eq 5, 3) := by decide +kernel
theorem dL_law_596 : decode cL_law 596 = .ok (.iconst 0, 1) := by decide +kernel
theorem dL_law_597 : decode cL_law 597 = .ok (.ireturn, 1) := by decide +kernel
theorem dL_law_598 : decode cL_law 598 = .ok (.goto 418, 3) := by decide +kernel
theorem dL_law_601 : decode cL_law 601 = .ok (.aload_n 1, 1) := by decide +kernel
theorem dL_law_602 : decode cL_law 602 = .ok (.aload_n 0, 1) := by decide +kernel
theorem dL_law_603 : decode cL_law 603 = .ok (.iload 4, 2) := by decide +kernel
theorem dL_law_605 : decode cL_law 605 = .ok (.iconst 1, 1) := by decide +kernel
theorem dL_law_606 : decode cL_law 606 = .ok (.iadd, 1) := by decide +kernel
theorem dL_law_607 : decode cL_law 607 = .ok (.iaload, 1) := by decide +kernel
theorem dL_law_608 : decode cL_law 608 = .ok (.aload_n 3, 1) := by decide +kernel
theorem dL_law_609 : decode cL_law 609 = .ok (.invokestatic 84, 3) := by decide +kernel
theorem dL_law_612 : decode cL_law 612 = .ok (.istore 5, 2) := by decide +kernel
theorem dL_law_614 : decode cL_law 614 = .ok (.aload_n 2, 1) := by decide +kernel
theorem dL_law_615 : decode cL_law 615 = .ok (.aload_n 0, 1) := by decide +kernel
theorem dL_law_616 : decode cL_law 616 = .ok (.iload 4, 2) := by decide +kernel
theorem dL_law_618 : decode cL_law 618 = .ok (.iconst 1, 1) := by decide +kernel
theorem dL_law_619 : decode cL_law 619 = .ok (.iadd, 1) := by decide +kernel
theorem dL_law_620 : decode cL_law 620 = .ok (.iaload, 1) := by decide +kernel
theorem dL_law_621 : decode cL_law 621 = .ok (.invokevirtual 86, 3) := by decide +kernel
theorem dL_law_624 : decode cL_law 624 = .ok (.istore 6, 2) := by decide +kernel
theorem dL_law_626 : decode cL_law 626 = .ok (.aload_n 2, 1) := by decide +kernel
theorem dL_law_627 : decode cL_law 627 = .ok (.invokevirtual 56, 3) := by decide +kernel
theorem dL_law_630 : decode cL_law 630 = .ok (.iload 5, 2) := by decide +kernel
theorem dL_law_632 : decode cL_law 632 = .ok (.if_icmp .eq 5, 3) := by decide +kernel
theorem dL_law_635 : decode cL_law 635 = .ok (.iconst 0, 1) := by decide +kernel
theorem dL_law_636 : decode cL_law 636 = .ok (.ireturn, 1) := by decide +kernel
theorem dL_law_637 : decode cL_law 637 = .ok (.iload 5, 2) := by decide +kernel
theorem dL_law_639 : decode cL_law 639 = .ok (.ifCond .ne 15, 3) := by decide +kernel
theorem dL_law_642 : decode cL_law 642 = .ok (.aload_n 3, 1) := by decide +kernel
theorem dL_law_643 : decode cL_law 643 = .ok (.iconst 0, 1) := by decide +kernel
theorem dL_law_644 : decode cL_law 644 = .ok (.laload, 1) := by decide +kernel
theorem dL_law_645 : decode cL_law 645 = .ok (.iload 6, 2) := by decide +kernel
theorem dL_law_647 : decode cL_law 647 = .ok (.i2l, 1) := by decide +kernel
theorem dL_law_648 : decode cL_law 648 = .ok (.lcmp, 1) := by decide +kernel
theorem dL_law_649 : decode cL_law 649 = .ok (.ifCond .eq 5, 3) := by decide +kernel
theorem dL_law_652 : decode cL_law 652 = .ok (.iconst 0, 1) := by decide +kernel
theorem dL_law_653 : decode cL_law 653 = .ok (.ireturn, 1) := by decide +kernel
theorem dL_law_654 : decode cL_law 654 = .ok (.goto 362, 3) := by decide +kernel
theorem dL_law_657 : decode cL_law 657 = .ok (.aload_n 1, 1) := by decide +kernel
theorem dL_law_658 : decode cL_law 658 = .ok (.aload_n 0, 1) := by decide +kernel
theorem dL_law_659 : decode cL_law 659 = .ok (.iload 4, 2) := by decide +kernel
theorem dL_law_661 : decode cL_law 661 = .ok (.iconst 1, 1) := by decide +kernel
theorem dL_law_662 : decode cL_law 662 = .ok (.iadd, 1) := by decide +kernel
theorem dL_law_663 : decode cL_law 663 = .ok (.iaload, 1) := by decide +kernel
theorem dL_law_664 : decode cL_law 664 = .ok (.aload_n 3, 1) := by decide +kernel
theorem dL_law_665 : decode cL_law 665 = .ok (.invokestatic 87, 3) := by decide +kernel
theorem dL_law_668 : decode cL_law 668 = .ok (.istore 5, 2) := by decide +kernel
theorem dL_law_670 : decode cL_law 670 = .ok (.aload_n 2, 1) := by decide +kernel
theorem dL_law_671 : decode cL_law 671 = .ok (.aload_n 0, 1) := by decide +kernel
theorem dL_law_672 : decode cL_law 672 = .ok (.iload 4, 2) := by decide +kernel
theorem dL_law_674 : decode cL_law 674 = .ok (.iconst 1, 1) := by decide +kernel
theorem dL_law_675 : decode cL_law 675 = .ok (.iadd, 1) := by decide +kernel
theorem dL_law_676 : decode cL_law 676 = .ok (.iaload, 1) := by decide +kernel
theorem dL_law_677 : decode cL_law 677 = .ok (.invokevirtual 89, 3) := by decide +kernel
theorem dL_law_680 : decode cL_law 680 = .ok (.istore 6, 2) := by decide +kernel
theorem dL_law_682 : decode cL_law 682 = .ok (.aload_n 2, 1) := by decide +kernel
theorem dL_law_683 : decode cL_law 683 = .ok (.invokevirtual 56, 3) := by decide +kernel
theorem dL_law_686 : decode cL_law 686 = .ok (.iload 5, 2) := by decide +kernel
theorem dL_law_688 : decode cL_law 688 = .ok (.if_icmp .eq 5, 3) := by decide +kernel
theorem dL_law_691 : decode cL_law 691 = .ok (.iconst 0, 1) := by decide +kernel
theorem dL_law_692 : decode cL_law 692 = .ok (.ireturn, 1) := by decide +kernel
theorem dL_law_693 : decode cL_law 693 = .ok (.iload 5, 2) := by decide +kernel
theorem dL_law_695 : decode cL_law 695 = .ok (.ifCond .ne 15, 3) := by decide +kernel
theorem dL_law_698 : decode cL_law 698 = .ok (.aload_n 3, 1) := by decide +kernel
theorem dL_law_699 : decode cL_law 699 = .ok (.iconst 0, 1) := by decide +kernel
theorem dL_law_700 : decode cL_law 700 = .ok (.laload, 1) := by decide +kernel
theorem dL_law_701 : decode cL_law 701 = .ok (.iload 6, 2) := by decide +kernel
theorem dL_law_703 : decode cL_law 703 = .ok (.i2l, 1) := by decide +kernel
theorem dL_law_704 : decode cL_law 704 = .ok (.lcmp, 1) := by decide +kernel
theorem dL_law_705 : decode cL_law 705 = .ok (.ifCond .eq 5, 3) := by decide +kernel
theorem dL_law_708 : decode cL_law 708 = .ok (.iconst 0, 1) := by decide +kernel
theorem dL_law_709 : decode cL_law 709 = .ok (.ireturn, 1) := by decide +kernel
theorem dL_law_710 : decode cL_law 710 = .ok (.goto 306, 3) := by decide +kernel
theorem dL_law_713 : decode cL_law 713 = .ok (.aload_n 1, 1) := by decide +kernel
theorem dL_law_714 : decode cL_law 714 = .ok (.aload_n 0, 1) := by decide +kernel
theorem dL_law_715 : decode cL_law 715 = .ok (.iload 4, 2) := by decide +kernel
theorem dL_law_717 : decode cL_law 717 = .ok (.iconst 1, 1) := by decide +kernel
theorem dL_law_718 : decode cL_law 718 = .ok (.iadd, 1) := by decide +kernel
theorem dL_law_719 : decode cL_law 719 = .ok (.iaload, 1) := by decide +kernel
theorem dL_law_720 : decode cL_law 720 = .ok (.aload_n 3, 1) := by decide +kernel
theorem dL_law_721 : decode cL_law 721 = .ok (.invokestatic 90, 3) := by decide +kernel
theorem dL_law_724 : decode cL_law 724 = .ok (.istore 5, 2) := by decide +kernel
theorem dL_law_726 : decode cL_law 726 = .ok (.aload_n 2, 1) := by decide +kernel
theorem dL_law_727 : decode cL_law 727 = .ok (.aload_n 0, 1) := by decide +kernel
theorem dL_law_728 : decode cL_law 728 = .ok (.iload 4, 2) := by decide +kernel
theorem dL_law_730 : decode cL_law 730 = .ok (.iconst 1, 1) := by decide +kernel
theorem dL_law_731 : decode cL_law 731 = .ok (.iadd, 1) := by decide +kernel
theorem dL_law_732 : decode cL_law 732 = .ok (.iaload, 1) := by decide +kernel
theorem dL_law_733 : decode cL_law 733 = .ok (.invokevirtual 92, 3) := by decide +kernel
theorem dL_law_736 : decode cL_law 736 = .ok (.istore 6, 2) := by decide +kernel
theorem dL_law_738 : decode cL_law 738 = .ok (.aload_n 2, 1) := by decide +kernel
theorem dL_law_739 : decode cL_law 739 = .ok (.invokevirtual 56, 3) := by decide +kernel
theorem dL_law_742 : decode cL_law 742 = .ok (.iload 5, 2) := by decide +kernel
theorem dL_law_744 : decode cL_law 744 = .ok (.if_icmp .eq 5, 3) := by decide +kernel
theorem dL_law_747 : decode cL_law 747 = .ok (.iconst 0, 1) := by decide +kernel
theorem dL_law_748 : decode cL_law 748 = .ok (.ireturn, 1) := by decide +kernel
theorem dL_law_749 : decode cL_law 749 = .ok (.iload 5, 2) := by decide +kernel
theorem dL_law_751 : decode cL_law 751 = .ok (.ifCond .ne 15, 3) := by decide +kernel
theorem dL_law_754 : decode cL_law 754 = .ok (.aload_n 3, 1) := by decide +kernel
theorem dL_law_755 : decode cL_law 755 = .ok (.iconst 0, 1) := by decide +kernel
theorem dL_law_756 : decode cL_law 756 = .ok (.laload, 1) := by decide +kernel
theorem dL_law_757 : decode cL_law 757 = .ok (.iload 6, 2) := by decide +kernel
theorem dL_law_759 : decode cL_law 759 = .ok (.i2l, 1) := by decide +kernel
theorem dL_law_760 : decode cL_law 760 = .ok (.lcmp, 1) := by decide +kernel
theorem dL_law_761 : decode cL_law 761 = .ok (.ifCond .eq 5, 3) := by decide +kernel
theorem dL_law_764 : decode cL_law 764 = .ok (.iconst 0, 1) := by decide +kernel
theorem dL_law_765 : decode cL_law 765 = .ok (.ireturn, 1) := by decide +kernel
theorem dL_law_766 : decode cL_law 766 = .ok (.goto 250, 3) := by decide +kernel
theorem dL_law_769 : decode cL_law 769 = .ok (.aload_n 1, 1) := by decide +kernel
theorem dL_law_770 : decode cL_law 770 = .ok (.aload_n 0, 1) := by decide +kernel
theorem dL_law_771 : decode cL_law 771 = .ok (.iload 4, 2) := by decide +kernel
theorem dL_law_773 : decode cL_law 773 = .ok (.iconst 1, 1) := by decide +kernel
theorem dL_law_774 : decode cL_law 774 = .ok (.iadd, 1) := by decide +kernel
theorem dL_law_775 : decode cL_law 775 = .ok (.iaload, 1) := by decide +kernel
theorem dL_law_776 : decode cL_law 776 = .ok (.invokevirtual 93, 3) := by decide +kernel
theorem dL_law_779 : decode cL_law 779 = .ok (.aload_n 2, 1) := by decide +kernel
theorem dL_law_780 : decode cL_law 780 = .ok (.aload_n 0, 1) := by decide +kernel
theorem dL_law_781 : decode cL_law 781 = .ok (.iload 4, 2) := by decide +kernel
theorem dL_law_783 : decode cL_law 783 = .ok (.iconst 1, 1) := by decide +kernel
theorem dL_law_784 : decode cL_law 784 = .ok (.iadd, 1) := by decide +kernel
theorem dL_law_785 : decode cL_law 785 = .ok (.iaload, 1) := by decide +kernel
theorem dL_law_786 : decode cL_law 786 = .ok (.invokevirtual 96, 3) := by decide +kernel
theorem dL_law_789 : decode cL_law 789 = .ok (.if_icmp .eq 227, 3) := by decide +kernel
theorem dL_law_792 : decode cL_law 792 = .ok (.iconst 0, 1) := by decide +kernel
theorem dL_law_793 : decode cL_law 793 = .ok (.ireturn, 1) := by decide +kernel
theorem dL_law_794 : decode cL_law 794 = .ok (.aload_n 1, 1) := by decide +kernel
theorem dL_law_795 : decode cL_law 795 = .ok (.aload_n 0, 1) := by decide +kernel
theorem dL_law_796 : decode cL_law 796 = .ok (.iload 4, 2) := by decide +kernel
theorem dL_law_798 : decode cL_law 798 = .ok (.iconst 1, 1) := by decide +kernel
theorem dL_law_799 : decode cL_law 799 = .ok (.iadd, 1) := by decide +kernel
theorem dL_law_800 : decode cL_law 800 = .ok (.iaload, 1) := by decide +kernel
theorem dL_law_801 : decode cL_law 801 = .ok (.aload_n 0, 1) := by decide +kernel
theorem dL_law_802 : decode cL_law 802 = .ok (.iload 4, 2) := by decide +kernel
theorem dL_law_804 : decode cL_law 804 = .ok (.iconst 2, 1) := by decide +kernel
theorem dL_law_805 : decode cL_law 805 = .ok (.iadd, 1) := by decide +kernel
theorem dL_law_806 : decode cL_law 806 = .ok (.iaload, 1) := by decide +kernel
theorem dL_law_807 : decode cL_law 807 = .ok (.invokevirtual 97, 3) := by decide +kernel
theorem dL_law_810 : decode cL_law 810 = .ok (.aload_n 2, 1) := by decide +kernel
theorem dL_law_811 : decode cL_law 811 = .ok (.aload_n 0, 1) := by decide +kernel
theorem dL_law_812 : decode cL_law 812 = .ok (.iload 4, 2) := by decide +kernel
theorem dL_law_814 : decode cL_law 814 = .ok (.iconst 1, 1) := by decide +kernel
theorem dL_law_815 : decode cL_law 815 = .ok (.iadd, 1) := by decide +kernel
theorem dL_law_816 : decode cL_law 816 = .ok (.iaload, 1) := by decide +kernel
theorem dL_law_817 : decode cL_law 817 = .ok (.aload_n 0, 1) := by decide +kernel
theorem dL_law_818 : decode cL_law 818 = .ok (.iload 4, 2) := by decide +kernel
theorem dL_law_820 : decode cL_law 820 = .ok (.iconst 2, 1) := by decide +kernel
theorem dL_law_821 : decode cL_law 821 = .ok (.iadd, 1) := by decide +kernel
theorem dL_law_822 : decode cL_law 822 = .ok (.iaload, 1) := by decide +kernel
theorem dL_law_823 : decode cL_law 823 = .ok (.invokevirtual 100, 3) := by decide +kernel
theorem dL_law_826 : decode cL_law 826 = .ok (.if_icmp .eq 190, 3) := by decide +kernel
theorem dL_law_829 : decode cL_law 829 = .ok (.iconst 0, 1) := by decide +kernel
theorem dL_law_830 : decode cL_law 830 = .ok (.ireturn, 1) := by decide +kernel
theorem dL_law_831 : decode cL_law 831 = .ok (.aload_n 1, 1) := by decide +kernel
theorem dL_law_832 : decode cL_law 832 = .ok (.aload_n 0, 1) := by decide +kernel
theorem dL_law_833 : decode cL_law 833 = .ok (.iload 4, 2) := by decide +kernel
theorem dL_law_835 : decode cL_law 835 = .ok (.iconst 1, 1) := by decide +kernel
theorem dL_law_836 : decode cL_law 836 = .ok (.iadd, 1) := by decide +kernel
theorem dL_law_837 : decode cL_law 837 = .ok (.iaload, 1) := by decide +kernel
theorem dL_law_838 : decode cL_law 838 = .ok (.aload_n 0, 1) := by decide +kernel
theorem dL_law_839 : decode cL_law 839 = .ok (.iload 4, 2) := by decide +kernel
theorem dL_law_841 : decode cL_law 841 = .ok (.iconst 2, 1) := by decide +kernel
theorem dL_law_842 : decode cL_law 842 = .ok (.iadd, 1) := by decide +kernel
theorem dL_law_843 : decode cL_law 843 = .ok (.iaload, 1) := by decide +kernel
theorem dL_law_844 : decode cL_law 844 = .ok (.invokevirtual 101, 3) := by decide +kernel
theorem dL_law_847 : decode cL_law 847 = .ok (.aload_n 2, 1) := by decide +kernel
theorem dL_law_848 : decode cL_law 848 = .ok (.aload_n 0, 1) := by decide +kernel
theorem dL_law_849 : decode cL_law 849 = .ok (.iload 4, 2) := by decide +kernel
theorem dL_law_851 : decode cL_law 851 = .ok (.iconst 1, 1) := by decide +kernel
theorem dL_law_852 : decode cL_law 852 = .ok (.iadd, 1) := by decide +kernel
theorem dL_law_853 : decode cL_law 853 = .ok (.iaload, 1) := by decide +kernel
theorem dL_law_854 : decode cL_law 854 = .ok (.aload_n 0, 1) := by decide +kernel
theorem dL_law_855 : decode cL_law 855 = .ok (.iload 4, 2) := by decide +kernel
theorem dL_law_857 : decode cL_law 857 = .ok (.iconst 2, 1) := by decide +kernel
theorem dL_law_858 : decode cL_law 858 = .ok (.iadd, 1) := by decide +kernel
theorem dL_law_859 : decode cL_law 859 = .ok (.iaload, 1) := by decide +kernel
theorem dL_law_860 : decode cL_law 860 = .ok (.invokevirtual 104, 3) := by decide +kernel
theorem dL_law_863 : decode cL_law 863 = .ok (.if_icmp .eq 153, 3) := by decide +kernel
theorem dL_law_866 : decode cL_law 866 = .ok (.iconst 0, 1) := by decide +kernel
theorem dL_law_867 : decode cL_law 867 = .ok (.ireturn, 1) := by decide +kernel
theorem dL_law_868 : decode cL_law 868 = .ok (.aload_n 1, 1) := by decide +kernel
theorem dL_law_869 : decode cL_law 869 = .ok (.aload_n 0, 1) := by decide +kernel
theorem dL_law_870 : decode cL_law 870 = .ok (.iload 4, 2) := by decide +kernel
theorem dL_law_872 : decode cL_law 872 = .ok (.iconst 1, 1) := by decide +kernel
theorem dL_law_873 : decode cL_law 873 = .ok (.iadd, 1) := by decide +kernel
theorem dL_law_874 : decode cL_law 874 = .ok (.iaload, 1) := by decide +kernel
theorem dL_law_875 : decode cL_law 875 = .ok (.aload_n 0, 1) := by decide +kernel
theorem dL_law_876 : decode cL_law 876 = .ok (.iload 4, 2) := by decide +kernel
theorem dL_law_878 : decode cL_law 878 = .ok (.iconst 2, 1) := by decide +kernel
theorem dL_law_879 : decode cL_law 879 = .ok (.iadd, 1) := by decide +kernel
theorem dL_law_880 : decode cL_law 880 = .ok (.iaload, 1) := by decide +kernel
theorem dL_law_881 : decode cL_law 881 = .ok (.invokevirtual 105, 3) := by decide +kernel
theorem dL_law_884 : decode cL_law 884 = .ok (.aload_n 2, 1) := by decide +kernel
theorem dL_law_885 : decode cL_law 885 = .ok (.aload_n 0, 1) := by decide +kernel
theorem dL_law_886 : decode cL_law 886 = .ok (.iload 4, 2) := by decide +kernel
theorem dL_law_888 : decode cL_law 888 = .ok (.iconst 1, 1) := by decide +kernel
theorem dL_law_889 : decode cL_law 889 = .ok (.iadd, 1) := by decide +kernel
theorem dL_law_890 : decode cL_law 890 = .ok (.iaload, 1) := by decide +kernel
theorem dL_law_891 : decode cL_law 891 = .ok (.aload_n 0, 1) := by decide +kernel
theorem dL_law_892 : decode cL_law 892 = .ok (.iload 4, 2) := by decide +kernel
theorem dL_law_894 : decode cL_law 894 = .ok (.iconst 2, 1) := by decide +kernel
theorem dL_law_895 : decode cL_law 895 = .ok (.iadd, 1) := by decide +kernel
theorem dL_law_896 : decode cL_law 896 = .ok (.iaload, 1) := by decide +kernel
theorem dL_law_897 : decode cL_law 897 = .ok (.invokevirtual 108, 3) := by decide +kernel
theorem dL_law_900 : decode cL_law 900 = .ok (.if_icmp .eq 116, 3) := by decide +kernel
theorem dL_law_903 : decode cL_law 903 = .ok (.iconst 0, 1) := by decide +kernel
theorem dL_law_904 : decode cL_law 904 = .ok (.ireturn, 1) := by decide +kernel
theorem dL_law_905 : decode cL_law 905 = .ok (.aload_n 1, 1) := by decide +kernel
theorem dL_law_906 : decode cL_law 906 = .ok (.aload_n 0, 1) := by decide +kernel
theorem dL_law_907 : decode cL_law 907 = .ok (.iload 4, 2) := by decide +kernel
theorem dL_law_909 : decode cL_law 909 = .ok (.iconst 1, 1) := by decide +kernel
theorem dL_law_910 : decode cL_law 910 = .ok (.iadd, 1) := by decide +kernel
theorem dL_law_911 : decode cL_law 911 = .ok (.iaload, 1) := by decide +kernel
theorem dL_law_912 : decode cL_law 912 = .ok (.aload_n 0, 1) := by decide +kernel
theorem dL_law_913 : decode cL_law 913 = .ok (.iload 4, 2) := by decide +kernel
theorem dL_law_915 : decode cL_law 915 = .ok (.iconst 2, 1) := by decide +kernel
theorem dL_law_916 : decode cL_law 916 = .ok (.iadd, 1) := by decide +kernel
theorem dL_law_917 : decode cL_law 917 = .ok (.iaload, 1) := by decide +kernel
theorem dL_law_918 : decode cL_law 918 = .ok (.aload_n 0, 1) := by decide +kernel
theorem dL_law_919 : decode cL_law 919 = .ok (.iload 4, 2) := by decide +kernel
theorem dL_law_921 : decode cL_law 921 = .ok (.iconst 3, 1) := by decide +kernel
theorem dL_law_922 : decode cL_law 922 = .ok (.iadd, 1) := by decide +kernel
theorem dL_law_923 : decode cL_law 923 = .ok (.iaload, 1) := by decide +kernel
theorem dL_law_924 : decode cL_law 924 = .ok (.invokevirtual 109, 3) := by decide +kernel
theorem dL_law_927 : decode cL_law 927 = .ok (.aload_n 2, 1) := by decide +kernel
theorem dL_law_928 : decode cL_law 928 = .ok (.aload_n 0, 1) := by decide +kernel
theorem dL_law_929 : decode cL_law 929 = .ok (.iload 4, 2) := by decide +kernel
theorem dL_law_931 : decode cL_law 931 = .ok (.iconst 1, 1) := by decide +kernel
theorem dL_law_932 : decode cL_law 932 = .ok (.iadd, 1) := by decide +kernel
theorem dL_law_933 : decode cL_law 933 = .ok (.iaload, 1) := by decide +kernel
theorem dL_law_934 : decode cL_law 934 = .ok (.aload_n 0, 1) := by decide +kernel
theorem dL_law_935 : decode cL_law 935 = .ok (.iload 4, 2) := by decide +kernel
theorem dL_law_937 : decode cL_law 937 = .ok (.iconst 2, 1) := by decide +kernel
theorem dL_law_938 : decode cL_law 938 = .ok (.iadd, 1) := by decide +kernel
theorem dL_law_939 : decode cL_law 939 = .ok (.iaload, 1) := by decide +kernel
theorem dL_law_940 : decode cL_law 940 = .ok (.aload_n 0, 1) := by decide +kernel
theorem dL_law_941 : decode cL_law 941 = .ok (.iload 4, 2) := by decide +kernel
theorem dL_law_943 : decode cL_law 943 = .ok (.iconst 3, 1) := by decide +kernel
theorem dL_law_944 : decode cL_law 944 = .ok (.iadd, 1) := by decide +kernel
theorem dL_law_945 : decode cL_law 945 = .ok (.iaload, 1) := by decide +kernel
theorem dL_law_946 : decode cL_law 946 = .ok (.invokevirtual 113, 3) := by decide +kernel
theorem dL_law_949 : decode cL_law 949 = .ok (.if_icmp .eq 67, 3) := by decide +kernel
theorem dL_law_952 : decode cL_law 952 = .ok (.iconst 0, 1) := by decide +kernel
theorem dL_law_953 : decode cL_law 953 = .ok (.ireturn, 1) := by decide +kernel
theorem dL_law_954 : decode cL_law 954 = .ok (.aload_n 1, 1) := by decide +kernel
theorem dL_law_955 : decode cL_law 955 = .ok (.aload_n 0, 1) := by decide +kernel
theorem dL_law_956 : decode cL_law 956 = .ok (.iload 4, 2) := by decide +kernel
theorem dL_law_958 : decode cL_law 958 = .ok (.iconst 1, 1) := by decide +kernel
theorem dL_law_959 : decode cL_law 959 = .ok (.iadd, 1) := by decide +kernel
theorem dL_law_960 : decode cL_law 960 = .ok (.iaload, 1) := by decide +kernel
theorem dL_law_961 : decode cL_law 961 = .ok (.aload_n 0, 1) := by decide +kernel
theorem dL_law_962 : decode cL_law 962 = .ok (.iload 4, 2) := by decide +kernel
theorem dL_law_964 : decode cL_law 964 = .ok (.iconst 2, 1) := by decide +kernel
theorem dL_law_965 : decode cL_law 965 = .ok (.iadd, 1) := by decide +kernel
theorem dL_law_966 : decode cL_law 966 = .ok (.iaload, 1) := by decide +kernel
theorem dL_law_967 : decode cL_law 967 = .ok (.invokevirtual 114, 3) := by decide +kernel
theorem dL_law_970 : decode cL_law 970 = .ok (.aload_n 2, 1) := by decide +kernel
theorem dL_law_971 : decode cL_law 971 = .ok (.aload_n 0, 1) := by decide +kernel
theorem dL_law_972 : decode cL_law 972 = .ok (.iload 4, 2) := by decide +kernel
theorem dL_law_974 : decode cL_law 974 = .ok (.iconst 1, 1) := by decide +kernel
theorem dL_law_975 : decode cL_law 975 = .ok (.iadd, 1) := by decide +kernel
theorem dL_law_976 : decode cL_law 976 = .ok (.iaload, 1) := by decide +kernel
theorem dL_law_977 : decode cL_law 977 = .ok (.aload_n 0, 1) := by decide +kernel
theorem dL_law_978 : decode cL_law 978 = .ok (.iload 4, 2) := by decide +kernel
theorem dL_law_980 : decode cL_law 980 = .ok (.iconst 2, 1) := by decide +kernel
theorem dL_law_981 : decode cL_law 981 = .ok (.iadd, 1) := by decide +kernel
theorem dL_law_982 : decode cL_law 982 = .ok (.iaload, 1) := by decide +kernel
theorem dL_law_983 : decode cL_law 983 = .ok (.invokevirtual 117, 3) := by decide +kernel
theorem dL_law_986 : decode cL_law 986 = .ok (.if_icmp .eq 30, 3) := by decide +kernel
theorem dL_law_989 : decode cL_law 989 = .ok (.iconst 0, 1) := by decide +kernel
theorem dL_law_990 : decode cL_law 990 = .ok (.ireturn, 1) := by decide +kernel
theorem dL_law_991 : decode cL_law 991 = .ok (.aload_n 1, 1) := by decide +kernel
theorem dL_law_992 : decode cL_law 992 = .ok (.aload_n 0, 1) := by decide +kernel
theorem dL_law_993 : decode cL_law 993 = .ok (.iload 4, 2) := by decide +kernel
theorem dL_law_995 : decode cL_law 995 = .ok (.iconst 1, 1) := by decide +kernel
theorem dL_law_996 : decode cL_law 996 = .ok (.iadd, 1) := by decide +kernel
theorem dL_law_997 : decode cL_law 997 = .ok (.iaload, 1) := by decide +kernel
theorem dL_law_998 : decode cL_law 998 = .ok (.invokevirtual 118, 3) := by decide +kernel
theorem dL_law_1001 : decode cL_law 1001 = .ok (.aload_n 2, 1) := by decide +kernel
theorem dL_law_1002 : decode cL_law 1002 = .ok (.aload_n 0, 1) := by decide +kernel
theorem dL_law_1003 : decode cL_law 1003 = .ok (.iload 4, 2) := by decide +kernel
theorem dL_law_1005 : decode cL_law 1005 = .ok (.iconst 1, 1) := by decide +kernel
theorem dL_law_1006 : decode cL_law 1006 = .ok (.iadd, 1) := by decide +kernel
theorem dL_law_1007 : decode cL_law 1007 = .ok (.iaload, 1) := by decide +kernel
theorem dL_law_1008 : decode cL_law 1008 = .ok (.invokevirtual 121, 3) := by decide +kernel
theorem dL_law_1011 : decode cL_law 1011 = .ok (.if_icmp .eq 5, 3) := by decide +kernel
theorem dL_law_1014 : decode cL_law 1014 = .ok (.iconst 0, 1) := by decide +kernel
theorem dL_law_1015 : decode cL_law 1015 = .ok (.ireturn, 1) := by decide +kernel
theorem dL_law_1016 : decode cL_law 1016 = .ok (.iinc 4 6, 3) := by decide +kernel
theorem dL_law_1019 : decode cL_law 1019 = .ok (.goto (-996), 3) := by decide +kernel
theorem dL_law_1022 : decode cL_law 1022 = .ok (.iconst 1, 1) := by decide +kernel
theorem dL_law_1023 : decode cL_law 1023 = .ok (.ireturn, 1) := by decide +kernel
end
section
/-! ===== the abstract heap: by address a kind, a length, ints, references, longs ===== -/
abbrev AV : Type := Int32 ⊕ (Option Nat ⊕ Int64)
def tV (v : AV) : Value := match v with
  | .inl x => .int x
  | .inr (.inl o) => va_rf o
  | .inr (.inr z) => .long z
abbrev Cl : Type := Nat × (Nat × ((Nat → Int32) × ((Nat → Option Nat) × (Nat → Int64))))
abbrev GG : Type := Nat → Cl
def knd (G : GG) (a : Nat) : Nat := (G a).1
def gn (G : GG) (a : Nat) : Nat := (G a).2.1
def gi (G : GG) (a k : Nat) : Int32 := (G a).2.2.1 k
def gr (G : GG) (a k : Nat) : Option Nat := (G a).2.2.2.1 k
def gl (G : GG) (a k : Nat) : Int64 := (G a).2.2.2.2 k
def sI (G : GG) (a k : Nat) (x : Int32) : GG := va_up G a ((G a).1, (G a).2.1, va_up (G a).2.2.1 k x, (G a).2.2.2.1, (G a).2.2.2.2)
def sR (G : GG) (a k : Nat) (x : Option Nat) : GG := va_up G a ((G a).1, (G a).2.1, (G a).2.2.1, va_up (G a).2.2.2.1 k x, (G a).2.2.2.2)
def sL (G : GG) (a k : Nat) (x : Int64) : GG := va_up G a ((G a).1, (G a).2.1, (G a).2.2.1, (G a).2.2.2.1, va_up (G a).2.2.2.2 k x)
def nw (G : GG) (a kd n : Nat) : GG := va_up G a (kd, n, fun _ => 0, fun _ => none, fun _ => 0)
theorem knd_sI (G : GG) (a k : Nat) (x : Int32) (b : Nat) : knd (sI G a k x) b = knd G b := by unfold knd sI va_up; split <;> simp_all
theorem knd_sR (G : GG) (a k : Nat) (x : Option Nat) (b : Nat) : knd (sR G a k x) b = knd G b := by unfold knd sR va_up; split <;> simp_all
theorem knd_sL (G : GG) (a k : Nat) (x : Int64) (b : Nat) : knd (sL G a k x) b = knd G b := by unfold knd sL va_up; split <;> simp_all
theorem knd_nw (G : GG) (a kd n b : Nat) : knd (nw G a kd n) b = if b = a then kd else knd G b := by unfold knd nw va_up; split <;> simp_all
theorem gn_sI (G : GG) (a k : Nat) (x : Int32) (b : Nat) : gn (sI G a k x) b = gn G b := by unfold gn sI va_up; split <;> simp_all
theorem gn_sR (G : GG) (a k : Nat) (x : Option Nat) (b : Nat) : gn (sR G a k x) b = gn G b := by unfold gn sR va_up; split <;> simp_all
theorem gn_sL (G : GG) (a k : Nat) (x : Int64) (b : Nat) : gn (sL G a k x) b = gn G b := by unfold gn sL va_up; split <;> simp_all
theorem gn_nw (G : GG) (a kd n b : Nat) : gn (nw G a kd n) b = if b = a then n else gn G b := by unfold gn nw va_up; split <;> simp_all
theorem gi_sI (G : GG) (a k : Nat) (x : Int32) (b j : Nat) : gi (sI G a k x) b j = if b = a ∧ j = k then x else gi G b j := by
  unfold gi sI va_up
  by_cases h : b = a
  · subst h; by_cases h2 : j = k <;> simp [h2]
  · simp [h]
theorem gi_sR (G : GG) (a k : Nat) (x : Option Nat) (b j : Nat) : gi (sR G a k x) b j = gi G b j := by unfold gi sR va_up; split <;> simp_all
theorem gi_sL (G : GG) (a k : Nat) (x : Int64) (b j : Nat) : gi (sL G a k x) b j = gi G b j := by unfold gi sL va_up; split <;> simp_all
theorem gi_nw (G : GG) (a kd n b j : Nat) : gi (nw G a kd n) b j = if b = a then 0 else gi G b j := by unfold gi nw va_up; split <;> simp_all
theorem gr_sR (G : GG) (a k : Nat) (x : Option Nat) (b j : Nat) : gr (sR G a k x) b j = if b = a ∧ j = k then x else gr G b j := by
  unfold gr sR va_up
  by_cases h : b = a
  · subst h; by_cases h2 : j = k <;> simp [h2]
  · simp [h]
theorem gr_sI (G : GG) (a k : Nat) (x : Int32) (b j : Nat) : gr (sI G a k x) b j = gr G b j := by unfold gr sI va_up; split <;> simp_all
theorem gr_sL (G : GG) (a k : Nat) (x : Int64) (b j : Nat) : gr (sL G a k x) b j = gr G b j := by unfold gr sL va_up; split <;> simp_all
theorem gr_nw (G : GG) (a kd n b j : Nat) : gr (nw G a kd n) b j = if b = a then none else gr G b j := by unfold gr nw va_up; split <;> simp_all
theorem gl_sL (G : GG) (a k : Nat) (x : Int64) (b j : Nat) : gl (sL G a k x) b j = if b = a ∧ j = k then x else gl G b j := by
  unfold gl sL va_up
  by_cases h : b = a
  · subst h; by_cases h2 : j = k <;> simp [h2]
  · simp [h]
theorem gl_sI (G : GG) (a k : Nat) (x : Int32) (b j : Nat) : gl (sI G a k x) b j = gl G b j := by unfold gl sI va_up; split <;> simp_all
theorem gl_sR (G : GG) (a k : Nat) (x : Option Nat) (b j : Nat) : gl (sR G a k x) b j = gl G b j := by unfold gl sR va_up; split <;> simp_all
theorem gl_nw (G : GG) (a kd n b j : Nat) : gl (nw G a kd n) b j = if b = a then 0 else gl G b j := by unfold gl nw va_up; split <;> simp_all
/-! ===== the classes by their numbers ===== -/
def tyOf (ci : Nat) : Nat → FieldType := match ci with
  | 0 => tyX0
  | 1 => tyX1
  | 2 => tyX2
  | 3 => tyX3
  | 4 => tyX4
  | 5 => tyX5
  | _ => tyX6
def RO (ci : Nat) : String := match ci with
  | 0 => RX0
  | 1 => RX1
  | 2 => RX2
  | 3 => RX3
  | 4 => RX4
  | 5 => RX5
  | _ => RX6
def TO (ci : Nat) : u_T := match ci with
  | 0 => TX0
  | 1 => TX1
  | 2 => TX2
  | 3 => TX3
  | 4 => TX4
  | 5 => TX5
  | _ => TX6
def nfO (ci : Nat) : Nat := match ci with
  | 0 => 13
  | 1 => 3
  | 2 => 3
  | 3 => 16
  | 4 => 9
  | 5 => 4
  | _ => 39
theorem by7 {P : Nat → Prop} (h0 : P 0) (h1 : P 1) (h2 : P 2) (h3 : P 3) (h4 : P 4) (h5 : P 5) (h6 : P 6) : ∀ ci, ci < 7 → P ci := fun ci h => match ci, h with
  | 0, _ => h0
  | 1, _ => h1
  | 2, _ => h2
  | 3, _ => h3
  | 4, _ => h4
  | 5, _ => h5
  | 6, _ => h6
  | n + 7, h => absurd h (by omega)
theorem vw_at : ∀ ci, ci < 7 → vwCl[ci]? = some (RO ci, TO ci, nfO ci) := by7 rfl rfl rfl rfl rfl rfl rfl
theorem ty_ok : ∀ ci, ci < 7 → ∀ k, k < nfO ci → parseFieldDescriptor (TO ci k).2.2.1 = some (tyOf ci k) := by7 tyX0_ok tyX1_ok tyX2_ok tyX3_ok tyX4_ok tyX5_ok tyX6_ok
theorem nm_ok : ∀ ci, ci < 7 → ∀ a, a < nfO ci → ∀ b, b < nfO ci → a ≠ b → (TO ci a).2.1 ≠ (TO ci b).2.1 := by7 nmX0 nmX1 nmX2 nmX3 nmX4 nmX5 nmX6
def lwG : List Cond := lw_tbl.filter goodWord
theorem in0 : ∀ w ∈ u_ws RX0 TX0 13, w ∈ lwG := by decide +kernel
theorem in1 : ∀ w ∈ u_ws RX1 TX1 3, w ∈ lwG := by decide +kernel
theorem in2 : ∀ w ∈ u_ws RX2 TX2 3, w ∈ lwG := by decide +kernel
theorem in3 : ∀ w ∈ u_ws RX3 TX3 16, w ∈ lwG := by decide +kernel
theorem in4 : ∀ w ∈ u_ws RX4 TX4 9, w ∈ lwG := by decide +kernel
theorem in5 : ∀ w ∈ u_ws RX5 TX5 4, w ∈ lwG := by decide +kernel
theorem in6 : ∀ w ∈ u_ws RX6 TX6 39, w ∈ lwG := by decide +kernel
theorem in_ok : ∀ ci, ci < 7 → ∀ w ∈ u_ws (RO ci) (TO ci) (nfO ci), w ∈ lwG := by7 in0 in1 in2 in3 in4 in5 in6
theorem inst_ok : ∀ ci, ci < 7 → Cond.instantiable (RO ci) (nfO ci) ∈ lwG := by7 (by decide +kernel) (by decide +kernel) (by decide +kernel) (by decide +kernel) (by decide +kernel) (by decide +kernel) (by decide +kernel)
theorem init_ok : ∀ ci, ci < 7 → Cond.initialized (RO ci) ∈ lwG := by7 (by decide +kernel) (by decide +kernel) (by decide +kernel) (by decide +kernel) (by decide +kernel) (by decide +kernel) (by decide +kernel)
/-! ===== cells ===== -/
def isRt (t : FieldType) : Bool := match t with
  | .object _ => true
  | .array _ => true
  | _ => false
def isRf (ci k : Nat) : Bool := isRt (tyOf ci k)
def encF (c : Cl) (k : Nat) : Value := if isRf c.1 k then va_rf (c.2.2.2.1 k) else .int (c.2.2.1 k)
def enc (cy : Nat → ClassId) (c : Cl) : va_E := if c.1 < 7 then .inr (c.1, (List.range (nfO c.1)).map (encF c)) else if c.1 < 10 then .inl (cy c.1, c.2.1, .inl c.2.2.1) else if c.1 = 10 then .inl (cy 10, c.2.1, .inr (.inl c.2.2.2.2)) else .inl (cy c.1, c.2.1, .inr (.inr (.inr (.inr c.2.2.2.1))))
theorem enc_o (cy : Nat → ClassId) {c : Cl} {ci : Nat} (h : c.1 = ci) (h7 : ci < 7) : enc cy c = .inr (ci, (List.range (nfO ci)).map (encF c)) := by
  subst h; unfold enc; rw [if_pos h7]
theorem enc_i (cy : Nat → ClassId) {c : Cl} {kd : Nat} (h : c.1 = kd) (h7 : 7 ≤ kd) (h8 : kd < 10) : enc cy c = .inl (cy kd, c.2.1, .inl c.2.2.1) := by
  subst h; unfold enc; rw [if_neg (by omega), if_pos h8]
theorem enc_l (cy : Nat → ClassId) {c : Cl} (h : c.1 = 10) : enc cy c = .inl (cy 10, c.2.1, .inr (.inl c.2.2.2.2)) := by
  unfold enc; rw [if_neg (by omega), if_neg (by omega), if_pos h]
theorem enc_r (cy : Nat → ClassId) {c : Cl} {kd : Nat} (h : c.1 = kd) (h7 : 10 < kd) : enc cy c = .inl (cy kd, c.2.1, .inr (.inr (.inr (.inr c.2.2.2.1)))) := by
  subst h; unfold enc; rw [if_neg (by omega), if_neg (by omega), if_neg (by omega)]
def Ab (base : Nat) : Nat → Prop := fun q => base ≤ q
def tysY (cy : Nat → ClassId) : List (ClassId × FieldType) := [(cy 7, .byte), (cy 8, .int), (cy 9, .boolean), (cy 10, .long), (cy 11, .object RX0), (cy 12, .object RX1), (cy 13, .object RX4)]
/-- the heap H holds what G tells: the kinds below 14 from base on, kind 14 what S0 tells (below base, never written) -/
def Hp (D : va_G) (cy : Nat → ClassId) (base : Nat) (S0 G : GG) (H : Heap) : Prop :=
  ∃ L : List Nat, (∀ a, a ∈ L ↔ knd G a < 14) ∧ (∀ a, 14 ≤ knd G a → (a < base ∧ G a = S0 a) ∨ knd G a = 99) ∧ va_P D vwCl (va_pl L (fun a => enc cy (G a))) H ∧ va_D (Ab base) (va_pl L (fun a => enc cy (G a)))
theorem plc {cy : Nat → ClassId} {L : List Nat} {G : GG} {a : Nat} {c : Cl} : va_pl L (va_up (fun a => enc cy (G a)) a (enc cy c)) = va_pl L (fun b => enc cy (va_up G a c b)) := by
  refine va_pl_congr fun b => ?_
  unfold va_up
  split <;> rfl
/-- one cell of it: where it stands in a list of cells; another content there; one cell more -/
theorem Hp.at {D : va_G} {cy : Nat → ClassId} {base : Nat} {S0 G : GG} {H : Heap} (h : Hp D cy base S0 G H) {a : Nat} (ha : knd G a < 14) :
    ∃ (ws : va_W) (q0 : Nat), va_P D vwCl ws H ∧ va_D (Ab base) ws ∧ ws[q0]? = some (a, enc cy (G a)) ∧
      ∀ (c : Cl) (H1 : Heap), c.1 = knd G a → va_P D vwCl (ws.set q0 (a, enc cy c)) H1 → va_D (Ab base) (ws.set q0 (a, enc cy c)) → Hp D cy base S0 (va_up G a c) H1 := by
  obtain ⟨L, hL, h14, hP, hD⟩ := h
  have haL : a ∈ L := (hL a).mpr ha
  obtain ⟨k, hk⟩ := va_pl_get (X := []) (f := fun a => enc cy (G a)) haL
  refine ⟨[] ++ va_pl L (fun a => enc cy (G a)), k, hP, hD, hk, fun c H1 hc hP1 hD1 => ?_⟩
  have hkk : ∀ b, knd (va_up G a c) b = knd G b := fun b => by
    unfold knd va_up at *
    by_cases hb : b = a
    · subst hb; simp [hc]
    · simp [hb]
  rw [va_pl_set (X := []) hD haL hk, plc] at hP1 hD1
  refine ⟨L, fun b => by rw [hkk]; exact hL b, fun b hb => ?_, hP1, hD1⟩
  rw [hkk] at hb
  have hne : b ≠ a := fun e => by subst e; omega
  have hu : va_up G a c b = G b := by unfold va_up; rw [if_neg hne]
  rcases h14 b hb with ⟨q1, q2⟩ | q
  · exact Or.inl ⟨q1, by rw [hu]; exact q2⟩
  · exact Or.inr (by rw [hkk]; exact q)
theorem Hp.more {D : va_G} {cy : Nat → ClassId} {base : Nat} {S0 G : GG} {H : Heap} (h : Hp D cy base S0 G H) :
    ∃ ws : va_W, va_P D vwCl ws H ∧ va_D (Ab base) ws ∧
      ∀ (q : Nat) (c : Cl) (H1 : Heap), c.1 < 14 → va_P D vwCl (ws ++ [(q, enc cy c)]) H1 → va_D (Ab base) (ws ++ [(q, enc cy c)]) → knd G q = 99 ∧ Hp D cy base S0 (va_up G q c) H1 := by
  obtain ⟨L, hL, h14, hP, hD⟩ := h
  refine ⟨va_pl L (fun a => enc cy (G a)), hP, hD, fun q c H1 hc hP1 hD1 => ?_⟩
  have hl : (va_pl L (fun a => enc cy (G a)) ++ [(q, enc cy c)])[(va_pl L (fun a => enc cy (G a))).length]? = some (q, enc cy c) := by simp
  have hqA : base ≤ q := hD1.2 _ _ hl
  have hqL : q ∉ L := fun hq => by
    obtain ⟨k, hk⟩ := va_pl_get (X := []) (f := fun a => enc cy (G a)) hq
    rw [List.nil_append] at hk
    have hlt := (List.getElem?_eq_some_iff.mp hk).1
    have hk2 : (va_pl L (fun a => enc cy (G a)) ++ [(q, enc cy c)])[k]? = some (q, enc cy (G q)) := by rw [List.getElem?_append_left hlt]; exact hk
    have := hD1.1 _ _ _ _ hk2 hl rfl
    omega
  have hq99 : knd G q = 99 := by
    have hge : 14 ≤ knd G q := Nat.not_lt.mp fun hlt => hqL ((hL q).mpr hlt)
    rcases h14 q hge with ⟨q1, -⟩ | q
    · omega
    · exact q
  refine ⟨hq99, L ++ [q], fun b => ?_, fun b hb => ?_, ?_, ?_⟩
  · by_cases hb : b = q
    · subst hb
      have : knd (va_up G b c) b = c.1 := by unfold knd va_up; simp
      rw [this]; simp [hc]
    · have : knd (va_up G q c) b = knd G b := by unfold knd va_up; simp [hb]
      rw [this, List.mem_append, List.mem_singleton]
      exact ⟨fun h => h.elim (hL b).mp (fun e => absurd e hb), fun h => Or.inl ((hL b).mpr h)⟩
  · by_cases hbq : b = q
    · subst hbq
      have : knd (va_up G b c) b = c.1 := by unfold knd va_up; simp
      rw [this] at hb; omega
    · have e1 : va_up G q c b = G b := by unfold va_up; rw [if_neg hbq]
      have e2 : knd (va_up G q c) b = knd G b := by unfold knd; rw [e1]
      rw [e2] at hb ⊢
      rw [e1]
      exact h14 b hb
  · rw [← plc, ← va_pl_push hqL]; exact hP1
  · rw [← plc, ← va_pl_push hqL]; exact hD1
end
section
/-! ===== locals ===== -/
def lk : List (Option AV) → Nat → Option AV
  | [], _ => none
  | x :: _, 0 => x
  | _ :: r, j + 1 => lk r j
def lsP : Nat → List (Option AV) → List (Nat × Value)
  | _, [] => []
  | i, none :: r => lsP (i + 1) r
  | i, some v :: r => (i, tV v) :: lsP (i + 1) r
theorem lsP_mem : ∀ (ls : List (Option AV)) (i : Nat) (q : Nat × Value), q ∈ lsP i ls ↔ ∃ (j : Nat) (v : AV), lk ls j = some v ∧ q = (i + j, tV v) := by
  intro ls
  induction ls with
  | nil => intro i q; simp [lsP, lk]
  | cons x r ih =>
    intro i q
    cases x with
    | none =>
      rw [show lsP i (none :: r) = lsP (i + 1) r from rfl, ih]
      constructor
      · rintro ⟨j, v, h1, h2⟩; exact ⟨j + 1, v, h1, by rw [h2]; congr 1; omega⟩
      · rintro ⟨j, v, h1, h2⟩
        cases j with
        | zero => simp [lk] at h1
        | succ j => exact ⟨j, v, h1, by rw [h2]; congr 1; omega⟩
    | some w =>
      rw [show lsP i (some w :: r) = (i, tV w) :: lsP (i + 1) r from rfl, List.mem_cons, ih]
      constructor
      · rintro (h | ⟨j, v, h1, h2⟩)
        · exact ⟨0, w, rfl, by rw [h]; rfl⟩
        · exact ⟨j + 1, v, h1, by rw [h2]; congr 1; omega⟩
      · rintro ⟨j, v, h1, h2⟩
        cases j with
        | zero => left; simp [lk] at h1; subst h1; exact h2
        | succ j => right; exact ⟨j, v, h1, by rw [h2]; congr 1; omega⟩
theorem lk_set : ∀ (ls : List (Option AV)) (i j : Nat) (v : Option AV), i < ls.length → lk (ls.set i v) j = if j = i then v else lk ls j := by
  intro ls
  induction ls with
  | nil => intro i j v h; simp at h
  | cons x r ih =>
    intro i j v h
    cases i with
    | zero => cases j <;> simp [lk]
    | succ i =>
      cases j with
      | zero => simp [lk]
      | succ j =>
        have := ih i j v (by simpa using h)
        simp only [List.set_cons_succ, lk, this]
        by_cases e : j = i <;> simp [e]
def okS (ls : List (Option AV)) (j : Nat) : Bool := match j with
  | 0 => true
  | i + 1 => match lk ls i with
    | some (.inr (.inr _)) => false
    | _ => true
theorem tV_cat2 {v : AV} (h : (tV v).category = 2) : ∃ z, v = .inr (.inr z) := by
  match v, h with
  | .inl x, h => simp [tV, Value.category] at h
  | .inr (.inl none), h => simp [tV, va_rf, Value.category] at h
  | .inr (.inl (some a)), h => simp [tV, va_rf, Value.category] at h
  | .inr (.inr z), _ => exact ⟨z, rfl⟩
theorem tV_rcat (o : Option Nat) : (va_rf o).category = 1 := by cases o <;> rfl
theorem has_at {la : Array Slot} {nL : Nat} {ls : List (Option AV)} (h : lv_has la nL (lsP 0 ls)) {j : Nat} {v : AV} (hj : lk ls j = some v) : la[j]? = some (.val (tV v)) := by
  have := h.2.2 (j, tV v) ((lsP_mem ls 0 _).mpr ⟨j, v, hj, by simp⟩)
  exact this
theorem has_set {la : Array Slot} {nL : Nat} {ls : List (Option AV)} {j : Nat} {v : AV} (hj : j < ls.length) (ho : okS ls j = true)
    (h : lv_has la nL ((j, tV v) :: (lsP 0 ls).filter (fun q => !(q.1 == j) && !(q.1 + 1 == j && q.2.category == 2)))) : lv_has la nL (lsP 0 (ls.set j (some v))) := by
  refine ⟨h.1, h.2.1, fun q hq => ?_⟩
  obtain ⟨i, w, h1, h2⟩ := (lsP_mem _ _ _).mp hq
  rw [lk_set _ _ _ _ hj] at h1
  rw [Nat.zero_add] at h2
  refine h.2.2 q (List.mem_cons.mpr ?_)
  by_cases e : i = j
  · rw [if_pos e] at h1
    left; rw [h2, e]; cases h1; rfl
  · rw [if_neg e] at h1
    right
    refine List.mem_filter.mpr ⟨(lsP_mem _ _ _).mpr ⟨i, w, h1, by rw [h2, Nat.zero_add]⟩, ?_⟩
    rw [h2]
    have e1 : (i == j) = false := by simpa using e
    have e2 : (i + 1 == j && (tV w).category == 2) = false := by
      cases hb : (i + 1 == j && (tV w).category == 2) with
      | false => rfl
      | true =>
        simp only [Bool.and_eq_true, beq_iff_eq] at hb
        obtain ⟨hb1, hb2⟩ := hb
        obtain ⟨z, rfl⟩ := tV_cat2 hb2
        subst hb1
        simp [okS, h1] at ho
    simp only [e1, e2, Bool.not_false, Bool.and_self]
theorem has_set2 {la : Array Slot} {nL : Nat} {ls : List (Option AV)} {j : Nat} {z : Int64} (hj : j + 1 < ls.length) (ho : okS ls j = true)
    (h : lv_has la nL ((j, Value.long z) :: (lsP 0 ls).filter (fun q => !(q.1 == j) && (!(q.1 == j + 1) && !(q.1 + 1 == j && q.2.category == 2))))) : lv_has la nL (lsP 0 ((ls.set j (some (.inr (.inr z)))).set (j + 1) none)) := by
  refine ⟨h.1, h.2.1, fun q hq => ?_⟩
  obtain ⟨i, w, h1, h2⟩ := (lsP_mem _ _ _).mp hq
  rw [lk_set _ _ _ _ (by simpa using hj), lk_set _ _ _ _ (by omega)] at h1
  rw [Nat.zero_add] at h2
  refine h.2.2 q (List.mem_cons.mpr ?_)
  by_cases e3 : i = j + 1
  · rw [if_pos e3] at h1; cases h1
  · rw [if_neg e3] at h1
    by_cases e : i = j
    · rw [if_pos e] at h1
      left; rw [h2, e]; cases h1; rfl
    · rw [if_neg e] at h1
      right
      refine List.mem_filter.mpr ⟨(lsP_mem _ _ _).mpr ⟨i, w, h1, by rw [h2, Nat.zero_add]⟩, ?_⟩
      rw [h2]
      have e1 : (i == j) = false := by simpa using e
      have e4 : (i == j + 1) = false := by simpa using e3
      have e2 : (i + 1 == j && (tV w).category == 2) = false := by
        cases hb : (i + 1 == j && (tV w).category == 2) with
        | false => rfl
        | true =>
          simp only [Bool.and_eq_true, beq_iff_eq] at hb
          obtain ⟨hb1, hb2⟩ := hb
          obtain ⟨z, rfl⟩ := tV_cat2 hb2
          subst hb1
          simp [okS, h1] at ho
      simp only [e1, e2, e4, Bool.not_false, Bool.and_self]
/-! ===== the judgement over the abstract heap ===== -/
def Cx (p : Program) (s : State) (m : MethodId) (args : Array Value) (c : Code) (cc : ByteArray) (nL : Nat) (own : String) (D : va_G) (cy : Nat → ClassId) (base : Nat) : Prop :=
  p.tables.exec = Jvm.exec ∧ c.code = cc ∧ c.maxLocals = nL ∧ s.vm.findClass own = some m.cls ∧ (∀ w ∈ lwG, w.before args s = true) ∧ va_K D vwCl (tysY cy) s ∧ base ≤ s.heap.size
def JJ (p : Program) (l : Launch) (e : Env) (R : Room) (s : State) (m : MethodId) (args : Array Value) (below : List Frame) (meth : Method) (c : Code) (nL : Nat) (D : va_G) (cy : Nat → ClassId) (base : Nat) (S0 : GG) (Q : State → Prop)
    (pc : Nat) (ls : List (Option AV)) (st : List AV) (G : GG) (k n : Nat) : Prop :=
  ∀ (H : Heap) (locs : List Loc) (la : Array Slot), ls.length = nL → Hp D cy base S0 G H → va_S (Ab base) s.heap H locs → lv_has la nL (lsP 0 ls) → W p l e R s m args below meth c H locs k n Q (F0 m pc la (st.map tV))
section JR
variable {p : Program} {l : Launch} {e : Env} {R : Room} {s : State} {m : MethodId} {args : Array Value} {below : List Frame} {meth : Method} {c : Code} {nL : Nat} {D : va_G} {cy : Nat → ClassId} {base : Nat} {S0 : GG} {Q : State → Prop}
variable {cc : ByteArray} {own : String} {pc : Nat} {ls : List (Option AV)} {st : List AV} {G : GG} {k n : Nat}
theorem hAb (C : Cx p s m args c cc nL own D cy base) : ∀ q, s.heap.size ≤ q → Ab base q := fun q h => Nat.le_trans C.2.2.2.2.2.2 h
-- loads
theorem j_iload_n (C : Cx p s m args c cc nL own D cy base) {j : Fin 4} {x : Int32} (hd : decode cc pc = .ok (.iload_n j, 1)) (hj : lk ls j = some (.inl x)) (kk : JJ p l e R s m args below meth c nL D cy base S0 Q (pc + 1) ls (.inl x :: st) G k n) : JJ p l e R s m args below meth c nL D cy base S0 Q pc ls st G k n :=
  fun H locs la h1 h2 h3 h4 => lv_iload_n C.1 C.2.1 hd rfl (has_at h4 hj) (kk H locs la h1 h2 h3 h4)
theorem j_iload (C : Cx p s m args c cc nL own D cy base) {j : Nat} {x : Int32} (hd : decode cc pc = .ok (.iload j, 2)) (hj : lk ls j = some (.inl x)) (kk : JJ p l e R s m args below meth c nL D cy base S0 Q (pc + 2) ls (.inl x :: st) G k n) : JJ p l e R s m args below meth c nL D cy base S0 Q pc ls st G k n :=
  fun H locs la h1 h2 h3 h4 => lv_iload C.1 C.2.1 hd (has_at h4 hj) (kk H locs la h1 h2 h3 h4)
theorem j_lload_n (C : Cx p s m args c cc nL own D cy base) {j : Fin 4} {x : Int64} (hd : decode cc pc = .ok (.lload_n j, 1)) (hj : lk ls j = some (.inr (.inr x))) (kk : JJ p l e R s m args below meth c nL D cy base S0 Q (pc + 1) ls (.inr (.inr x) :: st) G k n) : JJ p l e R s m args below meth c nL D cy base S0 Q pc ls st G k n :=
  fun H locs la h1 h2 h3 h4 => lv_lload_n C.1 C.2.1 hd rfl (has_at h4 hj) (kk H locs la h1 h2 h3 h4)
theorem j_lload (C : Cx p s m args c cc nL own D cy base) {j : Nat} {x : Int64} (hd : decode cc pc = .ok (.lload j, 2)) (hj : lk ls j = some (.inr (.inr x))) (kk : JJ p l e R s m args below meth c nL D cy base S0 Q (pc + 2) ls (.inr (.inr x) :: st) G k n) : JJ p l e R s m args below meth c nL D cy base S0 Q pc ls st G k n :=
  fun H locs la h1 h2 h3 h4 => lv_lload C.1 C.2.1 hd (has_at h4 hj) (kk H locs la h1 h2 h3 h4)
theorem j_aload_n (C : Cx p s m args c cc nL own D cy base) {j : Fin 4} {x : Option Nat} (hd : decode cc pc = .ok (.aload_n j, 1)) (hj : lk ls j = some (.inr (.inl x))) (kk : JJ p l e R s m args below meth c nL D cy base S0 Q (pc + 1) ls (.inr (.inl x) :: st) G k n) : JJ p l e R s m args below meth c nL D cy base S0 Q pc ls st G k n :=
  fun H locs la h1 h2 h3 h4 => match x, hj, kk with
    | none, hj, kk => lv_aload_nN C.1 C.2.1 hd rfl (has_at h4 hj) (kk H locs la h1 h2 h3 h4)
    | some _, hj, kk => lv_aload_n C.1 C.2.1 hd rfl (has_at h4 hj) (kk H locs la h1 h2 h3 h4)
theorem j_aload (C : Cx p s m args c cc nL own D cy base) {j : Nat} {x : Option Nat} (hd : decode cc pc = .ok (.aload j, 2)) (hj : lk ls j = some (.inr (.inl x))) (kk : JJ p l e R s m args below meth c nL D cy base S0 Q (pc + 2) ls (.inr (.inl x) :: st) G k n) : JJ p l e R s m args below meth c nL D cy base S0 Q pc ls st G k n :=
  fun H locs la h1 h2 h3 h4 => match x, hj, kk with
    | none, hj, kk => lv_aloadN C.1 C.2.1 hd (has_at h4 hj) (kk H locs la h1 h2 h3 h4)
    | some _, hj, kk => lv_aload C.1 C.2.1 hd (has_at h4 hj) (kk H locs la h1 h2 h3 h4)
-- stores
theorem j_istore_n (C : Cx p s m args c cc nL own D cy base) {j : Fin 4} {x : Int32} (hd : decode cc pc = .ok (.istore_n j, 1)) (hj : (j : Nat) < ls.length) (ho : okS ls j = true) (kk : JJ p l e R s m args below meth c nL D cy base S0 Q (pc + 1) (ls.set j (some (.inl x))) st G k n) : JJ p l e R s m args below meth c nL D cy base S0 Q pc ls (.inl x :: st) G k n :=
  fun H locs la h1 h2 h3 h4 => lv_istore_n C.1 C.2.1 hd rfl h4 (h1 ▸ hj) rfl (fun la' h => kk H locs la' (by simpa using h1) h2 h3 (has_set hj ho h))
theorem j_istore (C : Cx p s m args c cc nL own D cy base) {j : Nat} {x : Int32} (hd : decode cc pc = .ok (.istore j, 2)) (hj : j < ls.length) (ho : okS ls j = true) (kk : JJ p l e R s m args below meth c nL D cy base S0 Q (pc + 2) (ls.set j (some (.inl x))) st G k n) : JJ p l e R s m args below meth c nL D cy base S0 Q pc ls (.inl x :: st) G k n :=
  fun H locs la h1 h2 h3 h4 => lv_istore C.1 C.2.1 hd h4 (h1 ▸ hj) rfl (fun la' h => kk H locs la' (by simpa using h1) h2 h3 (has_set hj ho h))
theorem j_lstore (C : Cx p s m args c cc nL own D cy base) {j : Nat} {x : Int64} (hd : decode cc pc = .ok (.lstore j, 2)) (hj : j + 1 < ls.length) (ho : okS ls j = true) (kk : JJ p l e R s m args below meth c nL D cy base S0 Q (pc + 2) ((ls.set j (some (.inr (.inr x)))).set (j + 1) none) st G k n) : JJ p l e R s m args below meth c nL D cy base S0 Q pc ls (.inr (.inr x) :: st) G k n :=
  fun H locs la h1 h2 h3 h4 => lv_lstore C.1 C.2.1 hd h4 (h1 ▸ hj) rfl (fun la' h => kk H locs la' (by simpa using h1) h2 h3 (has_set2 hj ho h))
theorem j_astore_n (C : Cx p s m args c cc nL own D cy base) {j : Fin 4} {x : Option Nat} (hd : decode cc pc = .ok (.astore_n j, 1)) (hj : (j : Nat) < ls.length) (ho : okS ls j = true) (kk : JJ p l e R s m args below meth c nL D cy base S0 Q (pc + 1) (ls.set j (some (.inr (.inl x)))) st G k n) : JJ p l e R s m args below meth c nL D cy base S0 Q pc ls (.inr (.inl x) :: st) G k n :=
  fun H locs la h1 h2 h3 h4 => match x, kk with
    | none, kk => lv_astore_nN C.1 C.2.1 hd rfl h4 (h1 ▸ hj) rfl (fun la' h => kk H locs la' (by simpa using h1) h2 h3 (has_set (v := .inr (.inl none)) hj ho h))
    | some a, kk => lv_astore_n C.1 C.2.1 hd rfl h4 (h1 ▸ hj) rfl (fun la' h => kk H locs la' (by simpa using h1) h2 h3 (has_set (v := .inr (.inl (some a))) hj ho h))
theorem j_astore (C : Cx p s m args c cc nL own D cy base) {j : Nat} {x : Option Nat} (hd : decode cc pc = .ok (.astore j, 2)) (hj : j < ls.length) (ho : okS ls j = true) (kk : JJ p l e R s m args below meth c nL D cy base S0 Q (pc + 2) (ls.set j (some (.inr (.inl x)))) st G k n) : JJ p l e R s m args below meth c nL D cy base S0 Q pc ls (.inr (.inl x) :: st) G k n :=
  fun H locs la h1 h2 h3 h4 => match x, kk with
    | none, kk => lv_astoreN C.1 C.2.1 hd h4 (h1 ▸ hj) rfl (fun la' h => kk H locs la' (by simpa using h1) h2 h3 (has_set (v := .inr (.inl none)) hj ho h))
    | some a, kk => lv_astore C.1 C.2.1 hd h4 (h1 ▸ hj) rfl (fun la' h => kk H locs la' (by simpa using h1) h2 h3 (has_set (v := .inr (.inl (some a))) hj ho h))
theorem lsP_at {ls : List (Option AV)} {j : Nat} {v : AV} (h : lk ls j = some v) : ∃ t : Nat, (lsP 0 ls)[t]? = some (j, tV v) :=
  List.getElem?_of_mem ((lsP_mem ls 0 _).mpr ⟨j, v, h, by simp⟩)
theorem j_iinc (C : Cx p s m args c cc nL own D cy base) {j : Nat} {d : Int} {x : Int32} (hd : decode cc pc = .ok (.iinc j d, 3)) (hj : j < ls.length) (ho : okS ls j = true) (hx : lk ls j = some (.inl x)) (kk : JJ p l e R s m args below meth c nL D cy base S0 Q (pc + 3) (ls.set j (some (.inl (x + Int32.ofInt d)))) st G k n) : JJ p l e R s m args below meth c nL D cy base S0 Q pc ls st G k n :=
  fun H locs la h1 h2 h3 h4 => by
    obtain ⟨t, ht⟩ := lsP_at hx
    exact lv_iinc (k := t) C.1 C.2.1 hd h4 ht rfl (h1 ▸ hj) rfl (fun la' h => kk H locs la' (by simpa using h1) h2 h3 (has_set (v := .inl (x + Int32.ofInt d)) hj ho h))
-- constants
theorem j_iconst (C : Cx p s m args c cc nL own D cy base) {d : Int} (hd : decode cc pc = .ok (.iconst d, 1)) (kk : JJ p l e R s m args below meth c nL D cy base S0 Q (pc + 1) ls (.inl (Int32.ofInt d) :: st) G k n) : JJ p l e R s m args below meth c nL D cy base S0 Q pc ls st G k n :=
  fun H locs la h1 h2 h3 h4 => lv_iconst C.1 C.2.1 hd rfl (kk H locs la h1 h2 h3 h4)
theorem j_bipush (C : Cx p s m args c cc nL own D cy base) {d : Int} (hd : decode cc pc = .ok (.bipush d, 2)) (kk : JJ p l e R s m args below meth c nL D cy base S0 Q (pc + 2) ls (.inl (Int8.ofInt d).toInt32 :: st) G k n) : JJ p l e R s m args below meth c nL D cy base S0 Q pc ls st G k n :=
  fun H locs la h1 h2 h3 h4 => lv_bipush C.1 C.2.1 hd rfl (kk H locs la h1 h2 h3 h4)
theorem j_sipush (C : Cx p s m args c cc nL own D cy base) {d : Int} (hd : decode cc pc = .ok (.sipush d, 3)) (kk : JJ p l e R s m args below meth c nL D cy base S0 Q (pc + 3) ls (.inl (Int16.ofInt d).toInt32 :: st) G k n) : JJ p l e R s m args below meth c nL D cy base S0 Q pc ls st G k n :=
  fun H locs la h1 h2 h3 h4 => lv_sipush C.1 C.2.1 hd rfl (kk H locs la h1 h2 h3 h4)
theorem j_ldc2 (C : Cx p s m args c cc nL own D cy base) {i : Nat} {v : Int64} (hd : decode cc pc = .ok (.ldc2_w i, 3)) (hw : Cond.constantLong own i v ∈ lwG) (kk : JJ p l e R s m args below meth c nL D cy base S0 Q (pc + 3) ls (.inr (.inr v) :: st) G k n) : JJ p l e R s m args below meth c nL D cy base S0 Q pc ls st G k n :=
  fun H locs la h1 h2 h3 h4 => lv_ldc2 C.1 C.2.1 C.2.2.2.1 (C.2.2.2.2.1 _ hw) hd (kk H locs la h1 h2 h3 h4)
theorem j_null (C : Cx p s m args c cc nL own D cy base) (hd : decode cc pc = .ok (.aconst_null, 1)) (kk : JJ p l e R s m args below meth c nL D cy base S0 Q (pc + 1) ls (.inr (.inl none) :: st) G k n) : JJ p l e R s m args below meth c nL D cy base S0 Q pc ls st G k n :=
  fun H locs la h1 h2 h3 h4 => lv_null C.1 C.2.1 hd (kk H locs la h1 h2 h3 h4)
theorem j_dup (C : Cx p s m args c cc nL own D cy base) {v : AV} (hd : decode cc pc = .ok (.dup, 1)) (hv : (tV v).category = 1) (kk : JJ p l e R s m args below meth c nL D cy base S0 Q (pc + 1) ls (v :: v :: st) G k n) : JJ p l e R s m args below meth c nL D cy base S0 Q pc ls (v :: st) G k n :=
  fun H locs la h1 h2 h3 h4 => lv_dup C.1 C.2.1 hd hv (kk H locs la h1 h2 h3 h4)
theorem j_dup2 (C : Cx p s m args c cc nL own D cy base) {v w : AV} (hd : decode cc pc = .ok (.dup2, 1)) (hv : (tV v).category = 1) (hw : (tV w).category = 1) (kk : JJ p l e R s m args below meth c nL D cy base S0 Q (pc + 1) ls (v :: w :: v :: w :: st) G k n) : JJ p l e R s m args below meth c nL D cy base S0 Q pc ls (v :: w :: st) G k n :=
  fun H locs la h1 h2 h3 h4 => lv_dup2_11 C.1 C.2.1 hd hv hw (kk H locs la h1 h2 h3 h4)
end JR
end
section
section JR
variable {p : Program} {l : Launch} {e : Env} {R : Room} {s : State} {m : MethodId} {args : Array Value} {below : List Frame} {meth : Method} {c : Code} {nL : Nat} {D : va_G} {cy : Nat → ClassId} {base : Nat} {S0 : GG} {Q : State → Prop}
variable {cc : ByteArray} {own : String} {pc : Nat} {ls : List (Option AV)} {st : List AV} {G : GG} {k n : Nat}
theorem j_iadd (C : Cx p s m args c cc nL own D cy base) {x y : Int32} (hd : decode cc pc = .ok (.iadd, 1))  (kk : JJ p l e R s m args below meth c nL D cy base S0 Q (pc + 1) ls (.inl (x + y) :: st) G k n) : JJ p l e R s m args below meth c nL D cy base S0 Q pc ls (.inl y :: .inl x :: st) G k n :=
  fun H locs la h1 h2 h3 h4 => lv_iadd C.1 C.2.1 hd (kk H locs la h1 h2 h3 h4)
theorem j_isub (C : Cx p s m args c cc nL own D cy base) {x y : Int32} (hd : decode cc pc = .ok (.isub, 1))  (kk : JJ p l e R s m args below meth c nL D cy base S0 Q (pc + 1) ls (.inl (x - y) :: st) G k n) : JJ p l e R s m args below meth c nL D cy base S0 Q pc ls (.inl y :: .inl x :: st) G k n :=
  fun H locs la h1 h2 h3 h4 => lv_isub C.1 C.2.1 hd (kk H locs la h1 h2 h3 h4)
theorem j_imul (C : Cx p s m args c cc nL own D cy base) {x y : Int32} (hd : decode cc pc = .ok (.imul, 1))  (kk : JJ p l e R s m args below meth c nL D cy base S0 Q (pc + 1) ls (.inl (x * y) :: st) G k n) : JJ p l e R s m args below meth c nL D cy base S0 Q pc ls (.inl y :: .inl x :: st) G k n :=
  fun H locs la h1 h2 h3 h4 => lv_imul C.1 C.2.1 hd (kk H locs la h1 h2 h3 h4)
theorem j_iand (C : Cx p s m args c cc nL own D cy base) {x y : Int32} (hd : decode cc pc = .ok (.iand, 1))  (kk : JJ p l e R s m args below meth c nL D cy base S0 Q (pc + 1) ls (.inl (x &&& y) :: st) G k n) : JJ p l e R s m args below meth c nL D cy base S0 Q pc ls (.inl y :: .inl x :: st) G k n :=
  fun H locs la h1 h2 h3 h4 => lv_iand C.1 C.2.1 hd (kk H locs la h1 h2 h3 h4)
theorem j_ixor (C : Cx p s m args c cc nL own D cy base) {x y : Int32} (hd : decode cc pc = .ok (.ixor, 1))  (kk : JJ p l e R s m args below meth c nL D cy base S0 Q (pc + 1) ls (.inl (x ^^^ y) :: st) G k n) : JJ p l e R s m args below meth c nL D cy base S0 Q pc ls (.inl y :: .inl x :: st) G k n :=
  fun H locs la h1 h2 h3 h4 => lv_ixor C.1 C.2.1 hd (kk H locs la h1 h2 h3 h4)
theorem j_ishr (C : Cx p s m args c cc nL own D cy base) {x y : Int32} (hd : decode cc pc = .ok (.ishr, 1))  (kk : JJ p l e R s m args below meth c nL D cy base S0 Q (pc + 1) ls (.inl (x >>> (y &&& 31)) :: st) G k n) : JJ p l e R s m args below meth c nL D cy base S0 Q pc ls (.inl y :: .inl x :: st) G k n :=
  fun H locs la h1 h2 h3 h4 => lv_ishr C.1 C.2.1 hd (kk H locs la h1 h2 h3 h4)
theorem j_idiv (C : Cx p s m args c cc nL own D cy base) {x y : Int32} (hd : decode cc pc = .ok (.idiv, 1)) (hne : ¬ y = 0) (kk : JJ p l e R s m args below meth c nL D cy base S0 Q (pc + 1) ls (.inl (x / y) :: st) G k n) : JJ p l e R s m args below meth c nL D cy base S0 Q pc ls (.inl y :: .inl x :: st) G k n :=
  fun H locs la h1 h2 h3 h4 => lv_idiv C.1 C.2.1 hd hne (kk H locs la h1 h2 h3 h4)
theorem j_irem (C : Cx p s m args c cc nL own D cy base) {x y : Int32} (hd : decode cc pc = .ok (.irem, 1)) (hne : ¬ y = 0) (kk : JJ p l e R s m args below meth c nL D cy base S0 Q (pc + 1) ls (.inl (x - x / y * y) :: st) G k n) : JJ p l e R s m args below meth c nL D cy base S0 Q pc ls (.inl y :: .inl x :: st) G k n :=
  fun H locs la h1 h2 h3 h4 => lv_irem C.1 C.2.1 hd hne (kk H locs la h1 h2 h3 h4)
theorem j_iushr (C : Cx p s m args c cc nL own D cy base) {x y : Int32} (hd : decode cc pc = .ok (.iushr, 1))  (kk : JJ p l e R s m args below meth c nL D cy base S0 Q (pc + 1) ls (.inl ((x.toUInt32 >>> (y.toUInt32 &&& Int32.toUInt32 31)).toInt32) :: st) G k n) : JJ p l e R s m args below meth c nL D cy base S0 Q pc ls (.inl y :: .inl x :: st) G k n :=
  fun H locs la h1 h2 h3 h4 => lv_iushr C.1 C.2.1 hd rfl (kk H locs la h1 h2 h3 h4)
theorem j_land (C : Cx p s m args c cc nL own D cy base) {x y : Int64} (hd : decode cc pc = .ok (.land, 1))  (kk : JJ p l e R s m args below meth c nL D cy base S0 Q (pc + 1) ls (.inr (.inr (x &&& y)) :: st) G k n) : JJ p l e R s m args below meth c nL D cy base S0 Q pc ls (.inr (.inr y) :: .inr (.inr x) :: st) G k n :=
  fun H locs la h1 h2 h3 h4 => lv_land C.1 C.2.1 hd (kk H locs la h1 h2 h3 h4)
theorem j_lor (C : Cx p s m args c cc nL own D cy base) {x y : Int64} (hd : decode cc pc = .ok (.lor, 1))  (kk : JJ p l e R s m args below meth c nL D cy base S0 Q (pc + 1) ls (.inr (.inr (x ||| y)) :: st) G k n) : JJ p l e R s m args below meth c nL D cy base S0 Q pc ls (.inr (.inr y) :: .inr (.inr x) :: st) G k n :=
  fun H locs la h1 h2 h3 h4 => lv_lor C.1 C.2.1 hd (kk H locs la h1 h2 h3 h4)
theorem j_lcmp (C : Cx p s m args c cc nL own D cy base) {x y : Int64} (hd : decode cc pc = .ok (.lcmp, 1))  (kk : JJ p l e R s m args below meth c nL D cy base S0 Q (pc + 1) ls (.inl (lg_cmp x y) :: st) G k n) : JJ p l e R s m args below meth c nL D cy base S0 Q pc ls (.inr (.inr y) :: .inr (.inr x) :: st) G k n :=
  fun H locs la h1 h2 h3 h4 => W.lcmp C.1 C.2.1 hd (kk H locs la h1 h2 h3 h4)
theorem j_lshl (C : Cx p s m args c cc nL own D cy base) {x : Int64} {y : Int32} (hd : decode cc pc = .ok (.lshl, 1))  (kk : JJ p l e R s m args below meth c nL D cy base S0 Q (pc + 1) ls (.inr (.inr (x <<< (y.toInt64 &&& 63))) :: st) G k n) : JJ p l e R s m args below meth c nL D cy base S0 Q pc ls (.inl y :: .inr (.inr x) :: st) G k n :=
  fun H locs la h1 h2 h3 h4 => lv_lshl C.1 C.2.1 hd rfl (kk H locs la h1 h2 h3 h4)
theorem j_lshr (C : Cx p s m args c cc nL own D cy base) {x : Int64} {y : Int32} (hd : decode cc pc = .ok (.lshr, 1))  (kk : JJ p l e R s m args below meth c nL D cy base S0 Q (pc + 1) ls (.inr (.inr (x >>> (y.toInt64 &&& 63))) :: st) G k n) : JJ p l e R s m args below meth c nL D cy base S0 Q pc ls (.inl y :: .inr (.inr x) :: st) G k n :=
  fun H locs la h1 h2 h3 h4 => lv_lshr C.1 C.2.1 hd rfl (kk H locs la h1 h2 h3 h4)
theorem j_lushr (C : Cx p s m args c cc nL own D cy base) {x : Int64} {y : Int32} (hd : decode cc pc = .ok (.lushr, 1))  (kk : JJ p l e R s m args below meth c nL D cy base S0 Q (pc + 1) ls (.inr (.inr ((x.toUInt64 >>> (y.toInt64.toUInt64 &&& Int64.toUInt64 63)).toInt64)) :: st) G k n) : JJ p l e R s m args below meth c nL D cy base S0 Q pc ls (.inl y :: .inr (.inr x) :: st) G k n :=
  fun H locs la h1 h2 h3 h4 => lv_lushr C.1 C.2.1 hd rfl (kk H locs la h1 h2 h3 h4)
theorem j_i2l (C : Cx p s m args c cc nL own D cy base) {x : Int32} (hd : decode cc pc = .ok (.i2l, 1))  (kk : JJ p l e R s m args below meth c nL D cy base S0 Q (pc + 1) ls (.inr (.inr x.toInt64) :: st) G k n) : JJ p l e R s m args below meth c nL D cy base S0 Q pc ls (.inl x :: st) G k n :=
  fun H locs la h1 h2 h3 h4 => lv_i2l C.1 C.2.1 hd rfl (kk H locs la h1 h2 h3 h4)
theorem j_l2i (C : Cx p s m args c cc nL own D cy base) {x : Int64} (hd : decode cc pc = .ok (.l2i, 1))  (kk : JJ p l e R s m args below meth c nL D cy base S0 Q (pc + 1) ls (.inl x.toInt32 :: st) G k n) : JJ p l e R s m args below meth c nL D cy base S0 Q pc ls (.inr (.inr x) :: st) G k n :=
  fun H locs la h1 h2 h3 h4 => lv_l2i C.1 C.2.1 hd rfl (kk H locs la h1 h2 h3 h4)
theorem j_i2b (C : Cx p s m args c cc nL own D cy base) {x : Int32} (hd : decode cc pc = .ok (.i2b, 1))  (kk : JJ p l e R s m args below meth c nL D cy base S0 Q (pc + 1) ls (.inl x.toInt8.toInt32 :: st) G k n) : JJ p l e R s m args below meth c nL D cy base S0 Q pc ls (.inl x :: st) G k n :=
  fun H locs la h1 h2 h3 h4 => lv_i2b C.1 C.2.1 hd rfl (kk H locs la h1 h2 h3 h4)
theorem j_goto (C : Cx p s m args c cc nL own D cy base) {off : Int} {tgt : Nat} (hd : decode cc pc = .ok (.goto off, 3)) (ht : (pc : Int) + off = (tgt : Int)) (kk : JJ p l e R s m args below meth c nL D cy base S0 Q tgt ls st G k n) : JJ p l e R s m args below meth c nL D cy base S0 Q pc ls st G k n :=
  fun H locs la h1 h2 h3 h4 => lv_goto C.1 C.2.1 hd ht (kk H locs la h1 h2 h3 h4)
theorem j_icmp_eq (C : Cx p s m args c cc nL own D cy base) {x y : Int32} {off : Int} {tgt : Nat} (hd : decode cc pc = .ok (.if_icmp .eq off, 3)) (ht : (pc : Int) + off = (tgt : Int)) (kt : x = y → JJ p l e R s m args below meth c nL D cy base S0 Q tgt ls st G k n) (kf : ¬ x = y → JJ p l e R s m args below meth c nL D cy base S0 Q (pc + 3) ls st G k n) : JJ p l e R s m args below meth c nL D cy base S0 Q pc ls (.inl y :: .inl x :: st) G k n :=
  fun H locs la h1 h2 h3 h4 => lv_icmp_eq C.1 C.2.1 hd ht (fun q => kt q H locs la h1 h2 h3 h4) (fun q => kf q H locs la h1 h2 h3 h4)
theorem j_if_eq (C : Cx p s m args c cc nL own D cy base) {x : Int32} {off : Int} {tgt : Nat} (hd : decode cc pc = .ok (.ifCond .eq off, 3)) (ht : (pc : Int) + off = (tgt : Int)) (kt : x = 0 → JJ p l e R s m args below meth c nL D cy base S0 Q tgt ls st G k n) (kf : ¬ x = 0 → JJ p l e R s m args below meth c nL D cy base S0 Q (pc + 3) ls st G k n) : JJ p l e R s m args below meth c nL D cy base S0 Q pc ls (.inl x :: st) G k n :=
  fun H locs la h1 h2 h3 h4 => lv_if_eq C.1 C.2.1 hd ht (fun q => kt q H locs la h1 h2 h3 h4) (fun q => kf q H locs la h1 h2 h3 h4)
theorem j_icmp_ne (C : Cx p s m args c cc nL own D cy base) {x y : Int32} {off : Int} {tgt : Nat} (hd : decode cc pc = .ok (.if_icmp .ne off, 3)) (ht : (pc : Int) + off = (tgt : Int)) (kt : ¬ x = y → JJ p l e R s m args below meth c nL D cy base S0 Q tgt ls st G k n) (kf : x = y → JJ p l e R s m args below meth c nL D cy base S0 Q (pc + 3) ls st G k n) : JJ p l e R s m args below meth c nL D cy base S0 Q pc ls (.inl y :: .inl x :: st) G k n :=
  fun H locs la h1 h2 h3 h4 => lv_icmp_ne C.1 C.2.1 hd ht (fun q => kt q H locs la h1 h2 h3 h4) (fun q => kf q H locs la h1 h2 h3 h4)
theorem j_if_ne (C : Cx p s m args c cc nL own D cy base) {x : Int32} {off : Int} {tgt : Nat} (hd : decode cc pc = .ok (.ifCond .ne off, 3)) (ht : (pc : Int) + off = (tgt : Int)) (kt : ¬ x = 0 → JJ p l e R s m args below meth c nL D cy base S0 Q tgt ls st G k n) (kf : x = 0 → JJ p l e R s m args below meth c nL D cy base S0 Q (pc + 3) ls st G k n) : JJ p l e R s m args below meth c nL D cy base S0 Q pc ls (.inl x :: st) G k n :=
  fun H locs la h1 h2 h3 h4 => lv_if_ne C.1 C.2.1 hd ht (fun q => kt q H locs la h1 h2 h3 h4) (fun q => kf q H locs la h1 h2 h3 h4)
theorem j_icmp_lt (C : Cx p s m args c cc nL own D cy base) {x y : Int32} {off : Int} {tgt : Nat} (hd : decode cc pc = .ok (.if_icmp .lt off, 3)) (ht : (pc : Int) + off = (tgt : Int)) (kt : x < y → JJ p l e R s m args below meth c nL D cy base S0 Q tgt ls st G k n) (kf : ¬ x < y → JJ p l e R s m args below meth c nL D cy base S0 Q (pc + 3) ls st G k n) : JJ p l e R s m args below meth c nL D cy base S0 Q pc ls (.inl y :: .inl x :: st) G k n :=
  fun H locs la h1 h2 h3 h4 => lv_icmp_lt C.1 C.2.1 hd ht (fun q => kt q H locs la h1 h2 h3 h4) (fun q => kf q H locs la h1 h2 h3 h4)
theorem j_if_lt (C : Cx p s m args c cc nL own D cy base) {x : Int32} {off : Int} {tgt : Nat} (hd : decode cc pc = .ok (.ifCond .lt off, 3)) (ht : (pc : Int) + off = (tgt : Int)) (kt : x < 0 → JJ p l e R s m args below meth c nL D cy base S0 Q tgt ls st G k n) (kf : ¬ x < 0 → JJ p l e R s m args below meth c nL D cy base S0 Q (pc + 3) ls st G k n) : JJ p l e R s m args below meth c nL D cy base S0 Q pc ls (.inl x :: st) G k n :=
  fun H locs la h1 h2 h3 h4 => lv_if_lt C.1 C.2.1 hd ht (fun q => kt q H locs la h1 h2 h3 h4) (fun q => kf q H locs la h1 h2 h3 h4)
theorem j_icmp_ge (C : Cx p s m args c cc nL own D cy base) {x y : Int32} {off : Int} {tgt : Nat} (hd : decode cc pc = .ok (.if_icmp .ge off, 3)) (ht : (pc : Int) + off = (tgt : Int)) (kt : y ≤ x → JJ p l e R s m args below meth c nL D cy base S0 Q tgt ls st G k n) (kf : ¬ y ≤ x → JJ p l e R s m args below meth c nL D cy base S0 Q (pc + 3) ls st G k n) : JJ p l e R s m args below meth c nL D cy base S0 Q pc ls (.inl y :: .inl x :: st) G k n :=
  fun H locs la h1 h2 h3 h4 => lv_icmp_ge C.1 C.2.1 hd ht (fun q => kt q H locs la h1 h2 h3 h4) (fun q => kf q H locs la h1 h2 h3 h4)
theorem j_if_ge (C : Cx p s m args c cc nL own D cy base) {x : Int32} {off : Int} {tgt : Nat} (hd : decode cc pc = .ok (.ifCond .ge off, 3)) (ht : (pc : Int) + off = (tgt : Int)) (kt : 0 ≤ x → JJ p l e R s m args below meth c nL D cy base S0 Q tgt ls st G k n) (kf : ¬ 0 ≤ x → JJ p l e R s m args below meth c nL D cy base S0 Q (pc + 3) ls st G k n) : JJ p l e R s m args below meth c nL D cy base S0 Q pc ls (.inl x :: st) G k n :=
  fun H locs la h1 h2 h3 h4 => lv_if_ge C.1 C.2.1 hd ht (fun q => kt q H locs la h1 h2 h3 h4) (fun q => kf q H locs la h1 h2 h3 h4)
theorem j_icmp_gt (C : Cx p s m args c cc nL own D cy base) {x y : Int32} {off : Int} {tgt : Nat} (hd : decode cc pc = .ok (.if_icmp .gt off, 3)) (ht : (pc : Int) + off = (tgt : Int)) (kt : y < x → JJ p l e R s m args below meth c nL D cy base S0 Q tgt ls st G k n) (kf : ¬ y < x → JJ p l e R s m args below meth c nL D cy base S0 Q (pc + 3) ls st G k n) : JJ p l e R s m args below meth c nL D cy base S0 Q pc ls (.inl y :: .inl x :: st) G k n :=
  fun H locs la h1 h2 h3 h4 => lv_icmp_gt C.1 C.2.1 hd ht (fun q => kt q H locs la h1 h2 h3 h4) (fun q => kf q H locs la h1 h2 h3 h4)
theorem j_if_gt (C : Cx p s m args c cc nL own D cy base) {x : Int32} {off : Int} {tgt : Nat} (hd : decode cc pc = .ok (.ifCond .gt off, 3)) (ht : (pc : Int) + off = (tgt : Int)) (kt : 0 < x → JJ p l e R s m args below meth c nL D cy base S0 Q tgt ls st G k n) (kf : ¬ 0 < x → JJ p l e R s m args below meth c nL D cy base S0 Q (pc + 3) ls st G k n) : JJ p l e R s m args below meth c nL D cy base S0 Q pc ls (.inl x :: st) G k n :=
  fun H locs la h1 h2 h3 h4 => lv_if_gt C.1 C.2.1 hd ht (fun q => kt q H locs la h1 h2 h3 h4) (fun q => kf q H locs la h1 h2 h3 h4)
theorem j_icmp_le (C : Cx p s m args c cc nL own D cy base) {x y : Int32} {off : Int} {tgt : Nat} (hd : decode cc pc = .ok (.if_icmp .le off, 3)) (ht : (pc : Int) + off = (tgt : Int)) (kt : x ≤ y → JJ p l e R s m args below meth c nL D cy base S0 Q tgt ls st G k n) (kf : ¬ x ≤ y → JJ p l e R s m args below meth c nL D cy base S0 Q (pc + 3) ls st G k n) : JJ p l e R s m args below meth c nL D cy base S0 Q pc ls (.inl y :: .inl x :: st) G k n :=
  fun H locs la h1 h2 h3 h4 => lv_icmp_le C.1 C.2.1 hd ht (fun q => kt q H locs la h1 h2 h3 h4) (fun q => kf q H locs la h1 h2 h3 h4)
theorem j_if_le (C : Cx p s m args c cc nL own D cy base) {x : Int32} {off : Int} {tgt : Nat} (hd : decode cc pc = .ok (.ifCond .le off, 3)) (ht : (pc : Int) + off = (tgt : Int)) (kt : x ≤ 0 → JJ p l e R s m args below meth c nL D cy base S0 Q tgt ls st G k n) (kf : ¬ x ≤ 0 → JJ p l e R s m args below meth c nL D cy base S0 Q (pc + 3) ls st G k n) : JJ p l e R s m args below meth c nL D cy base S0 Q pc ls (.inl x :: st) G k n :=
  fun H locs la h1 h2 h3 h4 => lv_if_le C.1 C.2.1 hd ht (fun q => kt q H locs la h1 h2 h3 h4) (fun q => kf q H locs la h1 h2 h3 h4)
theorem j_acmp_ne (C : Cx p s m args c cc nL own D cy base) {x y : Option Nat} {off : Int} {tgt : Nat} (hd : decode cc pc = .ok (.if_acmp .ne off, 3)) (ht : (pc : Int) + off = (tgt : Int)) (kt : ¬ x = y → JJ p l e R s m args below meth c nL D cy base S0 Q tgt ls st G k n) (kf : x = y → JJ p l e R s m args below meth c nL D cy base S0 Q (pc + 3) ls st G k n) : JJ p l e R s m args below meth c nL D cy base S0 Q pc ls (.inr (.inl y) :: .inr (.inl x) :: st) G k n :=
  fun H locs la h1 h2 h3 h4 => lv_acmp_ne C.1 C.2.1 hd ht (fun q => kt q H locs la h1 h2 h3 h4) (fun q => kf q H locs la h1 h2 h3 h4)
theorem j_ifnull (C : Cx p s m args c cc nL own D cy base) {x : Option Nat} {off : Int} {tgt : Nat} (hd : decode cc pc = .ok (.ifnull off, 3)) (ht : (pc : Int) + off = (tgt : Int)) (kt : x = none → JJ p l e R s m args below meth c nL D cy base S0 Q tgt ls st G k n) (kf : ¬ x = none → JJ p l e R s m args below meth c nL D cy base S0 Q (pc + 3) ls st G k n) : JJ p l e R s m args below meth c nL D cy base S0 Q pc ls (.inr (.inl x) :: st) G k n :=
  fun H locs la h1 h2 h3 h4 => match x, kt, kf with
    | none, kt, _ => lv_ifnullN C.1 C.2.1 hd ht (kt rfl H locs la h1 h2 h3 h4)
    | some _, _, kf => lv_ifnull C.1 C.2.1 hd (kf (fun q => nomatch q) H locs la h1 h2 h3 h4)
theorem j_ifnonnull (C : Cx p s m args c cc nL own D cy base) {x : Option Nat} {off : Int} {tgt : Nat} (hd : decode cc pc = .ok (.ifnonnull off, 3)) (ht : (pc : Int) + off = (tgt : Int)) (kt : ¬ x = none → JJ p l e R s m args below meth c nL D cy base S0 Q tgt ls st G k n) (kf : x = none → JJ p l e R s m args below meth c nL D cy base S0 Q (pc + 3) ls st G k n) : JJ p l e R s m args below meth c nL D cy base S0 Q pc ls (.inr (.inl x) :: st) G k n :=
  fun H locs la h1 h2 h3 h4 => match x, kt, kf with
    | none, _, kf => lv_ifnonnullN C.1 C.2.1 hd (kf rfl H locs la h1 h2 h3 h4)
    | some _, kt, _ => lv_ifnonnull C.1 C.2.1 hd ht (kt (fun q => nomatch q) H locs la h1 h2 h3 h4)
theorem j_table (C : Cx p s m args c cc nL own D cy base) {x : Int32} {df lo hi : Int} {offs : Array Int} {len : Nat} (hd : decode cc pc = .ok (.tableswitch df lo hi offs, len)) (tg0 : Nat) (h0 : (pc : Int) + df = (tg0 : Int)) (tg : Nat → Nat) (hin : ∀ j : Nat, (j : Int) ≤ hi - lo → ∃ off, offs[j]? = some off ∧ (pc : Int) + off = (tg j : Int))
    (kd : (x.toInt < lo ∨ hi < x.toInt) → JJ p l e R s m args below meth c nL D cy base S0 Q tg0 ls st G k n) (kt : ∀ j : Nat, x.toInt = lo + j → (j : Int) ≤ hi - lo → JJ p l e R s m args below meth c nL D cy base S0 Q (tg j) ls st G k n) : JJ p l e R s m args below meth c nL D cy base S0 Q pc ls (.inl x :: st) G k n := by
  intro H locs la h1 h2 h3 h4
  by_cases hx : x.toInt < lo ∨ hi < x.toInt
  · exact lv_tableOut C.1 C.2.1 hd hx h0 (kd hx H locs la h1 h2 h3 h4)
  · obtain ⟨off, q1, q2⟩ := hin (x.toInt - lo).toNat (by omega)
    exact lv_tableIn C.1 C.2.1 hd (by omega) (by omega) q1 q2 (kt (x.toInt - lo).toNat (by omega) (by omega) H locs la h1 h2 h3 h4)
end JR
end
section
section JH
variable {p : Program} {l : Launch} {e : Env} {R : Room} {s : State} {m : MethodId} {args : Array Value} {below : List Frame} {meth : Method} {c : Code} {nL : Nat} {D : va_G} {cy : Nat → ClassId} {base : Nat} {S0 : GG} {Q : State → Prop}
variable {cc : ByteArray} {own : String} {pc : Nat} {ls : List (Option AV)} {st : List AV} {G : GG} {k n : Nat}
theorem encF_at {c0 : Cl} {N j : Nat} (hj : j < N) : ((List.range N).map (encF c0))[j]? = some (encF c0 j) := by
  rw [List.getElem?_map, List.getElem?_range hj]; rfl
theorem encF_set {c0 c1 : Cl} {N j : Nat} {v : Value} (h : ∀ i, i ≠ j → encF c1 i = encF c0 i) (hv : encF c1 j = v) : ((List.range N).map (encF c0)).set j v = (List.range N).map (encF c1) := by
  refine List.ext_getElem? fun i => ?_
  rw [List.getElem?_set]
  by_cases e : j = i
  · subst e
    rw [if_pos rfl]
    by_cases hl : j < N
    · rw [encF_at hl, hv, if_pos (by simpa using hl)]
    · rw [if_neg (by simpa using hl), List.getElem?_eq_none (by simpa using hl)]
  · rw [if_neg e]
    by_cases hl : i < N
    · rw [encF_at hl, encF_at hl, h i (fun q => e q.symm)]
    · rw [List.getElem?_eq_none (by simpa using hl), List.getElem?_eq_none (by simpa using hl)]
theorem hlt14 {G : GG} {a kd : Nat} (h : knd G a = kd) (h2 : kd < 14) : knd G a < 14 := by omega
theorem j_getI (C : Cx p s m args c cc nL own D cy base) {ci j idx a : Nat} (hd : decode cc pc = .ok (.getfield idx, 3)) (h7 : ci < 7) (hj : j < nfO ci) (hw : Cond.fieldLink own idx (TO ci j).1 (TO ci j).2.1 (TO ci j).2.2.1 ∈ lwG) (hk : knd G a = ci) (hr : isRf ci j = false)
    (kk : JJ p l e R s m args below meth c nL D cy base S0 Q (pc + 3) ls (.inl (gi G a j) :: st) G k n) : JJ p l e R s m args below meth c nL D cy base S0 Q pc ls (.inr (.inl (some a)) :: st) G k n := by
  intro H locs la h1 h2 h3 h4
  obtain ⟨ws, q0, hP, hD, he, -⟩ := h2.at (hlt14 hk (by omega))
  rw [enc_o cy hk h7] at he
  have hk' : (G a).1 = ci := hk
  exact va_get (D := D) (ci := ci) (v := .int (gi G a j)) C.1 C.2.1 C.2.2.2.2.1 (in_ok ci h7) C.2.2.2.1 C.2.2.2.2.2.1 hP q0 he (vw_at ci h7) j hj (C.2.2.2.2.1 _ hw) (fun _ h => h) (by rw [encF_at hj]; simp only [encF, hk', hr]; rfl) hd (kk H locs la h1 h2 h3 h4)
theorem j_getR (C : Cx p s m args c cc nL own D cy base) {ci j idx a : Nat} (hd : decode cc pc = .ok (.getfield idx, 3)) (h7 : ci < 7) (hj : j < nfO ci) (hw : Cond.fieldLink own idx (TO ci j).1 (TO ci j).2.1 (TO ci j).2.2.1 ∈ lwG) (hk : knd G a = ci) (hr : isRf ci j = true)
    (kk : JJ p l e R s m args below meth c nL D cy base S0 Q (pc + 3) ls (.inr (.inl (gr G a j)) :: st) G k n) : JJ p l e R s m args below meth c nL D cy base S0 Q pc ls (.inr (.inl (some a)) :: st) G k n := by
  intro H locs la h1 h2 h3 h4
  obtain ⟨ws, q0, hP, hD, he, -⟩ := h2.at (hlt14 hk (by omega))
  rw [enc_o cy hk h7] at he
  have hk' : (G a).1 = ci := hk
  exact va_get (D := D) (ci := ci) (v := va_rf (gr G a j)) C.1 C.2.1 C.2.2.2.2.1 (in_ok ci h7) C.2.2.2.1 C.2.2.2.2.2.1 hP q0 he (vw_at ci h7) j hj (C.2.2.2.2.1 _ hw) (fun _ h => h) (by rw [encF_at hj]; simp only [encF, hk', hr]; rfl) hd (kk H locs la h1 h2 h3 h4)
theorem j_putI (C : Cx p s m args c cc nL own D cy base) {ci j idx a : Nat} {x : Int32} (hd : decode cc pc = .ok (.putfield idx, 3)) (h7 : ci < 7) (hj : j < nfO ci) (hw : Cond.fieldLink own idx (TO ci j).1 (TO ci j).2.1 (TO ci j).2.2.1 ∈ lwG) (hk : knd G a = ci) (hr : isRf ci j = false) (hfin : (TO ci j).2.2.2 = false ∨ ((TO ci j).2.2.2 = true ∧ meth.name = "<init>" ∧ (TO ci j).1 = own))
    (hn : narrow (tyOf ci j) (.int x) = .int x) (hf : fits (tyOf ci j) (.int x) = true)
    (kk : JJ p l e R s m args below meth c nL D cy base S0 Q (pc + 3) ls st (sI G a j x) k n) : JJ p l e R s m args below meth c nL D cy base S0 Q pc ls (.inl x :: .inr (.inl (some a)) :: st) G k n := by
  intro H locs la h1 h2 h3 h4
  obtain ⟨ws, q0, hP, hD, he, hset⟩ := h2.at (hlt14 hk (by omega))
  rw [enc_o cy hk h7] at he
  have hk' : (G a).1 = ci := hk
  have hlen : j < ((List.range (nfO ci)).map (encF (G a))).length := by simpa using hj
  have key : ∀ (H1 : Heap), va_P D vwCl (ws.set q0 (a, .inr (ci, ((List.range (nfO ci)).map (encF (G a))).set j (.int x)))) H1 → va_D (Ab base) (ws.set q0 (a, .inr (ci, ((List.range (nfO ci)).map (encF (G a))).set j (.int x)))) → Hp D cy base S0 (sI G a j x) H1 := by
    intro H1 q1 q2
    rw [encF_set (c1 := sI G a j x a) (fun i hi => by simp [sI, encF, va_up, hi]) (by simp [sI, encF, va_up, hk', hr]), ← enc_o cy (c := sI G a j x a) (by simp [sI, va_up, hk']) h7] at q1 q2
    have := hset _ H1 (by simp [sI, va_up, knd]) q1 q2
    have e : va_up G a (sI G a j x a) = sI G a j x := by
      unfold sI; funext b; unfold va_up; split <;> simp_all
    rw [e] at this
    exact this
  rcases hfin with hfin | ⟨hfin, hin, hown⟩
  · exact va_put (D := D) (ci := ci) (v := .int x) C.1 C.2.1 C.2.2.2.2.1 (in_ok ci h7) (tyOf ci) (ty_ok ci h7) (nm_ok ci h7) C.2.2.2.1 C.2.2.2.2.2.1 hP hD h3 q0 he (vw_at ci h7) j hj (C.2.2.2.2.1 _ hw) (fun _ h => h) hfin (ty_ok ci h7 j hj) hn hf hlen hd (fun H1 locs1 q1 q2 q3 => kk H1 locs1 la h1 (key H1 q1 q2) q3 h4)
  · exact va_putF (D := D) (ci := ci) (v := .int x) C.1 C.2.1 C.2.2.2.2.1 (in_ok ci h7) (tyOf ci) (ty_ok ci h7) (nm_ok ci h7) C.2.2.2.1 C.2.2.2.2.2.1 hP hD h3 q0 he (vw_at ci h7) j hj (C.2.2.2.2.1 _ hw) (fun _ h => h) hfin hin hown (ty_ok ci h7 j hj) hn hf hlen hd (fun H1 locs1 q1 q2 q3 => kk H1 locs1 la h1 (key H1 q1 q2) q3 h4)
theorem j_putR (C : Cx p s m args c cc nL own D cy base) {ci j idx a : Nat} {x : Option Nat} (hd : decode cc pc = .ok (.putfield idx, 3)) (h7 : ci < 7) (hj : j < nfO ci) (hw : Cond.fieldLink own idx (TO ci j).1 (TO ci j).2.1 (TO ci j).2.2.1 ∈ lwG) (hk : knd G a = ci) (hr : isRf ci j = true) (hfin : (TO ci j).2.2.2 = false ∨ ((TO ci j).2.2.2 = true ∧ meth.name = "<init>" ∧ (TO ci j).1 = own))
    (hn : narrow (tyOf ci j) (va_rf x) = va_rf x) (hf : fits (tyOf ci j) (va_rf x) = true)
    (kk : JJ p l e R s m args below meth c nL D cy base S0 Q (pc + 3) ls st (sR G a j x) k n) : JJ p l e R s m args below meth c nL D cy base S0 Q pc ls (.inr (.inl x) :: .inr (.inl (some a)) :: st) G k n := by
  intro H locs la h1 h2 h3 h4
  obtain ⟨ws, q0, hP, hD, he, hset⟩ := h2.at (hlt14 hk (by omega))
  rw [enc_o cy hk h7] at he
  have hk' : (G a).1 = ci := hk
  have hlen : j < ((List.range (nfO ci)).map (encF (G a))).length := by simpa using hj
  have key : ∀ (H1 : Heap), va_P D vwCl (ws.set q0 (a, .inr (ci, ((List.range (nfO ci)).map (encF (G a))).set j (va_rf x)))) H1 → va_D (Ab base) (ws.set q0 (a, .inr (ci, ((List.range (nfO ci)).map (encF (G a))).set j (va_rf x)))) → Hp D cy base S0 (sR G a j x) H1 := by
    intro H1 q1 q2
    rw [encF_set (c1 := sR G a j x a) (fun i hi => by simp [sR, encF, va_up, hi]) (by simp [sR, encF, va_up, hk', hr]), ← enc_o cy (c := sR G a j x a) (by simp [sR, va_up, hk']) h7] at q1 q2
    have := hset _ H1 (by simp [sR, va_up, knd]) q1 q2
    have e : va_up G a (sR G a j x a) = sR G a j x := by
      unfold sR; funext b; unfold va_up; split <;> simp_all
    rw [e] at this
    exact this
  rcases hfin with hfin | ⟨hfin, hin, hown⟩
  · exact va_put (D := D) (ci := ci) (v := va_rf x) C.1 C.2.1 C.2.2.2.2.1 (in_ok ci h7) (tyOf ci) (ty_ok ci h7) (nm_ok ci h7) C.2.2.2.1 C.2.2.2.2.2.1 hP hD h3 q0 he (vw_at ci h7) j hj (C.2.2.2.2.1 _ hw) (fun _ h => h) hfin (ty_ok ci h7 j hj) hn hf hlen hd (fun H1 locs1 q1 q2 q3 => kk H1 locs1 la h1 (key H1 q1 q2) q3 h4)
  · exact va_putF (D := D) (ci := ci) (v := va_rf x) C.1 C.2.1 C.2.2.2.2.1 (in_ok ci h7) (tyOf ci) (ty_ok ci h7) (nm_ok ci h7) C.2.2.2.1 C.2.2.2.2.2.1 hP hD h3 q0 he (vw_at ci h7) j hj (C.2.2.2.2.1 _ hw) (fun _ h => h) hfin hin hown (ty_ok ci h7 j hj) hn hf hlen hd (fun H1 locs1 q1 q2 q3 => kk H1 locs1 la h1 (key H1 q1 q2) q3 h4)
theorem j_iald (C : Cx p s m args c cc nL own D cy base) {a : Nat} {i : Int32} (hd : decode cc pc = .ok (.iaload, 1)) (hk : knd G a = 8) (hi : vp_in i (gn G a)) (kk : JJ p l e R s m args below meth c nL D cy base S0 Q (pc + 1) ls (.inl (gi G a i.toNatClampNeg) :: st) G k n) : JJ p l e R s m args below meth c nL D cy base S0 Q pc ls (.inl i :: .inr (.inl (some a)) :: st) G k n := by
  intro H locs la h1 h2 h3 h4
  obtain ⟨ws, q0, hP, hD, he, -⟩ := h2.at (hlt14 hk (by omega))
  rw [enc_i cy hk (by omega) (by omega)] at he
  exact va_iald C.1 C.2.1 C.2.2.2.2.2.1 hP q0 1 he rfl hi hd (kk H locs la h1 h2 h3 h4)
theorem j_bald (C : Cx p s m args c cc nL own D cy base) {a : Nat} {i : Int32} (hd : decode cc pc = .ok (.baload, 1)) (hk : knd G a = 7) (hi : vp_in i (gn G a)) (kk : JJ p l e R s m args below meth c nL D cy base S0 Q (pc + 1) ls (.inl (gi G a i.toNatClampNeg) :: st) G k n) : JJ p l e R s m args below meth c nL D cy base S0 Q pc ls (.inl i :: .inr (.inl (some a)) :: st) G k n := by
  intro H locs la h1 h2 h3 h4
  obtain ⟨ws, q0, hP, hD, he, -⟩ := h2.at (hlt14 hk (by omega))
  rw [enc_i cy hk (by omega) (by omega)] at he
  exact va_bald C.1 C.2.1 C.2.2.2.2.2.1 hP q0 0 he rfl hi hd (kk H locs la h1 h2 h3 h4)
theorem j_zald (C : Cx p s m args c cc nL own D cy base) {a : Nat} {i : Int32} (hd : decode cc pc = .ok (.baload, 1)) (hk : knd G a = 9) (hi : vp_in i (gn G a)) (kk : JJ p l e R s m args below meth c nL D cy base S0 Q (pc + 1) ls (.inl (gi G a i.toNatClampNeg) :: st) G k n) : JJ p l e R s m args below meth c nL D cy base S0 Q pc ls (.inl i :: .inr (.inl (some a)) :: st) G k n := by
  intro H locs la h1 h2 h3 h4
  obtain ⟨ws, q0, hP, hD, he, -⟩ := h2.at (hlt14 hk (by omega))
  rw [enc_i cy hk (by omega) (by omega)] at he
  exact va_zald C.1 C.2.1 C.2.2.2.2.2.1 hP q0 2 he rfl hi hd (kk H locs la h1 h2 h3 h4)
theorem j_lald (C : Cx p s m args c cc nL own D cy base) {a : Nat} {i : Int32} (hd : decode cc pc = .ok (.laload, 1)) (hk : knd G a = 10) (hi : vp_in i (gn G a)) (kk : JJ p l e R s m args below meth c nL D cy base S0 Q (pc + 1) ls (.inr (.inr (gl G a i.toNatClampNeg)) :: st) G k n) : JJ p l e R s m args below meth c nL D cy base S0 Q pc ls (.inl i :: .inr (.inl (some a)) :: st) G k n := by
  intro H locs la h1 h2 h3 h4
  obtain ⟨ws, q0, hP, hD, he, -⟩ := h2.at (hlt14 hk (by omega))
  rw [enc_l cy hk] at he
  exact va_lald C.1 C.2.1 C.2.2.2.2.2.1 hP q0 3 he rfl hi hd (kk H locs la h1 h2 h3 h4)
theorem j_aald (C : Cx p s m args c cc nL own D cy base) {a : Nat} {i : Int32} (hd : decode cc pc = .ok (.aaload, 1)) (hk : knd G a = 11 ∨ knd G a = 12 ∨ knd G a = 13) (hi : vp_in i (gn G a)) (kk : JJ p l e R s m args below meth c nL D cy base S0 Q (pc + 1) ls (.inr (.inl (gr G a i.toNatClampNeg)) :: st) G k n) : JJ p l e R s m args below meth c nL D cy base S0 Q pc ls (.inl i :: .inr (.inl (some a)) :: st) G k n := by
  intro H locs la h1 h2 h3 h4
  obtain ⟨ws, q0, hP, hD, he, -⟩ := h2.at (a := a) (by omega)
  rcases hk with hk | hk | hk
  · rw [enc_r cy hk (by omega)] at he
    exact va_aldq C.1 C.2.1 C.2.2.2.2.2.1 hP q0 4 he rfl hi hd (kk H locs la h1 h2 h3 h4)
  · rw [enc_r cy hk (by omega)] at he
    exact va_aldq C.1 C.2.1 C.2.2.2.2.2.1 hP q0 5 he rfl hi hd (kk H locs la h1 h2 h3 h4)
  · rw [enc_r cy hk (by omega)] at he
    exact va_aldq C.1 C.2.1 C.2.2.2.2.2.1 hP q0 6 he rfl hi hd (kk H locs la h1 h2 h3 h4)
theorem j_alen (C : Cx p s m args c cc nL own D cy base) {a : Nat} (hd : decode cc pc = .ok (.arraylength, 1)) (hk : 7 ≤ knd G a ∧ knd G a < 14) (kk : JJ p l e R s m args below meth c nL D cy base S0 Q (pc + 1) ls (.inl (nI (gn G a)) :: st) G k n) : JJ p l e R s m args below meth c nL D cy base S0 Q pc ls (.inr (.inl (some a)) :: st) G k n := by
  intro H locs la h1 h2 h3 h4
  obtain ⟨ws, q0, hP, hD, he, -⟩ := h2.at (a := a) (by omega)
  have h : knd G a = 7 ∨ knd G a = 8 ∨ knd G a = 9 ∨ knd G a = 10 ∨ knd G a = 11 ∨ knd G a = 12 ∨ knd G a = 13 := by omega
  rcases h with hk | hk | hk | hk | hk | hk | hk
  · rw [enc_i cy hk (by omega) (by omega)] at he
    exact va_alen (v := nI (gn G a)) C.1 C.2.1 C.2.2.2.2.2.1 hP q0 0 he (ty := .byte) rfl rfl hd (kk H locs la h1 h2 h3 h4)
  · rw [enc_i cy hk (by omega) (by omega)] at he
    exact va_alen (v := nI (gn G a)) C.1 C.2.1 C.2.2.2.2.2.1 hP q0 1 he (ty := .int) rfl rfl hd (kk H locs la h1 h2 h3 h4)
  · rw [enc_i cy hk (by omega) (by omega)] at he
    exact va_alen (v := nI (gn G a)) C.1 C.2.1 C.2.2.2.2.2.1 hP q0 2 he (ty := .boolean) rfl rfl hd (kk H locs la h1 h2 h3 h4)
  · rw [enc_l cy hk] at he
    exact va_alen (v := nI (gn G a)) C.1 C.2.1 C.2.2.2.2.2.1 hP q0 3 he (ty := .long) rfl rfl hd (kk H locs la h1 h2 h3 h4)
  · rw [enc_r cy hk (by omega)] at he
    exact va_alen (v := nI (gn G a)) C.1 C.2.1 C.2.2.2.2.2.1 hP q0 4 he (ty := .object RX0) rfl rfl hd (kk H locs la h1 h2 h3 h4)
  · rw [enc_r cy hk (by omega)] at he
    exact va_alen (v := nI (gn G a)) C.1 C.2.1 C.2.2.2.2.2.1 hP q0 5 he (ty := .object RX1) rfl rfl hd (kk H locs la h1 h2 h3 h4)
  · rw [enc_r cy hk (by omega)] at he
    exact va_alen (v := nI (gn G a)) C.1 C.2.1 C.2.2.2.2.2.1 hP q0 6 he (ty := .object RX4) rfl rfl hd (kk H locs la h1 h2 h3 h4)
theorem j_iast (C : Cx p s m args c cc nL own D cy base) {a : Nat} {i x : Int32} (hd : decode cc pc = .ok (.iastore, 1)) (hk : knd G a = 8) (hi : vp_in i (gn G a)) (kk : JJ p l e R s m args below meth c nL D cy base S0 Q (pc + 1) ls st (sI G a i.toNatClampNeg x) k n) : JJ p l e R s m args below meth c nL D cy base S0 Q pc ls (.inl x :: .inl i :: .inr (.inl (some a)) :: st) G k n := by
  intro H locs la h1 h2 h3 h4
  obtain ⟨ws, q0, hP, hD, he, hset⟩ := h2.at (hlt14 hk (by omega))
  rw [enc_i cy hk (by omega) (by omega)] at he
  refine va_iast C.1 C.2.1 C.2.2.2.2.2.1 hP hD h3 q0 1 he rfl hi hd (fun H1 locs1 q1 q2 q3 => kk H1 locs1 la h1 ?_ q3 h4)
  have e2 : enc cy (sI G a i.toNatClampNeg x a) = .inl (cy 8, (G a).2.1, .inl (upd (G a).2.2.1 i.toNatClampNeg x)) := by
    have hk' : (G a).1 = 8 := hk
    rw [enc_i cy (c := sI G a i.toNatClampNeg x a) (kd := 8) (by simp [sI, va_up, hk']) (by omega) (by omega)]
    simp [sI, va_up, upd]
    rfl
  have e3 : va_up G a (sI G a i.toNatClampNeg x a) = sI G a i.toNatClampNeg x := by
    unfold sI; funext b; unfold va_up; split <;> simp_all
  rw [← e3]
  exact hset _ H1 (by simp [sI, va_up, knd]) (by rw [e2]; exact q1) (by rw [e2]; exact q2)
theorem j_bast (C : Cx p s m args c cc nL own D cy base) {a : Nat} {i x : Int32} (hd : decode cc pc = .ok (.bastore, 1)) (hk : knd G a = 7) (hi : vp_in i (gn G a)) (kk : JJ p l e R s m args below meth c nL D cy base S0 Q (pc + 1) ls st (sI G a i.toNatClampNeg (vp_nar .byte x)) k n) : JJ p l e R s m args below meth c nL D cy base S0 Q pc ls (.inl x :: .inl i :: .inr (.inl (some a)) :: st) G k n := by
  intro H locs la h1 h2 h3 h4
  obtain ⟨ws, q0, hP, hD, he, hset⟩ := h2.at (hlt14 hk (by omega))
  rw [enc_i cy hk (by omega) (by omega)] at he
  refine va_bast C.1 C.2.1 C.2.2.2.2.2.1 hP hD h3 q0 0 he rfl hi hd (fun H1 locs1 q1 q2 q3 => kk H1 locs1 la h1 ?_ q3 h4)
  have e2 : enc cy (sI G a i.toNatClampNeg (vp_nar .byte x) a) = .inl (cy 7, (G a).2.1, .inl (upd (G a).2.2.1 i.toNatClampNeg (vp_nar .byte x))) := by
    have hk' : (G a).1 = 7 := hk
    rw [enc_i cy (c := sI G a i.toNatClampNeg (vp_nar .byte x) a) (kd := 7) (by simp [sI, va_up, hk']) (by omega) (by omega)]
    simp [sI, va_up, upd]
    rfl
  have e3 : va_up G a (sI G a i.toNatClampNeg (vp_nar .byte x) a) = sI G a i.toNatClampNeg (vp_nar .byte x) := by
    unfold sI; funext b; unfold va_up; split <;> simp_all
  rw [← e3]
  exact hset _ H1 (by simp [sI, va_up, knd]) (by rw [e2]; exact q1) (by rw [e2]; exact q2)
theorem j_zast (C : Cx p s m args c cc nL own D cy base) {a : Nat} {i x : Int32} (hd : decode cc pc = .ok (.bastore, 1)) (hk : knd G a = 9) (hi : vp_in i (gn G a)) (kk : JJ p l e R s m args below meth c nL D cy base S0 Q (pc + 1) ls st (sI G a i.toNatClampNeg (vp_nar .boolean x)) k n) : JJ p l e R s m args below meth c nL D cy base S0 Q pc ls (.inl x :: .inl i :: .inr (.inl (some a)) :: st) G k n := by
  intro H locs la h1 h2 h3 h4
  obtain ⟨ws, q0, hP, hD, he, hset⟩ := h2.at (hlt14 hk (by omega))
  rw [enc_i cy hk (by omega) (by omega)] at he
  refine va_zast C.1 C.2.1 C.2.2.2.2.2.1 hP hD h3 q0 2 he rfl hi hd (fun H1 locs1 q1 q2 q3 => kk H1 locs1 la h1 ?_ q3 h4)
  have e2 : enc cy (sI G a i.toNatClampNeg (vp_nar .boolean x) a) = .inl (cy 9, (G a).2.1, .inl (upd (G a).2.2.1 i.toNatClampNeg (vp_nar .boolean x))) := by
    have hk' : (G a).1 = 9 := hk
    rw [enc_i cy (c := sI G a i.toNatClampNeg (vp_nar .boolean x) a) (kd := 9) (by simp [sI, va_up, hk']) (by omega) (by omega)]
    simp [sI, va_up, upd]
    rfl
  have e3 : va_up G a (sI G a i.toNatClampNeg (vp_nar .boolean x) a) = sI G a i.toNatClampNeg (vp_nar .boolean x) := by
    unfold sI; funext b; unfold va_up; split <;> simp_all
  rw [← e3]
  exact hset _ H1 (by simp [sI, va_up, knd]) (by rw [e2]; exact q1) (by rw [e2]; exact q2)
theorem j_last (C : Cx p s m args c cc nL own D cy base) {a : Nat} {i : Int32} {x : Int64} (hd : decode cc pc = .ok (.lastore, 1)) (hk : knd G a = 10) (hi : vp_in i (gn G a)) (kk : JJ p l e R s m args below meth c nL D cy base S0 Q (pc + 1) ls st (sL G a i.toNatClampNeg x) k n) : JJ p l e R s m args below meth c nL D cy base S0 Q pc ls (.inr (.inr x) :: .inl i :: .inr (.inl (some a)) :: st) G k n := by
  intro H locs la h1 h2 h3 h4
  obtain ⟨ws, q0, hP, hD, he, hset⟩ := h2.at (hlt14 hk (by omega))
  rw [enc_l cy hk] at he
  refine va_last C.1 C.2.1 C.2.2.2.2.2.1 hP hD h3 q0 3 he rfl hi hd (fun H1 locs1 q1 q2 q3 => kk H1 locs1 la h1 ?_ q3 h4)
  have e2 : enc cy (sL G a i.toNatClampNeg x a) = .inl (cy 10, (G a).2.1, .inr (.inl (vp_updL (G a).2.2.2.2 i.toNatClampNeg x))) := by
    have hk' : (G a).1 = 10 := hk
    rw [enc_l cy (c := sL G a i.toNatClampNeg x a) (by simp [sL, va_up, hk'])]
    simp only [sL, va_up, if_pos]
    rfl
  have e3 : va_up G a (sL G a i.toNatClampNeg x a) = sL G a i.toNatClampNeg x := by
    unfold sL; funext b; unfold va_up; split <;> simp_all
  rw [← e3]
  exact hset _ H1 (by simp [sL, va_up, knd]) (by rw [e2]; exact q1) (by rw [e2]; exact q2)
theorem cells_two {D : va_G} {cy : Nat → ClassId} {base : Nat} {S0 G : GG} {H : Heap} (h : Hp D cy base S0 G H) {a b : Nat} (ha : knd G a < 14) (hb : knd G b < 14) :
    ∃ (ws : va_W) (q0 q1 : Nat), va_P D vwCl ws H ∧ va_D (Ab base) ws ∧ ws[q0]? = some (a, enc cy (G a)) ∧ ws[q1]? = some (b, enc cy (G b)) ∧
      ∀ (c : Cl) (H1 : Heap), c.1 = knd G a → va_P D vwCl (ws.set q0 (a, enc cy c)) H1 → va_D (Ab base) (ws.set q0 (a, enc cy c)) → Hp D cy base S0 (va_up G a c) H1 := by
  obtain ⟨L, hL, h14, hP, hD⟩ := id h
  have haL : a ∈ L := (hL a).mpr ha
  obtain ⟨k, hk⟩ := va_pl_get (X := []) (f := fun a => enc cy (G a)) haL
  obtain ⟨k2, hk2⟩ := va_pl_get (X := []) (f := fun a => enc cy (G a)) ((hL b).mpr hb)
  refine ⟨[] ++ va_pl L (fun a => enc cy (G a)), k, k2, hP, hD, hk, hk2, fun c H1 hc hP1 hD1 => ?_⟩
  have hkk : ∀ b, knd (va_up G a c) b = knd G b := fun b => by
    unfold knd va_up at *
    by_cases hb : b = a
    · subst hb; simp [hc]
    · simp [hb]
  rw [va_pl_set (X := []) hD haL hk, plc] at hP1 hD1
  refine ⟨L, fun b => by rw [hkk]; exact hL b, fun b hb => ?_, hP1, hD1⟩
  rw [hkk] at hb
  have hne : b ≠ a := fun e => by subst e; omega
  have hu : va_up G a c b = G b := by unfold va_up; rw [if_neg hne]
  rcases h14 b hb with ⟨q1, q2⟩ | q
  · exact Or.inl ⟨q1, by rw [hu]; exact q2⟩
  · exact Or.inr (by rw [hkk]; exact q)
theorem encR_up {cy : Nat → ClassId} {G : GG} {a kd i : Nat} {x : Option Nat} (hk : knd G a = kd) (h : 10 < kd) : enc cy (sR G a i x a) = .inl (cy kd, (G a).2.1, .inr (.inr (.inr (.inr (va_up (G a).2.2.2.1 i x))))) := by
  have hk' : (G a).1 = kd := hk
  rw [enc_r cy (c := sR G a i x a) (kd := kd) (by simp [sR, va_up, hk']) h]
  simp [sR, va_up]
theorem sR_up {G : GG} {a i : Nat} {x : Option Nat} : va_up G a (sR G a i x a) = sR G a i x := by
  unfold sR; funext b; unfold va_up; split <;> simp_all
theorem j_aast11 (C : Cx p s m args c cc nL own D cy base) {a v : Nat} {i : Int32} (hd : decode cc pc = .ok (.aastore, 1)) (hk : knd G a = 11) (hv : knd G v = 0) (hi : vp_in i (gn G a)) (kk : JJ p l e R s m args below meth c nL D cy base S0 Q (pc + 1) ls st (sR G a i.toNatClampNeg (some v)) k n) : JJ p l e R s m args below meth c nL D cy base S0 Q pc ls (.inr (.inl (some v)) :: .inl i :: .inr (.inl (some a)) :: st) G k n := by
  intro H locs la h1 h2 h3 h4
  obtain ⟨ws, q0, q1, hP, hD, he, he1, hset⟩ := cells_two h2 (hlt14 hk (by omega)) (hlt14 hv (by omega))
  rw [enc_r cy hk (by omega)] at he
  rw [enc_o cy hv (by omega)] at he1
  refine va_astq C.1 C.2.1 C.2.2.2.2.2.1 hP hD h3 q0 4 q1 0 (r := (RO 0, TO 0, nfO 0)) he rfl he1 (vw_at 0 (by omega)) hi hd (fun H1 locs1 g1 g2 g3 => kk H1 locs1 la h1 ?_ g3 h4)
  rw [← sR_up]
  exact hset _ H1 (by simp [sR, va_up, knd]) (by rw [encR_up hk (by omega)]; exact g1) (by rw [encR_up hk (by omega)]; exact g2)
theorem j_aast12 (C : Cx p s m args c cc nL own D cy base) {a v : Nat} {i : Int32} (hd : decode cc pc = .ok (.aastore, 1)) (hk : knd G a = 12) (hv : knd G v = 1) (hi : vp_in i (gn G a)) (kk : JJ p l e R s m args below meth c nL D cy base S0 Q (pc + 1) ls st (sR G a i.toNatClampNeg (some v)) k n) : JJ p l e R s m args below meth c nL D cy base S0 Q pc ls (.inr (.inl (some v)) :: .inl i :: .inr (.inl (some a)) :: st) G k n := by
  intro H locs la h1 h2 h3 h4
  obtain ⟨ws, q0, q1, hP, hD, he, he1, hset⟩ := cells_two h2 (hlt14 hk (by omega)) (hlt14 hv (by omega))
  rw [enc_r cy hk (by omega)] at he
  rw [enc_o cy hv (by omega)] at he1
  refine va_astq C.1 C.2.1 C.2.2.2.2.2.1 hP hD h3 q0 5 q1 1 (r := (RO 1, TO 1, nfO 1)) he rfl he1 (vw_at 1 (by omega)) hi hd (fun H1 locs1 g1 g2 g3 => kk H1 locs1 la h1 ?_ g3 h4)
  rw [← sR_up]
  exact hset _ H1 (by simp [sR, va_up, knd]) (by rw [encR_up hk (by omega)]; exact g1) (by rw [encR_up hk (by omega)]; exact g2)
theorem j_aast13 (C : Cx p s m args c cc nL own D cy base) {a v : Nat} {i : Int32} (hd : decode cc pc = .ok (.aastore, 1)) (hk : knd G a = 13) (hv : knd G v = 4) (hi : vp_in i (gn G a)) (kk : JJ p l e R s m args below meth c nL D cy base S0 Q (pc + 1) ls st (sR G a i.toNatClampNeg (some v)) k n) : JJ p l e R s m args below meth c nL D cy base S0 Q pc ls (.inr (.inl (some v)) :: .inl i :: .inr (.inl (some a)) :: st) G k n := by
  intro H locs la h1 h2 h3 h4
  obtain ⟨ws, q0, q1, hP, hD, he, he1, hset⟩ := cells_two h2 (hlt14 hk (by omega)) (hlt14 hv (by omega))
  rw [enc_r cy hk (by omega)] at he
  rw [enc_o cy hv (by omega)] at he1
  refine va_astq C.1 C.2.1 C.2.2.2.2.2.1 hP hD h3 q0 6 q1 4 (r := (RO 4, TO 4, nfO 4)) he rfl he1 (vw_at 4 (by omega)) hi hd (fun H1 locs1 g1 g2 g3 => kk H1 locs1 la h1 ?_ g3 h4)
  rw [← sR_up]
  exact hset _ H1 (by simp [sR, va_up, knd]) (by rw [encR_up hk (by omega)]; exact g1) (by rw [encR_up hk (by omega)]; exact g2)
theorem j_aastN (C : Cx p s m args c cc nL own D cy base) {a : Nat} {i : Int32} (hd : decode cc pc = .ok (.aastore, 1)) (hk : knd G a = 12) (hi : vp_in i (gn G a)) (kk : JJ p l e R s m args below meth c nL D cy base S0 Q (pc + 1) ls st (sR G a i.toNatClampNeg none) k n) : JJ p l e R s m args below meth c nL D cy base S0 Q pc ls (.inr (.inl none) :: .inl i :: .inr (.inl (some a)) :: st) G k n := by
  intro H locs la h1 h2 h3 h4
  obtain ⟨ws, q0, hP, hD, he, hset⟩ := h2.at (hlt14 hk (by omega))
  rw [enc_r cy hk (by omega)] at he
  refine va_astqN C.1 C.2.1 C.2.2.2.2.2.1 hP hD h3 q0 5 he rfl hi hd (fun H1 locs1 g1 g2 g3 => kk H1 locs1 la h1 ?_ g3 h4)
  rw [← sR_up]
  exact hset _ H1 (by simp [sR, va_up, knd]) (by rw [encR_up hk (by omega)]; exact g1) (by rw [encR_up hk (by omega)]; exact g2)
end JH
end
section
section JN
variable {p : Program} {l : Launch} {e : Env} {R : Room} {s : State} {m : MethodId} {args : Array Value} {below : List Frame} {meth : Method} {c : Code} {nL : Nat} {D : va_G} {cy : Nat → ClassId} {base : Nat} {S0 : GG} {Q : State → Prop}
variable {cc : ByteArray} {own : String} {pc : Nat} {ls : List (Option AV)} {st : List AV} {G : GG} {k n : Nat}
def zc (kd N : Nat) : Cl := (kd, N, fun _ => 0, fun _ => none, fun _ => 0)
theorem nw_up (G : GG) (a kd N : Nat) : va_up G a (zc kd N) = nw G a kd N := rfl
theorem dflt_ok : ∀ ci, ci < 7 → ∀ j, j < nfO ci → defaultValue (tyOf ci j) = encF (zc ci 0) j := by7 (by decide +kernel) (by decide +kernel) (by decide +kernel) (by decide +kernel) (by decide +kernel) (by decide +kernel) (by decide +kernel)
theorem j_new (C : Cx p s m args c cc nL own D cy base) {ci idx : Nat} (hd : decode cc pc = .ok (.new idx, 3)) (h7 : ci < 7) (hw : Cond.classLink own idx (RO ci) ∈ lwG) (hc : k + 1 ≤ R.cells) (hs : n + nfO ci ≤ R.slots)
    (kk : ∀ a, knd G a = 99 → JJ p l e R s m args below meth c nL D cy base S0 Q (pc + 3) ls (.inr (.inl (some a)) :: st) (nw G a ci 0) (k + 1) (n + nfO ci)) : JJ p l e R s m args below meth c nL D cy base S0 Q pc ls st G k n := by
  intro H locs la h1 h2 h3 h4
  obtain ⟨ws, hP, hD, hmore⟩ := h2.more
  refine va_new (ci := ci) (fs := (List.range (nfO ci)).map (encF (zc ci 0))) C.1 C.2.1 C.2.2.2.2.1 (in_ok ci h7) (tyOf ci) (ty_ok ci h7) C.2.2.2.1 (C.2.2.2.2.1 _ hw) (C.2.2.2.2.1 _ (inst_ok ci h7)) (C.2.2.2.2.1 _ (init_ok ci h7)) C.2.2.2.2.2.1 hP hD h3 (hAb C) (vw_at ci h7) (fun j hj => ?_) hc hs hd (fun q H1 g1 g2 g3 => ?_)
  · rw [dflt_ok ci h7 j hj]; unfold vp_V; rw [List.getD_eq_getElem?_getD, encF_at hj]; rfl
  · have e : enc cy (zc ci 0) = .inr (ci, (List.range (nfO ci)).map (encF (zc ci 0))) := enc_o cy rfl h7
    obtain ⟨q99, hq⟩ := hmore q (zc ci 0) H1 (show ci < 14 by omega) (by rw [e]; exact g1) (by rw [e]; exact g2)
    exact kk q q99 H1 locs la h1 hq g3 h4
theorem j_newa7 (C : Cx p s m args c cc nL own D cy base) {x : Int32} (hd : decode cc pc = .ok (.newarray .byte, 2)) (h0 : 0 ≤ x.toInt) (hN : x.toInt ≤ 60000) (hc : k + 1 ≤ R.cells) (hs : n + x.toNatClampNeg ≤ R.slots)
    (kk : ∀ a, knd G a = 99 → JJ p l e R s m args below meth c nL D cy base S0 Q (pc + 2) ls (.inr (.inl (some a)) :: st) (nw G a 7 x.toNatClampNeg) (k + 1) (n + x.toNatClampNeg)) : JJ p l e R s m args below meth c nL D cy base S0 Q pc ls (.inl x :: st) G k n := by
  intro H locs la h1 h2 h3 h4
  obtain ⟨ws, hP, hD, hmore⟩ := h2.more
  have hb : x.toNatClampNeg ≤ 60000 := by unfold Int32.toNatClampNeg; omega
  refine va_newa (atype := .byte) (ty := .byte) (a0 := (x.toNatClampNeg, .inl (fun _ => 0))) C.1 C.2.1 (C.2.2.2.2.1 _ (by decide +kernel : Cond.arrayClass .byte ∈ lwG)) rfl C.2.2.2.2.2.1 hP hD h3 (hAb C) (fun _ => rfl) (by rw [Int32.lt_iff_toInt_lt]; simp; omega) rfl (by simp [componentBytes]; omega) hc hs hd (fun q cA H1 g0 g1 g2 g3 => ?_)
  have ecA : cA = cy 7 := by
    have r1 := (g0.2 7 (cA, .byte) rfl).2
    have r2 := (g0.2 0 (cy 7, .byte) rfl).2
    exact Option.some.inj (r1.symm.trans r2)
  subst ecA
  have e : enc cy (zc 7 x.toNatClampNeg) = .inl (cy 7, x.toNatClampNeg, .inl (fun _ => 0)) := enc_i cy rfl (by omega) (by omega)
  obtain ⟨q99, hq⟩ := hmore q (zc 7 x.toNatClampNeg) H1 (show 7 < 14 by decide) (by rw [e]; exact g1) (by rw [e]; exact g2)
  exact kk q q99 H1 locs la h1 hq g3 h4
theorem j_newa8 (C : Cx p s m args c cc nL own D cy base) {x : Int32} (hd : decode cc pc = .ok (.newarray .int, 2)) (h0 : 0 ≤ x.toInt) (hN : x.toInt ≤ 60000) (hc : k + 1 ≤ R.cells) (hs : n + x.toNatClampNeg ≤ R.slots)
    (kk : ∀ a, knd G a = 99 → JJ p l e R s m args below meth c nL D cy base S0 Q (pc + 2) ls (.inr (.inl (some a)) :: st) (nw G a 8 x.toNatClampNeg) (k + 1) (n + x.toNatClampNeg)) : JJ p l e R s m args below meth c nL D cy base S0 Q pc ls (.inl x :: st) G k n := by
  intro H locs la h1 h2 h3 h4
  obtain ⟨ws, hP, hD, hmore⟩ := h2.more
  have hb : x.toNatClampNeg ≤ 60000 := by unfold Int32.toNatClampNeg; omega
  refine va_newa (atype := .int) (ty := .int) (a0 := (x.toNatClampNeg, .inl (fun _ => 0))) C.1 C.2.1 (C.2.2.2.2.1 _ (by decide +kernel : Cond.arrayClass .int ∈ lwG)) rfl C.2.2.2.2.2.1 hP hD h3 (hAb C) (fun _ => rfl) (by rw [Int32.lt_iff_toInt_lt]; simp; omega) rfl (by simp [componentBytes]; omega) hc hs hd (fun q cA H1 g0 g1 g2 g3 => ?_)
  have ecA : cA = cy 8 := by
    have r1 := (g0.2 7 (cA, .int) rfl).2
    have r2 := (g0.2 1 (cy 8, .int) rfl).2
    exact Option.some.inj (r1.symm.trans r2)
  subst ecA
  have e : enc cy (zc 8 x.toNatClampNeg) = .inl (cy 8, x.toNatClampNeg, .inl (fun _ => 0)) := enc_i cy rfl (by omega) (by omega)
  obtain ⟨q99, hq⟩ := hmore q (zc 8 x.toNatClampNeg) H1 (show 8 < 14 by decide) (by rw [e]; exact g1) (by rw [e]; exact g2)
  exact kk q q99 H1 locs la h1 hq g3 h4
theorem j_newa9 (C : Cx p s m args c cc nL own D cy base) {x : Int32} (hd : decode cc pc = .ok (.newarray .boolean, 2)) (h0 : 0 ≤ x.toInt) (hN : x.toInt ≤ 60000) (hc : k + 1 ≤ R.cells) (hs : n + x.toNatClampNeg ≤ R.slots)
    (kk : ∀ a, knd G a = 99 → JJ p l e R s m args below meth c nL D cy base S0 Q (pc + 2) ls (.inr (.inl (some a)) :: st) (nw G a 9 x.toNatClampNeg) (k + 1) (n + x.toNatClampNeg)) : JJ p l e R s m args below meth c nL D cy base S0 Q pc ls (.inl x :: st) G k n := by
  intro H locs la h1 h2 h3 h4
  obtain ⟨ws, hP, hD, hmore⟩ := h2.more
  have hb : x.toNatClampNeg ≤ 60000 := by unfold Int32.toNatClampNeg; omega
  refine va_newa (atype := .boolean) (ty := .boolean) (a0 := (x.toNatClampNeg, .inl (fun _ => 0))) C.1 C.2.1 (C.2.2.2.2.1 _ (by decide +kernel : Cond.arrayClass .boolean ∈ lwG)) rfl C.2.2.2.2.2.1 hP hD h3 (hAb C) (fun _ => rfl) (by rw [Int32.lt_iff_toInt_lt]; simp; omega) rfl (by simp [componentBytes]; omega) hc hs hd (fun q cA H1 g0 g1 g2 g3 => ?_)
  have ecA : cA = cy 9 := by
    have r1 := (g0.2 7 (cA, .boolean) rfl).2
    have r2 := (g0.2 2 (cy 9, .boolean) rfl).2
    exact Option.some.inj (r1.symm.trans r2)
  subst ecA
  have e : enc cy (zc 9 x.toNatClampNeg) = .inl (cy 9, x.toNatClampNeg, .inl (fun _ => 0)) := enc_i cy rfl (by omega) (by omega)
  obtain ⟨q99, hq⟩ := hmore q (zc 9 x.toNatClampNeg) H1 (show 9 < 14 by decide) (by rw [e]; exact g1) (by rw [e]; exact g2)
  exact kk q q99 H1 locs la h1 hq g3 h4
theorem j_newa10 (C : Cx p s m args c cc nL own D cy base) {x : Int32} (hd : decode cc pc = .ok (.newarray .long, 2)) (h0 : 0 ≤ x.toInt) (hN : x.toInt ≤ 60000) (hc : k + 1 ≤ R.cells) (hs : n + x.toNatClampNeg ≤ R.slots)
    (kk : ∀ a, knd G a = 99 → JJ p l e R s m args below meth c nL D cy base S0 Q (pc + 2) ls (.inr (.inl (some a)) :: st) (nw G a 10 x.toNatClampNeg) (k + 1) (n + x.toNatClampNeg)) : JJ p l e R s m args below meth c nL D cy base S0 Q pc ls (.inl x :: st) G k n := by
  intro H locs la h1 h2 h3 h4
  obtain ⟨ws, hP, hD, hmore⟩ := h2.more
  have hb : x.toNatClampNeg ≤ 60000 := by unfold Int32.toNatClampNeg; omega
  refine va_newa (atype := .long) (ty := .long) (a0 := (x.toNatClampNeg, .inr (.inl (fun _ => 0)))) C.1 C.2.1 (C.2.2.2.2.1 _ (by decide +kernel : Cond.arrayClass .long ∈ lwG)) rfl C.2.2.2.2.2.1 hP hD h3 (hAb C) (fun _ => rfl) (by rw [Int32.lt_iff_toInt_lt]; simp; omega) rfl (by simp [componentBytes]; omega) hc hs hd (fun q cA H1 g0 g1 g2 g3 => ?_)
  have ecA : cA = cy 10 := by
    have r1 := (g0.2 7 (cA, .long) rfl).2
    have r2 := (g0.2 3 (cy 10, .long) rfl).2
    exact Option.some.inj (r1.symm.trans r2)
  subst ecA
  have e : enc cy (zc 10 x.toNatClampNeg) = .inl (cy 10, x.toNatClampNeg, .inr (.inl (fun _ => 0))) := enc_l cy rfl
  obtain ⟨q99, hq⟩ := hmore q (zc 10 x.toNatClampNeg) H1 (show 10 < 14 by decide) (by rw [e]; exact g1) (by rw [e]; exact g2)
  exact kk q q99 H1 locs la h1 hq g3 h4
theorem j_anew11 (C : Cx p s m args c cc nL own D cy base) {idx : Nat} {x : Int32} (hd : decode cc pc = .ok (.anewarray idx, 3)) (hO : va_AO RX0 s) (hw : Cond.classLink own idx RX0 ∈ lwG) (h0 : 0 ≤ x.toInt) (hN : x.toInt ≤ 60000) (hc : k + 1 ≤ R.cells) (hs : n + x.toNatClampNeg ≤ R.slots)
    (kk : ∀ a, knd G a = 99 → JJ p l e R s m args below meth c nL D cy base S0 Q (pc + 3) ls (.inr (.inl (some a)) :: st) (nw G a 11 x.toNatClampNeg) (k + 1) (n + x.toNatClampNeg)) : JJ p l e R s m args below meth c nL D cy base S0 Q pc ls (.inl x :: st) G k n := by
  intro H locs la h1 h2 h3 h4
  obtain ⟨ws, hP, hD, hmore⟩ := h2.more
  have hb : x.toNatClampNeg ≤ 60000 := by unfold Int32.toNatClampNeg; omega
  refine va_newq (C := RX0) C.1 C.2.1 C.2.2.2.1 (C.2.2.2.2.1 _ hw) hO C.2.2.2.2.2.1 hP hD h3 (hAb C) (by rw [Int32.lt_iff_toInt_lt]; simp; omega) rfl (by omega) hc hs hd (fun q cA H1 g0 g1 g2 g3 => ?_)
  have ecA : cA = cy 11 := by
    obtain ⟨-, -, -, -, -, r1⟩ := (g0.2 7 (cA, .object RX0) rfl).2
    obtain ⟨-, -, -, -, -, r2⟩ := (g0.2 4 (cy 11, .object RX0) rfl).2
    exact Option.some.inj (r1.symm.trans r2)
  subst ecA
  have e : enc cy (zc 11 x.toNatClampNeg) = .inl (cy 11, x.toNatClampNeg, .inr (.inr (.inr (.inr (fun _ => none))))) := enc_r cy rfl (by omega)
  obtain ⟨q99, hq⟩ := hmore q (zc 11 x.toNatClampNeg) H1 (show 11 < 14 by decide) (by rw [e]; exact g1) (by rw [e]; exact g2)
  exact kk q q99 H1 locs la h1 hq g3 h4
theorem j_anew12 (C : Cx p s m args c cc nL own D cy base) {idx : Nat} {x : Int32} (hd : decode cc pc = .ok (.anewarray idx, 3)) (hO : va_AO RX1 s) (hw : Cond.classLink own idx RX1 ∈ lwG) (h0 : 0 ≤ x.toInt) (hN : x.toInt ≤ 60000) (hc : k + 1 ≤ R.cells) (hs : n + x.toNatClampNeg ≤ R.slots)
    (kk : ∀ a, knd G a = 99 → JJ p l e R s m args below meth c nL D cy base S0 Q (pc + 3) ls (.inr (.inl (some a)) :: st) (nw G a 12 x.toNatClampNeg) (k + 1) (n + x.toNatClampNeg)) : JJ p l e R s m args below meth c nL D cy base S0 Q pc ls (.inl x :: st) G k n := by
  intro H locs la h1 h2 h3 h4
  obtain ⟨ws, hP, hD, hmore⟩ := h2.more
  have hb : x.toNatClampNeg ≤ 60000 := by unfold Int32.toNatClampNeg; omega
  refine va_newq (C := RX1) C.1 C.2.1 C.2.2.2.1 (C.2.2.2.2.1 _ hw) hO C.2.2.2.2.2.1 hP hD h3 (hAb C) (by rw [Int32.lt_iff_toInt_lt]; simp; omega) rfl (by omega) hc hs hd (fun q cA H1 g0 g1 g2 g3 => ?_)
  have ecA : cA = cy 12 := by
    obtain ⟨-, -, -, -, -, r1⟩ := (g0.2 7 (cA, .object RX1) rfl).2
    obtain ⟨-, -, -, -, -, r2⟩ := (g0.2 5 (cy 12, .object RX1) rfl).2
    exact Option.some.inj (r1.symm.trans r2)
  subst ecA
  have e : enc cy (zc 12 x.toNatClampNeg) = .inl (cy 12, x.toNatClampNeg, .inr (.inr (.inr (.inr (fun _ => none))))) := enc_r cy rfl (by omega)
  obtain ⟨q99, hq⟩ := hmore q (zc 12 x.toNatClampNeg) H1 (show 12 < 14 by decide) (by rw [e]; exact g1) (by rw [e]; exact g2)
  exact kk q q99 H1 locs la h1 hq g3 h4
theorem j_anew13 (C : Cx p s m args c cc nL own D cy base) {idx : Nat} {x : Int32} (hd : decode cc pc = .ok (.anewarray idx, 3)) (hO : va_AO RX4 s) (hw : Cond.classLink own idx RX4 ∈ lwG) (h0 : 0 ≤ x.toInt) (hN : x.toInt ≤ 60000) (hc : k + 1 ≤ R.cells) (hs : n + x.toNatClampNeg ≤ R.slots)
    (kk : ∀ a, knd G a = 99 → JJ p l e R s m args below meth c nL D cy base S0 Q (pc + 3) ls (.inr (.inl (some a)) :: st) (nw G a 13 x.toNatClampNeg) (k + 1) (n + x.toNatClampNeg)) : JJ p l e R s m args below meth c nL D cy base S0 Q pc ls (.inl x :: st) G k n := by
  intro H locs la h1 h2 h3 h4
  obtain ⟨ws, hP, hD, hmore⟩ := h2.more
  have hb : x.toNatClampNeg ≤ 60000 := by unfold Int32.toNatClampNeg; omega
  refine va_newq (C := RX4) C.1 C.2.1 C.2.2.2.1 (C.2.2.2.2.1 _ hw) hO C.2.2.2.2.2.1 hP hD h3 (hAb C) (by rw [Int32.lt_iff_toInt_lt]; simp; omega) rfl (by omega) hc hs hd (fun q cA H1 g0 g1 g2 g3 => ?_)
  have ecA : cA = cy 13 := by
    obtain ⟨-, -, -, -, -, r1⟩ := (g0.2 7 (cA, .object RX4) rfl).2
    obtain ⟨-, -, -, -, -, r2⟩ := (g0.2 6 (cy 13, .object RX4) rfl).2
    exact Option.some.inj (r1.symm.trans r2)
  subst ecA
  have e : enc cy (zc 13 x.toNatClampNeg) = .inl (cy 13, x.toNatClampNeg, .inr (.inr (.inr (.inr (fun _ => none))))) := enc_r cy rfl (by omega)
  obtain ⟨q99, hq⟩ := hmore q (zc 13 x.toNatClampNeg) H1 (show 13 < 14 by decide) (by rw [e]; exact g1) (by rw [e]; exact g2)
  exact kk q q99 H1 locs la h1 hq g3 h4
theorem oi_in : Cond.instanceMethod objectInit ∈ lwG := by decide +kernel
theorem oi_code : Cond.code objectInit ⟨#[0xb1]⟩ 1 none ∈ lwG := by decide +kernel
theorem j_objInit (C : Cx p s m args c cc nL own D cy base) {idx a : Nat} (hd : decode cc pc = .ok (.invokespecial idx, 3)) (hw : Cond.methodLink own idx objectInit ∈ lwG) (hf : 1 ≤ R.frames) (hl : (st.map fun v => (tV v).category).sum + 12 ≤ R.locals)
    (kk : JJ p l e R s m args below meth c nL D cy base S0 Q (pc + 3) ls st G k n) : JJ p l e R s m args below meth c nL D cy base S0 Q pc ls (.inr (.inl (some a)) :: st) G k n := by
  intro H locs la h1 h2 h3 h4
  refine W.objInit C.1 C.2.1 C.2.2.2.1 (C.2.2.2.2.1 _ hw) (C.2.2.2.2.1 _ oi_in) (C.2.2.2.2.1 _ oi_code) rfl (by rw [C.2.2.1]; exact h4.1) (a := a) (rest := st.map tV) rfl hd hf ?_ (kk H locs la h1 h2 h3 h4)
  rw [List.map_map]
  have h0 : (F0 m pc la (List.map tV (Sum.inr (Sum.inl (some a)) :: st))).monitorRoom = 0 := by simp [JFrame.monitorRoom]
  rw [h0]
  exact Nat.le_trans (Nat.le_of_eq (by simp [Function.comp_def])) hl
-- the script: kind 14
theorem j_sld (C : Cx p s m args c cc nL own D cy base) {a : Nat} {i : Int32} (hS0 : va_X a (S0 a).2.1 (S0 a).2.2.1 s s.heap) (ha : a < base) (hd : decode cc pc = .ok (.iaload, 1)) (hk : knd G a = 14) (hi : vp_in i (gn G a)) (kk : JJ p l e R s m args below meth c nL D cy base S0 Q (pc + 1) ls (.inl (gi G a i.toNatClampNeg) :: st) G k n) : JJ p l e R s m args below meth c nL D cy base S0 Q pc ls (.inl i :: .inr (.inl (some a)) :: st) G k n := by
  intro H locs la h1 h2 h3 h4
  obtain ⟨L, hL, h14, -⟩ := id h2
  have hG : G a = S0 a := by
    rcases h14 a (by omega) with q | q
    · exact q.2
    · omega
  have hbl : a < s.heap.size := Nat.lt_of_lt_of_le ha C.2.2.2.2.2.2
  refine va_sld C.1 C.2.1 hS0 hbl (fun q => Nat.not_le.mpr ha q) h3 (by rw [← hG]; exact hi) hd ?_
  rw [← hG]
  exact kk H locs la h1 h2 h3 h4
theorem j_slen (C : Cx p s m args c cc nL own D cy base) {a : Nat} (hS0 : va_X a (S0 a).2.1 (S0 a).2.2.1 s s.heap) (ha : a < base) (hd : decode cc pc = .ok (.arraylength, 1)) (hk : knd G a = 14) (kk : JJ p l e R s m args below meth c nL D cy base S0 Q (pc + 1) ls (.inl (nI (gn G a)) :: st) G k n) : JJ p l e R s m args below meth c nL D cy base S0 Q pc ls (.inr (.inl (some a)) :: st) G k n := by
  intro H locs la h1 h2 h3 h4
  obtain ⟨L, hL, h14, -⟩ := id h2
  have hG : G a = S0 a := by
    rcases h14 a (by omega) with q | q
    · exact q.2
    · omega
  have hbl : a < s.heap.size := Nat.lt_of_lt_of_le ha C.2.2.2.2.2.2
  have kk' := kk H locs la h1 h2 h3 h4
  have e : nI (gn G a) = Int32.ofNat (S0 a).2.1 := by unfold gn; rw [hG]; rfl
  rw [e] at kk'
  exact va_slen C.1 C.2.1 hS0 hbl (fun q => Nat.not_le.mpr ha q) h3 hd kk'

end JN
end
section
def strs : List (Nat × String) := [(35, "channels are 1 to 8"), (40, "wire and back are 1 to 16"), (42, "depth is 1 to 16"), (48, "no such channel, or depth is not 1 to 16"), (55, "the clock is not 0"), (66, "no such channel, or weight is not 1 to 15"), (71, "an arbiter is 0 to 3"), (82, "there are 32 rows"), (88, "1 to 16 bytes are fed"), (90, "the tape has at most 60 bytes"), (96, "no such channel"), (101, "there are 250 packets"), (113, "1 to 5000 cycles are run")]
def xIA : String := "java/lang/IllegalArgumentException"
def xIS : String := "java/lang/IllegalStateException"
def xUO : String := "java/lang/UnsupportedOperationException"
def lwC : List (String × String) := [(xIA, xIA), (xIS, xIS), (xUO, xUO), ("[B", "java/lang/Cloneable")]
def lwD : List MethodName := [⟨"java/lang/RuntimeException", "<init>", "(Ljava/lang/String;)V"⟩, ⟨"java/lang/Exception", "<init>", "(Ljava/lang/String;)V"⟩, ⟨"java/lang/Throwable", "<init>", "(Ljava/lang/String;)V"⟩]
/-- what the tables and the old heap say beside the good words: it holds wherever a method begins -/
def Wd (D : va_G) (cy : Nat → ClassId) (base : Nat) (U : State) (H : Heap) : Prop :=
  va_K D vwCl (tysY cy) U ∧ base ≤ H.size ∧ (va_AO RX0 U ∧ va_AO RX1 U ∧ va_AO RX4 U) ∧
  (vx_Zq Bundle.tN "UNASSIGNED_STACK" Bundle.steD (Ab base) U H ∧ vx_Zq Bundle.tN "SUPPRESSED_SENTINEL" Bundle.listD (Ab base) U H) ∧
  (∀ q ∈ strs, ∃ a, vk_R RX5 q.1 q.2 a U) ∧ (∀ q ∈ lwC, va_Nw (.castable q.1 q.2) U) ∧ (∀ q ∈ lwD, va_Nw (.declares q) U) ∧ va_Nw (.methodLinkNest RX0 11 yX2_init RX5) U
theorem Wd.moved {D : va_G} {cy : Nat → ClassId} {base : Nat} {s U : State} {H H1 : Heap} (h : Wd D cy base s H) (hW : s.WarmedH U.vm) (hz : H.size ≤ H1.size) (hk : ∀ a : Nat, a < H.size → ¬ Ab base a → H1[a]? = H[a]?) : Wd D cy base U H1 := by
  obtain ⟨h1, h2, ⟨h3, h4, h5⟩, ⟨h6, h7⟩, h8, h9, h11, h10⟩ := h
  refine ⟨va_K.moved hW.alike h1, Nat.le_trans h2 hz, ⟨va_AO.moved hW.alike h3, va_AO.moved hW.alike h4, va_AO.moved hW.alike h5⟩, ⟨(vx_Zq.moved hW.alike h6).kept hk, (vx_Zq.moved hW.alike h7).kept hk⟩, fun q hq => ?_, fun q hq => va_Nw.warmC hW (h9 q hq), fun q hq => va_Nw.warmD hW (h11 q hq), va_Nw.warmM hW h10⟩
  obtain ⟨a, ha⟩ := h8 q hq
  exact ⟨a, vk_R.warm hW ha⟩
def PcA (D : va_G) (cy : Nat → ClassId) (base : Nat) (S0 : GG) (av : List AV) (G : GG) : Array Value → State → Prop := fun v U => v = (av.map tV).toArray ∧ Wd D cy base U U.heap ∧ Hp D cy base S0 G U.heap
def QcA (D : va_G) (cy : Nat → ClassId) (base : Nat) (S0 : GG) (Qr : Option AV → GG → Prop) : Array Value → State → Outcome → State → Prop := fun _ st oc t => (∃ (r : Option AV) (G' : GG), oc = .returned (r.map tV) ∧ Qr r G' ∧ Hp D cy base S0 G' t.heap) ∧ va_F (Ab base) st t
def XcA (D : va_G) (cy : Nat → ClassId) (base : Nat) (S0 : GG) (Qx : String → GG → Prop) : String → State → State → Prop := fun E st t => (∃ G' : GG, Qx E G' ∧ Hp D cy base S0 G' t.heap) ∧ va_F (Ab base) st t
abbrev TT : Type := List AV → GG → (Option AV → GG → Prop) → (String → GG → Prop) → Prop
/-- method y's contract: from arguments and a heap of which T holds, it returns, or throws, what T asks -/
def CM (l : Launch) (y : MethodName) (bytes : ByteArray) (maxL : Nat) (ret : Option FieldType) (rm : Room) (T : TT) : Prop :=
  ∀ (D : va_G) (cy : Nat → ClassId) (base : Nat) (S0 : GG) (av : List AV) (G : GG) (Qr : Option AV → GG → Prop) (Qx : String → GG → Prop), T av G Qr Qx →
    vx_Met l y (Cond.code y bytes maxL ret :: lwG) rm (PcA D cy base S0 av G) (QcA D cy base S0 Qr) (XcA D cy base S0 Qx) rm.cells rm.slots (Ab base)
theorem PcA.blind (D : va_G) (cy : Nat → ClassId) (base : Nat) (S0 : GG) (av : List AV) (G : GG) : FrameBlind (PcA D cy base S0 av G) := by
  intro a U g mk h
  obtain ⟨h1, h2, h3⟩ := h
  have hh : (U.calling g mk a).heap = U.heap := rfl
  refine ⟨h1, ?_, by rw [hh]; exact h3⟩
  refine Wd.moved h2 (U := U.calling g mk a) ?_ (by rw [hh]; exact Nat.le_refl _) (fun b _ _ => by rw [hh])
  exact State.WarmedH.refl U
/-- the words of a callee -/
def MI (y : MethodName) (bytes : ByteArray) (maxL : Nat) (ret : Option FieldType) (na : Nat) : Prop := Cond.code y bytes maxL ret ∈ lwG ∧ Cond.initialized y.cls ∈ lwG ∧ (y.cls ≠ "java/lang/invoke/MethodHandle" ∧ y.cls ≠ "java/lang/invoke/VarHandle") ∧ (parseMethodDescriptor y.desc).map (fun d => d.parameters.length) = some na
def MV (y : MethodName) : Prop := Cond.instanceMethod y ∈ lwG ∧ Cond.selects y.cls y y ∈ lwG
theorem lwG_good : ∀ w ∈ lwG, (w.onTables && w.keeps) = true ∨ ∃ ty, w = .arrayClass ty := fun w h => good_of_word (List.mem_filter.mp h).2
theorem lwG_all {y : MethodName} {bytes : ByteArray} {maxL : Nat} {ret : Option FieldType} (h : Cond.code y bytes maxL ret ∈ lwG) : GoodIn lwG (Cond.code y bytes maxL ret :: lwG) := fun w hw => by
  rcases List.mem_cons.mp hw with e | hw
  · subst e; exact ⟨h, lwG_good _ h⟩
  · exact ⟨hw, lwG_good _ hw⟩
section JC
variable {p : Program} {l : Launch} {e : Env} {R : Room} {s : State} {m : MethodId} {args : Array Value} {below : List Frame} {meth : Method} {c : Code} {nL : Nat} {D : va_G} {cy : Nat → ClassId} {base : Nat} {S0 : GG} {Q : State → Prop}
variable {cc : ByteArray} {own : String} {pc : Nat} {ls : List (Option AV)} {st : List AV} {G : GG} {k n : Nat}
variable {y : MethodName} {bytes : ByteArray} {maxL : Nat} {ret : Option FieldType} {rm : Room} {T : TT} {na idx : Nat}
theorem callB_A (C : Cx p s m args c cc nL own D cy base) (hI : MI y bytes maxL ret na) (hl : Cond.methodLink own idx y ∈ lwG) (hR : rm.frames + 1 ≤ R.frames ∧ 8 + (maxL + 11) + rm.locals ≤ R.locals) : CallB R s args own idx y bytes maxL ret (Cond.code y bytes maxL ret :: lwG) rm rm.cells rm.slots na :=
  callB_of na C.2.2.2.2.1 (lwG_all hI.1) rfl rfl rfl (C.2.2.2.2.1 _ hI.2.1) (C.2.2.2.2.1 _ hl) ⟨hI.2.2.1.1, hI.2.2.1.2, hI.2.2.2⟩ hR
theorem pre_A (C : Cx p s m args c cc nL own D cy base) (hWd : Wd D cy base s s.heap) {H : Heap} {locs : List Loc} (hS : va_S (Ab base) s.heap H locs) {av : List AV} (hP : Hp D cy base S0 G H) : ∀ U : State, U.heap = H → s.WarmedH U.vm → PcA D cy base S0 av G (av.map tV).toArray U := by
  intro U hU hW
  refine ⟨rfl, ?_, by rw [hU]; exact hP⟩
  rw [hU]
  exact hWd.moved hW hS.1 hS.2.1
theorem metOf {ws : List Cond} {Pc : Array Value → State → Prop} {Qc : Array Value → State → Outcome → State → Prop} {XC : String → State → State → Prop} {mc ms : Nat} {free : Addr → Prop} (h : vx_Met l y ws rm Pc Qc XC mc ms free) (hx : ∀ E st t, ¬ XC E st t) : Met l y ws rm Pc Qc mc ms free := by
  intro p e ha hc hk s m args below hf happ hP hK
  obtain ⟨n, o, h1, h2, h3, h4⟩ := h p e ha hc hk s m args below hf happ hP hK
  refine ⟨n, o, h1, h2, h3, ?_⟩
  rcases h4 with h4 | ⟨q, rfl, E, ce, L, hX, -⟩
  · exact h4
  · exact absurd hX (hx _ _ _)
theorem CM.met (hM : CM l y bytes maxL ret rm T) {av : List AV} {Qr : Option AV → GG → Prop} (hT : T av G Qr (fun _ _ => False)) : Met l y (Cond.code y bytes maxL ret :: lwG) rm (PcA D cy base S0 av G) (QcA D cy base S0 Qr) rm.cells rm.slots (Ab base) :=
  metOf (hM D cy base S0 av G Qr _ hT) (fun E st t h => by obtain ⟨⟨G', h1, -⟩, -⟩ := h; exact h1)
/-- behind a call that came back -/
theorem j_run {mc ms : Nat} {Qr : Option AV → GG → Prop} {H : Heap} {locs : List Loc} {la : Array Slot} {st0 : List Value} {a : Array Value}
    (hr : va_Run p l e R s m args below meth c H locs k n mc ms (F0 m pc la st0) (st.map tV) (QcA D cy base S0 Qr a) (Ab base)) (hS : va_S (Ab base) s.heap H locs) (hls : ls.length = nL) (hl : lv_has la nL (lsP 0 ls))
    (kk : ∀ (r : Option AV) (G' : GG), Qr r G' → JJ p l e R s m args below meth c nL D cy base S0 Q (pc + 3) ls (r.toList ++ st) G' (k + mc) (n + ms)) : W p l e R s m args below meth c H locs k n Q (F0 m pc la st0) := by
  intro T hT X
  obtain ⟨v, st₀, t, T', L, h0, X', hL, e1, e2, ⟨⟨r, G', hv, hq, hp⟩, hF⟩, stp⟩ := hr T hT X
  cases hv
  obtain ⟨k1, k2, k3⟩ := vx_keep h0 e1 hS (fun _ _ h => h) (fun _ h => h) hL hF
  have kk' := kk r G' hq T'.heap (locs ++ L) la hls (by rw [e1]; exact hp) k3 hl
  have es : (r.toList ++ st).map tV = (r.map tV).toList ++ st.map tV := by cases r <;> rfl
  rw [es] at kk'
  obtain ⟨t2, a1, b1⟩ := kk' T' rfl X'
  exact ⟨t2, stp t2 a1, b1⟩
theorem st_room {la : Array Slot} {v : List Value} (h : (st.map fun v => (tV v).category).sum ≤ 8) : 2 * (F0 m pc la v).monitorRoom + ((st.map tV).map fun v => v.category).sum ≤ 8 := by
  show 2 * 0 + _ ≤ 8
  rw [List.map_map]
  have : ((fun v : Value => v.category) ∘ tV) = fun v => (tV v).category := rfl
  rw [this]; omega
theorem j_callV (C : Cx p s m args c cc nL own D cy base) (hWd : Wd D cy base s s.heap) (hM : CM l y bytes maxL ret rm T) (hI : MI y bytes maxL ret na) (hV : MV y) (hl : Cond.methodLink own idx y ∈ lwG) {ci b : Nat} (h7 : ci < 7) (hy : y.cls = RO ci) (hkb : knd G b = ci) (As : List AV) (hna : As.length = na)
    (hd : decode cc pc = .ok (.invokevirtual idx, 3)) (hR : rm.frames + 1 ≤ R.frames ∧ 8 + (maxL + 11) + rm.locals ≤ R.locals) (hst : (st.map fun v => (tV v).category).sum ≤ 8) (hc : k + rm.cells ≤ R.cells ∧ n + rm.slots ≤ R.slots)
    (hT : T (.inr (.inl (some b)) :: As) G (fun r G' => JJ p l e R s m args below meth c nL D cy base S0 Q (pc + 3) ls (r.toList ++ st) G' (k + rm.cells) (n + rm.slots)) (fun _ _ => False)) : JJ p l e R s m args below meth c nL D cy base S0 Q pc ls (As.reverse ++ .inr (.inl (some b)) :: st) G k n := by
  intro H locs la h1 h2 h3 h4
  have hrec : ∃ cell : Cell, H[b]? = some cell ∧ cell.vm.isStatics = false ∧ s.vm.findClass (RO ci) = some cell.cls := by
    obtain ⟨ws, q0, hP, hD, he, -⟩ := h2.at (hlt14 hkb (by omega))
    rw [enc_o cy hkb h7] at he
    exact va_recv C.2.2.2.2.2.1 hP (vw_at ci h7) he
  have hr := va_runV (p := p) (e := e) (below := below) (meth := meth) (locs := locs) (cells := k) (slots := n) (C := RO ci) (b := b) (As := As.map tV) (rest := st.map tV) (g := F0 m pc la ((As.reverse ++ .inr (.inl (some b)) :: st).map tV)) (H := H)
    ⟨C.1, C.2.1, C.2.2.1, C.2.2.2.1, C.2.2.2.2.1⟩ (hM.met (D := D) (cy := cy) (base := base) (S0 := S0) hT) ⟨callB_A C hI hl hR, C.2.2.2.2.1 _ hV.1, by rw [← hy]; exact C.2.2.2.2.1 _ hV.2⟩
    ⟨PcA.blind _ _ _ _ _ _, hrec, fun U hU hW => pre_A C hWd h3 h2 U hU hW⟩ rfl (by rw [List.length_map]; exact hna) h4.1 (by simp [tV, va_rf]) (st_room hst) hd hc
  exact j_run hr h3 h1 h4 (fun r G' h => h)
theorem j_callI (C : Cx p s m args c cc nL own D cy base) (hWd : Wd D cy base s s.heap) (hM : CM l y bytes maxL none rm T) (hI : MI y bytes maxL none na) (hin : Cond.instanceMethod y ∈ lwG) (hl : Cond.methodLink own idx y ∈ lwG) (hy : y.name = "<init>") {b : Nat} (As : List AV) (hna : As.length = na)
    (hd : decode cc pc = .ok (.invokespecial idx, 3)) (hR : rm.frames + 1 ≤ R.frames ∧ 8 + (maxL + 11) + rm.locals ≤ R.locals) (hst : (st.map fun v => (tV v).category).sum ≤ 8) (hc : k + rm.cells ≤ R.cells ∧ n + rm.slots ≤ R.slots)
    (hT : T (.inr (.inl (some b)) :: As) G (fun r G' => JJ p l e R s m args below meth c nL D cy base S0 Q (pc + 3) ls (r.toList ++ st) G' (k + rm.cells) (n + rm.slots)) (fun _ _ => False)) : JJ p l e R s m args below meth c nL D cy base S0 Q pc ls (As.reverse ++ .inr (.inl (some b)) :: st) G k n := by
  intro H locs la h1 h2 h3 h4
  have hr := va_runI (p := p) (e := e) (below := below) (meth := meth) (locs := locs) (cells := k) (slots := n) (b := b) (As := As.map tV) (rest := st.map tV) (g := F0 m pc la ((As.reverse ++ .inr (.inl (some b)) :: st).map tV)) (H := H)
    ⟨C.1, C.2.1, C.2.2.1, C.2.2.2.1, C.2.2.2.2.1⟩ (hM.met (D := D) (cy := cy) (base := base) (S0 := S0) hT) ⟨callB_A C hI hl hR, hy, C.2.2.2.2.1 _ hin⟩
    ⟨PcA.blind _ _ _ _ _ _, fun U hU hW => pre_A C hWd h3 h2 U hU hW⟩ rfl (by rw [List.length_map]; exact hna) h4.1 (by simp [tV, va_rf]) (st_room hst) hd hc
  exact j_run hr h3 h1 h4 (fun r G' h => h)
theorem j_callIN (C : Cx p s m args c cc nL own D cy base) (hWd : Wd D cy base s s.heap) {host : String} (hM : CM l y bytes maxL none rm T) (hI : MI y bytes maxL none na) (hin : Cond.instanceMethod y ∈ lwG) (hl : va_Nw (.methodLinkNest own idx y host) s) (hy : y.name = "<init>") {b : Nat} (As : List AV) (hna : As.length = na)
    (hd : decode cc pc = .ok (.invokespecial idx, 3)) (hR : rm.frames + 1 ≤ R.frames ∧ 8 + (maxL + 11) + rm.locals ≤ R.locals) (hst : (st.map fun v => (tV v).category).sum ≤ 8) (hc : k + rm.cells ≤ R.cells ∧ n + rm.slots ≤ R.slots)
    (hT : T (.inr (.inl (some b)) :: As) G (fun r G' => JJ p l e R s m args below meth c nL D cy base S0 Q (pc + 3) ls (r.toList ++ st) G' (k + rm.cells) (n + rm.slots)) (fun _ _ => False)) : JJ p l e R s m args below meth c nL D cy base S0 Q pc ls (As.reverse ++ .inr (.inl (some b)) :: st) G k n := by
  intro H locs la h1 h2 h3 h4
  have hr := va_runIN (p := p) (e := e) (below := below) (meth := meth) (locs := locs) (cells := k) (slots := n) (b := b) (As := As.map tV) (rest := st.map tV) (g := F0 m pc la ((As.reverse ++ .inr (.inl (some b)) :: st).map tV)) (H := H)
    ⟨C.1, C.2.1, C.2.2.1, C.2.2.2.1, C.2.2.2.2.1⟩ (hM.met (D := D) (cy := cy) (base := base) (S0 := S0) hT) ⟨va_cnB na C.2.2.2.2.1 (lwG_all hI.1) rfl rfl rfl hl (C.2.2.2.2.1 _ hI.2.1) ⟨hI.2.2.1.1, hI.2.2.1.2, hI.2.2.2⟩ hR, hy, C.2.2.2.2.1 _ hin⟩
    ⟨PcA.blind _ _ _ _ _ _, fun U hU hW => pre_A C hWd h3 h2 U hU hW⟩ rfl (by rw [List.length_map]; exact hna) h4.1 (by simp [tV, va_rf]) (st_room hst) hd hc
  exact j_run hr h3 h1 h4 (fun r G' h => h)
theorem j_callS (C : Cx p s m args c cc nL own D cy base) (hWd : Wd D cy base s s.heap) (hM : CM l y bytes maxL ret rm T) (hI : MI y bytes maxL ret na) (hin : Cond.static y ∈ lwG) (hl : Cond.methodLink own idx y ∈ lwG) (As : List AV) (hna : As.length = na)
    (hd : decode cc pc = .ok (.invokestatic idx, 3)) (hR : rm.frames + 1 ≤ R.frames ∧ 8 + (maxL + 11) + rm.locals ≤ R.locals) (hst : (st.map fun v => (tV v).category).sum ≤ 8) (hc : k + rm.cells ≤ R.cells ∧ n + rm.slots ≤ R.slots)
    (hT : T As G (fun r G' => JJ p l e R s m args below meth c nL D cy base S0 Q (pc + 3) ls (r.toList ++ st) G' (k + rm.cells) (n + rm.slots)) (fun _ _ => False)) : JJ p l e R s m args below meth c nL D cy base S0 Q pc ls (As.reverse ++ st) G k n := by
  intro H locs la h1 h2 h3 h4
  have hr := va_runS (p := p) (e := e) (below := below) (meth := meth) (locs := locs) (cells := k) (slots := n) (As := As.map tV) (rest := st.map tV) (g := F0 m pc la ((As.reverse ++ st).map tV)) (H := H)
    ⟨C.1, C.2.1, C.2.2.1, C.2.2.2.1, C.2.2.2.2.1⟩ (hM.met (D := D) (cy := cy) (base := base) (S0 := S0) hT) ⟨callB_A C hI hl hR, C.2.2.2.2.1 _ hin⟩
    ⟨PcA.blind _ _ _ _ _ _, fun U hU hW => pre_A C hWd h3 h2 U hU hW⟩ rfl (by rw [List.length_map]; exact hna) h4.1 (by simp) (st_room hst) hd hc
  exact j_run hr h3 h1 h4 (fun r G' h => h)
end JC
end
section
theorem lw_in {w : Cond} (h : w ∈ tables_1) (g : goodWord w = true) : w ∈ lwG := List.mem_filter.mpr ⟨List.mem_append_right _ h, g⟩
theorem mi_X0_init : MI yX0_init cX0_init 3 none 2 := ⟨lw_in (List.mem_of_getElem? (i := 40) (by decide +kernel)) (by decide +kernel), lw_in (List.mem_of_getElem? (i := 3) (by decide +kernel)) (by decide +kernel), ⟨by decide +kernel, by decide +kernel⟩, by decide +kernel⟩
theorem mn_X0_init : Cond.instanceMethod yX0_init ∈ lwG := lw_in (List.mem_of_getElem? (i := 39) (by decide +kernel)) (by decide +kernel)
theorem mi_X0_isAble : MI yX0_isAble cX0_isAble 1 (some .boolean) 0 := ⟨lw_in (List.mem_of_getElem? (i := 584) (by decide +kernel)) (by decide +kernel), lw_in (List.mem_of_getElem? (i := 3) (by decide +kernel)) (by decide +kernel), ⟨by decide +kernel, by decide +kernel⟩, by decide +kernel⟩
theorem mv_X0_isAble : MV yX0_isAble := ⟨lw_in (List.mem_of_getElem? (i := 582) (by decide +kernel)) (by decide +kernel), lw_in (List.mem_of_getElem? (i := 583) (by decide +kernel)) (by decide +kernel)⟩
theorem mi_X0_isInsidePacket : MI yX0_isInsidePacket cX0_isInsidePacket 1 (some .boolean) 0 := ⟨lw_in (List.mem_of_getElem? (i := 600) (by decide +kernel)) (by decide +kernel), lw_in (List.mem_of_getElem? (i := 3) (by decide +kernel)) (by decide +kernel), ⟨by decide +kernel, by decide +kernel⟩, by decide +kernel⟩
theorem mv_X0_isInsidePacket : MV yX0_isInsidePacket := ⟨lw_in (List.mem_of_getElem? (i := 598) (by decide +kernel)) (by decide +kernel), lw_in (List.mem_of_getElem? (i := 599) (by decide +kernel)) (by decide +kernel)⟩
theorem mi_X0_getCreditsBack : MI yX0_getCreditsBack cX0_getCreditsBack 3 none 1 := ⟨lw_in (List.mem_of_getElem? (i := 534) (by decide +kernel)) (by decide +kernel), lw_in (List.mem_of_getElem? (i := 3) (by decide +kernel)) (by decide +kernel), ⟨by decide +kernel, by decide +kernel⟩, by decide +kernel⟩
theorem mv_X0_getCreditsBack : MV yX0_getCreditsBack := ⟨lw_in (List.mem_of_getElem? (i := 532) (by decide +kernel)) (by decide +kernel), lw_in (List.mem_of_getElem? (i := 533) (by decide +kernel)) (by decide +kernel)⟩
theorem mi_X0_send : MI yX0_send cX0_send 2 (some (.object "CreditWire$Flit")) 0 := ⟨lw_in (List.mem_of_getElem? (i := 604) (by decide +kernel)) (by decide +kernel), lw_in (List.mem_of_getElem? (i := 3) (by decide +kernel)) (by decide +kernel), ⟨by decide +kernel, by decide +kernel⟩, by decide +kernel⟩
theorem mv_X0_send : MV yX0_send := ⟨lw_in (List.mem_of_getElem? (i := 602) (by decide +kernel)) (by decide +kernel), lw_in (List.mem_of_getElem? (i := 603) (by decide +kernel)) (by decide +kernel)⟩
theorem mi_X0_land : MI yX0_land cX0_land 2 none 1 := ⟨lw_in (List.mem_of_getElem? (i := 542) (by decide +kernel)) (by decide +kernel), lw_in (List.mem_of_getElem? (i := 3) (by decide +kernel)) (by decide +kernel), ⟨by decide +kernel, by decide +kernel⟩, by decide +kernel⟩
theorem mv_X0_land : MV yX0_land := ⟨lw_in (List.mem_of_getElem? (i := 540) (by decide +kernel)) (by decide +kernel), lw_in (List.mem_of_getElem? (i := 541) (by decide +kernel)) (by decide +kernel)⟩
theorem mi_X0_drain : MI yX0_drain cX0_drain 4 (some (.object "CreditWire$Packet")) 2 := ⟨lw_in (List.mem_of_getElem? (i := 561) (by decide +kernel)) (by decide +kernel), lw_in (List.mem_of_getElem? (i := 3) (by decide +kernel)) (by decide +kernel), ⟨by decide +kernel, by decide +kernel⟩, by decide +kernel⟩
theorem mv_X0_drain : MV yX0_drain := ⟨lw_in (List.mem_of_getElem? (i := 559) (by decide +kernel)) (by decide +kernel), lw_in (List.mem_of_getElem? (i := 560) (by decide +kernel)) (by decide +kernel)⟩
theorem mi_X0_creditsReturning : MI yX0_creditsReturning cX0_creditsReturning 6 (some .int) 0 := ⟨lw_in (List.mem_of_getElem? (i := 205) (by decide +kernel)) (by decide +kernel), lw_in (List.mem_of_getElem? (i := 3) (by decide +kernel)) (by decide +kernel), ⟨by decide +kernel, by decide +kernel⟩, by decide +kernel⟩
theorem mv_X0_creditsReturning : MV yX0_creditsReturning := ⟨lw_in (List.mem_of_getElem? (i := 204) (by decide +kernel)) (by decide +kernel), List.mem_of_getElem? (i := 0) (by decide +kernel)⟩
theorem mi_X0_property : MI yX0_property cX0_property 2 (some .int) 1 := ⟨lw_in (List.mem_of_getElem? (i := 201) (by decide +kernel)) (by decide +kernel), lw_in (List.mem_of_getElem? (i := 3) (by decide +kernel)) (by decide +kernel), ⟨by decide +kernel, by decide +kernel⟩, by decide +kernel⟩
theorem mv_X0_property : MV yX0_property := ⟨lw_in (List.mem_of_getElem? (i := 199) (by decide +kernel)) (by decide +kernel), lw_in (List.mem_of_getElem? (i := 200) (by decide +kernel)) (by decide +kernel)⟩
theorem mi_X1_init : MI yX1_init cX1_init 3 none 2 := ⟨lw_in (List.mem_of_getElem? (i := 498) (by decide +kernel)) (by decide +kernel), lw_in (List.mem_of_getElem? (i := 16) (by decide +kernel)) (by decide +kernel), ⟨by decide +kernel, by decide +kernel⟩, by decide +kernel⟩
theorem mn_X1_init : Cond.instanceMethod yX1_init ∈ lwG := lw_in (List.mem_of_getElem? (i := 497) (by decide +kernel)) (by decide +kernel)
theorem mi_X1_isLast : MI yX1_isLast cX1_isLast 1 (some .boolean) 0 := ⟨lw_in (List.mem_of_getElem? (i := 237) (by decide +kernel)) (by decide +kernel), lw_in (List.mem_of_getElem? (i := 16) (by decide +kernel)) (by decide +kernel), ⟨by decide +kernel, by decide +kernel⟩, by decide +kernel⟩
theorem mv_X1_isLast : MV yX1_isLast := ⟨lw_in (List.mem_of_getElem? (i := 235) (by decide +kernel)) (by decide +kernel), lw_in (List.mem_of_getElem? (i := 236) (by decide +kernel)) (by decide +kernel)⟩
theorem mi_X1_size : MI yX1_size cX1_size 1 (some .int) 0 := ⟨lw_in (List.mem_of_getElem? (i := 233) (by decide +kernel)) (by decide +kernel), lw_in (List.mem_of_getElem? (i := 16) (by decide +kernel)) (by decide +kernel), ⟨by decide +kernel, by decide +kernel⟩, by decide +kernel⟩
theorem mv_X1_size : MV yX1_size := ⟨lw_in (List.mem_of_getElem? (i := 231) (by decide +kernel)) (by decide +kernel), lw_in (List.mem_of_getElem? (i := 232) (by decide +kernel)) (by decide +kernel)⟩
theorem mi_X1_property : MI yX1_property cX1_property 2 (some .int) 1 := ⟨lw_in (List.mem_of_getElem? (i := 229) (by decide +kernel)) (by decide +kernel), lw_in (List.mem_of_getElem? (i := 16) (by decide +kernel)) (by decide +kernel), ⟨by decide +kernel, by decide +kernel⟩, by decide +kernel⟩
theorem mv_X1_property : MV yX1_property := ⟨lw_in (List.mem_of_getElem? (i := 227) (by decide +kernel)) (by decide +kernel), lw_in (List.mem_of_getElem? (i := 228) (by decide +kernel)) (by decide +kernel)⟩
theorem mi_X2_init : MI yX2_init cX2_init 1 none 0 := ⟨lw_in (List.mem_of_getElem? (i := 46) (by decide +kernel)) (by decide +kernel), lw_in (List.mem_of_getElem? (i := 4) (by decide +kernel)) (by decide +kernel), ⟨by decide +kernel, by decide +kernel⟩, by decide +kernel⟩
theorem mn_X2_init : Cond.instanceMethod yX2_init ∈ lwG := lw_in (List.mem_of_getElem? (i := 45) (by decide +kernel)) (by decide +kernel)
theorem mi_X2_add : MI yX2_add cX2_add 2 none 1 := ⟨lw_in (List.mem_of_getElem? (i := 518) (by decide +kernel)) (by decide +kernel), lw_in (List.mem_of_getElem? (i := 4) (by decide +kernel)) (by decide +kernel), ⟨by decide +kernel, by decide +kernel⟩, by decide +kernel⟩
theorem mv_X2_add : MV yX2_add := ⟨lw_in (List.mem_of_getElem? (i := 516) (by decide +kernel)) (by decide +kernel), lw_in (List.mem_of_getElem? (i := 517) (by decide +kernel)) (by decide +kernel)⟩
theorem mi_X2_removeFirst : MI yX2_removeFirst cX2_removeFirst 2 (some (.object "CreditWire$Flit")) 0 := ⟨lw_in (List.mem_of_getElem? (i := 565) (by decide +kernel)) (by decide +kernel), lw_in (List.mem_of_getElem? (i := 4) (by decide +kernel)) (by decide +kernel), ⟨by decide +kernel, by decide +kernel⟩, by decide +kernel⟩
theorem mv_X2_removeFirst : MV yX2_removeFirst := ⟨lw_in (List.mem_of_getElem? (i := 563) (by decide +kernel)) (by decide +kernel), lw_in (List.mem_of_getElem? (i := 564) (by decide +kernel)) (by decide +kernel)⟩
theorem mi_X2_flitAt : MI yX2_flitAt cX2_flitAt 4 (some (.object "CreditWire$Flit")) 1 := ⟨lw_in (List.mem_of_getElem? (i := 245) (by decide +kernel)) (by decide +kernel), lw_in (List.mem_of_getElem? (i := 4) (by decide +kernel)) (by decide +kernel), ⟨by decide +kernel, by decide +kernel⟩, by decide +kernel⟩
theorem mv_X2_flitAt : MV yX2_flitAt := ⟨lw_in (List.mem_of_getElem? (i := 243) (by decide +kernel)) (by decide +kernel), lw_in (List.mem_of_getElem? (i := 244) (by decide +kernel)) (by decide +kernel)⟩
theorem mi_X3_init : MI yX3_init cX3_init 6 none 4 := ⟨lw_in (List.mem_of_getElem? (i := 29) (by decide +kernel)) (by decide +kernel), lw_in (List.mem_of_getElem? (i := 2) (by decide +kernel)) (by decide +kernel), ⟨by decide +kernel, by decide +kernel⟩, by decide +kernel⟩
theorem mn_X3_init : Cond.instanceMethod yX3_init ∈ lwG := lw_in (List.mem_of_getElem? (i := 28) (by decide +kernel)) (by decide +kernel)
theorem mi_X3_channelAt : MI yX3_channelAt cX3_channelAt 2 (some (.object "CreditWire$Channel")) 1 := ⟨lw_in (List.mem_of_getElem? (i := 197) (by decide +kernel)) (by decide +kernel), lw_in (List.mem_of_getElem? (i := 2) (by decide +kernel)) (by decide +kernel), ⟨by decide +kernel, by decide +kernel⟩, by decide +kernel⟩
theorem mv_X3_channelAt : MV yX3_channelAt := ⟨lw_in (List.mem_of_getElem? (i := 195) (by decide +kernel)) (by decide +kernel), lw_in (List.mem_of_getElem? (i := 196) (by decide +kernel)) (by decide +kernel)⟩
theorem mi_X3_packetAt : MI yX3_packetAt cX3_packetAt 2 (some (.object "CreditWire$Packet")) 1 := ⟨lw_in (List.mem_of_getElem? (i := 213) (by decide +kernel)) (by decide +kernel), lw_in (List.mem_of_getElem? (i := 2) (by decide +kernel)) (by decide +kernel), ⟨by decide +kernel, by decide +kernel⟩, by decide +kernel⟩
theorem mv_X3_packetAt : MV yX3_packetAt := ⟨lw_in (List.mem_of_getElem? (i := 211) (by decide +kernel)) (by decide +kernel), lw_in (List.mem_of_getElem? (i := 212) (by decide +kernel)) (by decide +kernel)⟩
theorem mi_X3_flitThatComesIn : MI yX3_flitThatComesIn cX3_flitThatComesIn 2 (some (.object "CreditWire$Flit")) 1 := ⟨lw_in (List.mem_of_getElem? (i := 225) (by decide +kernel)) (by decide +kernel), lw_in (List.mem_of_getElem? (i := 2) (by decide +kernel)) (by decide +kernel), ⟨by decide +kernel, by decide +kernel⟩, by decide +kernel⟩
theorem mv_X3_flitThatComesIn : MV yX3_flitThatComesIn := ⟨lw_in (List.mem_of_getElem? (i := 223) (by decide +kernel)) (by decide +kernel), lw_in (List.mem_of_getElem? (i := 224) (by decide +kernel)) (by decide +kernel)⟩
theorem mi_X3_addRow : MI yX3_addRow cX3_addRow 2 (some .boolean) 1 := ⟨lw_in (List.mem_of_getElem? (i := 390) (by decide +kernel)) (by decide +kernel), lw_in (List.mem_of_getElem? (i := 2) (by decide +kernel)) (by decide +kernel), ⟨by decide +kernel, by decide +kernel⟩, by decide +kernel⟩
theorem mv_X3_addRow : MV yX3_addRow := ⟨lw_in (List.mem_of_getElem? (i := 388) (by decide +kernel)) (by decide +kernel), lw_in (List.mem_of_getElem? (i := 389) (by decide +kernel)) (by decide +kernel)⟩
theorem mi_X3_addPacket : MI yX3_addPacket cX3_addPacket 6 (some .int) 2 := ⟨lw_in (List.mem_of_getElem? (i := 448) (by decide +kernel)) (by decide +kernel), lw_in (List.mem_of_getElem? (i := 2) (by decide +kernel)) (by decide +kernel), ⟨by decide +kernel, by decide +kernel⟩, by decide +kernel⟩
theorem mv_X3_addPacket : MV yX3_addPacket := ⟨lw_in (List.mem_of_getElem? (i := 446) (by decide +kernel)) (by decide +kernel), lw_in (List.mem_of_getElem? (i := 447) (by decide +kernel)) (by decide +kernel)⟩
theorem mi_X3_earliestToTake : MI yX3_earliestToTake cX3_earliestToTake 4 (some (.object "CreditWire$Packet")) 1 := ⟨lw_in (List.mem_of_getElem? (i := 619) (by decide +kernel)) (by decide +kernel), lw_in (List.mem_of_getElem? (i := 2) (by decide +kernel)) (by decide +kernel), ⟨by decide +kernel, by decide +kernel⟩, by decide +kernel⟩
theorem mv_X3_earliestToTake : MV yX3_earliestToTake := ⟨lw_in (List.mem_of_getElem? (i := 617) (by decide +kernel)) (by decide +kernel), lw_in (List.mem_of_getElem? (i := 618) (by decide +kernel)) (by decide +kernel)⟩
theorem mi_X3_passCycle : MI yX3_passCycle cX3_passCycle 5 (some .int) 0 := ⟨lw_in (List.mem_of_getElem? (i := 530) (by decide +kernel)) (by decide +kernel), lw_in (List.mem_of_getElem? (i := 2) (by decide +kernel)) (by decide +kernel), ⟨by decide +kernel, by decide +kernel⟩, by decide +kernel⟩
theorem mv_X3_passCycle : MV yX3_passCycle := ⟨lw_in (List.mem_of_getElem? (i := 528) (by decide +kernel)) (by decide +kernel), lw_in (List.mem_of_getElem? (i := 529) (by decide +kernel)) (by decide +kernel)⟩
theorem mi_X3_landFlit : MI yX3_landFlit cX3_landFlit 4 none 0 := ⟨lw_in (List.mem_of_getElem? (i := 538) (by decide +kernel)) (by decide +kernel), lw_in (List.mem_of_getElem? (i := 2) (by decide +kernel)) (by decide +kernel), ⟨by decide +kernel, by decide +kernel⟩, by decide +kernel⟩
theorem mv_X3_landFlit : MV yX3_landFlit := ⟨lw_in (List.mem_of_getElem? (i := 537) (by decide +kernel)) (by decide +kernel), List.mem_of_getElem? (i := 3) (by decide +kernel)⟩
theorem mi_X3_drainBuffers : MI yX3_drainBuffers cX3_drainBuffers 8 (some .int) 0 := ⟨lw_in (List.mem_of_getElem? (i := 550) (by decide +kernel)) (by decide +kernel), lw_in (List.mem_of_getElem? (i := 2) (by decide +kernel)) (by decide +kernel), ⟨by decide +kernel, by decide +kernel⟩, by decide +kernel⟩
theorem mv_X3_drainBuffers : MV yX3_drainBuffers := ⟨lw_in (List.mem_of_getElem? (i := 549) (by decide +kernel)) (by decide +kernel), List.mem_of_getElem? (i := 4) (by decide +kernel)⟩
theorem mi_X3_maskNow : MI yX3_maskNow cX3_maskNow 1 (some .int) 0 := ⟨lw_in (List.mem_of_getElem? (i := 554) (by decide +kernel)) (by decide +kernel), lw_in (List.mem_of_getElem? (i := 2) (by decide +kernel)) (by decide +kernel), ⟨by decide +kernel, by decide +kernel⟩, by decide +kernel⟩
theorem mv_X3_maskNow : MV yX3_maskNow := ⟨lw_in (List.mem_of_getElem? (i := 553) (by decide +kernel)) (by decide +kernel), List.mem_of_getElem? (i := 5) (by decide +kernel)⟩
theorem mi_X3_noteArrived : MI yX3_noteArrived cX3_noteArrived 2 none 1 := ⟨lw_in (List.mem_of_getElem? (i := 571) (by decide +kernel)) (by decide +kernel), lw_in (List.mem_of_getElem? (i := 2) (by decide +kernel)) (by decide +kernel), ⟨by decide +kernel, by decide +kernel⟩, by decide +kernel⟩
theorem mv_X3_noteArrived : MV yX3_noteArrived := ⟨lw_in (List.mem_of_getElem? (i := 570) (by decide +kernel)) (by decide +kernel), List.mem_of_getElem? (i := 6) (by decide +kernel)⟩
theorem mi_X3_sendFlit : MI yX3_sendFlit cX3_sendFlit 5 none 0 := ⟨lw_in (List.mem_of_getElem? (i := 575) (by decide +kernel)) (by decide +kernel), lw_in (List.mem_of_getElem? (i := 2) (by decide +kernel)) (by decide +kernel), ⟨by decide +kernel, by decide +kernel⟩, by decide +kernel⟩
theorem mv_X3_sendFlit : MV yX3_sendFlit := ⟨lw_in (List.mem_of_getElem? (i := 574) (by decide +kernel)) (by decide +kernel), List.mem_of_getElem? (i := 7) (by decide +kernel)⟩
theorem mi_X3_lastMayGoOn : MI yX3_lastMayGoOn cX3_lastMayGoOn 2 (some .boolean) 0 := ⟨lw_in (List.mem_of_getElem? (i := 579) (by decide +kernel)) (by decide +kernel), lw_in (List.mem_of_getElem? (i := 2) (by decide +kernel)) (by decide +kernel), ⟨by decide +kernel, by decide +kernel⟩, by decide +kernel⟩
theorem mv_X3_lastMayGoOn : MV yX3_lastMayGoOn := ⟨lw_in (List.mem_of_getElem? (i := 578) (by decide +kernel)) (by decide +kernel), List.mem_of_getElem? (i := 8) (by decide +kernel)⟩
theorem mi_X3_chooseChannel : MI yX3_chooseChannel cX3_chooseChannel 2 (some .int) 0 := ⟨lw_in (List.mem_of_getElem? (i := 588) (by decide +kernel)) (by decide +kernel), lw_in (List.mem_of_getElem? (i := 2) (by decide +kernel)) (by decide +kernel), ⟨by decide +kernel, by decide +kernel⟩, by decide +kernel⟩
theorem mv_X3_chooseChannel : MV yX3_chooseChannel := ⟨lw_in (List.mem_of_getElem? (i := 587) (by decide +kernel)) (by decide +kernel), List.mem_of_getElem? (i := 9) (by decide +kernel)⟩
theorem mi_X3_firstInsidePacket : MI yX3_firstInsidePacket cX3_firstInsidePacket 5 (some (.object "CreditWire$Channel")) 0 := ⟨lw_in (List.mem_of_getElem? (i := 596) (by decide +kernel)) (by decide +kernel), lw_in (List.mem_of_getElem? (i := 2) (by decide +kernel)) (by decide +kernel), ⟨by decide +kernel, by decide +kernel⟩, by decide +kernel⟩
theorem mv_X3_firstInsidePacket : MV yX3_firstInsidePacket := ⟨lw_in (List.mem_of_getElem? (i := 595) (by decide +kernel)) (by decide +kernel), List.mem_of_getElem? (i := 11) (by decide +kernel)⟩
theorem mi_X3_firstAbleFrom : MI yX3_firstAbleFrom cX3_firstAbleFrom 5 (some .int) 1 := ⟨lw_in (List.mem_of_getElem? (i := 592) (by decide +kernel)) (by decide +kernel), lw_in (List.mem_of_getElem? (i := 2) (by decide +kernel)) (by decide +kernel), ⟨by decide +kernel, by decide +kernel⟩, by decide +kernel⟩
theorem mv_X3_firstAbleFrom : MV yX3_firstAbleFrom := ⟨lw_in (List.mem_of_getElem? (i := 591) (by decide +kernel)) (by decide +kernel), List.mem_of_getElem? (i := 10) (by decide +kernel)⟩
theorem mi_X3_noteStalled : MI yX3_noteStalled cX3_noteStalled 5 none 0 := ⟨lw_in (List.mem_of_getElem? (i := 608) (by decide +kernel)) (by decide +kernel), lw_in (List.mem_of_getElem? (i := 2) (by decide +kernel)) (by decide +kernel), ⟨by decide +kernel, by decide +kernel⟩, by decide +kernel⟩
theorem mv_X3_noteStalled : MV yX3_noteStalled := ⟨lw_in (List.mem_of_getElem? (i := 607) (by decide +kernel)) (by decide +kernel), List.mem_of_getElem? (i := 12) (by decide +kernel)⟩
theorem mi_X3_property : MI yX3_property cX3_property 2 (some .int) 1 := ⟨lw_in (List.mem_of_getElem? (i := 257) (by decide +kernel)) (by decide +kernel), lw_in (List.mem_of_getElem? (i := 2) (by decide +kernel)) (by decide +kernel), ⟨by decide +kernel, by decide +kernel⟩, by decide +kernel⟩
theorem mv_X3_property : MV yX3_property := ⟨lw_in (List.mem_of_getElem? (i := 255) (by decide +kernel)) (by decide +kernel), lw_in (List.mem_of_getElem? (i := 256) (by decide +kernel)) (by decide +kernel)⟩
theorem mi_X4_init : MI yX4_init cX4_init 5 none 4 := ⟨lw_in (List.mem_of_getElem? (i := 452) (by decide +kernel)) (by decide +kernel), lw_in (List.mem_of_getElem? (i := 15) (by decide +kernel)) (by decide +kernel), ⟨by decide +kernel, by decide +kernel⟩, by decide +kernel⟩
theorem mn_X4_init : Cond.instanceMethod yX4_init ∈ lwG := lw_in (List.mem_of_getElem? (i := 451) (by decide +kernel)) (by decide +kernel)
theorem mi_X4_canBeTaken : MI yX4_canBeTaken cX4_canBeTaken 1 (some .boolean) 0 := ⟨lw_in (List.mem_of_getElem? (i := 624) (by decide +kernel)) (by decide +kernel), lw_in (List.mem_of_getElem? (i := 15) (by decide +kernel)) (by decide +kernel), ⟨by decide +kernel, by decide +kernel⟩, by decide +kernel⟩
theorem mv_X4_canBeTaken : MV yX4_canBeTaken := ⟨lw_in (List.mem_of_getElem? (i := 622) (by decide +kernel)) (by decide +kernel), lw_in (List.mem_of_getElem? (i := 623) (by decide +kernel)) (by decide +kernel)⟩
theorem mi_X4_property : MI yX4_property cX4_property 2 (some .int) 1 := ⟨lw_in (List.mem_of_getElem? (i := 217) (by decide +kernel)) (by decide +kernel), lw_in (List.mem_of_getElem? (i := 15) (by decide +kernel)) (by decide +kernel), ⟨by decide +kernel, by decide +kernel⟩, by decide +kernel⟩
theorem mv_X4_property : MV yX4_property := ⟨lw_in (List.mem_of_getElem? (i := 215) (by decide +kernel)) (by decide +kernel), lw_in (List.mem_of_getElem? (i := 216) (by decide +kernel)) (by decide +kernel)⟩
theorem mi_X5_init : MI yX5_init cX5_init 1 none 0 := ⟨lw_in (List.mem_of_getElem? (i := 21) (by decide +kernel)) (by decide +kernel), lw_in (List.mem_of_getElem? (i := 1) (by decide +kernel)) (by decide +kernel), ⟨by decide +kernel, by decide +kernel⟩, by decide +kernel⟩
theorem mn_X5_init : Cond.instanceMethod yX5_init ∈ lwG := lw_in (List.mem_of_getElem? (i := 20) (by decide +kernel)) (by decide +kernel)
theorem mi_X5_link : MI yX5_link cX5_link 5 none 4 := ⟨lw_in (List.mem_of_getElem? (i := 265) (by decide +kernel)) (by decide +kernel), lw_in (List.mem_of_getElem? (i := 1) (by decide +kernel)) (by decide +kernel), ⟨by decide +kernel, by decide +kernel⟩, by decide +kernel⟩
theorem mv_X5_link : MV yX5_link := ⟨lw_in (List.mem_of_getElem? (i := 263) (by decide +kernel)) (by decide +kernel), lw_in (List.mem_of_getElem? (i := 264) (by decide +kernel)) (by decide +kernel)⟩
theorem mi_X5_depth : MI yX5_depth cX5_depth 5 (some .int) 2 := ⟨lw_in (List.mem_of_getElem? (i := 345) (by decide +kernel)) (by decide +kernel), lw_in (List.mem_of_getElem? (i := 1) (by decide +kernel)) (by decide +kernel), ⟨by decide +kernel, by decide +kernel⟩, by decide +kernel⟩
theorem mv_X5_depth : MV yX5_depth := ⟨lw_in (List.mem_of_getElem? (i := 343) (by decide +kernel)) (by decide +kernel), lw_in (List.mem_of_getElem? (i := 344) (by decide +kernel)) (by decide +kernel)⟩
theorem mi_X5_weight : MI yX5_weight cX5_weight 5 (some .int) 2 := ⟨lw_in (List.mem_of_getElem? (i := 369) (by decide +kernel)) (by decide +kernel), lw_in (List.mem_of_getElem? (i := 1) (by decide +kernel)) (by decide +kernel), ⟨by decide +kernel, by decide +kernel⟩, by decide +kernel⟩
theorem mv_X5_weight : MV yX5_weight := ⟨lw_in (List.mem_of_getElem? (i := 367) (by decide +kernel)) (by decide +kernel), lw_in (List.mem_of_getElem? (i := 368) (by decide +kernel)) (by decide +kernel)⟩
theorem mi_X5_arbiter : MI yX5_arbiter cX5_arbiter 3 (some .int) 1 := ⟨lw_in (List.mem_of_getElem? (i := 377) (by decide +kernel)) (by decide +kernel), lw_in (List.mem_of_getElem? (i := 1) (by decide +kernel)) (by decide +kernel), ⟨by decide +kernel, by decide +kernel⟩, by decide +kernel⟩
theorem mv_X5_arbiter : MV yX5_arbiter := ⟨lw_in (List.mem_of_getElem? (i := 375) (by decide +kernel)) (by decide +kernel), lw_in (List.mem_of_getElem? (i := 376) (by decide +kernel)) (by decide +kernel)⟩
theorem mi_X5_mask : MI yX5_mask cX5_mask 2 (some .int) 1 := ⟨lw_in (List.mem_of_getElem? (i := 386) (by decide +kernel)) (by decide +kernel), lw_in (List.mem_of_getElem? (i := 1) (by decide +kernel)) (by decide +kernel), ⟨by decide +kernel, by decide +kernel⟩, by decide +kernel⟩
theorem mv_X5_mask : MV yX5_mask := ⟨lw_in (List.mem_of_getElem? (i := 384) (by decide +kernel)) (by decide +kernel), lw_in (List.mem_of_getElem? (i := 385) (by decide +kernel)) (by decide +kernel)⟩
theorem mi_X5_free : MI yX5_free cX5_free 2 (some .int) 0 := ⟨lw_in (List.mem_of_getElem? (i := 185) (by decide +kernel)) (by decide +kernel), lw_in (List.mem_of_getElem? (i := 1) (by decide +kernel)) (by decide +kernel), ⟨by decide +kernel, by decide +kernel⟩, by decide +kernel⟩
theorem mv_X5_free : MV yX5_free := ⟨lw_in (List.mem_of_getElem? (i := 183) (by decide +kernel)) (by decide +kernel), lw_in (List.mem_of_getElem? (i := 184) (by decide +kernel)) (by decide +kernel)⟩
theorem mi_X5_feed : MI yX5_feed cX5_feed 9 (some .int) 3 := ⟨lw_in (List.mem_of_getElem? (i := 413) (by decide +kernel)) (by decide +kernel), lw_in (List.mem_of_getElem? (i := 1) (by decide +kernel)) (by decide +kernel), ⟨by decide +kernel, by decide +kernel⟩, by decide +kernel⟩
theorem mv_X5_feed : MV yX5_feed := ⟨lw_in (List.mem_of_getElem? (i := 411) (by decide +kernel)) (by decide +kernel), lw_in (List.mem_of_getElem? (i := 412) (by decide +kernel)) (by decide +kernel)⟩
theorem mi_X5_offer : MI yX5_offer cX5_offer 4 (some .int) 1 := ⟨lw_in (List.mem_of_getElem? (i := 426) (by decide +kernel)) (by decide +kernel), lw_in (List.mem_of_getElem? (i := 1) (by decide +kernel)) (by decide +kernel), ⟨by decide +kernel, by decide +kernel⟩, by decide +kernel⟩
theorem mv_X5_offer : MV yX5_offer := ⟨lw_in (List.mem_of_getElem? (i := 424) (by decide +kernel)) (by decide +kernel), lw_in (List.mem_of_getElem? (i := 425) (by decide +kernel)) (by decide +kernel)⟩
theorem mi_X5_run : MI yX5_run cX5_run 4 (some .int) 1 := ⟨lw_in (List.mem_of_getElem? (i := 525) (by decide +kernel)) (by decide +kernel), lw_in (List.mem_of_getElem? (i := 1) (by decide +kernel)) (by decide +kernel), ⟨by decide +kernel, by decide +kernel⟩, by decide +kernel⟩
theorem mv_X5_run : MV yX5_run := ⟨lw_in (List.mem_of_getElem? (i := 523) (by decide +kernel)) (by decide +kernel), lw_in (List.mem_of_getElem? (i := 524) (by decide +kernel)) (by decide +kernel)⟩
theorem mi_X5_take : MI yX5_take cX5_take 4 (some .int) 1 := ⟨lw_in (List.mem_of_getElem? (i := 615) (by decide +kernel)) (by decide +kernel), lw_in (List.mem_of_getElem? (i := 1) (by decide +kernel)) (by decide +kernel), ⟨by decide +kernel, by decide +kernel⟩, by decide +kernel⟩
theorem mv_X5_take : MV yX5_take := ⟨lw_in (List.mem_of_getElem? (i := 613) (by decide +kernel)) (by decide +kernel), lw_in (List.mem_of_getElem? (i := 614) (by decide +kernel)) (by decide +kernel)⟩
theorem mi_X5_answer : MI yX5_answer cX5_answer 2 (some .int) 1 := ⟨lw_in (List.mem_of_getElem? (i := 189) (by decide +kernel)) (by decide +kernel), lw_in (List.mem_of_getElem? (i := 1) (by decide +kernel)) (by decide +kernel), ⟨by decide +kernel, by decide +kernel⟩, by decide +kernel⟩
theorem mv_X5_answer : MV yX5_answer := ⟨lw_in (List.mem_of_getElem? (i := 187) (by decide +kernel)) (by decide +kernel), lw_in (List.mem_of_getElem? (i := 188) (by decide +kernel)) (by decide +kernel)⟩
theorem mi_X5_look : MI yX5_look cX5_look 4 (some .int) 2 := ⟨lw_in (List.mem_of_getElem? (i := 193) (by decide +kernel)) (by decide +kernel), lw_in (List.mem_of_getElem? (i := 1) (by decide +kernel)) (by decide +kernel), ⟨by decide +kernel, by decide +kernel⟩, by decide +kernel⟩
theorem mv_X5_look : MV yX5_look := ⟨lw_in (List.mem_of_getElem? (i := 191) (by decide +kernel)) (by decide +kernel), lw_in (List.mem_of_getElem? (i := 192) (by decide +kernel)) (by decide +kernel)⟩
theorem mi_X5_packet : MI yX5_packet cX5_packet 4 (some .int) 2 := ⟨lw_in (List.mem_of_getElem? (i := 209) (by decide +kernel)) (by decide +kernel), lw_in (List.mem_of_getElem? (i := 1) (by decide +kernel)) (by decide +kernel), ⟨by decide +kernel, by decide +kernel⟩, by decide +kernel⟩
theorem mv_X5_packet : MV yX5_packet := ⟨lw_in (List.mem_of_getElem? (i := 207) (by decide +kernel)) (by decide +kernel), lw_in (List.mem_of_getElem? (i := 208) (by decide +kernel)) (by decide +kernel)⟩
theorem mi_X5_wire : MI yX5_wire cX5_wire 4 (some .int) 2 := ⟨lw_in (List.mem_of_getElem? (i := 221) (by decide +kernel)) (by decide +kernel), lw_in (List.mem_of_getElem? (i := 1) (by decide +kernel)) (by decide +kernel), ⟨by decide +kernel, by decide +kernel⟩, by decide +kernel⟩
theorem mv_X5_wire : MV yX5_wire := ⟨lw_in (List.mem_of_getElem? (i := 219) (by decide +kernel)) (by decide +kernel), lw_in (List.mem_of_getElem? (i := 220) (by decide +kernel)) (by decide +kernel)⟩
theorem mi_X5_buffer : MI yX5_buffer cX5_buffer 6 (some .int) 3 := ⟨lw_in (List.mem_of_getElem? (i := 241) (by decide +kernel)) (by decide +kernel), lw_in (List.mem_of_getElem? (i := 1) (by decide +kernel)) (by decide +kernel), ⟨by decide +kernel, by decide +kernel⟩, by decide +kernel⟩
theorem mv_X5_buffer : MV yX5_buffer := ⟨lw_in (List.mem_of_getElem? (i := 239) (by decide +kernel)) (by decide +kernel), lw_in (List.mem_of_getElem? (i := 240) (by decide +kernel)) (by decide +kernel)⟩
theorem mi_X5_back : MI yX5_back cX5_back 4 (some .int) 2 := ⟨lw_in (List.mem_of_getElem? (i := 249) (by decide +kernel)) (by decide +kernel), lw_in (List.mem_of_getElem? (i := 1) (by decide +kernel)) (by decide +kernel), ⟨by decide +kernel, by decide +kernel⟩, by decide +kernel⟩
theorem mv_X5_back : MV yX5_back := ⟨lw_in (List.mem_of_getElem? (i := 247) (by decide +kernel)) (by decide +kernel), lw_in (List.mem_of_getElem? (i := 248) (by decide +kernel)) (by decide +kernel)⟩
theorem mi_X5_count : MI yX5_count cX5_count 2 (some .int) 1 := ⟨lw_in (List.mem_of_getElem? (i := 253) (by decide +kernel)) (by decide +kernel), lw_in (List.mem_of_getElem? (i := 1) (by decide +kernel)) (by decide +kernel), ⟨by decide +kernel, by decide +kernel⟩, by decide +kernel⟩
theorem mv_X5_count : MV yX5_count := ⟨lw_in (List.mem_of_getElem? (i := 251) (by decide +kernel)) (by decide +kernel), lw_in (List.mem_of_getElem? (i := 252) (by decide +kernel)) (by decide +kernel)⟩
theorem mi_X5_isWithin : MI yX5_isWithin cX5_isWithin 2 (some .boolean) 2 := ⟨lw_in (List.mem_of_getElem? (i := 268) (by decide +kernel)) (by decide +kernel), lw_in (List.mem_of_getElem? (i := 1) (by decide +kernel)) (by decide +kernel), ⟨by decide +kernel, by decide +kernel⟩, by decide +kernel⟩
theorem ms_X5_isWithin : Cond.static yX5_isWithin ∈ lwG := lw_in (List.mem_of_getElem? (i := 267) (by decide +kernel)) (by decide +kernel)
theorem mi_X5_putOnTape : MI yX5_putOnTape cX5_putOnTape 2 none 1 := ⟨lw_in (List.mem_of_getElem? (i := 419) (by decide +kernel)) (by decide +kernel), lw_in (List.mem_of_getElem? (i := 1) (by decide +kernel)) (by decide +kernel), ⟨by decide +kernel, by decide +kernel⟩, by decide +kernel⟩
theorem mv_X5_putOnTape : MV yX5_putOnTape := ⟨lw_in (List.mem_of_getElem? (i := 418) (by decide +kernel)) (by decide +kernel), List.mem_of_getElem? (i := 2) (by decide +kernel)⟩
theorem mi_X6_init : MI yX6_init cX6_init 1 none 0 := ⟨lw_in (List.mem_of_getElem? (i := 629) (by decide +kernel)) (by decide +kernel), lw_in (List.mem_of_getElem? (i := 5) (by decide +kernel)) (by decide +kernel), ⟨by decide +kernel, by decide +kernel⟩, by decide +kernel⟩
theorem mn_X6_init : Cond.instanceMethod yX6_init ∈ lwG := lw_in (List.mem_of_getElem? (i := 628) (by decide +kernel)) (by decide +kernel)
theorem mi_X6_thrown : MI yX6_thrown cX6_thrown 1 (some .int) 0 := ⟨lw_in (List.mem_of_getElem? (i := 760) (by decide +kernel)) (by decide +kernel), lw_in (List.mem_of_getElem? (i := 5) (by decide +kernel)) (by decide +kernel), ⟨by decide +kernel, by decide +kernel⟩, by decide +kernel⟩
theorem mv_X6_thrown : MV yX6_thrown := ⟨lw_in (List.mem_of_getElem? (i := 758) (by decide +kernel)) (by decide +kernel), lw_in (List.mem_of_getElem? (i := 759) (by decide +kernel)) (by decide +kernel)⟩
theorem mi_X6_isIn : MI yX6_isIn cX6_isIn 3 (some .boolean) 3 := ⟨lw_in (List.mem_of_getElem? (i := 637) (by decide +kernel)) (by decide +kernel), lw_in (List.mem_of_getElem? (i := 5) (by decide +kernel)) (by decide +kernel), ⟨by decide +kernel, by decide +kernel⟩, by decide +kernel⟩
theorem ms_X6_isIn : Cond.static yX6_isIn ∈ lwG := lw_in (List.mem_of_getElem? (i := 636) (by decide +kernel)) (by decide +kernel)
theorem mi_X6_link : MI yX6_link cX6_link 6 none 4 := ⟨lw_in (List.mem_of_getElem? (i := 634) (by decide +kernel)) (by decide +kernel), lw_in (List.mem_of_getElem? (i := 5) (by decide +kernel)) (by decide +kernel), ⟨by decide +kernel, by decide +kernel⟩, by decide +kernel⟩
theorem mv_X6_link : MV yX6_link := ⟨lw_in (List.mem_of_getElem? (i := 632) (by decide +kernel)) (by decide +kernel), lw_in (List.mem_of_getElem? (i := 633) (by decide +kernel)) (by decide +kernel)⟩
theorem mi_X6_isChannel : MI yX6_isChannel cX6_isChannel 2 (some .boolean) 1 := ⟨lw_in (List.mem_of_getElem? (i := 769) (by decide +kernel)) (by decide +kernel), lw_in (List.mem_of_getElem? (i := 5) (by decide +kernel)) (by decide +kernel), ⟨by decide +kernel, by decide +kernel⟩, by decide +kernel⟩
theorem mv_X6_isChannel : MV yX6_isChannel := ⟨lw_in (List.mem_of_getElem? (i := 768) (by decide +kernel)) (by decide +kernel), List.mem_of_getElem? (i := 13) (by decide +kernel)⟩
theorem mi_X6_depth : MI yX6_depth cX6_depth 4 (some .int) 2 := ⟨lw_in (List.mem_of_getElem? (i := 765) (by decide +kernel)) (by decide +kernel), lw_in (List.mem_of_getElem? (i := 5) (by decide +kernel)) (by decide +kernel), ⟨by decide +kernel, by decide +kernel⟩, by decide +kernel⟩
theorem mv_X6_depth : MV yX6_depth := ⟨lw_in (List.mem_of_getElem? (i := 763) (by decide +kernel)) (by decide +kernel), lw_in (List.mem_of_getElem? (i := 764) (by decide +kernel)) (by decide +kernel)⟩
theorem mi_X6_weight : MI yX6_weight cX6_weight 4 (some .int) 2 := ⟨lw_in (List.mem_of_getElem? (i := 773) (by decide +kernel)) (by decide +kernel), lw_in (List.mem_of_getElem? (i := 5) (by decide +kernel)) (by decide +kernel), ⟨by decide +kernel, by decide +kernel⟩, by decide +kernel⟩
theorem mv_X6_weight : MV yX6_weight := ⟨lw_in (List.mem_of_getElem? (i := 771) (by decide +kernel)) (by decide +kernel), lw_in (List.mem_of_getElem? (i := 772) (by decide +kernel)) (by decide +kernel)⟩
theorem mi_X6_arbiter : MI yX6_arbiter cX6_arbiter 3 (some .int) 1 := ⟨lw_in (List.mem_of_getElem? (i := 777) (by decide +kernel)) (by decide +kernel), lw_in (List.mem_of_getElem? (i := 5) (by decide +kernel)) (by decide +kernel), ⟨by decide +kernel, by decide +kernel⟩, by decide +kernel⟩
theorem mv_X6_arbiter : MV yX6_arbiter := ⟨lw_in (List.mem_of_getElem? (i := 775) (by decide +kernel)) (by decide +kernel), lw_in (List.mem_of_getElem? (i := 776) (by decide +kernel)) (by decide +kernel)⟩
theorem mi_X6_mask : MI yX6_mask cX6_mask 2 (some .int) 1 := ⟨lw_in (List.mem_of_getElem? (i := 781) (by decide +kernel)) (by decide +kernel), lw_in (List.mem_of_getElem? (i := 5) (by decide +kernel)) (by decide +kernel), ⟨by decide +kernel, by decide +kernel⟩, by decide +kernel⟩
theorem mv_X6_mask : MV yX6_mask := ⟨lw_in (List.mem_of_getElem? (i := 779) (by decide +kernel)) (by decide +kernel), lw_in (List.mem_of_getElem? (i := 780) (by decide +kernel)) (by decide +kernel)⟩
theorem mi_X6_free : MI yX6_free cX6_free 2 (some .int) 0 := ⟨lw_in (List.mem_of_getElem? (i := 785) (by decide +kernel)) (by decide +kernel), lw_in (List.mem_of_getElem? (i := 5) (by decide +kernel)) (by decide +kernel), ⟨by decide +kernel, by decide +kernel⟩, by decide +kernel⟩
theorem mv_X6_free : MV yX6_free := ⟨lw_in (List.mem_of_getElem? (i := 783) (by decide +kernel)) (by decide +kernel), lw_in (List.mem_of_getElem? (i := 784) (by decide +kernel)) (by decide +kernel)⟩
theorem mi_X6_feed : MI yX6_feed cX6_feed 7 (some .int) 3 := ⟨lw_in (List.mem_of_getElem? (i := 789) (by decide +kernel)) (by decide +kernel), lw_in (List.mem_of_getElem? (i := 5) (by decide +kernel)) (by decide +kernel), ⟨by decide +kernel, by decide +kernel⟩, by decide +kernel⟩
theorem mv_X6_feed : MV yX6_feed := ⟨lw_in (List.mem_of_getElem? (i := 787) (by decide +kernel)) (by decide +kernel), lw_in (List.mem_of_getElem? (i := 788) (by decide +kernel)) (by decide +kernel)⟩
theorem mi_X6_flitsOf : MI yX6_flitsOf cX6_flitsOf 1 (some .int) 1 := ⟨lw_in (List.mem_of_getElem? (i := 796) (by decide +kernel)) (by decide +kernel), lw_in (List.mem_of_getElem? (i := 5) (by decide +kernel)) (by decide +kernel), ⟨by decide +kernel, by decide +kernel⟩, by decide +kernel⟩
theorem ms_X6_flitsOf : Cond.static yX6_flitsOf ∈ lwG := lw_in (List.mem_of_getElem? (i := 795) (by decide +kernel)) (by decide +kernel)
theorem mi_X6_flitBytes : MI yX6_flitBytes cX6_flitBytes 3 (some .int) 2 := ⟨lw_in (List.mem_of_getElem? (i := 869) (by decide +kernel)) (by decide +kernel), lw_in (List.mem_of_getElem? (i := 5) (by decide +kernel)) (by decide +kernel), ⟨by decide +kernel, by decide +kernel⟩, by decide +kernel⟩
theorem mv_X6_flitBytes : MV yX6_flitBytes := ⟨lw_in (List.mem_of_getElem? (i := 868) (by decide +kernel)) (by decide +kernel), List.mem_of_getElem? (i := 27) (by decide +kernel)⟩
theorem mi_X6_offer : MI yX6_offer cX6_offer 6 (some .int) 1 := ⟨lw_in (List.mem_of_getElem? (i := 793) (by decide +kernel)) (by decide +kernel), lw_in (List.mem_of_getElem? (i := 5) (by decide +kernel)) (by decide +kernel), ⟨by decide +kernel, by decide +kernel⟩, by decide +kernel⟩
theorem mv_X6_offer : MV yX6_offer := ⟨lw_in (List.mem_of_getElem? (i := 791) (by decide +kernel)) (by decide +kernel), lw_in (List.mem_of_getElem? (i := 792) (by decide +kernel)) (by decide +kernel)⟩
theorem mi_X6_credits : MI yX6_credits cX6_credits 2 (some .int) 1 := ⟨lw_in (List.mem_of_getElem? (i := 833) (by decide +kernel)) (by decide +kernel), lw_in (List.mem_of_getElem? (i := 5) (by decide +kernel)) (by decide +kernel), ⟨by decide +kernel, by decide +kernel⟩, by decide +kernel⟩
theorem mv_X6_credits : MV yX6_credits := ⟨lw_in (List.mem_of_getElem? (i := 832) (by decide +kernel)) (by decide +kernel), List.mem_of_getElem? (i := 21) (by decide +kernel)⟩
theorem mi_X6_comesBack : MI yX6_comesBack cX6_comesBack 2 none 0 := ⟨lw_in (List.mem_of_getElem? (i := 808) (by decide +kernel)) (by decide +kernel), lw_in (List.mem_of_getElem? (i := 5) (by decide +kernel)) (by decide +kernel), ⟨by decide +kernel, by decide +kernel⟩, by decide +kernel⟩
theorem mv_X6_comesBack : MV yX6_comesBack := ⟨lw_in (List.mem_of_getElem? (i := 807) (by decide +kernel)) (by decide +kernel), List.mem_of_getElem? (i := 15) (by decide +kernel)⟩
theorem mi_X6_comes : MI yX6_comes cX6_comes 2 none 0 := ⟨lw_in (List.mem_of_getElem? (i := 812) (by decide +kernel)) (by decide +kernel), lw_in (List.mem_of_getElem? (i := 5) (by decide +kernel)) (by decide +kernel), ⟨by decide +kernel, by decide +kernel⟩, by decide +kernel⟩
theorem mv_X6_comes : MV yX6_comes := ⟨lw_in (List.mem_of_getElem? (i := 811) (by decide +kernel)) (by decide +kernel), List.mem_of_getElem? (i := 16) (by decide +kernel)⟩
theorem mi_X6_drains : MI yX6_drains cX6_drains 6 (some .int) 0 := ⟨lw_in (List.mem_of_getElem? (i := 817) (by decide +kernel)) (by decide +kernel), lw_in (List.mem_of_getElem? (i := 5) (by decide +kernel)) (by decide +kernel), ⟨by decide +kernel, by decide +kernel⟩, by decide +kernel⟩
theorem mv_X6_drains : MV yX6_drains := ⟨lw_in (List.mem_of_getElem? (i := 816) (by decide +kernel)) (by decide +kernel), List.mem_of_getElem? (i := 17) (by decide +kernel)⟩
theorem mi_X6_isAble : MI yX6_isAble cX6_isAble 2 (some .boolean) 1 := ⟨lw_in (List.mem_of_getElem? (i := 829) (by decide +kernel)) (by decide +kernel), lw_in (List.mem_of_getElem? (i := 5) (by decide +kernel)) (by decide +kernel), ⟨by decide +kernel, by decide +kernel⟩, by decide +kernel⟩
theorem mv_X6_isAble : MV yX6_isAble := ⟨lw_in (List.mem_of_getElem? (i := 828) (by decide +kernel)) (by decide +kernel), List.mem_of_getElem? (i := 20) (by decide +kernel)⟩
theorem mi_X6_byTurns : MI yX6_byTurns cX6_byTurns 3 (some .int) 0 := ⟨lw_in (List.mem_of_getElem? (i := 845) (by decide +kernel)) (by decide +kernel), lw_in (List.mem_of_getElem? (i := 5) (by decide +kernel)) (by decide +kernel), ⟨by decide +kernel, by decide +kernel⟩, by decide +kernel⟩
theorem mv_X6_byTurns : MV yX6_byTurns := ⟨lw_in (List.mem_of_getElem? (i := 844) (by decide +kernel)) (by decide +kernel), List.mem_of_getElem? (i := 24) (by decide +kernel)⟩
theorem mi_X6_least : MI yX6_least cX6_least 2 (some .int) 0 := ⟨lw_in (List.mem_of_getElem? (i := 841) (by decide +kernel)) (by decide +kernel), lw_in (List.mem_of_getElem? (i := 5) (by decide +kernel)) (by decide +kernel), ⟨by decide +kernel, by decide +kernel⟩, by decide +kernel⟩
theorem mv_X6_least : MV yX6_least := ⟨lw_in (List.mem_of_getElem? (i := 840) (by decide +kernel)) (by decide +kernel), List.mem_of_getElem? (i := 23) (by decide +kernel)⟩
theorem mi_X6_begun : MI yX6_begun cX6_begun 2 (some .int) 0 := ⟨lw_in (List.mem_of_getElem? (i := 837) (by decide +kernel)) (by decide +kernel), lw_in (List.mem_of_getElem? (i := 5) (by decide +kernel)) (by decide +kernel), ⟨by decide +kernel, by decide +kernel⟩, by decide +kernel⟩
theorem mv_X6_begun : MV yX6_begun := ⟨lw_in (List.mem_of_getElem? (i := 836) (by decide +kernel)) (by decide +kernel), List.mem_of_getElem? (i := 22) (by decide +kernel)⟩
theorem mi_X6_doesWait : MI yX6_doesWait cX6_doesWait 2 (some .boolean) 0 := ⟨lw_in (List.mem_of_getElem? (i := 825) (by decide +kernel)) (by decide +kernel), lw_in (List.mem_of_getElem? (i := 5) (by decide +kernel)) (by decide +kernel), ⟨by decide +kernel, by decide +kernel⟩, by decide +kernel⟩
theorem mv_X6_doesWait : MV yX6_doesWait := ⟨lw_in (List.mem_of_getElem? (i := 824) (by decide +kernel)) (by decide +kernel), List.mem_of_getElem? (i := 19) (by decide +kernel)⟩
theorem mi_X6_sends : MI yX6_sends cX6_sends 6 none 0 := ⟨lw_in (List.mem_of_getElem? (i := 821) (by decide +kernel)) (by decide +kernel), lw_in (List.mem_of_getElem? (i := 5) (by decide +kernel)) (by decide +kernel), ⟨by decide +kernel, by decide +kernel⟩, by decide +kernel⟩
theorem mv_X6_sends : MV yX6_sends := ⟨lw_in (List.mem_of_getElem? (i := 820) (by decide +kernel)) (by decide +kernel), List.mem_of_getElem? (i := 18) (by decide +kernel)⟩
theorem mi_X6_cycle : MI yX6_cycle cX6_cycle 2 (some .int) 0 := ⟨lw_in (List.mem_of_getElem? (i := 804) (by decide +kernel)) (by decide +kernel), lw_in (List.mem_of_getElem? (i := 5) (by decide +kernel)) (by decide +kernel), ⟨by decide +kernel, by decide +kernel⟩, by decide +kernel⟩
theorem mv_X6_cycle : MV yX6_cycle := ⟨lw_in (List.mem_of_getElem? (i := 803) (by decide +kernel)) (by decide +kernel), List.mem_of_getElem? (i := 14) (by decide +kernel)⟩
theorem mi_X6_run : MI yX6_run cX6_run 4 (some .int) 1 := ⟨lw_in (List.mem_of_getElem? (i := 800) (by decide +kernel)) (by decide +kernel), lw_in (List.mem_of_getElem? (i := 5) (by decide +kernel)) (by decide +kernel), ⟨by decide +kernel, by decide +kernel⟩, by decide +kernel⟩
theorem mv_X6_run : MV yX6_run := ⟨lw_in (List.mem_of_getElem? (i := 798) (by decide +kernel)) (by decide +kernel), lw_in (List.mem_of_getElem? (i := 799) (by decide +kernel)) (by decide +kernel)⟩
theorem mi_X6_take : MI yX6_take cX6_take 4 (some .int) 1 := ⟨lw_in (List.mem_of_getElem? (i := 849) (by decide +kernel)) (by decide +kernel), lw_in (List.mem_of_getElem? (i := 5) (by decide +kernel)) (by decide +kernel), ⟨by decide +kernel, by decide +kernel⟩, by decide +kernel⟩
theorem mv_X6_take : MV yX6_take := ⟨lw_in (List.mem_of_getElem? (i := 847) (by decide +kernel)) (by decide +kernel), lw_in (List.mem_of_getElem? (i := 848) (by decide +kernel)) (by decide +kernel)⟩
theorem mi_X6_answer : MI yX6_answer cX6_answer 2 (some .int) 1 := ⟨lw_in (List.mem_of_getElem? (i := 853) (by decide +kernel)) (by decide +kernel), lw_in (List.mem_of_getElem? (i := 5) (by decide +kernel)) (by decide +kernel), ⟨by decide +kernel, by decide +kernel⟩, by decide +kernel⟩
theorem mv_X6_answer : MV yX6_answer := ⟨lw_in (List.mem_of_getElem? (i := 851) (by decide +kernel)) (by decide +kernel), lw_in (List.mem_of_getElem? (i := 852) (by decide +kernel)) (by decide +kernel)⟩
theorem mi_X6_arrived : MI yX6_arrived cX6_arrived 5 (some .int) 2 := ⟨lw_in (List.mem_of_getElem? (i := 861) (by decide +kernel)) (by decide +kernel), lw_in (List.mem_of_getElem? (i := 5) (by decide +kernel)) (by decide +kernel), ⟨by decide +kernel, by decide +kernel⟩, by decide +kernel⟩
theorem mv_X6_arrived : MV yX6_arrived := ⟨lw_in (List.mem_of_getElem? (i := 860) (by decide +kernel)) (by decide +kernel), List.mem_of_getElem? (i := 25) (by decide +kernel)⟩
theorem mi_X6_together : MI yX6_together cX6_together 4 (some .int) 1 := ⟨lw_in (List.mem_of_getElem? (i := 865) (by decide +kernel)) (by decide +kernel), lw_in (List.mem_of_getElem? (i := 5) (by decide +kernel)) (by decide +kernel), ⟨by decide +kernel, by decide +kernel⟩, by decide +kernel⟩
theorem mv_X6_together : MV yX6_together := ⟨lw_in (List.mem_of_getElem? (i := 864) (by decide +kernel)) (by decide +kernel), List.mem_of_getElem? (i := 26) (by decide +kernel)⟩
theorem mi_X6_look : MI yX6_look cX6_look 3 (some .int) 2 := ⟨lw_in (List.mem_of_getElem? (i := 857) (by decide +kernel)) (by decide +kernel), lw_in (List.mem_of_getElem? (i := 5) (by decide +kernel)) (by decide +kernel), ⟨by decide +kernel, by decide +kernel⟩, by decide +kernel⟩
theorem mv_X6_look : MV yX6_look := ⟨lw_in (List.mem_of_getElem? (i := 855) (by decide +kernel)) (by decide +kernel), lw_in (List.mem_of_getElem? (i := 856) (by decide +kernel)) (by decide +kernel)⟩
theorem mi_X6_packet : MI yX6_packet cX6_packet 3 (some .int) 2 := ⟨lw_in (List.mem_of_getElem? (i := 874) (by decide +kernel)) (by decide +kernel), lw_in (List.mem_of_getElem? (i := 5) (by decide +kernel)) (by decide +kernel), ⟨by decide +kernel, by decide +kernel⟩, by decide +kernel⟩
theorem mv_X6_packet : MV yX6_packet := ⟨lw_in (List.mem_of_getElem? (i := 872) (by decide +kernel)) (by decide +kernel), lw_in (List.mem_of_getElem? (i := 873) (by decide +kernel)) (by decide +kernel)⟩
theorem mi_X6_flit : MI yX6_flit cX6_flit 4 (some .int) 3 := ⟨lw_in (List.mem_of_getElem? (i := 882) (by decide +kernel)) (by decide +kernel), lw_in (List.mem_of_getElem? (i := 5) (by decide +kernel)) (by decide +kernel), ⟨by decide +kernel, by decide +kernel⟩, by decide +kernel⟩
theorem mv_X6_flit : MV yX6_flit := ⟨lw_in (List.mem_of_getElem? (i := 881) (by decide +kernel)) (by decide +kernel), List.mem_of_getElem? (i := 28) (by decide +kernel)⟩
theorem mi_X6_wire : MI yX6_wire cX6_wire 5 (some .int) 2 := ⟨lw_in (List.mem_of_getElem? (i := 878) (by decide +kernel)) (by decide +kernel), lw_in (List.mem_of_getElem? (i := 5) (by decide +kernel)) (by decide +kernel), ⟨by decide +kernel, by decide +kernel⟩, by decide +kernel⟩
theorem mv_X6_wire : MV yX6_wire := ⟨lw_in (List.mem_of_getElem? (i := 876) (by decide +kernel)) (by decide +kernel), lw_in (List.mem_of_getElem? (i := 877) (by decide +kernel)) (by decide +kernel)⟩
theorem mi_X6_buffer : MI yX6_buffer cX6_buffer 4 (some .int) 3 := ⟨lw_in (List.mem_of_getElem? (i := 886) (by decide +kernel)) (by decide +kernel), lw_in (List.mem_of_getElem? (i := 5) (by decide +kernel)) (by decide +kernel), ⟨by decide +kernel, by decide +kernel⟩, by decide +kernel⟩
theorem mv_X6_buffer : MV yX6_buffer := ⟨lw_in (List.mem_of_getElem? (i := 884) (by decide +kernel)) (by decide +kernel), lw_in (List.mem_of_getElem? (i := 885) (by decide +kernel)) (by decide +kernel)⟩
theorem mi_X6_back : MI yX6_back cX6_back 5 (some .int) 2 := ⟨lw_in (List.mem_of_getElem? (i := 890) (by decide +kernel)) (by decide +kernel), lw_in (List.mem_of_getElem? (i := 5) (by decide +kernel)) (by decide +kernel), ⟨by decide +kernel, by decide +kernel⟩, by decide +kernel⟩
theorem mv_X6_back : MV yX6_back := ⟨lw_in (List.mem_of_getElem? (i := 888) (by decide +kernel)) (by decide +kernel), lw_in (List.mem_of_getElem? (i := 889) (by decide +kernel)) (by decide +kernel)⟩
theorem mi_X6_count : MI yX6_count cX6_count 2 (some .int) 1 := ⟨lw_in (List.mem_of_getElem? (i := 894) (by decide +kernel)) (by decide +kernel), lw_in (List.mem_of_getElem? (i := 5) (by decide +kernel)) (by decide +kernel), ⟨by decide +kernel, by decide +kernel⟩, by decide +kernel⟩
theorem mv_X6_count : MV yX6_count := ⟨lw_in (List.mem_of_getElem? (i := 892) (by decide +kernel)) (by decide +kernel), lw_in (List.mem_of_getElem? (i := 893) (by decide +kernel)) (by decide +kernel)⟩
theorem mi_J9_floorMod_7cf53 : MI yJ9_floorMod_7cf53 cJ9_floorMod_7cf53 3 (some .int) 2 := ⟨lw_in (List.mem_of_getElem? (i := 557) (by decide +kernel)) (by decide +kernel), lw_in (List.mem_of_getElem? (i := 13) (by decide +kernel)) (by decide +kernel), ⟨by decide +kernel, by decide +kernel⟩, by decide +kernel⟩
theorem ms_J9_floorMod_7cf53 : Cond.static yJ9_floorMod_7cf53 ∈ lwG := lw_in (List.mem_of_getElem? (i := 556) (by decide +kernel)) (by decide +kernel)
theorem mi_J9_max_7cf53 : MI yJ9_max_7cf53 cJ9_max_7cf53 2 (some .int) 2 := ⟨lw_in (List.mem_of_getElem? (i := 546) (by decide +kernel)) (by decide +kernel), lw_in (List.mem_of_getElem? (i := 13) (by decide +kernel)) (by decide +kernel), ⟨by decide +kernel, by decide +kernel⟩, by decide +kernel⟩
theorem ms_J9_max_7cf53 : Cond.static yJ9_max_7cf53 ∈ lwG := lw_in (List.mem_of_getElem? (i := 545) (by decide +kernel)) (by decide +kernel)
theorem mi_J9_min_7cf53 : MI yJ9_min_7cf53 cJ9_min_7cf53 2 (some .int) 2 := ⟨lw_in (List.mem_of_getElem? (i := 441) (by decide +kernel)) (by decide +kernel), lw_in (List.mem_of_getElem? (i := 13) (by decide +kernel)) (by decide +kernel), ⟨by decide +kernel, by decide +kernel⟩, by decide +kernel⟩
theorem ms_J9_min_7cf53 : Cond.static yJ9_min_7cf53 ∈ lwG := lw_in (List.mem_of_getElem? (i := 440) (by decide +kernel)) (by decide +kernel)
theorem mi_J7_copyOf_9075b : MI yJ7_copyOf_9075b cJ7_copyOf_9075b 3 (some (.array .byte)) 2 := ⟨lw_in (List.mem_of_getElem? (i := 431) (by decide +kernel)) (by decide +kernel), lw_in (List.mem_of_getElem? (i := 12) (by decide +kernel)) (by decide +kernel), ⟨by decide +kernel, by decide +kernel⟩, by decide +kernel⟩
theorem ms_J7_copyOf_9075b : Cond.static yJ7_copyOf_9075b ∈ lwG := lw_in (List.mem_of_getElem? (i := 430) (by decide +kernel)) (by decide +kernel)
theorem lnkL_7 : Cond.methodLink RL 7 yX5_link ∈ lwG := lw_in (List.mem_of_getElem? (i := 262) (by decide +kernel)) (by decide +kernel)
theorem lnkL_15 : Cond.methodLink RL 15 yX5_depth ∈ lwG := lw_in (List.mem_of_getElem? (i := 342) (by decide +kernel)) (by decide +kernel)
theorem lnkL_21 : Cond.methodLink RL 21 yX5_weight ∈ lwG := lw_in (List.mem_of_getElem? (i := 366) (by decide +kernel)) (by decide +kernel)
theorem lnkL_24 : Cond.methodLink RL 24 yX5_arbiter ∈ lwG := lw_in (List.mem_of_getElem? (i := 374) (by decide +kernel)) (by decide +kernel)
theorem lnkL_28 : Cond.methodLink RL 28 yX5_mask ∈ lwG := lw_in (List.mem_of_getElem? (i := 383) (by decide +kernel)) (by decide +kernel)
theorem lnkL_33 : Cond.methodLink RL 33 yX5_feed ∈ lwG := lw_in (List.mem_of_getElem? (i := 410) (by decide +kernel)) (by decide +kernel)
theorem lnkL_37 : Cond.methodLink RL 37 yX5_offer ∈ lwG := lw_in (List.mem_of_getElem? (i := 423) (by decide +kernel)) (by decide +kernel)
theorem lnkL_40 : Cond.methodLink RL 40 yX5_run ∈ lwG := lw_in (List.mem_of_getElem? (i := 522) (by decide +kernel)) (by decide +kernel)
theorem lnkL_43 : Cond.methodLink RL 43 yX5_take ∈ lwG := lw_in (List.mem_of_getElem? (i := 612) (by decide +kernel)) (by decide +kernel)
theorem lnkL_46 : Cond.methodLink RL 46 yX5_init ∈ lwG := lw_in (List.mem_of_getElem? (i := 19) (by decide +kernel)) (by decide +kernel)
theorem lnkL_49 : Cond.methodLink RL 49 yX6_init ∈ lwG := lw_in (List.mem_of_getElem? (i := 627) (by decide +kernel)) (by decide +kernel)
theorem lnkL_50 : Cond.methodLink RL 50 yL_link ∈ lwG := lw_in (List.mem_of_getElem? (i := 258) (by decide +kernel)) (by decide +kernel)
theorem lnkL_55 : Cond.methodLink RL 55 yX6_link ∈ lwG := lw_in (List.mem_of_getElem? (i := 761) (by decide +kernel)) (by decide +kernel)
theorem lnkL_56 : Cond.methodLink RL 56 yX6_thrown ∈ lwG := lw_in (List.mem_of_getElem? (i := 757) (by decide +kernel)) (by decide +kernel)
theorem lnkL_60 : Cond.methodLink RL 60 yL_depth ∈ lwG := lw_in (List.mem_of_getElem? (i := 338) (by decide +kernel)) (by decide +kernel)
theorem lnkL_63 : Cond.methodLink RL 63 yX6_depth ∈ lwG := lw_in (List.mem_of_getElem? (i := 762) (by decide +kernel)) (by decide +kernel)
theorem lnkL_64 : Cond.methodLink RL 64 yL_weight ∈ lwG := lw_in (List.mem_of_getElem? (i := 363) (by decide +kernel)) (by decide +kernel)
theorem lnkL_66 : Cond.methodLink RL 66 yX6_weight ∈ lwG := lw_in (List.mem_of_getElem? (i := 770) (by decide +kernel)) (by decide +kernel)
theorem lnkL_67 : Cond.methodLink RL 67 yL_arbiter ∈ lwG := lw_in (List.mem_of_getElem? (i := 371) (by decide +kernel)) (by decide +kernel)
theorem lnkL_70 : Cond.methodLink RL 70 yX6_arbiter ∈ lwG := lw_in (List.mem_of_getElem? (i := 774) (by decide +kernel)) (by decide +kernel)
theorem lnkL_71 : Cond.methodLink RL 71 yL_mask ∈ lwG := lw_in (List.mem_of_getElem? (i := 379) (by decide +kernel)) (by decide +kernel)
theorem lnkL_73 : Cond.methodLink RL 73 yX6_mask ∈ lwG := lw_in (List.mem_of_getElem? (i := 778) (by decide +kernel)) (by decide +kernel)
theorem lnkL_74 : Cond.methodLink RL 74 yX5_free ∈ lwG := lw_in (List.mem_of_getElem? (i := 182) (by decide +kernel)) (by decide +kernel)
theorem lnkL_77 : Cond.methodLink RL 77 yX6_free ∈ lwG := lw_in (List.mem_of_getElem? (i := 782) (by decide +kernel)) (by decide +kernel)
theorem lnkL_80 : Cond.methodLink RL 80 yL_feed ∈ lwG := lw_in (List.mem_of_getElem? (i := 407) (by decide +kernel)) (by decide +kernel)
theorem lnkL_83 : Cond.methodLink RL 83 yX6_feed ∈ lwG := lw_in (List.mem_of_getElem? (i := 786) (by decide +kernel)) (by decide +kernel)
theorem lnkL_84 : Cond.methodLink RL 84 yL_offer ∈ lwG := lw_in (List.mem_of_getElem? (i := 420) (by decide +kernel)) (by decide +kernel)
theorem lnkL_86 : Cond.methodLink RL 86 yX6_offer ∈ lwG := lw_in (List.mem_of_getElem? (i := 790) (by decide +kernel)) (by decide +kernel)
theorem lnkL_87 : Cond.methodLink RL 87 yL_run ∈ lwG := lw_in (List.mem_of_getElem? (i := 519) (by decide +kernel)) (by decide +kernel)
theorem lnkL_89 : Cond.methodLink RL 89 yX6_run ∈ lwG := lw_in (List.mem_of_getElem? (i := 797) (by decide +kernel)) (by decide +kernel)
theorem lnkL_90 : Cond.methodLink RL 90 yL_take ∈ lwG := lw_in (List.mem_of_getElem? (i := 609) (by decide +kernel)) (by decide +kernel)
theorem lnkL_92 : Cond.methodLink RL 92 yX6_take ∈ lwG := lw_in (List.mem_of_getElem? (i := 846) (by decide +kernel)) (by decide +kernel)
theorem lnkL_93 : Cond.methodLink RL 93 yX5_answer ∈ lwG := lw_in (List.mem_of_getElem? (i := 186) (by decide +kernel)) (by decide +kernel)
theorem lnkL_96 : Cond.methodLink RL 96 yX6_answer ∈ lwG := lw_in (List.mem_of_getElem? (i := 850) (by decide +kernel)) (by decide +kernel)
theorem lnkL_97 : Cond.methodLink RL 97 yX5_look ∈ lwG := lw_in (List.mem_of_getElem? (i := 190) (by decide +kernel)) (by decide +kernel)
theorem lnkL_100 : Cond.methodLink RL 100 yX6_look ∈ lwG := lw_in (List.mem_of_getElem? (i := 854) (by decide +kernel)) (by decide +kernel)
theorem lnkL_101 : Cond.methodLink RL 101 yX5_packet ∈ lwG := lw_in (List.mem_of_getElem? (i := 206) (by decide +kernel)) (by decide +kernel)
theorem lnkL_104 : Cond.methodLink RL 104 yX6_packet ∈ lwG := lw_in (List.mem_of_getElem? (i := 871) (by decide +kernel)) (by decide +kernel)
theorem lnkL_105 : Cond.methodLink RL 105 yX5_wire ∈ lwG := lw_in (List.mem_of_getElem? (i := 218) (by decide +kernel)) (by decide +kernel)
theorem lnkL_108 : Cond.methodLink RL 108 yX6_wire ∈ lwG := lw_in (List.mem_of_getElem? (i := 875) (by decide +kernel)) (by decide +kernel)
theorem lnkL_109 : Cond.methodLink RL 109 yX5_buffer ∈ lwG := lw_in (List.mem_of_getElem? (i := 238) (by decide +kernel)) (by decide +kernel)
theorem lnkL_113 : Cond.methodLink RL 113 yX6_buffer ∈ lwG := lw_in (List.mem_of_getElem? (i := 883) (by decide +kernel)) (by decide +kernel)
theorem lnkL_114 : Cond.methodLink RL 114 yX5_back ∈ lwG := lw_in (List.mem_of_getElem? (i := 246) (by decide +kernel)) (by decide +kernel)
theorem lnkL_117 : Cond.methodLink RL 117 yX6_back ∈ lwG := lw_in (List.mem_of_getElem? (i := 887) (by decide +kernel)) (by decide +kernel)
theorem lnkL_118 : Cond.methodLink RL 118 yX5_count ∈ lwG := lw_in (List.mem_of_getElem? (i := 250) (by decide +kernel)) (by decide +kernel)
theorem lnkL_121 : Cond.methodLink RL 121 yX6_count ∈ lwG := lw_in (List.mem_of_getElem? (i := 891) (by decide +kernel)) (by decide +kernel)
theorem lnkX5_22 : Cond.methodLink RX5 22 yX3_init ∈ lwG := lw_in (List.mem_of_getElem? (i := 27) (by decide +kernel)) (by decide +kernel)
theorem lnkX5_29 : Cond.methodLink RX5 29 yX5_isWithin ∈ lwG := lw_in (List.mem_of_getElem? (i := 266) (by decide +kernel)) (by decide +kernel)
theorem lnkX5_44 : Cond.methodLink RX5 44 yX3_channelAt ∈ lwG := lw_in (List.mem_of_getElem? (i := 194) (by decide +kernel)) (by decide +kernel)
theorem lnkX5_76 : Cond.methodLink RX5 76 yX3_addRow ∈ lwG := lw_in (List.mem_of_getElem? (i := 387) (by decide +kernel)) (by decide +kernel)
theorem lnkX5_92 : Cond.methodLink RX5 92 yX5_putOnTape ∈ lwG := lw_in (List.mem_of_getElem? (i := 416) (by decide +kernel)) (by decide +kernel)
theorem lnkX5_103 : Cond.methodLink RX5 103 yJ7_copyOf_9075b ∈ lwG := lw_in (List.mem_of_getElem? (i := 429) (by decide +kernel)) (by decide +kernel)
theorem lnkX5_109 : Cond.methodLink RX5 109 yX3_addPacket ∈ lwG := lw_in (List.mem_of_getElem? (i := 445) (by decide +kernel)) (by decide +kernel)
theorem lnkX5_115 : Cond.methodLink RX5 115 yX3_passCycle ∈ lwG := lw_in (List.mem_of_getElem? (i := 527) (by decide +kernel)) (by decide +kernel)
theorem lnkX5_119 : Cond.methodLink RX5 119 yX3_earliestToTake ∈ lwG := lw_in (List.mem_of_getElem? (i := 616) (by decide +kernel)) (by decide +kernel)
theorem lnkX5_138 : Cond.methodLink RX5 138 yX0_property ∈ lwG := lw_in (List.mem_of_getElem? (i := 198) (by decide +kernel)) (by decide +kernel)
theorem lnkX5_142 : Cond.methodLink RX5 142 yX3_packetAt ∈ lwG := lw_in (List.mem_of_getElem? (i := 210) (by decide +kernel)) (by decide +kernel)
theorem lnkX5_146 : Cond.methodLink RX5 146 yX4_property ∈ lwG := lw_in (List.mem_of_getElem? (i := 214) (by decide +kernel)) (by decide +kernel)
theorem lnkX5_147 : Cond.methodLink RX5 147 yX3_flitThatComesIn ∈ lwG := lw_in (List.mem_of_getElem? (i := 222) (by decide +kernel)) (by decide +kernel)
theorem lnkX5_151 : Cond.methodLink RX5 151 yX1_property ∈ lwG := lw_in (List.mem_of_getElem? (i := 226) (by decide +kernel)) (by decide +kernel)
theorem lnkX5_158 : Cond.methodLink RX5 158 yX2_flitAt ∈ lwG := lw_in (List.mem_of_getElem? (i := 242) (by decide +kernel)) (by decide +kernel)
theorem lnkX5_167 : Cond.methodLink RX5 167 yX3_property ∈ lwG := lw_in (List.mem_of_getElem? (i := 254) (by decide +kernel)) (by decide +kernel)
theorem lnkX3_70 : Cond.methodLink RX3 70 yX0_init ∈ lwG := lw_in (List.mem_of_getElem? (i := 38) (by decide +kernel)) (by decide +kernel)
theorem lnkX3_73 : Cond.methodLink RX3 73 yX4_init ∈ lwG := lw_in (List.mem_of_getElem? (i := 450) (by decide +kernel)) (by decide +kernel)
theorem lnkX3_83 : Cond.methodLink RX3 83 yX1_init ∈ lwG := lw_in (List.mem_of_getElem? (i := 496) (by decide +kernel)) (by decide +kernel)
theorem lnkX3_86 : Cond.methodLink RX3 86 yX2_add ∈ lwG := lw_in (List.mem_of_getElem? (i := 515) (by decide +kernel)) (by decide +kernel)
theorem lnkX3_101 : Cond.methodLink RX3 101 yX3_packetAt ∈ lwG := lw_in (List.mem_of_getElem? (i := 620) (by decide +kernel)) (by decide +kernel)
theorem lnkX3_109 : Cond.methodLink RX3 109 yX4_canBeTaken ∈ lwG := lw_in (List.mem_of_getElem? (i := 621) (by decide +kernel)) (by decide +kernel)
theorem lnkX3_113 : Cond.methodLink RX3 113 yX0_getCreditsBack ∈ lwG := lw_in (List.mem_of_getElem? (i := 531) (by decide +kernel)) (by decide +kernel)
theorem lnkX3_117 : Cond.methodLink RX3 117 yX3_landFlit ∈ lwG := lw_in (List.mem_of_getElem? (i := 535) (by decide +kernel)) (by decide +kernel)
theorem lnkX3_120 : Cond.methodLink RX3 120 yX3_drainBuffers ∈ lwG := lw_in (List.mem_of_getElem? (i := 547) (by decide +kernel)) (by decide +kernel)
theorem lnkX3_124 : Cond.methodLink RX3 124 yX3_sendFlit ∈ lwG := lw_in (List.mem_of_getElem? (i := 572) (by decide +kernel)) (by decide +kernel)
theorem lnkX3_134 : Cond.methodLink RX3 134 yX0_land ∈ lwG := lw_in (List.mem_of_getElem? (i := 539) (by decide +kernel)) (by decide +kernel)
theorem lnkX3_137 : Cond.methodLink RX3 137 yX3_maskNow ∈ lwG := lw_in (List.mem_of_getElem? (i := 551) (by decide +kernel)) (by decide +kernel)
theorem lnkX3_143 : Cond.methodLink RX3 143 yX0_drain ∈ lwG := lw_in (List.mem_of_getElem? (i := 558) (by decide +kernel)) (by decide +kernel)
theorem lnkX3_147 : Cond.methodLink RX3 147 yX3_noteArrived ∈ lwG := lw_in (List.mem_of_getElem? (i := 568) (by decide +kernel)) (by decide +kernel)
theorem lnkX3_151 : Cond.methodLink RX3 151 yJ9_floorMod_7cf53 ∈ lwG := lw_in (List.mem_of_getElem? (i := 555) (by decide +kernel)) (by decide +kernel)
theorem lnkX3_163 : Cond.methodLink RX3 163 yX3_lastMayGoOn ∈ lwG := lw_in (List.mem_of_getElem? (i := 576) (by decide +kernel)) (by decide +kernel)
theorem lnkX3_166 : Cond.methodLink RX3 166 yX3_chooseChannel ∈ lwG := lw_in (List.mem_of_getElem? (i := 585) (by decide +kernel)) (by decide +kernel)
theorem lnkX3_169 : Cond.methodLink RX3 169 yX3_channelAt ∈ lwG := lw_in (List.mem_of_getElem? (i := 580) (by decide +kernel)) (by decide +kernel)
theorem lnkX3_173 : Cond.methodLink RX3 173 yX0_send ∈ lwG := lw_in (List.mem_of_getElem? (i := 601) (by decide +kernel)) (by decide +kernel)
theorem lnkX3_177 : Cond.methodLink RX3 177 yX3_noteStalled ∈ lwG := lw_in (List.mem_of_getElem? (i := 605) (by decide +kernel)) (by decide +kernel)
theorem lnkX3_184 : Cond.methodLink RX3 184 yX0_isAble ∈ lwG := lw_in (List.mem_of_getElem? (i := 581) (by decide +kernel)) (by decide +kernel)
theorem lnkX3_190 : Cond.methodLink RX3 190 yX3_firstAbleFrom ∈ lwG := lw_in (List.mem_of_getElem? (i := 589) (by decide +kernel)) (by decide +kernel)
theorem lnkX3_194 : Cond.methodLink RX3 194 yX3_firstInsidePacket ∈ lwG := lw_in (List.mem_of_getElem? (i := 593) (by decide +kernel)) (by decide +kernel)
theorem lnkX3_198 : Cond.methodLink RX3 198 yX0_isInsidePacket ∈ lwG := lw_in (List.mem_of_getElem? (i := 597) (by decide +kernel)) (by decide +kernel)
theorem lnkX0_66 : Cond.methodLink RX0 66 yX2_removeFirst ∈ lwG := lw_in (List.mem_of_getElem? (i := 562) (by decide +kernel)) (by decide +kernel)
theorem lnkX0_70 : Cond.methodLink RX0 70 yX2_add ∈ lwG := lw_in (List.mem_of_getElem? (i := 543) (by decide +kernel)) (by decide +kernel)
theorem lnkX0_74 : Cond.methodLink RX0 74 yJ9_max_7cf53 ∈ lwG := lw_in (List.mem_of_getElem? (i := 544) (by decide +kernel)) (by decide +kernel)
theorem lnkX0_80 : Cond.methodLink RX0 80 yX1_isLast ∈ lwG := lw_in (List.mem_of_getElem? (i := 566) (by decide +kernel)) (by decide +kernel)
theorem lnkX0_84 : Cond.methodLink RX0 84 yX1_size ∈ lwG := lw_in (List.mem_of_getElem? (i := 567) (by decide +kernel)) (by decide +kernel)
theorem lnkX0_91 : Cond.methodLink RX0 91 yX0_creditsReturning ∈ lwG := lw_in (List.mem_of_getElem? (i := 202) (by decide +kernel)) (by decide +kernel)
theorem lnkX1_28 : Cond.methodLink RX1 28 yX1_isLast ∈ lwG := lw_in (List.mem_of_getElem? (i := 234) (by decide +kernel)) (by decide +kernel)
theorem lnkX1_44 : Cond.methodLink RX1 44 yX1_size ∈ lwG := lw_in (List.mem_of_getElem? (i := 230) (by decide +kernel)) (by decide +kernel)
theorem lnkJ7_304 : Cond.methodLink RJ7 304 yJ9_min_7cf53 ∈ lwG := lw_in (List.mem_of_getElem? (i := 439) (by decide +kernel)) (by decide +kernel)
theorem lnkX6_84 : Cond.methodLink RX6 84 yX6_link ∈ lwG := lw_in (List.mem_of_getElem? (i := 631) (by decide +kernel)) (by decide +kernel)
theorem lnkX6_92 : Cond.methodLink RX6 92 yX6_isIn ∈ lwG := lw_in (List.mem_of_getElem? (i := 635) (by decide +kernel)) (by decide +kernel)
theorem lnkX6_132 : Cond.methodLink RX6 132 yX6_isChannel ∈ lwG := lw_in (List.mem_of_getElem? (i := 766) (by decide +kernel)) (by decide +kernel)
theorem lnkX6_139 : Cond.methodLink RX6 139 yJ9_min_7cf53 ∈ lwG := lw_in (List.mem_of_getElem? (i := 870) (by decide +kernel)) (by decide +kernel)
theorem lnkX6_145 : Cond.methodLink RX6 145 yX6_flitsOf ∈ lwG := lw_in (List.mem_of_getElem? (i := 794) (by decide +kernel)) (by decide +kernel)
theorem lnkX6_149 : Cond.methodLink RX6 149 yJ9_max_7cf53 ∈ lwG := lw_in (List.mem_of_getElem? (i := 813) (by decide +kernel)) (by decide +kernel)
theorem lnkX6_152 : Cond.methodLink RX6 152 yX6_credits ∈ lwG := lw_in (List.mem_of_getElem? (i := 830) (by decide +kernel)) (by decide +kernel)
theorem lnkX6_155 : Cond.methodLink RX6 155 yX6_isAble ∈ lwG := lw_in (List.mem_of_getElem? (i := 826) (by decide +kernel)) (by decide +kernel)
theorem lnkX6_158 : Cond.methodLink RX6 158 yX6_doesWait ∈ lwG := lw_in (List.mem_of_getElem? (i := 822) (by decide +kernel)) (by decide +kernel)
theorem lnkX6_162 : Cond.methodLink RX6 162 yX6_begun ∈ lwG := lw_in (List.mem_of_getElem? (i := 834) (by decide +kernel)) (by decide +kernel)
theorem lnkX6_166 : Cond.methodLink RX6 166 yX6_least ∈ lwG := lw_in (List.mem_of_getElem? (i := 838) (by decide +kernel)) (by decide +kernel)
theorem lnkX6_169 : Cond.methodLink RX6 169 yX6_byTurns ∈ lwG := lw_in (List.mem_of_getElem? (i := 842) (by decide +kernel)) (by decide +kernel)
theorem lnkX6_172 : Cond.methodLink RX6 172 yX6_comesBack ∈ lwG := lw_in (List.mem_of_getElem? (i := 805) (by decide +kernel)) (by decide +kernel)
theorem lnkX6_175 : Cond.methodLink RX6 175 yX6_comes ∈ lwG := lw_in (List.mem_of_getElem? (i := 809) (by decide +kernel)) (by decide +kernel)
theorem lnkX6_178 : Cond.methodLink RX6 178 yX6_drains ∈ lwG := lw_in (List.mem_of_getElem? (i := 814) (by decide +kernel)) (by decide +kernel)
theorem lnkX6_181 : Cond.methodLink RX6 181 yX6_sends ∈ lwG := lw_in (List.mem_of_getElem? (i := 818) (by decide +kernel)) (by decide +kernel)
theorem lnkX6_184 : Cond.methodLink RX6 184 yX6_cycle ∈ lwG := lw_in (List.mem_of_getElem? (i := 801) (by decide +kernel)) (by decide +kernel)
theorem lnkX6_190 : Cond.methodLink RX6 190 yX6_flitBytes ∈ lwG := lw_in (List.mem_of_getElem? (i := 866) (by decide +kernel)) (by decide +kernel)
theorem lnkX6_193 : Cond.methodLink RX6 193 yX6_arrived ∈ lwG := lw_in (List.mem_of_getElem? (i := 858) (by decide +kernel)) (by decide +kernel)
theorem lnkX6_197 : Cond.methodLink RX6 197 yX6_together ∈ lwG := lw_in (List.mem_of_getElem? (i := 862) (by decide +kernel)) (by decide +kernel)
theorem lnkX6_200 : Cond.methodLink RX6 200 yX6_flit ∈ lwG := lw_in (List.mem_of_getElem? (i := 879) (by decide +kernel)) (by decide +kernel)
end
section
/-! ===== a method's beginning and its ends ===== -/
def enL : List AV → List (Option AV)
  | [] => []
  | .inr (.inr z) :: r => some (.inr (.inr z)) :: none :: enL r
  | .inr (.inl o) :: r => some (.inr (.inl o)) :: enL r
  | .inl x :: r => some (.inl x) :: enL r
def enP (av : List AV) (n : Nat) : List (Option AV) := enL av ++ List.replicate (n - (enL av).length) none
theorem lsP_none : ∀ (n i : Nat), lsP i (List.replicate n none) = []
  | 0, _ => rfl
  | n + 1, i => lsP_none n (i + 1)
theorem lsP_args : ∀ (av : List AV) (i n : Nat), lsP i (enL av ++ List.replicate n none) = lv_args i (av.map tV)
  | [], i, n => lsP_none n i
  | .inr (.inr z) :: r, i, n => by
    show (i, tV (.inr (.inr z))) :: lsP (i + 1 + 1) (enL r ++ List.replicate n none) = (i, tV (.inr (.inr z))) :: lv_args (i + 2) (r.map tV)
    rw [lsP_args r]
  | .inr (.inl o) :: r, i, n => by
    show (i, tV (.inr (.inl o))) :: lsP (i + 1) (enL r ++ List.replicate n none) = (i, tV (.inr (.inl o))) :: lv_args (if (va_rf o).category = 2 then i + 2 else i + 1) (r.map tV)
    rw [lsP_args r, tV_rcat]; rfl
  | .inl x :: r, i, n => by
    show (i, tV (.inl x)) :: lsP (i + 1) (enL r ++ List.replicate n none) = (i, tV (.inl x)) :: lv_args (i + 1) (r.map tV)
    rw [lsP_args r]
theorem sl_len : ∀ av : List AV, (lg_sl (av.map tV)).length = (enL av).length
  | [] => rfl
  | .inr (.inr z) :: r => by
    show ([Slot.val (tV (.inr (.inr z))), Slot.second] ++ lg_sl (r.map tV)).length = (enL r).length + 1 + 1
    rw [List.length_append, sl_len r]
    show 2 + (enL r).length = _
    omega
  | .inr (.inl o) :: r => by
    show ((if (va_rf o).category = 2 then [Slot.val (va_rf o), Slot.second] else [Slot.val (va_rf o)]) ++ lg_sl (r.map tV)).length = (enL r).length + 1
    rw [List.length_append, sl_len r, tV_rcat]
    show 1 + (enL r).length = _
    omega
  | .inl x :: r => by
    show ([Slot.val (tV (.inl x))] ++ lg_sl (r.map tV)).length = (enL r).length + 1
    rw [List.length_append, sl_len r]
    show 1 + (enL r).length = _
    omega
/-- what a body knows of the machine -/
def Bx (p : Program) (s : State) (m : MethodId) (args : Array Value) (meth : Method) (c : Code) (y : MethodName) (bytes : ByteArray) (maxL : Nat) (ret : Option FieldType) (D : va_G) (cy : Nat → ClassId) (base : Nat) : Prop :=
  Cx p s m args c bytes maxL y.cls D cy base ∧ Wd D cy base s s.heap ∧ meth.sig.returnType = ret ∧ meth.locks = false ∧ meth.name = y.name ∧ (∀ x ∈ c.exceptionTable.toList, False)
/-- as vx_ofW; the method plainly its own (no native row stands in for it) -/
theorem vx_ofWF {l : Launch} {y : MethodName} {ws ws' : List Cond} {rm : Room} {Pc : Array Value → State → Prop} {Qc : Array Value → State → Outcome → State → Prop} {XC : String → State → State → Prop} {mc ms : Nat} {free : Addr → Prop} {cc : ByteArray} {maxL : Nat} {ret : Option FieldType}
    (hy : plainFor y = true) (hw : ws = Cond.code y cc maxL ret :: ws')
    (body : ∀ p e s m args below meth c s₁, BodyLoose p l y (headSpec ws rm) cc maxL ret e s m args below meth c s₁ → c.maxLocals = maxL → (∀ x ∈ c.exceptionTable.toList, False) → Pc args s →
      W p l e (headSpec ws rm).room s m args below meth c s.heap [] 0 0 (vx_MQ below Qc XC args s mc ms free) (entryFrame m args maxL)) : vx_Met l y ws rm Pc Qc XC mc ms free := by
  refine MetFree.of_bodySF (code := cc) (maxLocals := maxL) (ret := ret) hy ?_ ?_
  · intro args s m h hn
    obtain ⟨meth, c, h1, h2, h3, h4, h5, h6, -, -⟩ := Cond.code_spec hn (atoms_spec (ws := ws) h _ (by rw [hw]; exact List.mem_cons_self))
    exact ⟨meth, c, h1, h2, h3, h4, h5, h6⟩
  · intro p e s m args below meth c s₁ B hml hP _
    have hh0 : s₁.heap = s.heap := by rw [B.state]; rfl
    have ht : ∀ x ∈ c.exceptionTable.toList, False := by
      obtain ⟨meth9, c9, h1, h2, -, -, -, -, h7, -⟩ := Cond.code_spec B.named (atoms_spec (ws := ws) B.pre _ (by rw [hw]; exact List.mem_cons_self))
      cases Option.some.inj (h1.symm.trans B.method)
      cases Option.some.inj (h2.symm.trans (Stand.of_body B).code)
      intro x hx
      rw [Array.isEmpty_iff.mp h7] at hx
      cases hx
    obtain ⟨t, a1, o, b1, b2, b3⟩ := body p e s m args below meth c s₁ B hml ht hP s₁ hh0 (Stand.of_body B)
    exact ⟨t, o, a1, b1, b2, b3⟩
theorem CM.of {l : Launch} {y : MethodName} {bytes : ByteArray} {maxL : Nat} {ret : Option FieldType} {rm : Room} {T : TT} (hpl : plainFor y = true)
    (body : ∀ (D : va_G) (cy : Nat → ClassId) (base : Nat) (S0 : GG) (av : List AV) (G : GG) (Qr : Option AV → GG → Prop) (Qx : String → GG → Prop), T av G Qr Qx → (enL av).length ≤ maxL ∧
      ∀ (p : Program) (e : Env) (s : State) (m : MethodId) (args : Array Value) (below : List Frame) (meth : Method) (c : Code), Bx p s m args meth c y bytes maxL ret D cy base →
        JJ p l e rm s m args below meth c maxL D cy base S0 (vx_MQ below (QcA D cy base S0 Qr) (XcA D cy base S0 Qx) args s rm.cells rm.slots (Ab base)) 0 (enP av maxL) [] G 0 0) : CM l y bytes maxL ret rm T := by
  intro D cy base S0 av G Qr Qx hT
  obtain ⟨hlen, body⟩ := body D cy base S0 av G Qr Qx hT
  refine vx_ofWF (cc := bytes) (maxL := maxL) (ret := ret) hpl rfl ?_
  intro p e s m args below meth c s₁ B hml ht hv
  obtain ⟨rfl, hWd, hP⟩ := hv
  have hts := atoms_spec (ws := Cond.code y bytes maxL ret :: lwG) B.pre
  have hB : Bx p s m (av.map tV).toArray meth c y bytes maxL ret D cy base := ⟨⟨B.exec, B.bytes, hml, findClass_of_methodNamed B.named, fun w hw => hts w (List.mem_cons_of_mem _ hw), hWd.1, hWd.2.1⟩, hWd, B.returns, B.notSynchronized, (name_of_methodNamed B.named B.method).1, ht⟩
  have hl := lv_entry (av.map tV) (n := maxL) (by rw [sl_len]; exact hlen)
  rw [lg_entry_eq]
  rw [← lsP_args av 0 (maxL - (enL av).length)] at hl
  exact body p e s m _ below meth c hB s.heap [] _ (by unfold enP; rw [List.length_append, List.length_replicate]; omega) hP va_S.rf hl
section JE
variable {p : Program} {l : Launch} {e : Env} {R : Room} {s : State} {m : MethodId} {args : Array Value} {below : List Frame} {meth : Method} {c : Code} {nL : Nat} {D : va_G} {cy : Nat → ClassId} {base : Nat} {S0 : GG}
variable {cc : ByteArray} {own : String} {pc : Nat} {ls : List (Option AV)} {st : List AV} {G : GG} {k n mc ms : Nat} {Qr : Option AV → GG → Prop} {Qx : String → GG → Prop}
theorem j_iret (C : Cx p s m args c cc nL own D cy base) {ty : FieldType} {v : Int32} (hr : meth.sig.returnType = some ty) (hlocks : meth.locks = false) (hn : narrow ty (.int v) = .int v) (hd : decode cc pc = .ok (.ireturn, 1)) (hk : k ≤ mc) (hs : n ≤ ms) (hq : Qr (some (.inl v)) G) :
    JJ p l e R s m args below meth c nL D cy base S0 (vx_MQ below (QcA D cy base S0 Qr) (XcA D cy base S0 Qx) args s mc ms (Ab base)) pc ls [.inl v] G k n := by
  intro H locs la h1 h2 h3 h4
  refine vx_ret (W.widen (k := mc) (n := ms) hk hs ?_)
  exact W.zret C.1 C.2.1 hr hn (fun t ht hW => ⟨⟨some (.inl v), G, rfl, hq, by rw [ht]; exact h2⟩, h3.F ht⟩) h3.2.2 hd hlocks
theorem j_vret (C : Cx p s m args c cc nL own D cy base) (hr : meth.sig.returnType = none) (hlocks : meth.locks = false) (hd : decode cc pc = .ok (.return_, 1)) (hk : k ≤ mc) (hs : n ≤ ms) (hq : Qr none G) :
    JJ p l e R s m args below meth c nL D cy base S0 (vx_MQ below (QcA D cy base S0 Qr) (XcA D cy base S0 Qx) args s mc ms (Ab base)) pc ls [] G k n := by
  intro H locs la h1 h2 h3 h4
  refine vx_ret (W.widen (k := mc) (n := ms) hk hs ?_)
  exact W.vret C.1 C.2.1 hr (fun t ht hW => ⟨⟨none, G, rfl, hq, by rw [ht]; exact h2⟩, h3.F ht⟩) h3.2.2 hd hlocks
theorem j_aret (C : Cx p s m args c cc nL own D cy base) {ty : FieldType} {o : Option Nat} (hr : meth.sig.returnType = some ty) (hty : isRt ty = true) (hlocks : meth.locks = false) (hd : decode cc pc = .ok (.areturn, 1)) (hk : k ≤ mc) (hs : n ≤ ms) (hq : Qr (some (.inr (.inl o))) G) :
    JJ p l e R s m args below meth c nL D cy base S0 (vx_MQ below (QcA D cy base S0 Qr) (XcA D cy base S0 Qx) args s mc ms (Ab base)) pc ls [.inr (.inl o)] G k n := by
  intro H locs la h1 h2 h3 h4
  refine vx_ret (W.widen (k := mc) (n := ms) hk hs ?_)
  refine W.aret (v := va_rf o) C.1 C.2.1 hr ?_ ?_ (fun t ht hW => ⟨⟨some (.inr (.inl o)), G, rfl, hq, by rw [ht]; exact h2⟩, h3.F ht⟩) h3.2.2 hd hlocks
  · cases ty <;> simp_all [isRt]
  · cases o <;> simp [va_rf]
end JE
end
section
/-! ===== the instruction's condition, computed: what must hold ahead of it so that K holds behind it ===== -/
abbrev FTb : Type := List (Nat × (Nat × (Nat × (Nat × Bool))))
abbrev CS : Type := Nat × (Nat × (Nat × (Nat × TT)))
abbrev Kt : Type := Nat → List (Option AV) → List AV → GG → Nat → Nat → Prop
def lkp {α : Type} : List (Nat × α) → Nat → Option α
  | [], _ => none
  | x :: r, j => if j = x.1 then some x.2 else lkp r j
theorem lkp_mem {α : Type} : ∀ {l : List (Nat × α)} {j : Nat} {a : α}, lkp l j = some a → (j, a) ∈ l
  | [], _, _, h => by simp [lkp] at h
  | x :: r, j, a, h => by
    unfold lkp at h
    by_cases e : j = x.1
    · rw [if_pos e] at h; cases h; rw [e]; exact List.mem_cons_self
    · rw [if_neg e] at h; exact List.mem_cons_of_mem _ (lkp_mem h)
def pI (st : List AV) (f : Int32 → List AV → Prop) : Prop := match st with
  | .inl x :: r => f x r
  | _ => False
def pR (st : List AV) (f : Option Nat → List AV → Prop) : Prop := match st with
  | .inr (.inl x) :: r => f x r
  | _ => False
def pL (st : List AV) (f : Int64 → List AV → Prop) : Prop := match st with
  | .inr (.inr x) :: r => f x r
  | _ => False
def lI (ls : List (Option AV)) (j : Nat) (f : Int32 → Prop) : Prop := match lk ls j with
  | some (.inl x) => f x
  | _ => False
def lR (ls : List (Option AV)) (j : Nat) (f : Option Nat → Prop) : Prop := match lk ls j with
  | some (.inr (.inl x)) => f x
  | _ => False
def lL (ls : List (Option AV)) (j : Nat) (f : Int64 → Prop) : Prop := match lk ls j with
  | some (.inr (.inr x)) => f x
  | _ => False
theorem pI_el {st : List AV} {f : Int32 → List AV → Prop} (h : pI st f) : ∃ x r, st = .inl x :: r ∧ f x r := by
  unfold pI at h; split at h
  · exact ⟨_, _, rfl, h⟩
  · exact h.elim
theorem pR_el {st : List AV} {f : Option Nat → List AV → Prop} (h : pR st f) : ∃ x r, st = .inr (.inl x) :: r ∧ f x r := by
  unfold pR at h; split at h
  · exact ⟨_, _, rfl, h⟩
  · exact h.elim
theorem pL_el {st : List AV} {f : Int64 → List AV → Prop} (h : pL st f) : ∃ x r, st = .inr (.inr x) :: r ∧ f x r := by
  unfold pL at h; split at h
  · exact ⟨_, _, rfl, h⟩
  · exact h.elim
theorem lI_el {ls : List (Option AV)} {j : Nat} {f : Int32 → Prop} (h : lI ls j f) : ∃ x, lk ls j = some (.inl x) ∧ f x := by
  unfold lI at h; split at h
  · rename_i x e; exact ⟨x, e, h⟩
  · exact h.elim
theorem lR_el {ls : List (Option AV)} {j : Nat} {f : Option Nat → Prop} (h : lR ls j f) : ∃ x, lk ls j = some (.inr (.inl x)) ∧ f x := by
  unfold lR at h; split at h
  · rename_i x e; exact ⟨x, e, h⟩
  · exact h.elim
theorem lL_el {ls : List (Option AV)} {j : Nat} {f : Int64 → Prop} (h : lL ls j f) : ∃ x, lk ls j = some (.inr (.inr x)) ∧ f x := by
  unfold lL at h; split at h
  · rename_i x e; exact ⟨x, e, h⟩
  · exact h.elim
def jmp (pc : Nat) (off : Int) (f : Nat → Prop) : Prop := 0 ≤ (pc : Int) + off ∧ f ((pc : Int) + off).toNat
def nn (o : Option Nat) (f : Nat → Prop) : Prop := ∃ a, o = some a ∧ f a
def br (c A B : Prop) : Prop := (c → A) ∧ (¬ c → B)
def icc (c : Jvm.ClassFile.Cond) (x y : Int32) (A B : Prop) : Prop := match c with
  | .eq => br (x = y) A B
  | .ne => br (x = y) B A
  | .lt => br (x < y) A B
  | .ge => br (y ≤ x) A B
  | .gt => br (y < x) A B
  | .le => br (x ≤ y) A B
def lkF (ft : FTb) (i : Nat) (f : Nat → Nat → Nat → Bool → Prop) : Prop := match lkp ft i with
  | some (ci, j, ty, w) => f ci j ty w
  | none => False
theorem lkF_el {ft : FTb} {i : Nat} {f : Nat → Nat → Nat → Bool → Prop} (h : lkF ft i f) : ∃ ci j ty w, lkp ft i = some (ci, j, ty, w) ∧ f ci j ty w := by
  unfold lkF at h; split at h
  · rename_i ci j ty w e; exact ⟨ci, j, ty, w, e, h⟩
  · exact h.elim
def lkN (nt : List (Nat × Nat)) (i : Nat) (f : Nat → Prop) : Prop := match lkp nt i with
  | some ci => f ci
  | none => False
theorem lkN_el {nt : List (Nat × Nat)} {i : Nat} {f : Nat → Prop} (h : lkN nt i f) : ∃ ci, lkp nt i = some ci ∧ f ci := by
  unfold lkN at h; split at h
  · rename_i ci e; exact ⟨ci, e, h⟩
  · exact h.elim
def lkC (ct : List (Nat × CS)) (i : Nat) (f : Nat → Nat → Nat → Nat → TT → Prop) : Prop := match lkp ct i with
  | some (kd, na, mc, ms, T) => f kd na mc ms T
  | none => False
theorem lkC_el {ct : List (Nat × CS)} {i : Nat} {f : Nat → Nat → Nat → Nat → TT → Prop} (h : lkC ct i f) : ∃ kd na mc ms T, lkp ct i = some (kd, na, mc, ms, T) ∧ f kd na mc ms T := by
  unfold lkC at h; split at h
  · rename_i kd na mc ms T e; exact ⟨kd, na, mc, ms, T, e, h⟩
  · exact h.elim
/-- so many values off the stack, the first pushed first -/
def popN : Nat → List AV → List AV → (List AV → List AV → Prop) → Prop
  | 0, acc, st, f => f acc st
  | n + 1, acc, x :: r, f => popN n (x :: acc) r f
  | _ + 1, _, [], _ => False
theorem popN_el : ∀ {n : Nat} {acc st : List AV} {f : List AV → List AV → Prop}, popN n acc st f → ∃ As r, As.length = n ∧ st = As.reverse ++ r ∧ f (As ++ acc) r
  | 0, acc, st, f, h => ⟨[], st, rfl, rfl, h⟩
  | n + 1, acc, x :: r, f, h => by
    obtain ⟨As, r', h1, h2, h3⟩ := popN_el (n := n) h
    exact ⟨As ++ [x], r', by simp [h1], by rw [h2]; simp, by simpa using h3⟩
  | _ + 1, _, [], _, h => h.elim
def stW (st : List AV) : Nat := (st.map fun v => (tV v).category).sum

def swt (pc : Nat) (lo hi : Int) : List Int → Nat → Int32 → (Nat → Prop) → Prop
  | [], i, _, _ => hi < lo + (i : Int)
  | off :: r, i, x, f => (jmp pc off fun t => x.toInt = lo + (i : Int) → f t) ∧ swt pc lo hi r (i + 1) x f
theorem swt_el {pc : Nat} {lo hi : Int} {x : Int32} {f : Nat → Prop} : ∀ {l : List Int} {i : Nat}, swt pc lo hi l i x f → ∀ j : Nat, x.toInt = lo + ((i + j : Nat) : Int) → x.toInt ≤ hi → ∃ off, l[j]? = some off ∧ 0 ≤ (pc : Int) + off ∧ f ((pc : Int) + off).toNat
  | [], i, h, j, h1, h2 => by
    have h : hi < lo + (i : Int) := h
    omega
  | off :: r, i, h, 0, h1, h2 => ⟨off, rfl, h.1.1, h.1.2 (by simpa using h1)⟩
  | off :: r, i, h, j + 1, h1, h2 => by
    obtain ⟨o, q1, q2⟩ := swt_el (l := r) h.2 j (by rw [h1]; congr 2; omega) h2
    exact ⟨o, by simpa using q1, q2⟩
theorem nar_r {ci j : Nat} (h : isRf ci j = true) (x : Option Nat) : narrow (tyOf ci j) (va_rf x) = va_rf x := by
  unfold isRf at h; cases e : tyOf ci j <;> rw [e] at h <;> simp [isRt] at h <;> cases x <;> rfl
theorem fit_r {ci j : Nat} (h : isRf ci j = true) (x : Option Nat) : fits (tyOf ci j) (va_rf x) = true := by
  unfold isRf at h; cases e : tyOf ci j <;> rw [e] at h <;> simp [isRt] at h <;> cases x <;> rfl
def stepw (own : String) (ft : FTb) (nt : List (Nat × Nat)) (ct : List (Nat × CS)) (oi : Nat) (R : Room) (sc : Bool) (RT : Nat → Option AV → GG → Nat → Nat → Prop) (XN : Nat → Kt) (K : Kt) (i : Instr) (len pc : Nat) (ls : List (Option AV)) (st : List AV) (G : GG) (k n : Nat) : Prop := match i with
  | .iload_n j => len = 1 ∧ lI ls j fun x => K (pc + 1) ls (.inl x :: st) G k n
  | .iload j => len = 2 ∧ lI ls j fun x => K (pc + 2) ls (.inl x :: st) G k n
  | .aload_n j => len = 1 ∧ lR ls j fun x => K (pc + 1) ls (.inr (.inl x) :: st) G k n
  | .aload j => len = 2 ∧ lR ls j fun x => K (pc + 2) ls (.inr (.inl x) :: st) G k n
  | .lload_n j => len = 1 ∧ lL ls j fun x => K (pc + 1) ls (.inr (.inr x) :: st) G k n
  | .lload j => len = 2 ∧ lL ls j fun x => K (pc + 2) ls (.inr (.inr x) :: st) G k n
  | .istore_n j => len = 1 ∧ pI st fun x r => (j : Nat) < ls.length ∧ okS ls j = true ∧ K (pc + 1) (ls.set j (some (.inl x))) r G k n
  | .istore j => len = 2 ∧ pI st fun x r => j < ls.length ∧ okS ls j = true ∧ K (pc + 2) (ls.set j (some (.inl x))) r G k n
  | .astore_n j => len = 1 ∧ pR st fun x r => (j : Nat) < ls.length ∧ okS ls j = true ∧ K (pc + 1) (ls.set j (some (.inr (.inl x)))) r G k n
  | .astore j => len = 2 ∧ pR st fun x r => j < ls.length ∧ okS ls j = true ∧ K (pc + 2) (ls.set j (some (.inr (.inl x)))) r G k n
  | .lstore j => len = 2 ∧ pL st fun x r => j + 1 < ls.length ∧ okS ls j = true ∧ K (pc + 2) ((ls.set j (some (.inr (.inr x)))).set (j + 1) none) r G k n
  | .iinc j d => len = 3 ∧ lI ls j fun x => j < ls.length ∧ okS ls j = true ∧ K (pc + 3) (ls.set j (some (.inl (x + Int32.ofInt d)))) st G k n
  | .iconst d => len = 1 ∧ K (pc + 1) ls (.inl (Int32.ofInt d) :: st) G k n
  | .bipush d => len = 2 ∧ K (pc + 2) ls (.inl (Int8.ofInt d).toInt32 :: st) G k n
  | .sipush d => len = 3 ∧ K (pc + 3) ls (.inl (Int16.ofInt d).toInt32 :: st) G k n
  | .aconst_null => len = 1 ∧ K (pc + 1) ls (.inr (.inl none) :: st) G k n
  | .ldc2_w i => len = 3 ∧ i = 78 ∧ own = RL ∧ K (pc + 3) ls (.inr (.inr 4294967295) :: st) G k n
  | .dup => len = 1 ∧ match st with
    | v :: r => (tV v).category = 1 ∧ K (pc + 1) ls (v :: v :: r) G k n
    | [] => False
  | .dup2 => len = 1 ∧ match st with
    | v :: w :: r => (tV v).category = 1 ∧ (tV w).category = 1 ∧ K (pc + 1) ls (v :: w :: v :: w :: r) G k n
    | _ => False
  | .iadd => len = 1 ∧ pI st fun y r => pI r fun x r => K (pc + 1) ls (.inl (x + y) :: r) G k n
  | .isub => len = 1 ∧ pI st fun y r => pI r fun x r => K (pc + 1) ls (.inl (x - y) :: r) G k n
  | .imul => len = 1 ∧ pI st fun y r => pI r fun x r => K (pc + 1) ls (.inl (x * y) :: r) G k n
  | .iand => len = 1 ∧ pI st fun y r => pI r fun x r => K (pc + 1) ls (.inl (x &&& y) :: r) G k n
  | .ixor => len = 1 ∧ pI st fun y r => pI r fun x r => K (pc + 1) ls (.inl (x ^^^ y) :: r) G k n
  | .ishr => len = 1 ∧ pI st fun y r => pI r fun x r => K (pc + 1) ls (.inl (x >>> (y &&& 31)) :: r) G k n
  | .iushr => len = 1 ∧ pI st fun y r => pI r fun x r => K (pc + 1) ls (.inl ((x.toUInt32 >>> (y.toUInt32 &&& Int32.toUInt32 31)).toInt32) :: r) G k n
  | .idiv => len = 1 ∧ pI st fun y r => pI r fun x r => ¬ y = 0 ∧ K (pc + 1) ls (.inl (x / y) :: r) G k n
  | .irem => len = 1 ∧ pI st fun y r => pI r fun x r => ¬ y = 0 ∧ K (pc + 1) ls (.inl (x - x / y * y) :: r) G k n
  | .land => len = 1 ∧ pL st fun y r => pL r fun x r => K (pc + 1) ls (.inr (.inr (x &&& y)) :: r) G k n
  | .lor => len = 1 ∧ pL st fun y r => pL r fun x r => K (pc + 1) ls (.inr (.inr (x ||| y)) :: r) G k n
  | .lcmp => len = 1 ∧ pL st fun y r => pL r fun x r => K (pc + 1) ls (.inl (lg_cmp x y) :: r) G k n
  | .lshl => len = 1 ∧ pI st fun y r => pL r fun x r => K (pc + 1) ls (.inr (.inr (x <<< (y.toInt64 &&& 63))) :: r) G k n
  | .lshr => len = 1 ∧ pI st fun y r => pL r fun x r => K (pc + 1) ls (.inr (.inr (x >>> (y.toInt64 &&& 63))) :: r) G k n
  | .lushr => len = 1 ∧ pI st fun y r => pL r fun x r => K (pc + 1) ls (.inr (.inr ((x.toUInt64 >>> (y.toInt64.toUInt64 &&& Int64.toUInt64 63)).toInt64)) :: r) G k n
  | .i2l => len = 1 ∧ pI st fun x r => K (pc + 1) ls (.inr (.inr x.toInt64) :: r) G k n
  | .l2i => len = 1 ∧ pL st fun x r => K (pc + 1) ls (.inl x.toInt32 :: r) G k n
  | .i2b => len = 1 ∧ pI st fun x r => K (pc + 1) ls (.inl x.toInt8.toInt32 :: r) G k n
  | .goto off => len = 3 ∧ jmp pc off fun t => K t ls st G k n
  | .if_icmp cd off => len = 3 ∧ pI st fun y r => pI r fun x r => jmp pc off fun t => icc cd x y (K t ls r G k n) (K (pc + 3) ls r G k n)
  | .ifCond cd off => len = 3 ∧ pI st fun x r => jmp pc off fun t => icc cd x 0 (K t ls r G k n) (K (pc + 3) ls r G k n)
  | .ifnull off => len = 3 ∧ pR st fun x r => jmp pc off fun t => br (x = none) (K t ls r G k n) (K (pc + 3) ls r G k n)
  | .ifnonnull off => len = 3 ∧ pR st fun x r => jmp pc off fun t => br (x = none) (K (pc + 3) ls r G k n) (K t ls r G k n)
  | .if_acmp cd off => len = 3 ∧ cd = .ne ∧ pR st fun y r => pR r fun x r => jmp pc off fun t => br (x = y) (K (pc + 3) ls r G k n) (K t ls r G k n)
  | .tableswitch df lo hi offs => pI st fun x r => (jmp pc df fun t => (x.toInt < lo ∨ hi < x.toInt) → K t ls r G k n) ∧ swt pc lo hi offs.toList 0 x (fun t => K t ls r G k n)
  | .getfield i => len = 3 ∧ pR st fun o r => nn o fun a => lkF ft i fun ci j ty w => knd G a = ci ∧ K (pc + 3) ls ((if ty = 1 then .inr (.inl (gr G a j)) else .inl (gi G a j)) :: r) G k n
  | .putfield i => len = 3 ∧ lkF ft i fun ci j ty w => w = true ∧ if ty = 1 then pR st fun x r => pR r fun o r => nn o fun a => knd G a = ci ∧ K (pc + 3) ls r (sR G a j x) k n
    else pI st fun x r => pR r fun o r => nn o fun a => knd G a = ci ∧ (ty = 2 → x = 0 ∨ x = 1) ∧ K (pc + 3) ls r (sI G a j x) k n
  | .iaload => len = 1 ∧ pI st fun i r => pR r fun o r => nn o fun a => (knd G a = 8 ∨ (sc = true ∧ knd G a = 14)) ∧ vp_in i (gn G a) ∧ K (pc + 1) ls (.inl (gi G a i.toNatClampNeg) :: r) G k n
  | .baload => len = 1 ∧ pI st fun i r => pR r fun o r => nn o fun a => (knd G a = 7 ∨ knd G a = 9) ∧ vp_in i (gn G a) ∧ K (pc + 1) ls (.inl (gi G a i.toNatClampNeg) :: r) G k n
  | .laload => len = 1 ∧ pI st fun i r => pR r fun o r => nn o fun a => knd G a = 10 ∧ vp_in i (gn G a) ∧ K (pc + 1) ls (.inr (.inr (gl G a i.toNatClampNeg)) :: r) G k n
  | .aaload => len = 1 ∧ pI st fun i r => pR r fun o r => nn o fun a => (knd G a = 11 ∨ knd G a = 12 ∨ knd G a = 13) ∧ vp_in i (gn G a) ∧ K (pc + 1) ls (.inr (.inl (gr G a i.toNatClampNeg)) :: r) G k n
  | .arraylength => len = 1 ∧ pR st fun o r => nn o fun a => ((7 ≤ knd G a ∧ knd G a < 14) ∨ (sc = true ∧ knd G a = 14)) ∧ K (pc + 1) ls (.inl (nI (gn G a)) :: r) G k n
  | .iastore => len = 1 ∧ pI st fun x r => pI r fun i r => pR r fun o r => nn o fun a => knd G a = 8 ∧ vp_in i (gn G a) ∧ K (pc + 1) ls r (sI G a i.toNatClampNeg x) k n
  | .bastore => len = 1 ∧ pI st fun x r => pI r fun i r => pR r fun o r => nn o fun a => vp_in i (gn G a) ∧ ((knd G a = 7 ∧ K (pc + 1) ls r (sI G a i.toNatClampNeg (vp_nar .byte x)) k n) ∨ (knd G a = 9 ∧ K (pc + 1) ls r (sI G a i.toNatClampNeg (vp_nar .boolean x)) k n))
  | .lastore => len = 1 ∧ pL st fun x r => pI r fun i r => pR r fun o r => nn o fun a => knd G a = 10 ∧ vp_in i (gn G a) ∧ K (pc + 1) ls r (sL G a i.toNatClampNeg x) k n
  | .aastore => len = 1 ∧ pR st fun x r => pI r fun i r => pR r fun o r => nn o fun a => vp_in i (gn G a) ∧ ((x = none ∧ knd G a = 12) ∨ (∃ v, x = some v ∧ ((knd G a = 11 ∧ knd G v = 0) ∨ (knd G a = 12 ∧ knd G v = 1) ∨ (knd G a = 13 ∧ knd G v = 4)))) ∧ K (pc + 1) ls r (sR G a i.toNatClampNeg x) k n
  | .newarray t => len = 2 ∧ pI st fun x r => 0 ≤ x.toInt ∧ x.toInt ≤ 60000 ∧ k + 1 ≤ R.cells ∧ n + x.toNatClampNeg ≤ R.slots ∧ (match t with
    | .byte => ∀ a, knd G a = 99 → K (pc + 2) ls (.inr (.inl (some a)) :: r) (nw G a 7 x.toNatClampNeg) (k + 1) (n + x.toNatClampNeg)
    | .int => ∀ a, knd G a = 99 → K (pc + 2) ls (.inr (.inl (some a)) :: r) (nw G a 8 x.toNatClampNeg) (k + 1) (n + x.toNatClampNeg)
    | .boolean => ∀ a, knd G a = 99 → K (pc + 2) ls (.inr (.inl (some a)) :: r) (nw G a 9 x.toNatClampNeg) (k + 1) (n + x.toNatClampNeg)
    | .long => ∀ a, knd G a = 99 → K (pc + 2) ls (.inr (.inl (some a)) :: r) (nw G a 10 x.toNatClampNeg) (k + 1) (n + x.toNatClampNeg)
    | _ => False)
  | .anewarray i => len = 3 ∧ lkN nt i fun ci => pI st fun x r => 0 ≤ x.toInt ∧ x.toInt ≤ 60000 ∧ k + 1 ≤ R.cells ∧ n + x.toNatClampNeg ≤ R.slots ∧ (if ci = 0 then ∀ a, knd G a = 99 → K (pc + 3) ls (.inr (.inl (some a)) :: r) (nw G a 11 x.toNatClampNeg) (k + 1) (n + x.toNatClampNeg)
    else if ci = 1 then ∀ a, knd G a = 99 → K (pc + 3) ls (.inr (.inl (some a)) :: r) (nw G a 12 x.toNatClampNeg) (k + 1) (n + x.toNatClampNeg)
    else if ci = 4 then ∀ a, knd G a = 99 → K (pc + 3) ls (.inr (.inl (some a)) :: r) (nw G a 13 x.toNatClampNeg) (k + 1) (n + x.toNatClampNeg)
    else False)
  | .new i => len = 3 ∧ (XN i pc ls st G k n ∨ lkN nt i fun ci => k + 1 ≤ R.cells ∧ n + nfO ci ≤ R.slots ∧ ∀ a, knd G a = 99 → K (pc + 3) ls (.inr (.inl (some a)) :: st) (nw G a ci 0) (k + 1) (n + nfO ci))
  | .invokevirtual i => len = 3 ∧ lkC ct i fun kd na mc ms T => kd < 7 ∧ popN na [] st fun As r => pR r fun o r => nn o fun b => knd G b = kd ∧ stW r ≤ 8 ∧ k + mc ≤ R.cells ∧ n + ms ≤ R.slots ∧ T (.inr (.inl (some b)) :: As) G (fun v G' => K (pc + 3) ls (v.toList ++ r) G' (k + mc) (n + ms)) (fun _ _ => False)
  | .invokestatic i => len = 3 ∧ lkC ct i fun kd na mc ms T => kd = 8 ∧ popN na [] st fun As r => stW r ≤ 8 ∧ k + mc ≤ R.cells ∧ n + ms ≤ R.slots ∧ T As G (fun v G' => K (pc + 3) ls (v.toList ++ r) G' (k + mc) (n + ms)) (fun _ _ => False)
  | .invokespecial i => len = 3 ∧ if i = oi then oi ≠ 0 ∧ (pR st fun o r => nn o fun b => stW r ≤ 8 ∧ K (pc + 3) ls r G k n) else lkC ct i fun kd na mc ms T => (kd = 7 ∨ kd = 9) ∧ popN na [] st fun As r => pR r fun o r => nn o fun b => stW r ≤ 8 ∧ k + mc ≤ R.cells ∧ n + ms ≤ R.slots ∧ T (.inr (.inl (some b)) :: As) G (fun v G' => K (pc + 3) ls (v.toList ++ r) G' (k + mc) (n + ms)) (fun _ _ => False)
  | .ireturn => len = 1 ∧ pI st fun x r => r = [] ∧ RT pc (some (.inl x)) G k n
  | .areturn => len = 1 ∧ pR st fun x r => r = [] ∧ RT pc (some (.inr (.inl x))) G k n
  | .return_ => len = 1 ∧ st = [] ∧ RT pc none G k n
  | _ => False
/-- a row of the fields' table -/
abbrev FTg (own : String) (ini : Bool) (x : Nat × (Nat × (Nat × (Nat × Bool)))) : Prop := x.2.1 < 7 ∧ x.2.2.1 < nfO x.2.1 ∧ Cond.fieldLink own x.1 (TO x.2.1 x.2.2.1).1 (TO x.2.1 x.2.2.1).2.1 (TO x.2.1 x.2.2.1).2.2.1 ∈ lwG ∧
  ((x.2.2.2.1 = 0 ∧ tyOf x.2.1 x.2.2.1 = .int) ∨ (x.2.2.2.1 = 1 ∧ isRf x.2.1 x.2.2.1 = true) ∨ (x.2.2.2.1 = 2 ∧ tyOf x.2.1 x.2.2.1 = .boolean)) ∧
  (x.2.2.2.2 = true → (TO x.2.1 x.2.2.1).2.2.2 = false ∨ ((TO x.2.1 x.2.2.1).2.2.2 = true ∧ ini = true ∧ (TO x.2.1 x.2.2.1).1 = own))
abbrev NTg (own : String) (x : Nat × Nat) : Prop := x.2 < 7 ∧ Cond.classLink own x.1 (RO x.2) ∈ lwG
def TMono (T : TT) : Prop := ∀ (av : List AV) (G : GG) (Q1 Q2 : Option AV → GG → Prop) (Qx : String → GG → Prop), T av G Q1 Qx → (∀ v G', Q1 v G' → Q2 v G') → T av G Q2 Qx
/-- a row of the calls' table -/
def CTg (l : Launch) (own : String) (R : Room) (x : Nat × CS) : Prop := TMono x.2.2.2.2.2 ∧
  ∃ (y : MethodName) (bytes : ByteArray) (maxL : Nat) (ret : Option FieldType) (rm : Room), CM l y bytes maxL ret rm x.2.2.2.2.2 ∧ MI y bytes maxL ret x.2.2.1 ∧ rm.cells = x.2.2.2.1 ∧ rm.slots = x.2.2.2.2.1 ∧ (rm.frames + 1 ≤ R.frames ∧ 8 + (maxL + 11) + rm.locals ≤ R.locals) ∧
    (x.2.1 < 7 → MV y ∧ Cond.methodLink own x.1 y ∈ lwG ∧ y.cls = RO x.2.1) ∧ (x.2.1 = 8 → Cond.static y ∈ lwG ∧ Cond.methodLink own x.1 y ∈ lwG) ∧
    (x.2.1 = 7 → Cond.instanceMethod y ∈ lwG ∧ Cond.methodLink own x.1 y ∈ lwG ∧ y.name = "<init>" ∧ ret = none) ∧ (x.2.1 = 9 → Cond.instanceMethod y ∈ lwG ∧ (y = yX2_init ∧ own = RX0 ∧ x.1 = 11) ∧ y.name = "<init>" ∧ ret = none)
section JS
variable {p : Program} {l : Launch} {e : Env} {R : Room} {s : State} {m : MethodId} {args : Array Value} {below : List Frame} {meth : Method} {c : Code} {nL : Nat} {D : va_G} {cy : Nat → ClassId} {base : Nat} {S0 : GG} {Q : State → Prop}
variable {cc : ByteArray} {own : String} {ft : FTb} {nt : List (Nat × Nat)} {ct : List (Nat × CS)} {oi : Nat} {sc ini : Bool} {RT : Nat → Option AV → GG → Nat → Nat → Prop} {XN : Nat → Kt} {K : Kt}
theorem j_sw {pc : Nat} {ls : List (Option AV)} {st : List AV} {G : GG} {k n : Nat} (C : Cx p s m args c cc nL own D cy base) {x : Int32} {df lo hi : Int} {offs : Array Int} {len t0 : Nat} {f : Nat → Prop} (hd : decode cc pc = .ok (.tableswitch df lo hi offs, len)) (h0 : (pc : Int) + df = (t0 : Int))
    (kd : (x.toInt < lo ∨ hi < x.toInt) → JJ p l e R s m args below meth c nL D cy base S0 Q t0 ls st G k n) (kt : ∀ t, f t → JJ p l e R s m args below meth c nL D cy base S0 Q t ls st G k n) (h : swt pc lo hi offs.toList 0 x f) : JJ p l e R s m args below meth c nL D cy base S0 Q pc ls (.inl x :: st) G k n := by
  intro H locs la h1 h2 h3 h4
  by_cases hx : x.toInt < lo ∨ hi < x.toInt
  · exact lv_tableOut C.1 C.2.1 hd hx h0 (kd hx H locs la h1 h2 h3 h4)
  · obtain ⟨off, q1, q2, q3⟩ := swt_el h (x.toInt - lo).toNat (by omega) (by omega)
    rw [Array.getElem?_toList] at q1
    exact lv_tableIn C.1 C.2.1 hd (by omega) (by omega) q1 (Int.toNat_of_nonneg q2).symm (kt _ q3 H locs la h1 h2 h3 h4)
set_option maxHeartbeats 4000000 in
theorem step_ok (C : Cx p s m args c cc nL own D cy base) (hWd : Wd D cy base s s.heap) (hft : ∀ x ∈ ft, FTg own ini x) (hini : ini = true → meth.name = "<init>") (hnt : ∀ x ∈ nt, NTg own x) (hct : ∀ x ∈ ct, CTg l own R x)
    (hoi : oi ≠ 0 → Cond.methodLink own oi objectInit ∈ lwG ∧ 1 ≤ R.frames ∧ 20 ≤ R.locals) (hsc : sc = true → ∀ a, (S0 a).1 = 14 → va_X a (S0 a).2.1 (S0 a).2.2.1 s s.heap)
    (hRi : ∀ pc ls x G k n, decode cc pc = .ok (.ireturn, 1) → RT pc (some (.inl x)) G k n → JJ p l e R s m args below meth c nL D cy base S0 Q pc ls [.inl x] G k n)
    (hRa : ∀ pc ls x G k n, decode cc pc = .ok (.areturn, 1) → RT pc (some (.inr (.inl x))) G k n → JJ p l e R s m args below meth c nL D cy base S0 Q pc ls [.inr (.inl x)] G k n)
    (hRv : ∀ pc ls G k n, decode cc pc = .ok (.return_, 1) → RT pc none G k n → JJ p l e R s m args below meth c nL D cy base S0 Q pc ls [] G k n)
    (hXN : ∀ i pc ls st G k n, decode cc pc = .ok (.new i, 3) → XN i pc ls st G k n → JJ p l e R s m args below meth c nL D cy base S0 Q pc ls st G k n)
    (hK : ∀ pc ls st G k n, K pc ls st G k n → JJ p l e R s m args below meth c nL D cy base S0 Q pc ls st G k n)
    {i : Instr} {len pc : Nat} {ls : List (Option AV)} {st : List AV} {G : GG} {k n : Nat} (hd : decode cc pc = .ok (i, len)) (h : stepw own ft nt ct oi R sc RT XN K i len pc ls st G k n) : JJ p l e R s m args below meth c nL D cy base S0 Q pc ls st G k n := by
  cases i
  case iload_n j =>
    obtain ⟨rfl, h⟩ := h; replace h := lI_el h; obtain ⟨x, q1, h⟩ := h; exact j_iload_n C hd q1 (hK _ _ _ _ _ _ h)
  case iload j =>
    obtain ⟨rfl, h⟩ := h; replace h := lI_el h; obtain ⟨x, q1, h⟩ := h; exact j_iload C hd q1 (hK _ _ _ _ _ _ h)
  case aload_n j =>
    obtain ⟨rfl, h⟩ := h; replace h := lR_el h; obtain ⟨x, q1, h⟩ := h; exact j_aload_n C hd q1 (hK _ _ _ _ _ _ h)
  case aload j =>
    obtain ⟨rfl, h⟩ := h; replace h := lR_el h; obtain ⟨x, q1, h⟩ := h; exact j_aload C hd q1 (hK _ _ _ _ _ _ h)
  case lload_n j =>
    obtain ⟨rfl, h⟩ := h; replace h := lL_el h; obtain ⟨x, q1, h⟩ := h; exact j_lload_n C hd q1 (hK _ _ _ _ _ _ h)
  case lload j =>
    obtain ⟨rfl, h⟩ := h; replace h := lL_el h; obtain ⟨x, q1, h⟩ := h; exact j_lload C hd q1 (hK _ _ _ _ _ _ h)
  case istore_n j =>
    obtain ⟨rfl, h⟩ := h; replace h := pI_el h; obtain ⟨x, r, rfl, q1, q2, h⟩ := h; exact j_istore_n C hd q1 q2 (hK _ _ _ _ _ _ h)
  case istore j =>
    obtain ⟨rfl, h⟩ := h; replace h := pI_el h; obtain ⟨x, r, rfl, q1, q2, h⟩ := h; exact j_istore C hd q1 q2 (hK _ _ _ _ _ _ h)
  case astore_n j =>
    obtain ⟨rfl, h⟩ := h; replace h := pR_el h; obtain ⟨x, r, rfl, q1, q2, h⟩ := h; exact j_astore_n C hd q1 q2 (hK _ _ _ _ _ _ h)
  case astore j =>
    obtain ⟨rfl, h⟩ := h; replace h := pR_el h; obtain ⟨x, r, rfl, q1, q2, h⟩ := h; exact j_astore C hd q1 q2 (hK _ _ _ _ _ _ h)
  case lstore j =>
    obtain ⟨rfl, h⟩ := h; replace h := pL_el h; obtain ⟨x, r, rfl, q1, q2, h⟩ := h; exact j_lstore C hd q1 q2 (hK _ _ _ _ _ _ h)
  case iinc j d =>
    obtain ⟨rfl, h⟩ := h; replace h := lI_el h; obtain ⟨x, q0, q1, q2, h⟩ := h; exact j_iinc C hd q1 q2 q0 (hK _ _ _ _ _ _ h)
  case iconst d =>
    obtain ⟨rfl, h⟩ := h; exact j_iconst C hd (hK _ _ _ _ _ _ h)
  case bipush d =>
    obtain ⟨rfl, h⟩ := h; exact j_bipush C hd (hK _ _ _ _ _ _ h)
  case sipush d =>
    obtain ⟨rfl, h⟩ := h; exact j_sipush C hd (hK _ _ _ _ _ _ h)
  case aconst_null =>
    obtain ⟨rfl, h⟩ := h; exact j_null C hd (hK _ _ _ _ _ _ h)
  case ldc2_w i =>
    obtain ⟨rfl, rfl, rfl, h⟩ := h; exact j_ldc2 C hd (by decide +kernel) (hK _ _ _ _ _ _ h)
  case dup =>
    obtain ⟨rfl, h⟩ := h; cases st with
    | nil => exact h.elim
    | cons v r => exact j_dup C hd h.1 (hK _ _ _ _ _ _ h.2)
  case dup2 =>
    obtain ⟨rfl, h⟩ := h; match st, h with
    | v :: w :: r, h => exact j_dup2 C hd h.1 h.2.1 (hK _ _ _ _ _ _ h.2.2)
    | [_], h => exact h.elim
    | [], h => exact h.elim
  case iadd =>
    obtain ⟨rfl, h⟩ := h; replace h := pI_el h; obtain ⟨y, r, rfl, h⟩ := h; replace h := pI_el h; obtain ⟨x, r, rfl, h⟩ := h; exact j_iadd C hd (hK _ _ _ _ _ _ h)
  case isub =>
    obtain ⟨rfl, h⟩ := h; replace h := pI_el h; obtain ⟨y, r, rfl, h⟩ := h; replace h := pI_el h; obtain ⟨x, r, rfl, h⟩ := h; exact j_isub C hd (hK _ _ _ _ _ _ h)
  case imul =>
    obtain ⟨rfl, h⟩ := h; replace h := pI_el h; obtain ⟨y, r, rfl, h⟩ := h; replace h := pI_el h; obtain ⟨x, r, rfl, h⟩ := h; exact j_imul C hd (hK _ _ _ _ _ _ h)
  case iand =>
    obtain ⟨rfl, h⟩ := h; replace h := pI_el h; obtain ⟨y, r, rfl, h⟩ := h; replace h := pI_el h; obtain ⟨x, r, rfl, h⟩ := h; exact j_iand C hd (hK _ _ _ _ _ _ h)
  case ixor =>
    obtain ⟨rfl, h⟩ := h; replace h := pI_el h; obtain ⟨y, r, rfl, h⟩ := h; replace h := pI_el h; obtain ⟨x, r, rfl, h⟩ := h; exact j_ixor C hd (hK _ _ _ _ _ _ h)
  case ishr =>
    obtain ⟨rfl, h⟩ := h; replace h := pI_el h; obtain ⟨y, r, rfl, h⟩ := h; replace h := pI_el h; obtain ⟨x, r, rfl, h⟩ := h; exact j_ishr C hd (hK _ _ _ _ _ _ h)
  case iushr =>
    obtain ⟨rfl, h⟩ := h; replace h := pI_el h; obtain ⟨y, r, rfl, h⟩ := h; replace h := pI_el h; obtain ⟨x, r, rfl, h⟩ := h; exact j_iushr C hd (hK _ _ _ _ _ _ h)
  case idiv =>
    obtain ⟨rfl, h⟩ := h; replace h := pI_el h; obtain ⟨y, r, rfl, h⟩ := h; replace h := pI_el h; obtain ⟨x, r, rfl, q, h⟩ := h; exact j_idiv C hd q (hK _ _ _ _ _ _ h)
  case irem =>
    obtain ⟨rfl, h⟩ := h; replace h := pI_el h; obtain ⟨y, r, rfl, h⟩ := h; replace h := pI_el h; obtain ⟨x, r, rfl, q, h⟩ := h; exact j_irem C hd q (hK _ _ _ _ _ _ h)
  case land =>
    obtain ⟨rfl, h⟩ := h; replace h := pL_el h; obtain ⟨y, r, rfl, h⟩ := h; replace h := pL_el h; obtain ⟨x, r, rfl, h⟩ := h; exact j_land C hd (hK _ _ _ _ _ _ h)
  case lor =>
    obtain ⟨rfl, h⟩ := h; replace h := pL_el h; obtain ⟨y, r, rfl, h⟩ := h; replace h := pL_el h; obtain ⟨x, r, rfl, h⟩ := h; exact j_lor C hd (hK _ _ _ _ _ _ h)
  case lcmp =>
    obtain ⟨rfl, h⟩ := h; replace h := pL_el h; obtain ⟨y, r, rfl, h⟩ := h; replace h := pL_el h; obtain ⟨x, r, rfl, h⟩ := h; exact j_lcmp C hd (hK _ _ _ _ _ _ h)
  case lshl =>
    obtain ⟨rfl, h⟩ := h; replace h := pI_el h; obtain ⟨y, r, rfl, h⟩ := h; replace h := pL_el h; obtain ⟨x, r, rfl, h⟩ := h; exact j_lshl C hd (hK _ _ _ _ _ _ h)
  case lshr =>
    obtain ⟨rfl, h⟩ := h; replace h := pI_el h; obtain ⟨y, r, rfl, h⟩ := h; replace h := pL_el h; obtain ⟨x, r, rfl, h⟩ := h; exact j_lshr C hd (hK _ _ _ _ _ _ h)
  case lushr =>
    obtain ⟨rfl, h⟩ := h; replace h := pI_el h; obtain ⟨y, r, rfl, h⟩ := h; replace h := pL_el h; obtain ⟨x, r, rfl, h⟩ := h; exact j_lushr C hd (hK _ _ _ _ _ _ h)
  case i2l =>
    obtain ⟨rfl, h⟩ := h; replace h := pI_el h; obtain ⟨x, r, rfl, h⟩ := h; exact j_i2l C hd (hK _ _ _ _ _ _ h)
  case l2i =>
    obtain ⟨rfl, h⟩ := h; replace h := pL_el h; obtain ⟨x, r, rfl, h⟩ := h; exact j_l2i C hd (hK _ _ _ _ _ _ h)
  case i2b =>
    obtain ⟨rfl, h⟩ := h; replace h := pI_el h; obtain ⟨x, r, rfl, h⟩ := h; exact j_i2b C hd (hK _ _ _ _ _ _ h)
  case goto off =>
    obtain ⟨rfl, h⟩ := h; exact j_goto C hd (Int.toNat_of_nonneg h.1).symm (hK _ _ _ _ _ _ h.2)
  case if_icmp cd off =>
    obtain ⟨rfl, h⟩ := h; replace h := pI_el h; obtain ⟨y, r, rfl, h⟩ := h; replace h := pI_el h; obtain ⟨x, r, rfl, h⟩ := h; obtain ⟨h0, h⟩ := h
    have ht := (Int.toNat_of_nonneg h0).symm
    cases cd with
    | eq => exact j_icmp_eq C hd ht (fun q => hK _ _ _ _ _ _ (h.1 q)) (fun q => hK _ _ _ _ _ _ (h.2 q))
    | ne => exact j_icmp_ne C hd ht (fun q => hK _ _ _ _ _ _ (h.2 q)) (fun q => hK _ _ _ _ _ _ (h.1 q))
    | lt => exact j_icmp_lt C hd ht (fun q => hK _ _ _ _ _ _ (h.1 q)) (fun q => hK _ _ _ _ _ _ (h.2 q))
    | ge => exact j_icmp_ge C hd ht (fun q => hK _ _ _ _ _ _ (h.1 q)) (fun q => hK _ _ _ _ _ _ (h.2 q))
    | gt => exact j_icmp_gt C hd ht (fun q => hK _ _ _ _ _ _ (h.1 q)) (fun q => hK _ _ _ _ _ _ (h.2 q))
    | le => exact j_icmp_le C hd ht (fun q => hK _ _ _ _ _ _ (h.1 q)) (fun q => hK _ _ _ _ _ _ (h.2 q))
  case ifCond cd off =>
    obtain ⟨rfl, h⟩ := h; replace h := pI_el h; obtain ⟨x, r, rfl, h⟩ := h; obtain ⟨h0, h⟩ := h
    have ht := (Int.toNat_of_nonneg h0).symm
    cases cd with
    | eq => exact j_if_eq C hd ht (fun q => hK _ _ _ _ _ _ (h.1 q)) (fun q => hK _ _ _ _ _ _ (h.2 q))
    | ne => exact j_if_ne C hd ht (fun q => hK _ _ _ _ _ _ (h.2 q)) (fun q => hK _ _ _ _ _ _ (h.1 q))
    | lt => exact j_if_lt C hd ht (fun q => hK _ _ _ _ _ _ (h.1 q)) (fun q => hK _ _ _ _ _ _ (h.2 q))
    | ge => exact j_if_ge C hd ht (fun q => hK _ _ _ _ _ _ (h.1 q)) (fun q => hK _ _ _ _ _ _ (h.2 q))
    | gt => exact j_if_gt C hd ht (fun q => hK _ _ _ _ _ _ (h.1 q)) (fun q => hK _ _ _ _ _ _ (h.2 q))
    | le => exact j_if_le C hd ht (fun q => hK _ _ _ _ _ _ (h.1 q)) (fun q => hK _ _ _ _ _ _ (h.2 q))
  case ifnull off =>
    obtain ⟨rfl, h⟩ := h; replace h := pR_el h; obtain ⟨x, r, rfl, h⟩ := h; exact j_ifnull C hd (Int.toNat_of_nonneg h.1).symm (fun q => hK _ _ _ _ _ _ (h.2.1 q)) (fun q => hK _ _ _ _ _ _ (h.2.2 q))
  case ifnonnull off =>
    obtain ⟨rfl, h⟩ := h; replace h := pR_el h; obtain ⟨x, r, rfl, h⟩ := h; exact j_ifnonnull C hd (Int.toNat_of_nonneg h.1).symm (fun q => hK _ _ _ _ _ _ (h.2.2 q)) (fun q => hK _ _ _ _ _ _ (h.2.1 q))
  case if_acmp cd off =>
    obtain ⟨rfl, rfl, h⟩ := h; replace h := pR_el h; obtain ⟨y, r, rfl, h⟩ := h; replace h := pR_el h; obtain ⟨x, r, rfl, h⟩ := h; exact j_acmp_ne C hd (Int.toNat_of_nonneg h.1).symm (fun q => hK _ _ _ _ _ _ (h.2.2 q)) (fun q => hK _ _ _ _ _ _ (h.2.1 q))
  case tableswitch df lo hi offs =>
    replace h := pI_el h; obtain ⟨x, r, rfl, h, h2⟩ := h; exact j_sw C hd (Int.toNat_of_nonneg h.1).symm (fun q => hK _ _ _ _ _ _ (h.2 q)) (fun t => hK _ _ _ _ _ _) h2
  case getfield i =>
    obtain ⟨rfl, h⟩ := h; replace h := pR_el h; obtain ⟨o, r, rfl, a, rfl, h⟩ := h; replace h := lkF_el h; obtain ⟨ci, j, ty, w, q1, q2, h⟩ := h
    obtain ⟨f1, f2, f3, f4, -⟩ := hft _ (lkp_mem q1)
    dsimp only at f1 f2 f3 f4
    rcases f4 with ⟨f4, f5⟩ | ⟨f4, f5⟩ | ⟨f4, f5⟩
    · rw [if_neg (by omega)] at h; exact j_getI C hd f1 f2 f3 q2 (by unfold isRf; rw [f5]; rfl) (hK _ _ _ _ _ _ h)
    · rw [if_pos f4] at h; exact j_getR C hd f1 f2 f3 q2 f5 (hK _ _ _ _ _ _ h)
    · rw [if_neg (by omega)] at h; exact j_getI C hd f1 f2 f3 q2 (by unfold isRf; rw [f5]; rfl) (hK _ _ _ _ _ _ h)
  case putfield i =>
    obtain ⟨rfl, h⟩ := h; replace h := lkF_el h; obtain ⟨ci, j, ty, w, q1, q3, h⟩ := h
    obtain ⟨f1, f2, f3, f4, f6⟩ := hft _ (lkp_mem q1)
    dsimp only at f1 f2 f3 f4 f6
    have f7 := f6 q3
    have f8 : (TO ci j).2.2.2 = false ∨ ((TO ci j).2.2.2 = true ∧ meth.name = "<init>" ∧ (TO ci j).1 = own) := f7.elim Or.inl (fun q => Or.inr ⟨q.1, hini q.2.1, q.2.2⟩)
    rcases f4 with ⟨f4, f5⟩ | ⟨f4, f5⟩ | ⟨f4, f5⟩
    · rw [if_neg (by omega)] at h
      replace h := pI_el h; obtain ⟨x, r, rfl, h⟩ := h; replace h := pR_el h; obtain ⟨o, r, rfl, a, rfl, q2, -, h⟩ := h
      exact j_putI C hd f1 f2 f3 q2 (by unfold isRf; rw [f5]; rfl) f8 (by rw [f5]; rfl) (by rw [f5]; rfl) (hK _ _ _ _ _ _ h)
    · rw [if_pos f4] at h
      replace h := pR_el h; obtain ⟨x, r, rfl, h⟩ := h; replace h := pR_el h; obtain ⟨o, r, rfl, a, rfl, q2, h⟩ := h
      exact j_putR C hd f1 f2 f3 q2 f5 f8 (nar_r f5 x) (fit_r f5 x) (hK _ _ _ _ _ _ h)
    · rw [if_neg (by omega)] at h
      replace h := pI_el h; obtain ⟨x, r, rfl, h⟩ := h; replace h := pR_el h; obtain ⟨o, r, rfl, a, rfl, q2, q5, h⟩ := h
      have q6 := q5 f4
      exact j_putI C hd f1 f2 f3 q2 (by unfold isRf; rw [f5]; rfl) f8 (by rw [f5]; rcases q6 with rfl | rfl <;> rfl) (by rw [f5]; rcases q6 with rfl | rfl <;> rfl) (hK _ _ _ _ _ _ h)
  case iaload =>
    obtain ⟨rfl, h⟩ := h; replace h := pI_el h; obtain ⟨i, r, rfl, h⟩ := h; replace h := pR_el h; obtain ⟨o, r, rfl, a, rfl, q1, q2, h⟩ := h
    rcases q1 with q1 | ⟨q0, q1⟩
    · exact j_iald C hd q1 q2 (hK _ _ _ _ _ _ h)
    · intro H locs la h1 h2 h3 h4
      have hG : G a = S0 a ∧ a < base := by
        obtain ⟨L, hL, h14, -⟩ := id h2
        rcases h14 a (by omega) with q | q
        · exact ⟨q.2, q.1⟩
        · omega
      have hk0 : (S0 a).1 = 14 := by rw [← hG.1]; exact q1
      exact j_sld C (hsc q0 a hk0) hG.2 hd q1 q2 (hK _ _ _ _ _ _ h) H locs la h1 h2 h3 h4
  case baload =>
    obtain ⟨rfl, h⟩ := h; replace h := pI_el h; obtain ⟨i, r, rfl, h⟩ := h; replace h := pR_el h; obtain ⟨o, r, rfl, a, rfl, q1, q2, h⟩ := h
    rcases q1 with q1 | q1
    · exact j_bald C hd q1 q2 (hK _ _ _ _ _ _ h)
    · exact j_zald C hd q1 q2 (hK _ _ _ _ _ _ h)
  case laload =>
    obtain ⟨rfl, h⟩ := h; replace h := pI_el h; obtain ⟨i, r, rfl, h⟩ := h; replace h := pR_el h; obtain ⟨o, r, rfl, a, rfl, q1, q2, h⟩ := h
    exact j_lald C hd q1 q2 (hK _ _ _ _ _ _ h)
  case aaload =>
    obtain ⟨rfl, h⟩ := h; replace h := pI_el h; obtain ⟨i, r, rfl, h⟩ := h; replace h := pR_el h; obtain ⟨o, r, rfl, a, rfl, q1, q2, h⟩ := h
    exact j_aald C hd q1 q2 (hK _ _ _ _ _ _ h)
  case arraylength =>
    obtain ⟨rfl, h⟩ := h; replace h := pR_el h; obtain ⟨o, r, rfl, a, rfl, q1, h⟩ := h
    rcases q1 with q1 | ⟨q0, q1⟩
    · exact j_alen C hd q1 (hK _ _ _ _ _ _ h)
    · intro H locs la h1 h2 h3 h4
      have hG : G a = S0 a ∧ a < base := by
        obtain ⟨L, hL, h14, -⟩ := id h2
        rcases h14 a (by omega) with q | q
        · exact ⟨q.2, q.1⟩
        · omega
      have hk0 : (S0 a).1 = 14 := by rw [← hG.1]; exact q1
      exact j_slen C (hsc q0 a hk0) hG.2 hd q1 (hK _ _ _ _ _ _ h) H locs la h1 h2 h3 h4
  case iastore =>
    obtain ⟨rfl, h⟩ := h; replace h := pI_el h; obtain ⟨x, r, rfl, h⟩ := h; replace h := pI_el h; obtain ⟨i, r, rfl, h⟩ := h; replace h := pR_el h; obtain ⟨o, r, rfl, a, rfl, q1, q2, h⟩ := h
    exact j_iast C hd q1 q2 (hK _ _ _ _ _ _ h)
  case bastore =>
    obtain ⟨rfl, h⟩ := h; replace h := pI_el h; obtain ⟨x, r, rfl, h⟩ := h; replace h := pI_el h; obtain ⟨i, r, rfl, h⟩ := h; replace h := pR_el h; obtain ⟨o, r, rfl, a, rfl, q2, h⟩ := h
    rcases h with ⟨q1, h⟩ | ⟨q1, h⟩
    · exact j_bast C hd q1 q2 (hK _ _ _ _ _ _ h)
    · exact j_zast C hd q1 q2 (hK _ _ _ _ _ _ h)
  case lastore =>
    obtain ⟨rfl, h⟩ := h; replace h := pL_el h; obtain ⟨x, r, rfl, h⟩ := h; replace h := pI_el h; obtain ⟨i, r, rfl, h⟩ := h; replace h := pR_el h; obtain ⟨o, r, rfl, a, rfl, q1, q2, h⟩ := h
    exact j_last C hd q1 q2 (hK _ _ _ _ _ _ h)
  case aastore =>
    obtain ⟨rfl, h⟩ := h; replace h := pR_el h; obtain ⟨x, r, rfl, h⟩ := h; replace h := pI_el h; obtain ⟨i, r, rfl, h⟩ := h; replace h := pR_el h; obtain ⟨o, r, rfl, a, rfl, q2, q1, h⟩ := h
    rcases q1 with ⟨rfl, q1⟩ | ⟨v, rfl, ⟨q1, q3⟩ | ⟨q1, q3⟩ | ⟨q1, q3⟩⟩
    · exact j_aastN C hd q1 q2 (hK _ _ _ _ _ _ h)
    · exact j_aast11 C hd q1 q3 q2 (hK _ _ _ _ _ _ h)
    · exact j_aast12 C hd q1 q3 q2 (hK _ _ _ _ _ _ h)
    · exact j_aast13 C hd q1 q3 q2 (hK _ _ _ _ _ _ h)
  case newarray t =>
    obtain ⟨rfl, h⟩ := h; replace h := pI_el h; obtain ⟨x, r, rfl, q1, q2, q3, q4, h⟩ := h
    cases t
    case byte => exact j_newa7 C hd q1 q2 q3 q4 (fun a ha => hK _ _ _ _ _ _ (h a ha))
    case int => exact j_newa8 C hd q1 q2 q3 q4 (fun a ha => hK _ _ _ _ _ _ (h a ha))
    case boolean => exact j_newa9 C hd q1 q2 q3 q4 (fun a ha => hK _ _ _ _ _ _ (h a ha))
    case long => exact j_newa10 C hd q1 q2 q3 q4 (fun a ha => hK _ _ _ _ _ _ (h a ha))
    all_goals exact h.elim
  case anewarray i =>
    obtain ⟨rfl, h⟩ := h; replace h := lkN_el h; obtain ⟨ci, q0, h⟩ := h; replace h := pI_el h; obtain ⟨x, r, rfl, q1, q2, q3, q4, h⟩ := h
    obtain ⟨f1, f2⟩ := hnt _ (lkp_mem q0)
    dsimp only at f1 f2
    by_cases e0 : ci = 0
    · subst e0; rw [if_pos rfl] at h; exact j_anew11 C hd hWd.2.2.1.1 f2 q1 q2 q3 q4 (fun a ha => hK _ _ _ _ _ _ (h a ha))
    · rw [if_neg e0] at h
      by_cases e1 : ci = 1
      · subst e1; rw [if_pos rfl] at h; exact j_anew12 C hd hWd.2.2.1.2.1 f2 q1 q2 q3 q4 (fun a ha => hK _ _ _ _ _ _ (h a ha))
      · rw [if_neg e1] at h
        by_cases e4 : ci = 4
        · subst e4; rw [if_pos rfl] at h; exact j_anew13 C hd hWd.2.2.1.2.2 f2 q1 q2 q3 q4 (fun a ha => hK _ _ _ _ _ _ (h a ha))
        · rw [if_neg e4] at h; exact h.elim
  case new i =>
    obtain ⟨rfl, h⟩ := h; rcases h with h | h
    · exact hXN _ _ _ _ _ _ _ hd h
    · replace h := lkN_el h; obtain ⟨ci, q0, q3, q4, h⟩ := h
      obtain ⟨f1, f2⟩ := hnt _ (lkp_mem q0)
      exact j_new C hd f1 f2 q3 q4 (fun a ha => hK _ _ _ _ _ _ (h a ha))
  case invokevirtual i =>
    obtain ⟨rfl, h⟩ := h; replace h := lkC_el h; obtain ⟨kd, na, mc, ms, T, q0, q7, h⟩ := h; replace h := popN_el h; obtain ⟨As, r, q1, rfl, h⟩ := h; replace h := pR_el h; obtain ⟨o, r, rfl, b, rfl, q2, q3, q4, q5, h⟩ := h
    rw [List.append_nil] at h
    obtain ⟨mono, y, bytes, maxL, ret, rm, f1, f2, f3, f4, f5, f6, -⟩ := hct _ (lkp_mem q0)
    dsimp only at f1 f2 f3 f4 f5 f6 mono
    obtain ⟨g1, g2, g3⟩ := f6 q7
    subst f3; subst f4
    exact j_callV C hWd f1 f2 g1 g2 q7 g3 q2 As q1 hd f5 q3 ⟨q4, q5⟩ (mono _ _ _ _ _ h (fun v G' q => hK _ _ _ _ _ _ q))
  case invokestatic i =>
    obtain ⟨rfl, h⟩ := h; replace h := lkC_el h; obtain ⟨kd, na, mc, ms, T, q0, q7, h⟩ := h; replace h := popN_el h; obtain ⟨As, r, q1, rfl, q3, q4, q5, h⟩ := h
    rw [List.append_nil] at h
    obtain ⟨mono, y, bytes, maxL, ret, rm, f1, f2, f3, f4, f5, -, f6, -⟩ := hct _ (lkp_mem q0)
    dsimp only at f1 f2 f3 f4 f5 f6 mono
    obtain ⟨g1, g2⟩ := f6 q7
    subst f3; subst f4
    exact j_callS C hWd f1 f2 g1 g2 As q1 hd f5 q3 ⟨q4, q5⟩ (mono _ _ _ _ _ h (fun v G' q => hK _ _ _ _ _ _ q))
  case invokespecial i =>
    obtain ⟨rfl, h⟩ := h
    by_cases eo : i = oi
    · rw [if_pos eo] at h
      obtain ⟨q9, h⟩ := h
      replace h := pR_el h; obtain ⟨o, r, rfl, b, rfl, q3, h⟩ := h
      obtain ⟨f1, f2, f3⟩ := hoi q9
      rw [← eo] at f1
      exact j_objInit C hd f1 f2 (by unfold stW at q3; omega) (hK _ _ _ _ _ _ h)
    · rw [if_neg eo] at h
      replace h := lkC_el h; obtain ⟨kd, na, mc, ms, T, q0, q7, h⟩ := h; replace h := popN_el h; obtain ⟨As, r, q1, rfl, h⟩ := h; replace h := pR_el h; obtain ⟨o, r, rfl, b, rfl, q3, q4, q5, h⟩ := h
      rw [List.append_nil] at h
      obtain ⟨mono, y, bytes, maxL, ret, rm, f1, f2, f3, f4, f5, -, -, f6, f7⟩ := hct _ (lkp_mem q0)
      dsimp only at f1 f2 f3 f4 f5 f6 f7 mono
      rcases q7 with q7 | q7
      · obtain ⟨g1, g2, g3, g4⟩ := f6 q7
        subst f3; subst f4; subst g4
        exact j_callI C hWd f1 f2 g1 g2 g3 As q1 hd f5 q3 ⟨q4, q5⟩ (mono _ _ _ _ _ h (fun v G' q => hK _ _ _ _ _ _ q))
      · obtain ⟨g1, g2, g3, g4⟩ := f7 q7
        subst f3; subst f4; subst g4
        obtain ⟨g5, g7⟩ := g2
        subst g5
        have g8 : va_Nw (.methodLinkNest own i yX2_init RX5) s := by rw [g7.1, g7.2]; exact hWd.2.2.2.2.2.2.2
        exact j_callIN C hWd f1 f2 g1 g8 g3 As q1 hd f5 q3 ⟨q4, q5⟩ (mono _ _ _ _ _ h (fun v G' q => hK _ _ _ _ _ _ q))
  case ireturn =>
    obtain ⟨rfl, h⟩ := h; replace h := pI_el h; obtain ⟨x, r, rfl, rfl, h⟩ := h; exact hRi _ _ _ _ _ _ hd h
  case areturn =>
    obtain ⟨rfl, h⟩ := h; replace h := pR_el h; obtain ⟨x, r, rfl, rfl, h⟩ := h; exact hRa _ _ _ _ _ _ hd h
  case return_ =>
    obtain ⟨rfl, rfl, h⟩ := h; exact hRv _ _ _ _ _ hd h
  all_goals exact False.elim h
end JS
end
section
/-! ===== the walk, computed: by fuel, up to cuts ===== -/
abbrev Ip : Type := List (Option AV) → List AV → GG → Nat → Nat → Prop
def wpf (cc : ByteArray) (own : String) (ft : FTb) (nt : List (Nat × Nat)) (ct : List (Nat × CS)) (oi : Nat) (R : Room) (sc : Bool) (RT : Nat → Option AV → GG → Nat → Nat → Prop) (XN : Nat → Kt) (cuts : List (Nat × Ip)) : Nat → Kt
  | 0 => fun _ _ _ _ _ _ => False
  | f + 1 => fun pc ls st G k n => match lkp cuts pc with
    | some I => I ls st G k n
    | none => match decode cc pc with
      | .ok q => stepw own ft nt ct oi R sc RT XN (wpf cc own ft nt ct oi R sc RT XN cuts f) q.1 q.2 pc ls st G k n
      | .error _ => False
def wpA (cc : ByteArray) (own : String) (ft : FTb) (nt : List (Nat × Nat)) (ct : List (Nat × CS)) (oi : Nat) (R : Room) (sc : Bool) (RT : Nat → Option AV → GG → Nat → Nat → Prop) (XN : Nat → Kt) (cuts : List (Nat × Ip)) (f : Nat) : Kt := fun pc ls st G k n => match decode cc pc with
  | .ok q => stepw own ft nt ct oi R sc RT XN (wpf cc own ft nt ct oi R sc RT XN cuts f) q.1 q.2 pc ls st G k n
  | .error _ => False
/-- what a body may use: J holds where the computed walk up to places where J holds says so -/
def EvJ (cc : ByteArray) (own : String) (ft : FTb) (nt : List (Nat × Nat)) (ct : List (Nat × CS)) (oi : Nat) (R : Room) (sc : Bool) (RT : Nat → Option AV → GG → Nat → Nat → Prop) (XN : Nat → Kt) (J : Kt) : Prop :=
  ∀ (cuts : List (Nat × Ip)) (f pc : Nat) (ls : List (Option AV)) (st : List AV) (G : GG) (k n : Nat), (∀ x ∈ cuts, ∀ ls st G k n, x.2 ls st G k n → J x.1 ls st G k n) → wpA cc own ft nt ct oi R sc RT XN cuts f pc ls st G k n → J pc ls st G k n
section EV
variable {p : Program} {l : Launch} {e : Env} {R : Room} {s : State} {m : MethodId} {args : Array Value} {below : List Frame} {meth : Method} {c : Code} {nL : Nat} {D : va_G} {cy : Nat → ClassId} {base : Nat} {S0 : GG} {Q : State → Prop}
variable {cc : ByteArray} {own : String} {ft : FTb} {nt : List (Nat × Nat)} {ct : List (Nat × CS)} {oi : Nat} {sc ini : Bool} {RT : Nat → Option AV → GG → Nat → Nat → Prop} {XN : Nat → Kt}
theorem ev_ok (C : Cx p s m args c cc nL own D cy base) (hWd : Wd D cy base s s.heap) (hft : ∀ x ∈ ft, FTg own ini x) (hini : ini = true → meth.name = "<init>") (hnt : ∀ x ∈ nt, NTg own x) (hct : ∀ x ∈ ct, CTg l own R x)
    (hoi : oi ≠ 0 → Cond.methodLink own oi objectInit ∈ lwG ∧ 1 ≤ R.frames ∧ 20 ≤ R.locals) (hsc : sc = true → ∀ a, (S0 a).1 = 14 → va_X a (S0 a).2.1 (S0 a).2.2.1 s s.heap)
    (hRi : ∀ pc ls x G k n, decode cc pc = .ok (.ireturn, 1) → RT pc (some (.inl x)) G k n → JJ p l e R s m args below meth c nL D cy base S0 Q pc ls [.inl x] G k n)
    (hRa : ∀ pc ls x G k n, decode cc pc = .ok (.areturn, 1) → RT pc (some (.inr (.inl x))) G k n → JJ p l e R s m args below meth c nL D cy base S0 Q pc ls [.inr (.inl x)] G k n)
    (hRv : ∀ pc ls G k n, decode cc pc = .ok (.return_, 1) → RT pc none G k n → JJ p l e R s m args below meth c nL D cy base S0 Q pc ls [] G k n)
    (hXN : ∀ i pc ls st G k n, decode cc pc = .ok (.new i, 3) → XN i pc ls st G k n → JJ p l e R s m args below meth c nL D cy base S0 Q pc ls st G k n) :
    EvJ cc own ft nt ct oi R sc RT XN (JJ p l e R s m args below meth c nL D cy base S0 Q) := by
  intro cuts f
  have key : ∀ f pc ls st G k n, (∀ x ∈ cuts, ∀ ls st G k n, x.2 ls st G k n → JJ p l e R s m args below meth c nL D cy base S0 Q x.1 ls st G k n) → wpf cc own ft nt ct oi R sc RT XN cuts f pc ls st G k n → JJ p l e R s m args below meth c nL D cy base S0 Q pc ls st G k n := by
    intro f
    induction f with
    | zero => intro pc ls st G k n _ h; exact h.elim
    | succ f ih =>
      intro pc ls st G k n hc h
      unfold wpf at h
      split at h
      · rename_i I eI
        exact hc _ (lkp_mem eI) _ _ _ _ _ h
      · split at h
        · rename_i q eq
          exact step_ok C hWd hft hini hnt hct hoi hsc hRi hRa hRv hXN (fun pc ls st G k n h => ih pc ls st G k n hc h) (by rw [eq]) h
        · exact h.elim
  intro pc ls st G k n hc h
  unfold wpA at h
  split at h
  · rename_i q eq
    exact step_ok C hWd hft hini hnt hct hoi hsc hRi hRa hRv hXN (fun pc ls st G k n h => key f pc ls st G k n hc h) (by rw [eq]) h
  · exact h.elim
end EV
def rOK (rt : Nat) (r : Option AV) : Prop := match rt, r with
  | 0, none => True
  | 1, some (.inl _) => True
  | 2, some (.inl x) => x = 0 ∨ x = 1
  | 3, some (.inr (.inl _)) => True
  | _, _ => False
def RTm (rm : Room) (rt : Nat) (Qr : Option AV → GG → Prop) : Nat → Option AV → GG → Nat → Nat → Prop := fun _ r G k n => k ≤ rm.cells ∧ n ≤ rm.slots ∧ rOK rt r ∧ Qr r G
def rtT (rt : Nat) (ret : Option FieldType) : Prop := (rt = 0 ∧ ret = none) ∨ (rt = 1 ∧ ret = some .int) ∨ (rt = 2 ∧ ret = some .boolean) ∨ (rt = 3 ∧ ∃ t, ret = some t ∧ isRt t = true)
def noX : Nat → Kt := fun _ _ _ _ _ _ _ => False
/-- a contract out of the computed walk (no throw) -/
theorem CM.ev {l : Launch} {y : MethodName} {bytes : ByteArray} {maxL : Nat} {ret : Option FieldType} {rm : Room} {T : TT} {ft : FTb} {nt : List (Nat × Nat)} {ct : List (Nat × CS)} {oi rt : Nat} {ini : Bool} (hpl : plainFor y = true) (hrt : rtT rt ret)
    (hft : ∀ x ∈ ft, FTg y.cls ini x) (hini : ini = true → y.name = "<init>") (hnt : ∀ x ∈ nt, NTg y.cls x) (hct : ∀ x ∈ ct, CTg l y.cls rm x) (hoi : oi ≠ 0 → Cond.methodLink y.cls oi objectInit ∈ lwG ∧ 1 ≤ rm.frames ∧ 20 ≤ rm.locals)
    (body : ∀ (av : List AV) (G : GG) (Qr : Option AV → GG → Prop) (Qx : String → GG → Prop), T av G Qr Qx → (enL av).length ≤ maxL ∧ ∀ J : Kt, EvJ bytes y.cls ft nt ct oi rm false (RTm rm rt Qr) noX J → J 0 (enP av maxL) [] G 0 0) : CM l y bytes maxL ret rm T := by
  refine CM.of hpl (fun D cy base S0 av G Qr Qx hT => ⟨(body av G Qr Qx hT).1, fun p e s m args below meth c B => ?_⟩)
  obtain ⟨C, hWd, hr, hlk, hnm, htb⟩ := B
  refine (body av G Qr Qx hT).2 _ (ev_ok (ini := ini) C hWd hft (fun q => by rw [hnm]; exact hini q) hnt hct hoi (fun q => by cases q) ?_ ?_ ?_ (fun _ _ _ _ _ _ _ _ q => q.elim))
  · intro pc ls x G k n hd h
    obtain ⟨h1, h2, h3, h4⟩ := h
    rcases hrt with ⟨q1, q2⟩ | ⟨q1, q2⟩ | ⟨q1, q2⟩ | ⟨q1, t, q2, q3⟩ <;> subst q1
    · exact h3.elim
    · exact j_iret C (by rw [hr, q2]) hlk rfl hd h1 h2 h4
    · refine j_iret C (by rw [hr, q2]) hlk ?_ hd h1 h2 h4
      have h3 : x = 0 ∨ x = 1 := h3
      rcases h3 with rfl | rfl <;> rfl
    · exact h3.elim
  · intro pc ls x G k n hd h
    obtain ⟨h1, h2, h3, h4⟩ := h
    rcases hrt with ⟨q1, q2⟩ | ⟨q1, q2⟩ | ⟨q1, q2⟩ | ⟨q1, t, q2, q3⟩ <;> subst q1
    · exact h3.elim
    · exact h3.elim
    · exact h3.elim
    · exact j_aret C (by rw [hr, q2]) q3 hlk hd h1 h2 h4
  · intro pc ls G k n hd h
    obtain ⟨h1, h2, h3, h4⟩ := h
    rcases hrt with ⟨q1, q2⟩ | ⟨q1, q2⟩ | ⟨q1, q2⟩ | ⟨q1, t, q2, q3⟩ <;> subst q1
    · exact j_vret C (by rw [hr, q2]) hlk hd h1 h2 h4
    · exact h3.elim
    · exact h3.elim
    · exact h3.elim
end
section
/-! ===== the computed walk as rewriting rows (no binders: every row fires on whole terms) ===== -/
def wq (own : String) (ft : FTb) (nt : List (Nat × Nat)) (ct : List (Nat × CS)) (oi : Nat) (R : Room) (sc : Bool) (RT : Nat → Option AV → GG → Nat → Nat → Prop) (XN : Nat → Kt) (K : Kt) (I : Option Ip) (d : Except DecodeError (Instr × Nat)) (pc : Nat) (ls : List (Option AV)) (st : List AV) (G : GG) (k n : Nat) : Prop := match I with
  | some I => I ls st G k n
  | none => match d with
    | .ok q => stepw own ft nt ct oi R sc RT XN K q.1 q.2 pc ls st G k n
    | .error _ => False
def ldI (v : Option AV) (K : Kt) (pc : Nat) (ls : List (Option AV)) (st : List AV) (G : GG) (k n : Nat) : Prop := match v with
  | some (.inl x) => K pc ls (.inl x :: st) G k n
  | _ => False
def ldR (v : Option AV) (K : Kt) (pc : Nat) (ls : List (Option AV)) (st : List AV) (G : GG) (k n : Nat) : Prop := match v with
  | some (.inr (.inl x)) => K pc ls (.inr (.inl x) :: st) G k n
  | _ => False
def ldL (v : Option AV) (K : Kt) (pc : Nat) (ls : List (Option AV)) (st : List AV) (G : GG) (k n : Nat) : Prop := match v with
  | some (.inr (.inr x)) => K pc ls (.inr (.inr x) :: st) G k n
  | _ => False
def incI (v : Option AV) (j : Nat) (d : Int32) (K : Kt) (pc : Nat) (ls : List (Option AV)) (st : List AV) (G : GG) (k n : Nat) : Prop := match v with
  | some (.inl x) => j < ls.length ∧ okS ls j = true ∧ K pc (ls.set j (some (.inl (x + d)))) st G k n
  | _ => False
def gfE (q : Option (Nat × (Nat × (Nat × Bool)))) (o : Option Nat) (K : Kt) (pc : Nat) (ls : List (Option AV)) (st : List AV) (G : GG) (k n : Nat) : Prop := match q with
  | some (ci, j, ty, _) => nn o fun a => knd G a = ci ∧ K pc ls ((if ty = 1 then .inr (.inl (gr G a j)) else .inl (gi G a j)) :: st) G k n
  | none => False
def pfE (q : Option (Nat × (Nat × (Nat × Bool)))) (v : AV) (o : Option Nat) (K : Kt) (pc : Nat) (ls : List (Option AV)) (st : List AV) (G : GG) (k n : Nat) : Prop := match q with
  | some (ci, j, ty, w) => w = true ∧ (match v with
    | .inl x => ¬ ty = 1 ∧ nn o fun a => knd G a = ci ∧ (ty = 2 → x = 0 ∨ x = 1) ∧ K pc ls st (sI G a j x) k n
    | .inr (.inl x) => ty = 1 ∧ nn o fun a => knd G a = ci ∧ K pc ls st (sR G a j x) k n
    | .inr (.inr _) => False)
  | none => False
def nwE (q : Option Nat) (R : Room) (K : Kt) (pc : Nat) (ls : List (Option AV)) (st : List AV) (G : GG) (k n : Nat) : Prop := match q with
  | some ci => k + 1 ≤ R.cells ∧ n + nfO ci ≤ R.slots ∧ ∀ a, knd G a = 99 → K pc ls (.inr (.inl (some a)) :: st) (nw G a ci 0) (k + 1) (n + nfO ci)
  | none => False
def anE (q : Option Nat) (x : Int32) (R : Room) (K : Kt) (pc : Nat) (ls : List (Option AV)) (r : List AV) (G : GG) (k n : Nat) : Prop := match q with
  | some ci => 0 ≤ x.toInt ∧ x.toInt ≤ 60000 ∧ k + 1 ≤ R.cells ∧ n + x.toNatClampNeg ≤ R.slots ∧ (if ci = 0 then ∀ a, knd G a = 99 → K pc ls (.inr (.inl (some a)) :: r) (nw G a 11 x.toNatClampNeg) (k + 1) (n + x.toNatClampNeg)
    else if ci = 1 then ∀ a, knd G a = 99 → K pc ls (.inr (.inl (some a)) :: r) (nw G a 12 x.toNatClampNeg) (k + 1) (n + x.toNatClampNeg)
    else if ci = 4 then ∀ a, knd G a = 99 → K pc ls (.inr (.inl (some a)) :: r) (nw G a 13 x.toNatClampNeg) (k + 1) (n + x.toNatClampNeg)
    else False)
  | none => False
/-- a call's end: what comes back is pushed -/
def kE (K : Kt) (pc : Nat) (ls : List (Option AV)) (r : List AV) (k n : Nat) : Option AV → GG → Prop := fun v G' => K pc ls (v.toList ++ r) G' k n
def nX : String → GG → Prop := fun _ _ => False
def cvE (q : Option CS) (R : Room) (K : Kt) (pc : Nat) (ls : List (Option AV)) (st : List AV) (G : GG) (k n : Nat) : Prop := match q with
  | some (kd, na, mc, ms, T) => kd < 7 ∧ popN na [] st fun As r => pR r fun o r => nn o fun b => knd G b = kd ∧ stW r ≤ 8 ∧ k + mc ≤ R.cells ∧ n + ms ≤ R.slots ∧ T (.inr (.inl (some b)) :: As) G (kE K pc ls r (k + mc) (n + ms)) nX
  | none => False
def csE (q : Option CS) (R : Room) (K : Kt) (pc : Nat) (ls : List (Option AV)) (st : List AV) (G : GG) (k n : Nat) : Prop := match q with
  | some (kd, na, mc, ms, T) => kd = 8 ∧ popN na [] st fun As r => stW r ≤ 8 ∧ k + mc ≤ R.cells ∧ n + ms ≤ R.slots ∧ T As G (kE K pc ls r (k + mc) (n + ms)) nX
  | none => False
def ciE (q : Option CS) (R : Room) (K : Kt) (pc : Nat) (ls : List (Option AV)) (st : List AV) (G : GG) (k n : Nat) : Prop := match q with
  | some (kd, na, mc, ms, T) => (kd = 7 ∨ kd = 9) ∧ popN na [] st fun As r => pR r fun o r => nn o fun b => stW r ≤ 8 ∧ k + mc ≤ R.cells ∧ n + ms ≤ R.slots ∧ T (.inr (.inl (some b)) :: As) G (kE K pc ls r (k + mc) (n + ms)) nX
  | none => False
section EW
variable {cc : ByteArray} {own : String} {ft : FTb} {nt : List (Nat × Nat)} {ct : List (Nat × CS)} {oi : Nat} {R : Room} {sc : Bool} {RT : Nat → Option AV → GG → Nat → Nat → Prop} {XN : Nat → Kt} {K : Kt} {cuts : List (Nat × Ip)} {f pc : Nat} {ls : List (Option AV)} {st r : List AV} {G : GG} {k n : Nat}
theorem wpf_s : wpf cc own ft nt ct oi R sc RT XN cuts (f + 1) pc ls st G k n = wq own ft nt ct oi R sc RT XN (wpf cc own ft nt ct oi R sc RT XN cuts f) (lkp cuts pc) (decode cc pc) pc ls st G k n := by
  rw [wpf]; unfold wq; rfl
theorem wpA_s : wpA cc own ft nt ct oi R sc RT XN cuts f pc ls st G k n = wq own ft nt ct oi R sc RT XN (wpf cc own ft nt ct oi R sc RT XN cuts f) none (decode cc pc) pc ls st G k n := rfl
theorem wq_c {I : Ip} {d : Except DecodeError (Instr × Nat)} : wq own ft nt ct oi R sc RT XN K (some I) d pc ls st G k n = I ls st G k n := rfl
theorem wq_n {i : Instr} {len : Nat} : wq own ft nt ct oi R sc RT XN K none (.ok (i, len)) pc ls st G k n = stepw own ft nt ct oi R sc RT XN K i len pc ls st G k n := rfl
theorem lkp_n {α : Type} {j : Nat} : lkp ([] : List (Nat × α)) j = none := rfl
theorem lkp_c {α : Type} {x : Nat × α} {l : List (Nat × α)} {j : Nat} : lkp (x :: l) j = if j = x.1 then some x.2 else lkp l j := rfl
theorem lk_0 {x : Option AV} {l : List (Option AV)} : lk (x :: l) 0 = x := rfl
theorem lk_s {x : Option AV} {l : List (Option AV)} {j : Nat} : lk (x :: l) (j + 1) = lk l j := rfl
theorem ldI_s {x : Int32} : ldI (some (.inl x)) K pc ls st G k n = K pc ls (.inl x :: st) G k n := rfl
theorem ldR_s {x : Option Nat} : ldR (some (.inr (.inl x))) K pc ls st G k n = K pc ls (.inr (.inl x) :: st) G k n := rfl
theorem ldL_s {x : Int64} : ldL (some (.inr (.inr x))) K pc ls st G k n = K pc ls (.inr (.inr x) :: st) G k n := rfl
theorem incI_s {x d : Int32} {j : Nat} : incI (some (.inl x)) j d K pc ls st G k n = (j < ls.length ∧ okS ls j = true ∧ K pc (ls.set j (some (.inl (x + d)))) st G k n) := rfl
theorem gfE_I {ci j a : Nat} {w : Bool} : gfE (some (ci, j, 0, w)) (some a) K pc ls st G k n = (knd G a = ci ∧ K pc ls (.inl (gi G a j) :: st) G k n) := by simp [gfE, nn]
theorem gfE_Z {ci j a : Nat} {w : Bool} : gfE (some (ci, j, 2, w)) (some a) K pc ls st G k n = (knd G a = ci ∧ K pc ls (.inl (gi G a j) :: st) G k n) := by simp [gfE, nn]
theorem gfE_R {ci j a : Nat} {w : Bool} : gfE (some (ci, j, 1, w)) (some a) K pc ls st G k n = (knd G a = ci ∧ K pc ls (.inr (.inl (gr G a j)) :: st) G k n) := by simp [gfE, nn]
theorem pfE_I {ci j a : Nat} {x : Int32} : pfE (some (ci, j, 0, true)) (.inl x) (some a) K pc ls st G k n = (knd G a = ci ∧ K pc ls st (sI G a j x) k n) := by simp [pfE, nn]
theorem pfE_Z {ci j a : Nat} {x : Int32} : pfE (some (ci, j, 2, true)) (.inl x) (some a) K pc ls st G k n = (knd G a = ci ∧ (x = 0 ∨ x = 1) ∧ K pc ls st (sI G a j x) k n) := by simp [pfE, nn]
theorem pfE_R {ci j a : Nat} {x : Option Nat} : pfE (some (ci, j, 1, true)) (.inr (.inl x)) (some a) K pc ls st G k n = (knd G a = ci ∧ K pc ls st (sR G a j x) k n) := by simp [pfE, nn]
theorem nwE_s {ci : Nat} : nwE (some ci) R K pc ls st G k n = (k + 1 ≤ R.cells ∧ n + nfO ci ≤ R.slots ∧ ∀ a, knd G a = 99 → K pc ls (.inr (.inl (some a)) :: st) (nw G a ci 0) (k + 1) (n + nfO ci)) := rfl
theorem anE_0 {x : Int32} : anE (some 0) x R K pc ls st G k n = (0 ≤ x.toInt ∧ x.toInt ≤ 60000 ∧ k + 1 ≤ R.cells ∧ n + x.toNatClampNeg ≤ R.slots ∧ ∀ a, knd G a = 99 → K pc ls (.inr (.inl (some a)) :: st) (nw G a 11 x.toNatClampNeg) (k + 1) (n + x.toNatClampNeg)) := rfl
theorem anE_1 {x : Int32} : anE (some 1) x R K pc ls st G k n = (0 ≤ x.toInt ∧ x.toInt ≤ 60000 ∧ k + 1 ≤ R.cells ∧ n + x.toNatClampNeg ≤ R.slots ∧ ∀ a, knd G a = 99 → K pc ls (.inr (.inl (some a)) :: st) (nw G a 12 x.toNatClampNeg) (k + 1) (n + x.toNatClampNeg)) := rfl
theorem anE_4 {x : Int32} : anE (some 4) x R K pc ls st G k n = (0 ≤ x.toInt ∧ x.toInt ≤ 60000 ∧ k + 1 ≤ R.cells ∧ n + x.toNatClampNeg ≤ R.slots ∧ ∀ a, knd G a = 99 → K pc ls (.inr (.inl (some a)) :: st) (nw G a 13 x.toNatClampNeg) (k + 1) (n + x.toNatClampNeg)) := rfl
theorem kE_n {G' : GG} : kE K pc ls r k n none G' = K pc ls r G' k n := rfl
theorem kE_s {v : AV} {G' : GG} : kE K pc ls r k n (some v) G' = K pc ls (v :: r) G' k n := rfl
theorem sw_iload_n {j : Fin 4} : stepw own ft nt ct oi R sc RT XN K (.iload_n j) 1 pc ls st G k n = (ldI (lk ls j) K (pc + 1) ls st G k n) := by
  simp only [stepw, lI, ldI, true_and]
  rfl
theorem sw_iload {j : Nat} : stepw own ft nt ct oi R sc RT XN K (.iload j) 2 pc ls st G k n = (ldI (lk ls j) K (pc + 2) ls st G k n) := by
  simp only [stepw, lI, ldI, true_and]
  rfl
theorem sw_aload_n {j : Fin 4} : stepw own ft nt ct oi R sc RT XN K (.aload_n j) 1 pc ls st G k n = (ldR (lk ls j) K (pc + 1) ls st G k n) := by
  simp only [stepw, lR, ldR, true_and]
  rfl
theorem sw_aload {j : Nat} : stepw own ft nt ct oi R sc RT XN K (.aload j) 2 pc ls st G k n = (ldR (lk ls j) K (pc + 2) ls st G k n) := by
  simp only [stepw, lR, ldR, true_and]
  rfl
theorem sw_lload_n {j : Fin 4} : stepw own ft nt ct oi R sc RT XN K (.lload_n j) 1 pc ls st G k n = (ldL (lk ls j) K (pc + 1) ls st G k n) := by
  simp only [stepw, lL, ldL, true_and]
  rfl
theorem sw_lload {j : Nat} : stepw own ft nt ct oi R sc RT XN K (.lload j) 2 pc ls st G k n = (ldL (lk ls j) K (pc + 2) ls st G k n) := by
  simp only [stepw, lL, ldL, true_and]
  rfl
theorem sw_istore_n {j : Fin 4} {x : Int32} : stepw own ft nt ct oi R sc RT XN K (.istore_n j) 1 pc ls (.inl x :: r) G k n = ((j : Nat) < ls.length ∧ okS ls j = true ∧ K (pc + 1) (ls.set j (some (.inl x))) r G k n) := by simp [stepw, pI, pR, pL, jmp, nn, br]
theorem sw_istore {j : Nat} {x : Int32} : stepw own ft nt ct oi R sc RT XN K (.istore j) 2 pc ls (.inl x :: r) G k n = (j < ls.length ∧ okS ls j = true ∧ K (pc + 2) (ls.set j (some (.inl x))) r G k n) := by simp [stepw, pI, pR, pL, jmp, nn, br]
theorem sw_astore_n {j : Fin 4} {x : Option Nat} : stepw own ft nt ct oi R sc RT XN K (.astore_n j) 1 pc ls (.inr (.inl x) :: r) G k n = ((j : Nat) < ls.length ∧ okS ls j = true ∧ K (pc + 1) (ls.set j (some (.inr (.inl x)))) r G k n) := by simp [stepw, pI, pR, pL, jmp, nn, br]
theorem sw_astore {j : Nat} {x : Option Nat} : stepw own ft nt ct oi R sc RT XN K (.astore j) 2 pc ls (.inr (.inl x) :: r) G k n = (j < ls.length ∧ okS ls j = true ∧ K (pc + 2) (ls.set j (some (.inr (.inl x)))) r G k n) := by simp [stepw, pI, pR, pL, jmp, nn, br]
theorem sw_lstore {j : Nat} {x : Int64} : stepw own ft nt ct oi R sc RT XN K (.lstore j) 2 pc ls (.inr (.inr x) :: r) G k n = (j + 1 < ls.length ∧ okS ls j = true ∧ K (pc + 2) ((ls.set j (some (.inr (.inr x)))).set (j + 1) none) r G k n) := by simp [stepw, pI, pR, pL, jmp, nn, br]
theorem sw_iinc {j : Nat} {d : Int} : stepw own ft nt ct oi R sc RT XN K (.iinc j d) 3 pc ls st G k n = (incI (lk ls j) j (Int32.ofInt d) K (pc + 3) ls st G k n) := by
  simp only [stepw, lI, incI, true_and]
  rfl
theorem sw_iconst {d : Int} : stepw own ft nt ct oi R sc RT XN K (.iconst d) 1 pc ls st G k n = (K (pc + 1) ls (.inl (Int32.ofInt d) :: st) G k n) := by simp [stepw, pI, pR, pL, jmp, nn, br]
theorem sw_bipush {d : Int} : stepw own ft nt ct oi R sc RT XN K (.bipush d) 2 pc ls st G k n = (K (pc + 2) ls (.inl (Int8.ofInt d).toInt32 :: st) G k n) := by simp [stepw, pI, pR, pL, jmp, nn, br]
theorem sw_sipush {d : Int} : stepw own ft nt ct oi R sc RT XN K (.sipush d) 3 pc ls st G k n = (K (pc + 3) ls (.inl (Int16.ofInt d).toInt32 :: st) G k n) := by simp [stepw, pI, pR, pL, jmp, nn, br]
theorem sw_null  : stepw own ft nt ct oi R sc RT XN K (.aconst_null) 1 pc ls st G k n = (K (pc + 1) ls (.inr (.inl none) :: st) G k n) := by simp [stepw, pI, pR, pL, jmp, nn, br]
theorem sw_ldc2  : stepw own ft nt ct oi R sc RT XN K (.ldc2_w 78) 3 pc ls st G k n = (own = RL ∧ K (pc + 3) ls (.inr (.inr 4294967295) :: st) G k n) := by simp [stepw, pI, pR, pL, jmp, nn, br]
theorem sw_dup {v : AV} : stepw own ft nt ct oi R sc RT XN K (.dup) 1 pc ls (v :: r) G k n = ((tV v).category = 1 ∧ K (pc + 1) ls (v :: v :: r) G k n) := by simp [stepw, pI, pR, pL, jmp, nn, br]
theorem sw_dup2 {v w : AV} : stepw own ft nt ct oi R sc RT XN K (.dup2) 1 pc ls (v :: w :: r) G k n = ((tV v).category = 1 ∧ (tV w).category = 1 ∧ K (pc + 1) ls (v :: w :: v :: w :: r) G k n) := by simp [stepw, pI, pR, pL, jmp, nn, br]
theorem sw_iadd {x y : Int32} : stepw own ft nt ct oi R sc RT XN K (.iadd) 1 pc ls (.inl y :: .inl x :: r) G k n = (K (pc + 1) ls (.inl (x + y) :: r) G k n) := by simp only [stepw, pI, true_and]
theorem sw_isub {x y : Int32} : stepw own ft nt ct oi R sc RT XN K (.isub) 1 pc ls (.inl y :: .inl x :: r) G k n = (K (pc + 1) ls (.inl (x - y) :: r) G k n) := by simp only [stepw, pI, true_and]
theorem sw_imul {x y : Int32} : stepw own ft nt ct oi R sc RT XN K (.imul) 1 pc ls (.inl y :: .inl x :: r) G k n = (K (pc + 1) ls (.inl (x * y) :: r) G k n) := by simp only [stepw, pI, true_and]
theorem sw_iand {x y : Int32} : stepw own ft nt ct oi R sc RT XN K (.iand) 1 pc ls (.inl y :: .inl x :: r) G k n = (K (pc + 1) ls (.inl (x &&& y) :: r) G k n) := by simp only [stepw, pI, true_and]
theorem sw_ixor {x y : Int32} : stepw own ft nt ct oi R sc RT XN K (.ixor) 1 pc ls (.inl y :: .inl x :: r) G k n = (K (pc + 1) ls (.inl (x ^^^ y) :: r) G k n) := by simp only [stepw, pI, true_and]
theorem sw_ishr {x y : Int32} : stepw own ft nt ct oi R sc RT XN K (.ishr) 1 pc ls (.inl y :: .inl x :: r) G k n = (K (pc + 1) ls (.inl (x >>> (y &&& 31)) :: r) G k n) := by simp only [stepw, pI, true_and]
theorem sw_iushr {x y : Int32} : stepw own ft nt ct oi R sc RT XN K (.iushr) 1 pc ls (.inl y :: .inl x :: r) G k n = (K (pc + 1) ls (.inl ((x.toUInt32 >>> (y.toUInt32 &&& Int32.toUInt32 31)).toInt32) :: r) G k n) := by simp only [stepw, pI, true_and]
theorem sw_idiv {x y : Int32} : stepw own ft nt ct oi R sc RT XN K (.idiv) 1 pc ls (.inl y :: .inl x :: r) G k n = (¬ y = 0 ∧ K (pc + 1) ls (.inl (x / y) :: r) G k n) := by simp only [stepw, pI, true_and]
theorem sw_irem {x y : Int32} : stepw own ft nt ct oi R sc RT XN K (.irem) 1 pc ls (.inl y :: .inl x :: r) G k n = (¬ y = 0 ∧ K (pc + 1) ls (.inl (x - x / y * y) :: r) G k n) := by simp only [stepw, pI, true_and]
theorem sw_land {x y : Int64} : stepw own ft nt ct oi R sc RT XN K (.land) 1 pc ls (.inr (.inr y) :: .inr (.inr x) :: r) G k n = (K (pc + 1) ls (.inr (.inr (x &&& y)) :: r) G k n) := by simp only [stepw, pL, true_and]
theorem sw_lor {x y : Int64} : stepw own ft nt ct oi R sc RT XN K (.lor) 1 pc ls (.inr (.inr y) :: .inr (.inr x) :: r) G k n = (K (pc + 1) ls (.inr (.inr (x ||| y)) :: r) G k n) := by simp only [stepw, pL, true_and]
theorem sw_lcmp {x y : Int64} : stepw own ft nt ct oi R sc RT XN K (.lcmp) 1 pc ls (.inr (.inr y) :: .inr (.inr x) :: r) G k n = (K (pc + 1) ls (.inl (lg_cmp x y) :: r) G k n) := by simp only [stepw, pL, true_and]
theorem sw_lshl {x : Int64} {y : Int32} : stepw own ft nt ct oi R sc RT XN K (.lshl) 1 pc ls (.inl y :: .inr (.inr x) :: r) G k n = (K (pc + 1) ls (.inr (.inr (x <<< (y.toInt64 &&& 63))) :: r) G k n) := by simp only [stepw, pL, pI, true_and]
theorem sw_lshr {x : Int64} {y : Int32} : stepw own ft nt ct oi R sc RT XN K (.lshr) 1 pc ls (.inl y :: .inr (.inr x) :: r) G k n = (K (pc + 1) ls (.inr (.inr (x >>> (y.toInt64 &&& 63))) :: r) G k n) := by simp only [stepw, pL, pI, true_and]
theorem sw_lushr {x : Int64} {y : Int32} : stepw own ft nt ct oi R sc RT XN K (.lushr) 1 pc ls (.inl y :: .inr (.inr x) :: r) G k n = (K (pc + 1) ls (.inr (.inr ((x.toUInt64 >>> (y.toInt64.toUInt64 &&& Int64.toUInt64 63)).toInt64)) :: r) G k n) := by simp only [stepw, pL, pI, true_and]
theorem sw_i2l {x : Int32} : stepw own ft nt ct oi R sc RT XN K (.i2l) 1 pc ls (.inl x :: r) G k n = (K (pc + 1) ls (.inr (.inr x.toInt64) :: r) G k n) := by simp only [stepw, pI, true_and]
theorem sw_l2i {x : Int64} : stepw own ft nt ct oi R sc RT XN K (.l2i) 1 pc ls (.inr (.inr x) :: r) G k n = (K (pc + 1) ls (.inl x.toInt32 :: r) G k n) := by simp only [stepw, pL, true_and]
theorem sw_i2b {x : Int32} : stepw own ft nt ct oi R sc RT XN K (.i2b) 1 pc ls (.inl x :: r) G k n = (K (pc + 1) ls (.inl x.toInt8.toInt32 :: r) G k n) := by simp only [stepw, pI, true_and]
theorem sw_goto {off : Int} : stepw own ft nt ct oi R sc RT XN K (.goto off) 3 pc ls st G k n = (0 ≤ (pc : Int) + off ∧ K ((pc : Int) + off).toNat ls st G k n) := by simp only [stepw, jmp, true_and]
theorem sw_icmp_eq {x y : Int32} {off : Int} : stepw own ft nt ct oi R sc RT XN K (.if_icmp .eq off) 3 pc ls (.inl y :: .inl x :: r) G k n = (0 ≤ (pc : Int) + off ∧ (x = y → K ((pc : Int) + off).toNat ls r G k n) ∧ (¬ x = y → K (pc + 3) ls r G k n)) := by simp only [stepw, pI, jmp, icc, br, true_and]
theorem sw_if_eq {x : Int32} {off : Int} : stepw own ft nt ct oi R sc RT XN K (.ifCond .eq off) 3 pc ls (.inl x :: r) G k n = (0 ≤ (pc : Int) + off ∧ (x = 0 → K ((pc : Int) + off).toNat ls r G k n) ∧ (¬ x = 0 → K (pc + 3) ls r G k n)) := by simp only [stepw, pI, jmp, icc, br, true_and]
theorem sw_icmp_ne {x y : Int32} {off : Int} : stepw own ft nt ct oi R sc RT XN K (.if_icmp .ne off) 3 pc ls (.inl y :: .inl x :: r) G k n = (0 ≤ (pc : Int) + off ∧ (x = y → K (pc + 3) ls r G k n) ∧ (¬ x = y → K ((pc : Int) + off).toNat ls r G k n)) := by simp only [stepw, pI, jmp, icc, br, true_and]
theorem sw_if_ne {x : Int32} {off : Int} : stepw own ft nt ct oi R sc RT XN K (.ifCond .ne off) 3 pc ls (.inl x :: r) G k n = (0 ≤ (pc : Int) + off ∧ (x = 0 → K (pc + 3) ls r G k n) ∧ (¬ x = 0 → K ((pc : Int) + off).toNat ls r G k n)) := by simp only [stepw, pI, jmp, icc, br, true_and]
theorem sw_icmp_lt {x y : Int32} {off : Int} : stepw own ft nt ct oi R sc RT XN K (.if_icmp .lt off) 3 pc ls (.inl y :: .inl x :: r) G k n = (0 ≤ (pc : Int) + off ∧ (x < y → K ((pc : Int) + off).toNat ls r G k n) ∧ (¬ x < y → K (pc + 3) ls r G k n)) := by simp only [stepw, pI, jmp, icc, br, true_and]
theorem sw_if_lt {x : Int32} {off : Int} : stepw own ft nt ct oi R sc RT XN K (.ifCond .lt off) 3 pc ls (.inl x :: r) G k n = (0 ≤ (pc : Int) + off ∧ (x < 0 → K ((pc : Int) + off).toNat ls r G k n) ∧ (¬ x < 0 → K (pc + 3) ls r G k n)) := by simp only [stepw, pI, jmp, icc, br, true_and]
theorem sw_icmp_ge {x y : Int32} {off : Int} : stepw own ft nt ct oi R sc RT XN K (.if_icmp .ge off) 3 pc ls (.inl y :: .inl x :: r) G k n = (0 ≤ (pc : Int) + off ∧ (y ≤ x → K ((pc : Int) + off).toNat ls r G k n) ∧ (¬ y ≤ x → K (pc + 3) ls r G k n)) := by simp only [stepw, pI, jmp, icc, br, true_and]
theorem sw_if_ge {x : Int32} {off : Int} : stepw own ft nt ct oi R sc RT XN K (.ifCond .ge off) 3 pc ls (.inl x :: r) G k n = (0 ≤ (pc : Int) + off ∧ (0 ≤ x → K ((pc : Int) + off).toNat ls r G k n) ∧ (¬ 0 ≤ x → K (pc + 3) ls r G k n)) := by simp only [stepw, pI, jmp, icc, br, true_and]
theorem sw_icmp_gt {x y : Int32} {off : Int} : stepw own ft nt ct oi R sc RT XN K (.if_icmp .gt off) 3 pc ls (.inl y :: .inl x :: r) G k n = (0 ≤ (pc : Int) + off ∧ (y < x → K ((pc : Int) + off).toNat ls r G k n) ∧ (¬ y < x → K (pc + 3) ls r G k n)) := by simp only [stepw, pI, jmp, icc, br, true_and]
theorem sw_if_gt {x : Int32} {off : Int} : stepw own ft nt ct oi R sc RT XN K (.ifCond .gt off) 3 pc ls (.inl x :: r) G k n = (0 ≤ (pc : Int) + off ∧ (0 < x → K ((pc : Int) + off).toNat ls r G k n) ∧ (¬ 0 < x → K (pc + 3) ls r G k n)) := by simp only [stepw, pI, jmp, icc, br, true_and]
theorem sw_icmp_le {x y : Int32} {off : Int} : stepw own ft nt ct oi R sc RT XN K (.if_icmp .le off) 3 pc ls (.inl y :: .inl x :: r) G k n = (0 ≤ (pc : Int) + off ∧ (x ≤ y → K ((pc : Int) + off).toNat ls r G k n) ∧ (¬ x ≤ y → K (pc + 3) ls r G k n)) := by simp only [stepw, pI, jmp, icc, br, true_and]
theorem sw_if_le {x : Int32} {off : Int} : stepw own ft nt ct oi R sc RT XN K (.ifCond .le off) 3 pc ls (.inl x :: r) G k n = (0 ≤ (pc : Int) + off ∧ (x ≤ 0 → K ((pc : Int) + off).toNat ls r G k n) ∧ (¬ x ≤ 0 → K (pc + 3) ls r G k n)) := by simp only [stepw, pI, jmp, icc, br, true_and]
theorem sw_ifnull {x : Option Nat} {off : Int} : stepw own ft nt ct oi R sc RT XN K (.ifnull off) 3 pc ls (.inr (.inl x) :: r) G k n = (0 ≤ (pc : Int) + off ∧ (x = none → K ((pc : Int) + off).toNat ls r G k n) ∧ (¬ x = none → K (pc + 3) ls r G k n)) := by simp only [stepw, pR, jmp, br, true_and]
theorem sw_ifnonnull {x : Option Nat} {off : Int} : stepw own ft nt ct oi R sc RT XN K (.ifnonnull off) 3 pc ls (.inr (.inl x) :: r) G k n = (0 ≤ (pc : Int) + off ∧ (x = none → K (pc + 3) ls r G k n) ∧ (¬ x = none → K ((pc : Int) + off).toNat ls r G k n)) := by simp only [stepw, pR, jmp, br, true_and]
theorem sw_acmp {x y : Option Nat} {off : Int} : stepw own ft nt ct oi R sc RT XN K (.if_acmp .ne off) 3 pc ls (.inr (.inl y) :: .inr (.inl x) :: r) G k n = (0 ≤ (pc : Int) + off ∧ (x = y → K (pc + 3) ls r G k n) ∧ (¬ x = y → K ((pc : Int) + off).toNat ls r G k n)) := by simp only [stepw, pR, jmp, br, true_and]
theorem sw_get {o : Option Nat} {i : Nat} : stepw own ft nt ct oi R sc RT XN K (.getfield i) 3 pc ls (.inr (.inl o) :: r) G k n = (gfE (lkp ft i) o K (pc + 3) ls r G k n) := by
  simp only [stepw, pR, gfE, lkF, true_and]
  cases lkp ft i <;> simp [nn]
theorem sw_put {v : AV} {o : Option Nat} {i : Nat} : stepw own ft nt ct oi R sc RT XN K (.putfield i) 3 pc ls (v :: .inr (.inl o) :: r) G k n = (pfE (lkp ft i) v o K (pc + 3) ls r G k n) := by
  simp only [stepw, pR, pI, pfE, lkF, true_and]
  cases lkp ft i with
  | none => rfl
  | some q =>
    obtain ⟨ci, j, ty, w⟩ := q
    rcases v with x | x | x <;> by_cases h : ty = 1 <;> simp [h, pR, pI, nn]
theorem sw_iaload {a : Nat} {i : Int32} : stepw own ft nt ct oi R sc RT XN K (.iaload) 1 pc ls (.inl i :: .inr (.inl (some a)) :: r) G k n = ((knd G a = 8 ∨ (sc = true ∧ knd G a = 14)) ∧ vp_in i (gn G a) ∧ K (pc + 1) ls (.inl (gi G a i.toNatClampNeg) :: r) G k n) := by simp [stepw, pI, pR, pL, jmp, nn, br]
theorem sw_baload {a : Nat} {i : Int32} : stepw own ft nt ct oi R sc RT XN K (.baload) 1 pc ls (.inl i :: .inr (.inl (some a)) :: r) G k n = ((knd G a = 7 ∨ knd G a = 9) ∧ vp_in i (gn G a) ∧ K (pc + 1) ls (.inl (gi G a i.toNatClampNeg) :: r) G k n) := by simp [stepw, pI, pR, pL, jmp, nn, br]
theorem sw_laload {a : Nat} {i : Int32} : stepw own ft nt ct oi R sc RT XN K (.laload) 1 pc ls (.inl i :: .inr (.inl (some a)) :: r) G k n = (knd G a = 10 ∧ vp_in i (gn G a) ∧ K (pc + 1) ls (.inr (.inr (gl G a i.toNatClampNeg)) :: r) G k n) := by simp [stepw, pI, pR, pL, jmp, nn, br]
theorem sw_aaload {a : Nat} {i : Int32} : stepw own ft nt ct oi R sc RT XN K (.aaload) 1 pc ls (.inl i :: .inr (.inl (some a)) :: r) G k n = ((knd G a = 11 ∨ knd G a = 12 ∨ knd G a = 13) ∧ vp_in i (gn G a) ∧ K (pc + 1) ls (.inr (.inl (gr G a i.toNatClampNeg)) :: r) G k n) := by simp [stepw, pI, pR, pL, jmp, nn, br]
theorem sw_alen {a : Nat} : stepw own ft nt ct oi R sc RT XN K (.arraylength) 1 pc ls (.inr (.inl (some a)) :: r) G k n = (((7 ≤ knd G a ∧ knd G a < 14) ∨ (sc = true ∧ knd G a = 14)) ∧ K (pc + 1) ls (.inl (nI (gn G a)) :: r) G k n) := by simp [stepw, pI, pR, pL, jmp, nn, br]
theorem sw_iastore {a : Nat} {i x : Int32} : stepw own ft nt ct oi R sc RT XN K (.iastore) 1 pc ls (.inl x :: .inl i :: .inr (.inl (some a)) :: r) G k n = (knd G a = 8 ∧ vp_in i (gn G a) ∧ K (pc + 1) ls r (sI G a i.toNatClampNeg x) k n) := by simp [stepw, pI, pR, pL, jmp, nn, br]
theorem sw_bastore {a : Nat} {i x : Int32} : stepw own ft nt ct oi R sc RT XN K (.bastore) 1 pc ls (.inl x :: .inl i :: .inr (.inl (some a)) :: r) G k n = (vp_in i (gn G a) ∧ ((knd G a = 7 ∧ K (pc + 1) ls r (sI G a i.toNatClampNeg (vp_nar .byte x)) k n) ∨ (knd G a = 9 ∧ K (pc + 1) ls r (sI G a i.toNatClampNeg (vp_nar .boolean x)) k n))) := by simp [stepw, pI, pR, pL, jmp, nn, br]
theorem sw_lastore {a : Nat} {i : Int32} {x : Int64} : stepw own ft nt ct oi R sc RT XN K (.lastore) 1 pc ls (.inr (.inr x) :: .inl i :: .inr (.inl (some a)) :: r) G k n = (knd G a = 10 ∧ vp_in i (gn G a) ∧ K (pc + 1) ls r (sL G a i.toNatClampNeg x) k n) := by simp [stepw, pI, pR, pL, jmp, nn, br]
theorem sw_aastore {a v : Nat} {i : Int32} : stepw own ft nt ct oi R sc RT XN K (.aastore) 1 pc ls (.inr (.inl (some v)) :: .inl i :: .inr (.inl (some a)) :: r) G k n = (vp_in i (gn G a) ∧ ((knd G a = 11 ∧ knd G v = 0) ∨ (knd G a = 12 ∧ knd G v = 1) ∨ (knd G a = 13 ∧ knd G v = 4)) ∧ K (pc + 1) ls r (sR G a i.toNatClampNeg (some v)) k n) := by simp [stepw, pI, pR, pL, jmp, nn, br]
theorem sw_aastoreN {a : Nat} {i : Int32} : stepw own ft nt ct oi R sc RT XN K (.aastore) 1 pc ls (.inr (.inl none) :: .inl i :: .inr (.inl (some a)) :: r) G k n = (vp_in i (gn G a) ∧ knd G a = 12 ∧ K (pc + 1) ls r (sR G a i.toNatClampNeg none) k n) := by simp [stepw, pI, pR, pL, jmp, nn, br]
theorem sw_newa_byte {x : Int32} : stepw own ft nt ct oi R sc RT XN K (.newarray .byte) 2 pc ls (.inl x :: r) G k n = (0 ≤ x.toInt ∧ x.toInt ≤ 60000 ∧ k + 1 ≤ R.cells ∧ n + x.toNatClampNeg ≤ R.slots ∧ ∀ a, knd G a = 99 → K (pc + 2) ls (.inr (.inl (some a)) :: r) (nw G a 7 x.toNatClampNeg) (k + 1) (n + x.toNatClampNeg)) := by simp only [stepw, pI, true_and]
theorem sw_newa_int {x : Int32} : stepw own ft nt ct oi R sc RT XN K (.newarray .int) 2 pc ls (.inl x :: r) G k n = (0 ≤ x.toInt ∧ x.toInt ≤ 60000 ∧ k + 1 ≤ R.cells ∧ n + x.toNatClampNeg ≤ R.slots ∧ ∀ a, knd G a = 99 → K (pc + 2) ls (.inr (.inl (some a)) :: r) (nw G a 8 x.toNatClampNeg) (k + 1) (n + x.toNatClampNeg)) := by simp only [stepw, pI, true_and]
theorem sw_newa_boolean {x : Int32} : stepw own ft nt ct oi R sc RT XN K (.newarray .boolean) 2 pc ls (.inl x :: r) G k n = (0 ≤ x.toInt ∧ x.toInt ≤ 60000 ∧ k + 1 ≤ R.cells ∧ n + x.toNatClampNeg ≤ R.slots ∧ ∀ a, knd G a = 99 → K (pc + 2) ls (.inr (.inl (some a)) :: r) (nw G a 9 x.toNatClampNeg) (k + 1) (n + x.toNatClampNeg)) := by simp only [stepw, pI, true_and]
theorem sw_newa_long {x : Int32} : stepw own ft nt ct oi R sc RT XN K (.newarray .long) 2 pc ls (.inl x :: r) G k n = (0 ≤ x.toInt ∧ x.toInt ≤ 60000 ∧ k + 1 ≤ R.cells ∧ n + x.toNatClampNeg ≤ R.slots ∧ ∀ a, knd G a = 99 → K (pc + 2) ls (.inr (.inl (some a)) :: r) (nw G a 10 x.toNatClampNeg) (k + 1) (n + x.toNatClampNeg)) := by simp only [stepw, pI, true_and]
theorem sw_anew {x : Int32} {i : Nat} : stepw own ft nt ct oi R sc RT XN K (.anewarray i) 3 pc ls (.inl x :: r) G k n = (anE (lkp nt i) x R K (pc + 3) ls r G k n) := by
  simp only [stepw, pI, anE, lkN, true_and]
  cases lkp nt i <;> rfl
theorem sw_new {i : Nat} : stepw own ft nt ct oi R sc RT XN K (.new i) 3 pc ls st G k n = (XN i pc ls st G k n ∨ nwE (lkp nt i) R K (pc + 3) ls st G k n) := by
  simp only [stepw, nwE, lkN, true_and]
  cases lkp nt i <;> rfl
theorem sw_iv {i : Nat} : stepw own ft nt ct oi R sc RT XN K (.invokevirtual i) 3 pc ls st G k n = (cvE (lkp ct i) R K (pc + 3) ls st G k n) := by
  simp only [stepw, cvE, lkC, true_and]
  cases lkp ct i <;> rfl
theorem sw_is {i : Nat} : stepw own ft nt ct oi R sc RT XN K (.invokestatic i) 3 pc ls st G k n = (csE (lkp ct i) R K (pc + 3) ls st G k n) := by
  simp only [stepw, csE, lkC, true_and]
  cases lkp ct i <;> rfl
theorem sw_ii {i : Nat} : stepw own ft nt ct oi R sc RT XN K (.invokespecial i) 3 pc ls st G k n = (if i = oi then oi ≠ 0 ∧ (pR st fun o r => nn o fun b => stW r ≤ 8 ∧ K (pc + 3) ls r G k n) else ciE (lkp ct i) R K (pc + 3) ls st G k n) := by
  simp only [stepw, ciE, lkC, true_and]
  cases lkp ct i <;> rfl
theorem sw_ireturn {x : Int32} : stepw own ft nt ct oi R sc RT XN K (.ireturn) 1 pc ls [.inl x] G k n = (RT pc (some (.inl x)) G k n) := by simp [stepw, pI, pR, pL, jmp, nn, br]
theorem sw_areturn {x : Option Nat} : stepw own ft nt ct oi R sc RT XN K (.areturn) 1 pc ls [.inr (.inl x)] G k n = (RT pc (some (.inr (.inl x))) G k n) := by simp [stepw, pI, pR, pL, jmp, nn, br]
theorem sw_return  : stepw own ft nt ct oi R sc RT XN K (.return_) 1 pc ls [] G k n = (RT pc none G k n) := by simp [stepw, pI, pR, pL, jmp, nn, br]
theorem sw_table {x : Int32} {df lo hi : Int} {offs : Array Int} {len : Nat} : stepw own ft nt ct oi R sc RT XN K (.tableswitch df lo hi offs) len pc ls (.inl x :: r) G k n = ((0 ≤ (pc : Int) + df ∧ ((x.toInt < lo ∨ hi < x.toInt) → K ((pc : Int) + df).toNat ls r G k n)) ∧ swt pc lo hi offs.toList 0 x (fun t => K t ls r G k n)) := by simp only [stepw, pI, jmp]
theorem cv_0 {T : TT} {kd mc ms b : Nat} : cvE (some (kd, 0, mc, ms, T)) R K pc ls (.inr (.inl (some b)) :: r) G k n = (kd < 7 ∧ knd G b = kd ∧ stW r ≤ 8 ∧ k + mc ≤ R.cells ∧ n + ms ≤ R.slots ∧ T [.inr (.inl (some b))] G (kE K pc ls r (k + mc) (n + ms)) nX) := by simp [cvE, popN, pR, nn]
theorem ci_0 {T : TT} {kd mc ms b : Nat} : ciE (some (kd, 0, mc, ms, T)) R K pc ls (.inr (.inl (some b)) :: r) G k n = ((kd = 7 ∨ kd = 9) ∧ stW r ≤ 8 ∧ k + mc ≤ R.cells ∧ n + ms ≤ R.slots ∧ T [.inr (.inl (some b))] G (kE K pc ls r (k + mc) (n + ms)) nX) := by simp [ciE, popN, pR, nn]
theorem cv_1 {T : TT} {kd mc ms b : Nat} {v0 : AV} : cvE (some (kd, 1, mc, ms, T)) R K pc ls (v0 :: .inr (.inl (some b)) :: r) G k n = (kd < 7 ∧ knd G b = kd ∧ stW r ≤ 8 ∧ k + mc ≤ R.cells ∧ n + ms ≤ R.slots ∧ T [.inr (.inl (some b)), v0] G (kE K pc ls r (k + mc) (n + ms)) nX) := by simp [cvE, popN, pR, nn]
theorem ci_1 {T : TT} {kd mc ms b : Nat} {v0 : AV} : ciE (some (kd, 1, mc, ms, T)) R K pc ls (v0 :: .inr (.inl (some b)) :: r) G k n = ((kd = 7 ∨ kd = 9) ∧ stW r ≤ 8 ∧ k + mc ≤ R.cells ∧ n + ms ≤ R.slots ∧ T [.inr (.inl (some b)), v0] G (kE K pc ls r (k + mc) (n + ms)) nX) := by simp [ciE, popN, pR, nn]
theorem cs_1 {T : TT} {kd mc ms : Nat} {v0 : AV} : csE (some (kd, 1, mc, ms, T)) R K pc ls (v0 :: r) G k n = (kd = 8 ∧ stW r ≤ 8 ∧ k + mc ≤ R.cells ∧ n + ms ≤ R.slots ∧ T [v0] G (kE K pc ls r (k + mc) (n + ms)) nX) := by simp [csE, popN]
theorem cv_2 {T : TT} {kd mc ms b : Nat} {v0 v1 : AV} : cvE (some (kd, 2, mc, ms, T)) R K pc ls (v1 :: v0 :: .inr (.inl (some b)) :: r) G k n = (kd < 7 ∧ knd G b = kd ∧ stW r ≤ 8 ∧ k + mc ≤ R.cells ∧ n + ms ≤ R.slots ∧ T [.inr (.inl (some b)), v0, v1] G (kE K pc ls r (k + mc) (n + ms)) nX) := by simp [cvE, popN, pR, nn]
theorem ci_2 {T : TT} {kd mc ms b : Nat} {v0 v1 : AV} : ciE (some (kd, 2, mc, ms, T)) R K pc ls (v1 :: v0 :: .inr (.inl (some b)) :: r) G k n = ((kd = 7 ∨ kd = 9) ∧ stW r ≤ 8 ∧ k + mc ≤ R.cells ∧ n + ms ≤ R.slots ∧ T [.inr (.inl (some b)), v0, v1] G (kE K pc ls r (k + mc) (n + ms)) nX) := by simp [ciE, popN, pR, nn]
theorem cs_2 {T : TT} {kd mc ms : Nat} {v0 v1 : AV} : csE (some (kd, 2, mc, ms, T)) R K pc ls (v1 :: v0 :: r) G k n = (kd = 8 ∧ stW r ≤ 8 ∧ k + mc ≤ R.cells ∧ n + ms ≤ R.slots ∧ T [v0, v1] G (kE K pc ls r (k + mc) (n + ms)) nX) := by simp [csE, popN]
theorem cv_3 {T : TT} {kd mc ms b : Nat} {v0 v1 v2 : AV} : cvE (some (kd, 3, mc, ms, T)) R K pc ls (v2 :: v1 :: v0 :: .inr (.inl (some b)) :: r) G k n = (kd < 7 ∧ knd G b = kd ∧ stW r ≤ 8 ∧ k + mc ≤ R.cells ∧ n + ms ≤ R.slots ∧ T [.inr (.inl (some b)), v0, v1, v2] G (kE K pc ls r (k + mc) (n + ms)) nX) := by simp [cvE, popN, pR, nn]
theorem ci_3 {T : TT} {kd mc ms b : Nat} {v0 v1 v2 : AV} : ciE (some (kd, 3, mc, ms, T)) R K pc ls (v2 :: v1 :: v0 :: .inr (.inl (some b)) :: r) G k n = ((kd = 7 ∨ kd = 9) ∧ stW r ≤ 8 ∧ k + mc ≤ R.cells ∧ n + ms ≤ R.slots ∧ T [.inr (.inl (some b)), v0, v1, v2] G (kE K pc ls r (k + mc) (n + ms)) nX) := by simp [ciE, popN, pR, nn]
theorem cs_3 {T : TT} {kd mc ms : Nat} {v0 v1 v2 : AV} : csE (some (kd, 3, mc, ms, T)) R K pc ls (v2 :: v1 :: v0 :: r) G k n = (kd = 8 ∧ stW r ≤ 8 ∧ k + mc ≤ R.cells ∧ n + ms ≤ R.slots ∧ T [v0, v1, v2] G (kE K pc ls r (k + mc) (n + ms)) nX) := by simp [csE, popN]
theorem cv_4 {T : TT} {kd mc ms b : Nat} {v0 v1 v2 v3 : AV} : cvE (some (kd, 4, mc, ms, T)) R K pc ls (v3 :: v2 :: v1 :: v0 :: .inr (.inl (some b)) :: r) G k n = (kd < 7 ∧ knd G b = kd ∧ stW r ≤ 8 ∧ k + mc ≤ R.cells ∧ n + ms ≤ R.slots ∧ T [.inr (.inl (some b)), v0, v1, v2, v3] G (kE K pc ls r (k + mc) (n + ms)) nX) := by simp [cvE, popN, pR, nn]
theorem ci_4 {T : TT} {kd mc ms b : Nat} {v0 v1 v2 v3 : AV} : ciE (some (kd, 4, mc, ms, T)) R K pc ls (v3 :: v2 :: v1 :: v0 :: .inr (.inl (some b)) :: r) G k n = ((kd = 7 ∨ kd = 9) ∧ stW r ≤ 8 ∧ k + mc ≤ R.cells ∧ n + ms ≤ R.slots ∧ T [.inr (.inl (some b)), v0, v1, v2, v3] G (kE K pc ls r (k + mc) (n + ms)) nX) := by simp [ciE, popN, pR, nn]
theorem cs_4 {T : TT} {kd mc ms : Nat} {v0 v1 v2 v3 : AV} : csE (some (kd, 4, mc, ms, T)) R K pc ls (v3 :: v2 :: v1 :: v0 :: r) G k n = (kd = 8 ∧ stW r ≤ 8 ∧ k + mc ≤ R.cells ∧ n + ms ≤ R.slots ∧ T [v0, v1, v2, v3] G (kE K pc ls r (k + mc) (n + ms)) nX) := by simp [csE, popN]
theorem ii_s {b : Nat} : (pR (.inr (.inl (some b)) :: r) fun o r => nn o fun b => stW r ≤ 8 ∧ K pc ls r G k n) = (stW r ≤ 8 ∧ K pc ls r G k n) := by simp [pR, nn]
end EW
end
section
theorem ic_m1 : Int32.ofInt (-1) = (-1) := rfl
theorem ic_0 : Int32.ofInt 0 = 0 := rfl
theorem ic_1 : Int32.ofInt 1 = 1 := rfl
theorem ic_2 : Int32.ofInt 2 = 2 := rfl
theorem ic_3 : Int32.ofInt 3 = 3 := rfl
theorem ic_4 : Int32.ofInt 4 = 4 := rfl
theorem ic_5 : Int32.ofInt 5 = 5 := rfl
theorem ic_6 : Int32.ofInt 6 = 6 := rfl
theorem bp_6 : (Int8.ofInt 6).toInt32 = 6 := rfl
theorem bp_7 : (Int8.ofInt 7).toInt32 = 7 := rfl
theorem bp_8 : (Int8.ofInt 8).toInt32 = 8 := rfl
theorem bp_15 : (Int8.ofInt 15).toInt32 = 15 := rfl
theorem bp_16 : (Int8.ofInt 16).toInt32 = 16 := rfl
theorem bp_31 : (Int8.ofInt 31).toInt32 = 31 := rfl
theorem bp_32 : (Int8.ofInt 32).toInt32 = 32 := rfl
theorem bp_60 : (Int8.ofInt 60).toInt32 = 60 := rfl
theorem sp_250 : (Int16.ofInt 250).toInt32 = 250 := rfl
theorem sp_255 : (Int16.ofInt 255).toInt32 = 255 := rfl
theorem sp_4000 : (Int16.ofInt 4000).toInt32 = 4000 := rfl
theorem sp_5000 : (Int16.ofInt 5000).toInt32 = 5000 := rfl
theorem sp_15000 : (Int16.ofInt 15000).toInt32 = 15000 := rfl
theorem sp_32000 : (Int16.ofInt 32000).toInt32 = 32000 := rfl
theorem f4_0 : ((0 : Fin 4) : Nat) = 0 := rfl
theorem f4_1 : ((1 : Fin 4) : Nat) = 1 := rfl
theorem f4_2 : ((2 : Fin 4) : Nat) = 2 := rfl
theorem f4_3 : ((3 : Fin 4) : Nat) = 3 := rfl
theorem c_nat (n : Nat) : ((no_index (OfNat.ofNat n) : Nat) : Int) = (OfNat.ofNat n : Int) := rfl
theorem rtm {rm : Room} {rt : Nat} {Qr : Option AV → GG → Prop} {pc : Nat} {r : Option AV} {G : GG} {k n : Nat} : RTm rm rt Qr pc r G k n = (k ≤ rm.cells ∧ n ≤ rm.slots ∧ rOK rt r ∧ Qr r G) := rfl
theorem rok_0 : rOK 0 none = True := rfl
theorem rok_1 {x : Int32} : rOK 1 (some (.inl x)) = True := rfl
theorem rok_2 {x : Int32} : rOK 2 (some (.inl x)) = (x = 0 ∨ x = 1) := rfl
theorem rok_3 {o : Option Nat} : rOK 3 (some (.inr (.inl o))) = True := rfl
def okq (v : Option AV) : Bool := match v with
  | some (.inr (.inr _)) => false
  | _ => true
theorem okS_0 {ls : List (Option AV)} : okS ls 0 = true := rfl
theorem okS_s {ls : List (Option AV)} {j : Nat} : okS ls (j + 1) = okq (lk ls j) := rfl
theorem okq_n : okq none = true := rfl
theorem okq_i {x : Int32} : okq (some (.inl x)) = true := rfl
theorem okq_r {x : Option Nat} : okq (some (.inr (.inl x))) = true := rfl
theorem stW_n : stW [] = 0 := rfl
theorem stW_i {x : Int32} {r : List AV} : stW (.inl x :: r) = 1 + stW r := rfl
theorem stW_r {x : Option Nat} {r : List AV} : stW (.inr (.inl x) :: r) = 1 + stW r := by unfold stW; rw [List.map_cons, List.sum_cons]; simp only [tV, tV_rcat]
theorem stW_l {x : Int64} {r : List AV} : stW (.inr (.inr x) :: r) = 2 + stW r := rfl
theorem cat_i {x : Int32} : (tV (.inl x)).category = 1 := rfl
theorem cat_r {x : Option Nat} : (tV (.inr (.inl x))).category = 1 := tV_rcat x
theorem nox {i pc : Nat} {ls : List (Option AV)} {st : List AV} {G : GG} {k n : Nat} : noX i pc ls st G k n = False := rfl
theorem nf_0 : nfO 0 = 13 := rfl
theorem nf_1 : nfO 1 = 3 := rfl
theorem nf_2 : nfO 2 = 3 := rfl
theorem nf_3 : nfO 3 = 16 := rfl
theorem nf_4 : nfO 4 = 9 := rfl
theorem nf_5 : nfO 5 = 4 := rfl
theorem nf_6 : nfO 6 = 39 := rfl
theorem im_f {c A B : Prop} (h : ¬ c) (b : B) : (c → A) ∧ (¬ c → B) := ⟨fun q => absurd q h, fun _ => b⟩
theorem im_t {c A B : Prop} (h : c) (a : A) : (c → A) ∧ (¬ c → B) := ⟨fun _ => a, fun q => absurd h q⟩
end
section
def ftX2 : FTb := [(7, 2, 0, 1, true), (13, 2, 1, 1, true), (16, 2, 2, 0, true), (20, 1, 2, 1, true)]
theorem ftX2_ok : ∀ x ∈ ftX2, FTg RX2 false x := by decide +kernel
theorem ftX2_7 : lkp ftX2 7 = some (2, 0, 1, true) := rfl
theorem ftX2_13 : lkp ftX2 13 = some (2, 1, 1, true) := rfl
theorem ftX2_16 : lkp ftX2 16 = some (2, 2, 0, true) := rfl
theorem ftX2_20 : lkp ftX2 20 = some (1, 2, 1, true) := rfl
def ftX2i : FTb := [(7, 2, 0, 1, true), (13, 2, 1, 1, true), (16, 2, 2, 0, true), (20, 1, 2, 1, true)]
theorem ftX2i_ok : ∀ x ∈ ftX2i, FTg RX2 true x := by decide +kernel
theorem ftX2i_7 : lkp ftX2i 7 = some (2, 0, 1, true) := rfl
theorem ftX2i_13 : lkp ftX2i 13 = some (2, 1, 1, true) := rfl
theorem ftX2i_16 : lkp ftX2i 16 = some (2, 2, 0, true) := rfl
theorem ftX2i_20 : lkp ftX2i 20 = some (1, 2, 1, true) := rfl
def ftX0 : FTb := [(12, 0, 1, 1, false), (18, 0, 2, 1, false), (21, 0, 3, 1, false), (25, 0, 5, 0, true), (29, 0, 7, 0, true), (32, 0, 8, 0, true), (35, 0, 9, 0, true), (38, 0, 10, 0, true), (41, 0, 11, 0, true), (44, 0, 12, 0, true), (47, 0, 0, 0, false), (50, 0, 4, 0, true), (53, 0, 6, 0, true), (56, 2, 2, 0, true), (59, 2, 0, 1, true), (63, 1, 1, 0, false), (87, 1, 0, 1, false)]
theorem ftX0_ok : ∀ x ∈ ftX0, FTg RX0 false x := by decide +kernel
theorem ftX0_12 : lkp ftX0 12 = some (0, 1, 1, false) := rfl
theorem ftX0_18 : lkp ftX0 18 = some (0, 2, 1, false) := rfl
theorem ftX0_21 : lkp ftX0 21 = some (0, 3, 1, false) := rfl
theorem ftX0_25 : lkp ftX0 25 = some (0, 5, 0, true) := rfl
theorem ftX0_29 : lkp ftX0 29 = some (0, 7, 0, true) := rfl
theorem ftX0_32 : lkp ftX0 32 = some (0, 8, 0, true) := rfl
theorem ftX0_35 : lkp ftX0 35 = some (0, 9, 0, true) := rfl
theorem ftX0_38 : lkp ftX0 38 = some (0, 10, 0, true) := rfl
theorem ftX0_41 : lkp ftX0 41 = some (0, 11, 0, true) := rfl
theorem ftX0_44 : lkp ftX0 44 = some (0, 12, 0, true) := rfl
theorem ftX0_47 : lkp ftX0 47 = some (0, 0, 0, false) := rfl
theorem ftX0_50 : lkp ftX0 50 = some (0, 4, 0, true) := rfl
theorem ftX0_53 : lkp ftX0 53 = some (0, 6, 0, true) := rfl
theorem ftX0_56 : lkp ftX0 56 = some (2, 2, 0, true) := rfl
theorem ftX0_59 : lkp ftX0 59 = some (2, 0, 1, true) := rfl
theorem ftX0_63 : lkp ftX0 63 = some (1, 1, 0, false) := rfl
theorem ftX0_87 : lkp ftX0 87 = some (1, 0, 1, false) := rfl
def ftX0i : FTb := [(12, 0, 1, 1, true), (18, 0, 2, 1, true), (21, 0, 3, 1, true), (25, 0, 5, 0, true), (29, 0, 7, 0, true), (32, 0, 8, 0, true), (35, 0, 9, 0, true), (38, 0, 10, 0, true), (41, 0, 11, 0, true), (44, 0, 12, 0, true), (47, 0, 0, 0, true), (50, 0, 4, 0, true), (53, 0, 6, 0, true), (56, 2, 2, 0, true), (59, 2, 0, 1, true), (63, 1, 1, 0, false), (87, 1, 0, 1, false)]
theorem ftX0i_ok : ∀ x ∈ ftX0i, FTg RX0 true x := by decide +kernel
theorem ftX0i_12 : lkp ftX0i 12 = some (0, 1, 1, true) := rfl
theorem ftX0i_18 : lkp ftX0i 18 = some (0, 2, 1, true) := rfl
theorem ftX0i_21 : lkp ftX0i 21 = some (0, 3, 1, true) := rfl
theorem ftX0i_25 : lkp ftX0i 25 = some (0, 5, 0, true) := rfl
theorem ftX0i_29 : lkp ftX0i 29 = some (0, 7, 0, true) := rfl
theorem ftX0i_32 : lkp ftX0i 32 = some (0, 8, 0, true) := rfl
theorem ftX0i_35 : lkp ftX0i 35 = some (0, 9, 0, true) := rfl
theorem ftX0i_38 : lkp ftX0i 38 = some (0, 10, 0, true) := rfl
theorem ftX0i_41 : lkp ftX0i 41 = some (0, 11, 0, true) := rfl
theorem ftX0i_44 : lkp ftX0i 44 = some (0, 12, 0, true) := rfl
theorem ftX0i_47 : lkp ftX0i 47 = some (0, 0, 0, true) := rfl
theorem ftX0i_50 : lkp ftX0i 50 = some (0, 4, 0, true) := rfl
theorem ftX0i_53 : lkp ftX0i 53 = some (0, 6, 0, true) := rfl
theorem ftX0i_56 : lkp ftX0i 56 = some (2, 2, 0, true) := rfl
theorem ftX0i_59 : lkp ftX0i 59 = some (2, 0, 1, true) := rfl
theorem ftX0i_63 : lkp ftX0i 63 = some (1, 1, 0, false) := rfl
theorem ftX0i_87 : lkp ftX0i 87 = some (1, 0, 1, false) := rfl
def ftX3 : FTb := [(11, 3, 3, 1, false), (19, 3, 4, 1, false), (23, 3, 5, 1, false), (27, 3, 6, 0, true), (31, 3, 7, 0, true), (34, 3, 8, 0, true), (37, 3, 9, 0, true), (40, 3, 10, 0, true), (43, 3, 11, 0, true), (46, 3, 12, 0, true), (49, 3, 13, 0, true), (52, 3, 14, 0, true), (55, 3, 15, 0, true), (58, 3, 0, 0, false), (61, 3, 1, 0, false), (66, 3, 2, 1, false), (76, 4, 3, 0, false), (79, 0, 1, 1, false), (92, 0, 4, 0, true), (95, 2, 2, 0, true), (98, 4, 7, 0, true), (105, 4, 1, 1, false), (127, 1, 0, 1, false), (131, 0, 2, 1, false), (140, 0, 0, 0, false), (157, 4, 6, 0, true), (160, 4, 4, 0, false), (180, 1, 1, 0, false), (181, 4, 5, 0, true), (187, 0, 5, 0, true)]
theorem ftX3_ok : ∀ x ∈ ftX3, FTg RX3 false x := by decide +kernel
theorem ftX3_11 : lkp ftX3 11 = some (3, 3, 1, false) := rfl
theorem ftX3_19 : lkp ftX3 19 = some (3, 4, 1, false) := rfl
theorem ftX3_23 : lkp ftX3 23 = some (3, 5, 1, false) := rfl
theorem ftX3_27 : lkp ftX3 27 = some (3, 6, 0, true) := rfl
theorem ftX3_31 : lkp ftX3 31 = some (3, 7, 0, true) := rfl
theorem ftX3_34 : lkp ftX3 34 = some (3, 8, 0, true) := rfl
theorem ftX3_37 : lkp ftX3 37 = some (3, 9, 0, true) := rfl
theorem ftX3_40 : lkp ftX3 40 = some (3, 10, 0, true) := rfl
theorem ftX3_43 : lkp ftX3 43 = some (3, 11, 0, true) := rfl
theorem ftX3_46 : lkp ftX3 46 = some (3, 12, 0, true) := rfl
theorem ftX3_49 : lkp ftX3 49 = some (3, 13, 0, true) := rfl
theorem ftX3_52 : lkp ftX3 52 = some (3, 14, 0, true) := rfl
theorem ftX3_55 : lkp ftX3 55 = some (3, 15, 0, true) := rfl
theorem ftX3_58 : lkp ftX3 58 = some (3, 0, 0, false) := rfl
theorem ftX3_61 : lkp ftX3 61 = some (3, 1, 0, false) := rfl
theorem ftX3_66 : lkp ftX3 66 = some (3, 2, 1, false) := rfl
theorem ftX3_76 : lkp ftX3 76 = some (4, 3, 0, false) := rfl
theorem ftX3_79 : lkp ftX3 79 = some (0, 1, 1, false) := rfl
theorem ftX3_92 : lkp ftX3 92 = some (0, 4, 0, true) := rfl
theorem ftX3_95 : lkp ftX3 95 = some (2, 2, 0, true) := rfl
theorem ftX3_98 : lkp ftX3 98 = some (4, 7, 0, true) := rfl
theorem ftX3_105 : lkp ftX3 105 = some (4, 1, 1, false) := rfl
theorem ftX3_127 : lkp ftX3 127 = some (1, 0, 1, false) := rfl
theorem ftX3_131 : lkp ftX3 131 = some (0, 2, 1, false) := rfl
theorem ftX3_140 : lkp ftX3 140 = some (0, 0, 0, false) := rfl
theorem ftX3_157 : lkp ftX3 157 = some (4, 6, 0, true) := rfl
theorem ftX3_160 : lkp ftX3 160 = some (4, 4, 0, false) := rfl
theorem ftX3_180 : lkp ftX3 180 = some (1, 1, 0, false) := rfl
theorem ftX3_181 : lkp ftX3 181 = some (4, 5, 0, true) := rfl
theorem ftX3_187 : lkp ftX3 187 = some (0, 5, 0, true) := rfl
def ftX3i : FTb := [(11, 3, 3, 1, true), (19, 3, 4, 1, true), (23, 3, 5, 1, true), (27, 3, 6, 0, true), (31, 3, 7, 0, true), (34, 3, 8, 0, true), (37, 3, 9, 0, true), (40, 3, 10, 0, true), (43, 3, 11, 0, true), (46, 3, 12, 0, true), (49, 3, 13, 0, true), (52, 3, 14, 0, true), (55, 3, 15, 0, true), (58, 3, 0, 0, true), (61, 3, 1, 0, true), (66, 3, 2, 1, true), (76, 4, 3, 0, false), (79, 0, 1, 1, false), (92, 0, 4, 0, true), (95, 2, 2, 0, true), (98, 4, 7, 0, true), (105, 4, 1, 1, false), (127, 1, 0, 1, false), (131, 0, 2, 1, false), (140, 0, 0, 0, false), (157, 4, 6, 0, true), (160, 4, 4, 0, false), (180, 1, 1, 0, false), (181, 4, 5, 0, true), (187, 0, 5, 0, true)]
theorem ftX3i_ok : ∀ x ∈ ftX3i, FTg RX3 true x := by decide +kernel
theorem ftX3i_11 : lkp ftX3i 11 = some (3, 3, 1, true) := rfl
theorem ftX3i_19 : lkp ftX3i 19 = some (3, 4, 1, true) := rfl
theorem ftX3i_23 : lkp ftX3i 23 = some (3, 5, 1, true) := rfl
theorem ftX3i_27 : lkp ftX3i 27 = some (3, 6, 0, true) := rfl
theorem ftX3i_31 : lkp ftX3i 31 = some (3, 7, 0, true) := rfl
theorem ftX3i_34 : lkp ftX3i 34 = some (3, 8, 0, true) := rfl
theorem ftX3i_37 : lkp ftX3i 37 = some (3, 9, 0, true) := rfl
theorem ftX3i_40 : lkp ftX3i 40 = some (3, 10, 0, true) := rfl
theorem ftX3i_43 : lkp ftX3i 43 = some (3, 11, 0, true) := rfl
theorem ftX3i_46 : lkp ftX3i 46 = some (3, 12, 0, true) := rfl
theorem ftX3i_49 : lkp ftX3i 49 = some (3, 13, 0, true) := rfl
theorem ftX3i_52 : lkp ftX3i 52 = some (3, 14, 0, true) := rfl
theorem ftX3i_55 : lkp ftX3i 55 = some (3, 15, 0, true) := rfl
theorem ftX3i_58 : lkp ftX3i 58 = some (3, 0, 0, true) := rfl
theorem ftX3i_61 : lkp ftX3i 61 = some (3, 1, 0, true) := rfl
theorem ftX3i_66 : lkp ftX3i 66 = some (3, 2, 1, true) := rfl
theorem ftX3i_76 : lkp ftX3i 76 = some (4, 3, 0, false) := rfl
theorem ftX3i_79 : lkp ftX3i 79 = some (0, 1, 1, false) := rfl
theorem ftX3i_92 : lkp ftX3i 92 = some (0, 4, 0, true) := rfl
theorem ftX3i_95 : lkp ftX3i 95 = some (2, 2, 0, true) := rfl
theorem ftX3i_98 : lkp ftX3i 98 = some (4, 7, 0, true) := rfl
theorem ftX3i_105 : lkp ftX3i 105 = some (4, 1, 1, false) := rfl
theorem ftX3i_127 : lkp ftX3i 127 = some (1, 0, 1, false) := rfl
theorem ftX3i_131 : lkp ftX3i 131 = some (0, 2, 1, false) := rfl
theorem ftX3i_140 : lkp ftX3i 140 = some (0, 0, 0, false) := rfl
theorem ftX3i_157 : lkp ftX3i 157 = some (4, 6, 0, true) := rfl
theorem ftX3i_160 : lkp ftX3i 160 = some (4, 4, 0, false) := rfl
theorem ftX3i_180 : lkp ftX3i 180 = some (1, 1, 0, false) := rfl
theorem ftX3i_181 : lkp ftX3i 181 = some (4, 5, 0, true) := rfl
theorem ftX3i_187 : lkp ftX3i 187 = some (0, 5, 0, true) := rfl
def ftX4 : FTb := [(9, 4, 5, 0, true), (15, 4, 6, 0, true), (18, 4, 7, 0, true), (21, 4, 8, 2, true), (25, 4, 0, 0, false), (28, 4, 1, 1, false), (32, 4, 2, 1, false), (36, 4, 4, 0, false), (39, 4, 3, 0, false), (42, 0, 0, 0, false)]
theorem ftX4_ok : ∀ x ∈ ftX4, FTg RX4 false x := by decide +kernel
theorem ftX4_9 : lkp ftX4 9 = some (4, 5, 0, true) := rfl
theorem ftX4_15 : lkp ftX4 15 = some (4, 6, 0, true) := rfl
theorem ftX4_18 : lkp ftX4 18 = some (4, 7, 0, true) := rfl
theorem ftX4_21 : lkp ftX4 21 = some (4, 8, 2, true) := rfl
theorem ftX4_25 : lkp ftX4 25 = some (4, 0, 0, false) := rfl
theorem ftX4_28 : lkp ftX4 28 = some (4, 1, 1, false) := rfl
theorem ftX4_32 : lkp ftX4 32 = some (4, 2, 1, false) := rfl
theorem ftX4_36 : lkp ftX4 36 = some (4, 4, 0, false) := rfl
theorem ftX4_39 : lkp ftX4 39 = some (4, 3, 0, false) := rfl
theorem ftX4_42 : lkp ftX4 42 = some (0, 0, 0, false) := rfl
def ftX4i : FTb := [(9, 4, 5, 0, true), (15, 4, 6, 0, true), (18, 4, 7, 0, true), (21, 4, 8, 2, true), (25, 4, 0, 0, true), (28, 4, 1, 1, true), (32, 4, 2, 1, true), (36, 4, 4, 0, true), (39, 4, 3, 0, true), (42, 0, 0, 0, false)]
theorem ftX4i_ok : ∀ x ∈ ftX4i, FTg RX4 true x := by decide +kernel
theorem ftX4i_9 : lkp ftX4i 9 = some (4, 5, 0, true) := rfl
theorem ftX4i_15 : lkp ftX4i 15 = some (4, 6, 0, true) := rfl
theorem ftX4i_18 : lkp ftX4i 18 = some (4, 7, 0, true) := rfl
theorem ftX4i_21 : lkp ftX4i 21 = some (4, 8, 2, true) := rfl
theorem ftX4i_25 : lkp ftX4i 25 = some (4, 0, 0, true) := rfl
theorem ftX4i_28 : lkp ftX4i 28 = some (4, 1, 1, true) := rfl
theorem ftX4i_32 : lkp ftX4i 32 = some (4, 2, 1, true) := rfl
theorem ftX4i_36 : lkp ftX4i 36 = some (4, 4, 0, true) := rfl
theorem ftX4i_39 : lkp ftX4i 39 = some (4, 3, 0, true) := rfl
theorem ftX4i_42 : lkp ftX4i 42 = some (0, 0, 0, false) := rfl
def ftX1 : FTb := [(9, 1, 2, 1, true), (15, 1, 0, 1, false), (19, 1, 1, 0, false), (23, 4, 3, 0, false), (32, 4, 2, 1, false), (36, 4, 1, 1, false), (40, 0, 0, 0, false), (43, 4, 0, 0, false)]
theorem ftX1_ok : ∀ x ∈ ftX1, FTg RX1 false x := by decide +kernel
theorem ftX1_9 : lkp ftX1 9 = some (1, 2, 1, true) := rfl
theorem ftX1_15 : lkp ftX1 15 = some (1, 0, 1, false) := rfl
theorem ftX1_19 : lkp ftX1 19 = some (1, 1, 0, false) := rfl
theorem ftX1_23 : lkp ftX1 23 = some (4, 3, 0, false) := rfl
theorem ftX1_32 : lkp ftX1 32 = some (4, 2, 1, false) := rfl
theorem ftX1_36 : lkp ftX1 36 = some (4, 1, 1, false) := rfl
theorem ftX1_40 : lkp ftX1 40 = some (0, 0, 0, false) := rfl
theorem ftX1_43 : lkp ftX1 43 = some (4, 0, 0, false) := rfl
def ftX1i : FTb := [(9, 1, 2, 1, true), (15, 1, 0, 1, true), (19, 1, 1, 0, true), (23, 4, 3, 0, false), (32, 4, 2, 1, false), (36, 4, 1, 1, false), (40, 0, 0, 0, false), (43, 4, 0, 0, false)]
theorem ftX1i_ok : ∀ x ∈ ftX1i, FTg RX1 true x := by decide +kernel
theorem ftX1i_9 : lkp ftX1i 9 = some (1, 2, 1, true) := rfl
theorem ftX1i_15 : lkp ftX1i 15 = some (1, 0, 1, true) := rfl
theorem ftX1i_19 : lkp ftX1i 19 = some (1, 1, 0, true) := rfl
theorem ftX1i_23 : lkp ftX1i 23 = some (4, 3, 0, false) := rfl
theorem ftX1i_32 : lkp ftX1i 32 = some (4, 2, 1, false) := rfl
theorem ftX1i_36 : lkp ftX1i 36 = some (4, 1, 1, false) := rfl
theorem ftX1i_40 : lkp ftX1i 40 = some (0, 0, 0, false) := rfl
theorem ftX1i_43 : lkp ftX1i 43 = some (4, 0, 0, false) := rfl
def ftX5 : FTb := [(9, 5, 0, 1, false), (13, 5, 1, 0, true), (17, 5, 2, 1, true), (25, 5, 3, 1, true), (50, 3, 8, 0, true), (58, 0, 4, 0, true), (63, 0, 6, 0, true), (68, 0, 5, 0, true), (73, 3, 9, 0, true), (85, 3, 6, 0, true), (98, 3, 7, 0, true), (123, 4, 8, 2, true), (129, 0, 10, 0, true), (132, 4, 2, 1, false), (135, 4, 0, 0, false), (154, 0, 2, 1, false), (163, 0, 3, 1, false)]
theorem ftX5_ok : ∀ x ∈ ftX5, FTg RX5 false x := by decide +kernel
theorem ftX5_9 : lkp ftX5 9 = some (5, 0, 1, false) := rfl
theorem ftX5_13 : lkp ftX5 13 = some (5, 1, 0, true) := rfl
theorem ftX5_17 : lkp ftX5 17 = some (5, 2, 1, true) := rfl
theorem ftX5_25 : lkp ftX5 25 = some (5, 3, 1, true) := rfl
theorem ftX5_50 : lkp ftX5 50 = some (3, 8, 0, true) := rfl
theorem ftX5_58 : lkp ftX5 58 = some (0, 4, 0, true) := rfl
theorem ftX5_63 : lkp ftX5 63 = some (0, 6, 0, true) := rfl
theorem ftX5_68 : lkp ftX5 68 = some (0, 5, 0, true) := rfl
theorem ftX5_73 : lkp ftX5 73 = some (3, 9, 0, true) := rfl
theorem ftX5_85 : lkp ftX5 85 = some (3, 6, 0, true) := rfl
theorem ftX5_98 : lkp ftX5 98 = some (3, 7, 0, true) := rfl
theorem ftX5_123 : lkp ftX5 123 = some (4, 8, 2, true) := rfl
theorem ftX5_129 : lkp ftX5 129 = some (0, 10, 0, true) := rfl
theorem ftX5_132 : lkp ftX5 132 = some (4, 2, 1, false) := rfl
theorem ftX5_135 : lkp ftX5 135 = some (4, 0, 0, false) := rfl
theorem ftX5_154 : lkp ftX5 154 = some (0, 2, 1, false) := rfl
theorem ftX5_163 : lkp ftX5 163 = some (0, 3, 1, false) := rfl
def ftX5i : FTb := [(9, 5, 0, 1, true), (13, 5, 1, 0, true), (17, 5, 2, 1, true), (25, 5, 3, 1, true), (50, 3, 8, 0, true), (58, 0, 4, 0, true), (63, 0, 6, 0, true), (68, 0, 5, 0, true), (73, 3, 9, 0, true), (85, 3, 6, 0, true), (98, 3, 7, 0, true), (123, 4, 8, 2, true), (129, 0, 10, 0, true), (132, 4, 2, 1, false), (135, 4, 0, 0, false), (154, 0, 2, 1, false), (163, 0, 3, 1, false)]
theorem ftX5i_ok : ∀ x ∈ ftX5i, FTg RX5 true x := by decide +kernel
theorem ftX5i_9 : lkp ftX5i 9 = some (5, 0, 1, true) := rfl
theorem ftX5i_13 : lkp ftX5i 13 = some (5, 1, 0, true) := rfl
theorem ftX5i_17 : lkp ftX5i 17 = some (5, 2, 1, true) := rfl
theorem ftX5i_25 : lkp ftX5i 25 = some (5, 3, 1, true) := rfl
theorem ftX5i_50 : lkp ftX5i 50 = some (3, 8, 0, true) := rfl
theorem ftX5i_58 : lkp ftX5i 58 = some (0, 4, 0, true) := rfl
theorem ftX5i_63 : lkp ftX5i 63 = some (0, 6, 0, true) := rfl
theorem ftX5i_68 : lkp ftX5i 68 = some (0, 5, 0, true) := rfl
theorem ftX5i_73 : lkp ftX5i 73 = some (3, 9, 0, true) := rfl
theorem ftX5i_85 : lkp ftX5i 85 = some (3, 6, 0, true) := rfl
theorem ftX5i_98 : lkp ftX5i 98 = some (3, 7, 0, true) := rfl
theorem ftX5i_123 : lkp ftX5i 123 = some (4, 8, 2, true) := rfl
theorem ftX5i_129 : lkp ftX5i 129 = some (0, 10, 0, true) := rfl
theorem ftX5i_132 : lkp ftX5i 132 = some (4, 2, 1, false) := rfl
theorem ftX5i_135 : lkp ftX5i 135 = some (4, 0, 0, false) := rfl
theorem ftX5i_154 : lkp ftX5i 154 = some (0, 2, 1, false) := rfl
theorem ftX5i_163 : lkp ftX5i 163 = some (0, 3, 1, false) := rfl
def ftX6 : FTb := [(9, 6, 13, 1, false), (13, 6, 14, 1, false), (16, 6, 15, 1, false), (19, 6, 16, 1, false), (22, 6, 17, 1, false), (25, 6, 18, 1, false), (29, 6, 19, 1, false), (32, 6, 20, 1, false), (35, 6, 21, 1, false), (38, 6, 22, 1, false), (41, 6, 23, 1, false), (45, 6, 24, 1, false), (48, 6, 25, 1, false), (51, 6, 26, 1, false), (54, 6, 27, 1, false), (57, 6, 28, 1, false), (60, 6, 29, 1, false), (63, 6, 30, 1, false), (66, 6, 31, 1, false), (69, 6, 32, 1, false), (72, 6, 33, 1, false), (75, 6, 34, 1, false), (78, 6, 35, 1, false), (81, 6, 37, 1, false), (88, 6, 0, 0, true), (96, 6, 1, 0, true), (99, 6, 2, 0, true), (102, 6, 3, 0, true), (105, 6, 4, 0, true), (108, 6, 5, 0, true), (111, 6, 6, 0, true), (114, 6, 7, 0, true), (117, 6, 8, 0, true), (120, 6, 9, 0, true), (123, 6, 10, 0, true), (126, 6, 11, 0, true), (129, 6, 12, 0, true), (136, 6, 36, 0, true), (187, 6, 38, 0, true)]
theorem ftX6_ok : ∀ x ∈ ftX6, FTg RX6 false x := by decide +kernel
theorem ftX6_9 : lkp ftX6 9 = some (6, 13, 1, false) := rfl
theorem ftX6_13 : lkp ftX6 13 = some (6, 14, 1, false) := rfl
theorem ftX6_16 : lkp ftX6 16 = some (6, 15, 1, false) := rfl
theorem ftX6_19 : lkp ftX6 19 = some (6, 16, 1, false) := rfl
theorem ftX6_22 : lkp ftX6 22 = some (6, 17, 1, false) := rfl
theorem ftX6_25 : lkp ftX6 25 = some (6, 18, 1, false) := rfl
theorem ftX6_29 : lkp ftX6 29 = some (6, 19, 1, false) := rfl
theorem ftX6_32 : lkp ftX6 32 = some (6, 20, 1, false) := rfl
theorem ftX6_35 : lkp ftX6 35 = some (6, 21, 1, false) := rfl
theorem ftX6_38 : lkp ftX6 38 = some (6, 22, 1, false) := rfl
theorem ftX6_41 : lkp ftX6 41 = some (6, 23, 1, false) := rfl
theorem ftX6_45 : lkp ftX6 45 = some (6, 24, 1, false) := rfl
theorem ftX6_48 : lkp ftX6 48 = some (6, 25, 1, false) := rfl
theorem ftX6_51 : lkp ftX6 51 = some (6, 26, 1, false) := rfl
theorem ftX6_54 : lkp ftX6 54 = some (6, 27, 1, false) := rfl
theorem ftX6_57 : lkp ftX6 57 = some (6, 28, 1, false) := rfl
theorem ftX6_60 : lkp ftX6 60 = some (6, 29, 1, false) := rfl
theorem ftX6_63 : lkp ftX6 63 = some (6, 30, 1, false) := rfl
theorem ftX6_66 : lkp ftX6 66 = some (6, 31, 1, false) := rfl
theorem ftX6_69 : lkp ftX6 69 = some (6, 32, 1, false) := rfl
theorem ftX6_72 : lkp ftX6 72 = some (6, 33, 1, false) := rfl
theorem ftX6_75 : lkp ftX6 75 = some (6, 34, 1, false) := rfl
theorem ftX6_78 : lkp ftX6 78 = some (6, 35, 1, false) := rfl
theorem ftX6_81 : lkp ftX6 81 = some (6, 37, 1, false) := rfl
theorem ftX6_88 : lkp ftX6 88 = some (6, 0, 0, true) := rfl
theorem ftX6_96 : lkp ftX6 96 = some (6, 1, 0, true) := rfl
theorem ftX6_99 : lkp ftX6 99 = some (6, 2, 0, true) := rfl
theorem ftX6_102 : lkp ftX6 102 = some (6, 3, 0, true) := rfl
theorem ftX6_105 : lkp ftX6 105 = some (6, 4, 0, true) := rfl
theorem ftX6_108 : lkp ftX6 108 = some (6, 5, 0, true) := rfl
theorem ftX6_111 : lkp ftX6 111 = some (6, 6, 0, true) := rfl
theorem ftX6_114 : lkp ftX6 114 = some (6, 7, 0, true) := rfl
theorem ftX6_117 : lkp ftX6 117 = some (6, 8, 0, true) := rfl
theorem ftX6_120 : lkp ftX6 120 = some (6, 9, 0, true) := rfl
theorem ftX6_123 : lkp ftX6 123 = some (6, 10, 0, true) := rfl
theorem ftX6_126 : lkp ftX6 126 = some (6, 11, 0, true) := rfl
theorem ftX6_129 : lkp ftX6 129 = some (6, 12, 0, true) := rfl
theorem ftX6_136 : lkp ftX6 136 = some (6, 36, 0, true) := rfl
theorem ftX6_187 : lkp ftX6 187 = some (6, 38, 0, true) := rfl
def ftX6i : FTb := [(9, 6, 13, 1, true), (13, 6, 14, 1, true), (16, 6, 15, 1, true), (19, 6, 16, 1, true), (22, 6, 17, 1, true), (25, 6, 18, 1, true), (29, 6, 19, 1, true), (32, 6, 20, 1, true), (35, 6, 21, 1, true), (38, 6, 22, 1, true), (41, 6, 23, 1, true), (45, 6, 24, 1, true), (48, 6, 25, 1, true), (51, 6, 26, 1, true), (54, 6, 27, 1, true), (57, 6, 28, 1, true), (60, 6, 29, 1, true), (63, 6, 30, 1, true), (66, 6, 31, 1, true), (69, 6, 32, 1, true), (72, 6, 33, 1, true), (75, 6, 34, 1, true), (78, 6, 35, 1, true), (81, 6, 37, 1, true), (88, 6, 0, 0, true), (96, 6, 1, 0, true), (99, 6, 2, 0, true), (102, 6, 3, 0, true), (105, 6, 4, 0, true), (108, 6, 5, 0, true), (111, 6, 6, 0, true), (114, 6, 7, 0, true), (117, 6, 8, 0, true), (120, 6, 9, 0, true), (123, 6, 10, 0, true), (126, 6, 11, 0, true), (129, 6, 12, 0, true), (136, 6, 36, 0, true), (187, 6, 38, 0, true)]
theorem ftX6i_ok : ∀ x ∈ ftX6i, FTg RX6 true x := by decide +kernel
theorem ftX6i_9 : lkp ftX6i 9 = some (6, 13, 1, true) := rfl
theorem ftX6i_13 : lkp ftX6i 13 = some (6, 14, 1, true) := rfl
theorem ftX6i_16 : lkp ftX6i 16 = some (6, 15, 1, true) := rfl
theorem ftX6i_19 : lkp ftX6i 19 = some (6, 16, 1, true) := rfl
theorem ftX6i_22 : lkp ftX6i 22 = some (6, 17, 1, true) := rfl
theorem ftX6i_25 : lkp ftX6i 25 = some (6, 18, 1, true) := rfl
theorem ftX6i_29 : lkp ftX6i 29 = some (6, 19, 1, true) := rfl
theorem ftX6i_32 : lkp ftX6i 32 = some (6, 20, 1, true) := rfl
theorem ftX6i_35 : lkp ftX6i 35 = some (6, 21, 1, true) := rfl
theorem ftX6i_38 : lkp ftX6i 38 = some (6, 22, 1, true) := rfl
theorem ftX6i_41 : lkp ftX6i 41 = some (6, 23, 1, true) := rfl
theorem ftX6i_45 : lkp ftX6i 45 = some (6, 24, 1, true) := rfl
theorem ftX6i_48 : lkp ftX6i 48 = some (6, 25, 1, true) := rfl
theorem ftX6i_51 : lkp ftX6i 51 = some (6, 26, 1, true) := rfl
theorem ftX6i_54 : lkp ftX6i 54 = some (6, 27, 1, true) := rfl
theorem ftX6i_57 : lkp ftX6i 57 = some (6, 28, 1, true) := rfl
theorem ftX6i_60 : lkp ftX6i 60 = some (6, 29, 1, true) := rfl
theorem ftX6i_63 : lkp ftX6i 63 = some (6, 30, 1, true) := rfl
theorem ftX6i_66 : lkp ftX6i 66 = some (6, 31, 1, true) := rfl
theorem ftX6i_69 : lkp ftX6i 69 = some (6, 32, 1, true) := rfl
theorem ftX6i_72 : lkp ftX6i 72 = some (6, 33, 1, true) := rfl
theorem ftX6i_75 : lkp ftX6i 75 = some (6, 34, 1, true) := rfl
theorem ftX6i_78 : lkp ftX6i 78 = some (6, 35, 1, true) := rfl
theorem ftX6i_81 : lkp ftX6i 81 = some (6, 37, 1, true) := rfl
theorem ftX6i_88 : lkp ftX6i 88 = some (6, 0, 0, true) := rfl
theorem ftX6i_96 : lkp ftX6i 96 = some (6, 1, 0, true) := rfl
theorem ftX6i_99 : lkp ftX6i 99 = some (6, 2, 0, true) := rfl
theorem ftX6i_102 : lkp ftX6i 102 = some (6, 3, 0, true) := rfl
theorem ftX6i_105 : lkp ftX6i 105 = some (6, 4, 0, true) := rfl
theorem ftX6i_108 : lkp ftX6i 108 = some (6, 5, 0, true) := rfl
theorem ftX6i_111 : lkp ftX6i 111 = some (6, 6, 0, true) := rfl
theorem ftX6i_114 : lkp ftX6i 114 = some (6, 7, 0, true) := rfl
theorem ftX6i_117 : lkp ftX6i 117 = some (6, 8, 0, true) := rfl
theorem ftX6i_120 : lkp ftX6i 120 = some (6, 9, 0, true) := rfl
theorem ftX6i_123 : lkp ftX6i 123 = some (6, 10, 0, true) := rfl
theorem ftX6i_126 : lkp ftX6i 126 = some (6, 11, 0, true) := rfl
theorem ftX6i_129 : lkp ftX6i 129 = some (6, 12, 0, true) := rfl
theorem ftX6i_136 : lkp ftX6i 136 = some (6, 36, 0, true) := rfl
theorem ftX6i_187 : lkp ftX6i 187 = some (6, 38, 0, true) := rfl
def ntL : List (Nat × Nat) := [(8, 5), (47, 6)]
theorem ntL_ok : ∀ x ∈ ntL, NTg RL x := by decide +kernel
theorem ntL_8 : lkp ntL 8 = some 5 := rfl
theorem ntL_47 : lkp ntL 47 = some 6 := rfl
def ntX5 : List (Nat × Nat) := [(20, 3)]
theorem ntX5_ok : ∀ x ∈ ntX5, NTg RX5 x := by decide +kernel
theorem ntX5_20 : lkp ntX5 20 = some 3 := rfl
def ntX3 : List (Nat × Nat) := [(9, 1), (17, 4), (64, 0)]
theorem ntX3_ok : ∀ x ∈ ntX3, NTg RX3 x := by decide +kernel
theorem ntX3_9 : lkp ntX3 9 = some 1 := rfl
theorem ntX3_17 : lkp ntX3 17 = some 4 := rfl
theorem ntX3_64 : lkp ntX3 64 = some 0 := rfl
def ntX0 : List (Nat × Nat) := [(9, 2)]
theorem ntX0_ok : ∀ x ∈ ntX0, NTg RX0 x := by decide +kernel
theorem ntX0_9 : lkp ntX0 9 = some 2 := rfl
theorem oiX5 : Cond.methodLink RX5 3 objectInit ∈ lwG := by decide +kernel
theorem oiX3 : Cond.methodLink RX3 3 objectInit ∈ lwG := by decide +kernel
theorem oiX0 : Cond.methodLink RX0 3 objectInit ∈ lwG := by decide +kernel
theorem oiX2 : Cond.methodLink RX2 1 objectInit ∈ lwG := by decide +kernel
theorem oiX4 : Cond.methodLink RX4 3 objectInit ∈ lwG := by decide +kernel
theorem oiX1 : Cond.methodLink RX1 3 objectInit ∈ lwG := by decide +kernel
theorem oiX6 : Cond.methodLink RX6 3 objectInit ∈ lwG := by decide +kernel
end
section
/-! ===== the pure state: component (the model's field number) and index; NONE is 2^32-1 (nI of it is -1) ===== -/
abbrev St : Type := Nat → Nat → Nat
def up (S : St) (k j x : Nat) : St := fun a b => if a = k ∧ b = j then x else S a b
theorem up_s (S : St) (k j x : Nat) : up S k j x k j = x := by simp [up]
theorem up_n (S : St) (k j x a b : Nat) : up S k j x a b = if a = k ∧ b = j then x else S a b := rfl
def NN : Nat := 4294967295
theorem nI_NN : nI NN = -1 := rfl
def aK (k : Nat) : Nat := match k with
  | 13 => 8
  | 14 => 8
  | 15 => 8
  | 16 => 8
  | 17 => 8
  | 18 => 7
  | 19 => 8
  | 20 => 8
  | 21 => 8
  | 22 => 8
  | 23 => 9
  | 24 => 9
  | 25 => 8
  | 26 => 8
  | 27 => 8
  | 28 => 8
  | 29 => 8
  | 30 => 8
  | 31 => 8
  | 32 => 8
  | 33 => 8
  | 34 => 8
  | 35 => 7
  | 37 => 7
  | _ => 99
def aN (k : Nat) : Nat := match k with
  | 13 => 8
  | 14 => 8
  | 15 => 32
  | 16 => 250
  | 17 => 250
  | 18 => 15000
  | 19 => 250
  | 20 => 250
  | 21 => 250
  | 22 => 250
  | 23 => 250
  | 24 => 250
  | 25 => 32000
  | 26 => 32000
  | 27 => 32000
  | 28 => 32000
  | 29 => 8
  | 30 => 8
  | 31 => 8
  | 32 => 8
  | 33 => 8
  | 34 => 8
  | 35 => 60
  | 37 => 60
  | _ => 0
def isS (k : Nat) : Bool := match k with
  | 0 => true
  | 1 => true
  | 2 => true
  | 3 => true
  | 4 => true
  | 5 => true
  | 6 => true
  | 7 => true
  | 8 => true
  | 9 => true
  | 10 => true
  | 11 => true
  | 12 => true
  | 36 => true
  | 38 => true
  | _ => false
/-- the model m, its arrays at ar k, tells S -/
def RepM (G : GG) (m : Nat) (ar : Nat → Nat) (S : St) : Prop :=
  knd G m = 6 ∧ (∀ k, aK k ≠ 99 → gr G m k = some (ar k) ∧ knd G (ar k) = aK k ∧ gn G (ar k) = aN k) ∧ (∀ k k', aK k ≠ 99 → aK k' ≠ 99 → ar k = ar k' → k = k') ∧
  (∀ k, isS k = true → gi G m k = nI (S k 0)) ∧ ∀ k, aK k ≠ 99 → ∀ j, j < aN k → gi G (ar k) j = nI (S k j)
/-- nothing but the model has changed -/
def Fr (m : Nat) (ar : Nat → Nat) (G G' : GG) : Prop := ∀ b, b ≠ m → (∀ k, aK k ≠ 99 → b ≠ ar k) → G' b = G b
theorem Fr.rf {m : Nat} {ar : Nat → Nat} {G : GG} : Fr m ar G G := fun _ _ _ => rfl
theorem Fr.tr {m : Nat} {ar : Nat → Nat} {G1 G2 G3 : GG} (h : Fr m ar G1 G2) (h2 : Fr m ar G2 G3) : Fr m ar G1 G3 := fun b q1 q2 => (h2 b q1 q2).trans (h b q1 q2)
theorem sI_o {G : GG} {a k b : Nat} {x : Int32} (h : b ≠ a) : sI G a k x b = G b := by unfold sI va_up; rw [if_neg h]
theorem sR_o {G : GG} {a k b : Nat} {x : Option Nat} (h : b ≠ a) : sR G a k x b = G b := by unfold sR va_up; rw [if_neg h]
theorem Fr.a {m : Nat} {ar : Nat → Nat} {G G1 : GG} (h : Fr m ar G G1) {k j : Nat} {x : Int32} (hk : aK k ≠ 99) : Fr m ar G (sI G1 (ar k) j x) := fun b q1 q2 => (sI_o (q2 k hk)).trans (h b q1 q2)
theorem Fr.s {m : Nat} {ar : Nat → Nat} {G G1 : GG} (h : Fr m ar G G1) {k : Nat} {x : Int32} : Fr m ar G (sI G1 m k x) := fun b q1 q2 => (sI_o q1).trans (h b q1 q2)
section RM
variable {G : GG} {m : Nat} {ar : Nat → Nat} {S : St}
theorem RepM.am (h : RepM G m ar S) {k : Nat} (hk : aK k ≠ 99) : ar k ≠ m := fun e => by
  have h1 := h.1
  have h2 := (h.2.1 k hk).2.1
  rw [e, h1] at h2
  unfold aK at h2
  split at h2 <;> simp at h2
theorem RepM.ne (h : RepM G m ar S) {k k' : Nat} (hk : aK k ≠ 99) (hk' : aK k' ≠ 99) : (ar k = ar k') = (k = k') := propext ⟨h.2.2.1 k k' hk hk', fun e => by rw [e]⟩
theorem RepM.setA (h : RepM G m ar S) {k j x : Nat} {v : Int32} (hk : aK k ≠ 99) (hv : v = nI x) : RepM (sI G (ar k) j v) m ar (up S k j x) := by
  subst hv
  obtain ⟨h1, h2, h3, h4, h5⟩ := id h
  refine ⟨by rw [knd_sI]; exact h1, fun k' hk' => ?_, h3, fun k' hk' => ?_, fun k' hk' j' hj' => ?_⟩
  · rw [gr_sI, knd_sI, gn_sI]; exact h2 k' hk'
  · rw [gi_sI, if_neg (fun q => h.am hk q.1.symm), up_n, h4 k' hk', if_neg]
    rintro ⟨rfl, -⟩
    unfold isS at hk'; unfold aK at hk
    split at hk' <;> simp at hk' <;> simp at hk
  · simp only [gi_sI, up_n, h.ne hk' hk, h5 k' hk' j' hj']
    split <;> rfl
theorem RepM.setS (h : RepM G m ar S) {k x : Nat} {v : Int32} (hk : isS k = true) (hv : v = nI x) : RepM (sI G m k v) m ar (up S k 0 x) := by
  subst hv
  obtain ⟨h1, h2, h3, h4, h5⟩ := id h
  refine ⟨by rw [knd_sI]; exact h1, fun k' hk' => ?_, h3, fun k' hk' => ?_, fun k' hk' j' hj' => ?_⟩
  · rw [gr_sI, knd_sI, gn_sI]; exact h2 k' hk'
  · rw [gi_sI, up_n, h4 k' hk']
    by_cases e : k' = k <;> simp [e]
  · rw [gi_sI, if_neg (fun q => h.am hk' q.1), up_n, h5 k' hk' j' hj', if_neg]
    rintro ⟨rfl, -⟩
    unfold isS at hk; unfold aK at hk'
    split at hk <;> simp at hk <;> simp at hk'
theorem RepM.gh (h : RepM G m ar S) {k j x : Nat} (h1 : aK k = 99) (h2 : isS k = false) : RepM G m ar (up S k j x) := by
  obtain ⟨q1, q2, q3, q4, q5⟩ := h
  refine ⟨q1, q2, q3, fun k' hk' => ?_, fun k' hk' j' hj' => ?_⟩
  · rw [up_n, if_neg (fun q => by rw [q.1, h2] at hk'; cases hk')]; exact q4 k' hk'
  · rw [up_n, if_neg (fun q => by rw [q.1] at hk'; exact hk' h1)]; exact q5 k' hk' j' hj'
theorem RepM.a13 (h : RepM G m ar S) : gr G m 13 = some (ar 13) := (h.2.1 13 (by decide)).1
theorem RepM.k13 (h : RepM G m ar S) : knd G (ar 13) = 8 := (h.2.1 13 (by decide)).2.1
theorem RepM.n13 (h : RepM G m ar S) : gn G (ar 13) = 8 := (h.2.1 13 (by decide)).2.2
theorem RepM.g13 (h : RepM G m ar S) {j : Nat} (hj : j < 8) : gi G (ar 13) j = nI (S 13 j) := h.2.2.2.2 13 (by decide) j hj
theorem ak_13 : (aK 13 ≠ 99) = True := by simp [aK]
theorem RepM.a14 (h : RepM G m ar S) : gr G m 14 = some (ar 14) := (h.2.1 14 (by decide)).1
theorem RepM.k14 (h : RepM G m ar S) : knd G (ar 14) = 8 := (h.2.1 14 (by decide)).2.1
theorem RepM.n14 (h : RepM G m ar S) : gn G (ar 14) = 8 := (h.2.1 14 (by decide)).2.2
theorem RepM.g14 (h : RepM G m ar S) {j : Nat} (hj : j < 8) : gi G (ar 14) j = nI (S 14 j) := h.2.2.2.2 14 (by decide) j hj
theorem ak_14 : (aK 14 ≠ 99) = True := by simp [aK]
theorem RepM.a15 (h : RepM G m ar S) : gr G m 15 = some (ar 15) := (h.2.1 15 (by decide)).1
theorem RepM.k15 (h : RepM G m ar S) : knd G (ar 15) = 8 := (h.2.1 15 (by decide)).2.1
theorem RepM.n15 (h : RepM G m ar S) : gn G (ar 15) = 32 := (h.2.1 15 (by decide)).2.2
theorem RepM.g15 (h : RepM G m ar S) {j : Nat} (hj : j < 32) : gi G (ar 15) j = nI (S 15 j) := h.2.2.2.2 15 (by decide) j hj
theorem ak_15 : (aK 15 ≠ 99) = True := by simp [aK]
theorem RepM.a16 (h : RepM G m ar S) : gr G m 16 = some (ar 16) := (h.2.1 16 (by decide)).1
theorem RepM.k16 (h : RepM G m ar S) : knd G (ar 16) = 8 := (h.2.1 16 (by decide)).2.1
theorem RepM.n16 (h : RepM G m ar S) : gn G (ar 16) = 250 := (h.2.1 16 (by decide)).2.2
theorem RepM.g16 (h : RepM G m ar S) {j : Nat} (hj : j < 250) : gi G (ar 16) j = nI (S 16 j) := h.2.2.2.2 16 (by decide) j hj
theorem ak_16 : (aK 16 ≠ 99) = True := by simp [aK]
theorem RepM.a17 (h : RepM G m ar S) : gr G m 17 = some (ar 17) := (h.2.1 17 (by decide)).1
theorem RepM.k17 (h : RepM G m ar S) : knd G (ar 17) = 8 := (h.2.1 17 (by decide)).2.1
theorem RepM.n17 (h : RepM G m ar S) : gn G (ar 17) = 250 := (h.2.1 17 (by decide)).2.2
theorem RepM.g17 (h : RepM G m ar S) {j : Nat} (hj : j < 250) : gi G (ar 17) j = nI (S 17 j) := h.2.2.2.2 17 (by decide) j hj
theorem ak_17 : (aK 17 ≠ 99) = True := by simp [aK]
theorem RepM.a18 (h : RepM G m ar S) : gr G m 18 = some (ar 18) := (h.2.1 18 (by decide)).1
theorem RepM.k18 (h : RepM G m ar S) : knd G (ar 18) = 7 := (h.2.1 18 (by decide)).2.1
theorem RepM.n18 (h : RepM G m ar S) : gn G (ar 18) = 15000 := (h.2.1 18 (by decide)).2.2
theorem RepM.g18 (h : RepM G m ar S) {j : Nat} (hj : j < 15000) : gi G (ar 18) j = nI (S 18 j) := h.2.2.2.2 18 (by decide) j hj
theorem ak_18 : (aK 18 ≠ 99) = True := by simp [aK]
theorem RepM.a19 (h : RepM G m ar S) : gr G m 19 = some (ar 19) := (h.2.1 19 (by decide)).1
theorem RepM.k19 (h : RepM G m ar S) : knd G (ar 19) = 8 := (h.2.1 19 (by decide)).2.1
theorem RepM.n19 (h : RepM G m ar S) : gn G (ar 19) = 250 := (h.2.1 19 (by decide)).2.2
theorem RepM.g19 (h : RepM G m ar S) {j : Nat} (hj : j < 250) : gi G (ar 19) j = nI (S 19 j) := h.2.2.2.2 19 (by decide) j hj
theorem ak_19 : (aK 19 ≠ 99) = True := by simp [aK]
theorem RepM.a20 (h : RepM G m ar S) : gr G m 20 = some (ar 20) := (h.2.1 20 (by decide)).1
theorem RepM.k20 (h : RepM G m ar S) : knd G (ar 20) = 8 := (h.2.1 20 (by decide)).2.1
theorem RepM.n20 (h : RepM G m ar S) : gn G (ar 20) = 250 := (h.2.1 20 (by decide)).2.2
theorem RepM.g20 (h : RepM G m ar S) {j : Nat} (hj : j < 250) : gi G (ar 20) j = nI (S 20 j) := h.2.2.2.2 20 (by decide) j hj
theorem ak_20 : (aK 20 ≠ 99) = True := by simp [aK]
theorem RepM.a21 (h : RepM G m ar S) : gr G m 21 = some (ar 21) := (h.2.1 21 (by decide)).1
theorem RepM.k21 (h : RepM G m ar S) : knd G (ar 21) = 8 := (h.2.1 21 (by decide)).2.1
theorem RepM.n21 (h : RepM G m ar S) : gn G (ar 21) = 250 := (h.2.1 21 (by decide)).2.2
theorem RepM.g21 (h : RepM G m ar S) {j : Nat} (hj : j < 250) : gi G (ar 21) j = nI (S 21 j) := h.2.2.2.2 21 (by decide) j hj
theorem ak_21 : (aK 21 ≠ 99) = True := by simp [aK]
theorem RepM.a22 (h : RepM G m ar S) : gr G m 22 = some (ar 22) := (h.2.1 22 (by decide)).1
theorem RepM.k22 (h : RepM G m ar S) : knd G (ar 22) = 8 := (h.2.1 22 (by decide)).2.1
theorem RepM.n22 (h : RepM G m ar S) : gn G (ar 22) = 250 := (h.2.1 22 (by decide)).2.2
theorem RepM.g22 (h : RepM G m ar S) {j : Nat} (hj : j < 250) : gi G (ar 22) j = nI (S 22 j) := h.2.2.2.2 22 (by decide) j hj
theorem ak_22 : (aK 22 ≠ 99) = True := by simp [aK]
theorem RepM.a23 (h : RepM G m ar S) : gr G m 23 = some (ar 23) := (h.2.1 23 (by decide)).1
theorem RepM.k23 (h : RepM G m ar S) : knd G (ar 23) = 9 := (h.2.1 23 (by decide)).2.1
theorem RepM.n23 (h : RepM G m ar S) : gn G (ar 23) = 250 := (h.2.1 23 (by decide)).2.2
theorem RepM.g23 (h : RepM G m ar S) {j : Nat} (hj : j < 250) : gi G (ar 23) j = nI (S 23 j) := h.2.2.2.2 23 (by decide) j hj
theorem ak_23 : (aK 23 ≠ 99) = True := by simp [aK]
theorem RepM.a24 (h : RepM G m ar S) : gr G m 24 = some (ar 24) := (h.2.1 24 (by decide)).1
theorem RepM.k24 (h : RepM G m ar S) : knd G (ar 24) = 9 := (h.2.1 24 (by decide)).2.1
theorem RepM.n24 (h : RepM G m ar S) : gn G (ar 24) = 250 := (h.2.1 24 (by decide)).2.2
theorem RepM.g24 (h : RepM G m ar S) {j : Nat} (hj : j < 250) : gi G (ar 24) j = nI (S 24 j) := h.2.2.2.2 24 (by decide) j hj
theorem ak_24 : (aK 24 ≠ 99) = True := by simp [aK]
theorem RepM.a25 (h : RepM G m ar S) : gr G m 25 = some (ar 25) := (h.2.1 25 (by decide)).1
theorem RepM.k25 (h : RepM G m ar S) : knd G (ar 25) = 8 := (h.2.1 25 (by decide)).2.1
theorem RepM.n25 (h : RepM G m ar S) : gn G (ar 25) = 32000 := (h.2.1 25 (by decide)).2.2
theorem RepM.g25 (h : RepM G m ar S) {j : Nat} (hj : j < 32000) : gi G (ar 25) j = nI (S 25 j) := h.2.2.2.2 25 (by decide) j hj
theorem ak_25 : (aK 25 ≠ 99) = True := by simp [aK]
theorem RepM.a26 (h : RepM G m ar S) : gr G m 26 = some (ar 26) := (h.2.1 26 (by decide)).1
theorem RepM.k26 (h : RepM G m ar S) : knd G (ar 26) = 8 := (h.2.1 26 (by decide)).2.1
theorem RepM.n26 (h : RepM G m ar S) : gn G (ar 26) = 32000 := (h.2.1 26 (by decide)).2.2
theorem RepM.g26 (h : RepM G m ar S) {j : Nat} (hj : j < 32000) : gi G (ar 26) j = nI (S 26 j) := h.2.2.2.2 26 (by decide) j hj
theorem ak_26 : (aK 26 ≠ 99) = True := by simp [aK]
theorem RepM.a27 (h : RepM G m ar S) : gr G m 27 = some (ar 27) := (h.2.1 27 (by decide)).1
theorem RepM.k27 (h : RepM G m ar S) : knd G (ar 27) = 8 := (h.2.1 27 (by decide)).2.1
theorem RepM.n27 (h : RepM G m ar S) : gn G (ar 27) = 32000 := (h.2.1 27 (by decide)).2.2
theorem RepM.g27 (h : RepM G m ar S) {j : Nat} (hj : j < 32000) : gi G (ar 27) j = nI (S 27 j) := h.2.2.2.2 27 (by decide) j hj
theorem ak_27 : (aK 27 ≠ 99) = True := by simp [aK]
theorem RepM.a28 (h : RepM G m ar S) : gr G m 28 = some (ar 28) := (h.2.1 28 (by decide)).1
theorem RepM.k28 (h : RepM G m ar S) : knd G (ar 28) = 8 := (h.2.1 28 (by decide)).2.1
theorem RepM.n28 (h : RepM G m ar S) : gn G (ar 28) = 32000 := (h.2.1 28 (by decide)).2.2
theorem RepM.g28 (h : RepM G m ar S) {j : Nat} (hj : j < 32000) : gi G (ar 28) j = nI (S 28 j) := h.2.2.2.2 28 (by decide) j hj
theorem ak_28 : (aK 28 ≠ 99) = True := by simp [aK]
theorem RepM.a29 (h : RepM G m ar S) : gr G m 29 = some (ar 29) := (h.2.1 29 (by decide)).1
theorem RepM.k29 (h : RepM G m ar S) : knd G (ar 29) = 8 := (h.2.1 29 (by decide)).2.1
theorem RepM.n29 (h : RepM G m ar S) : gn G (ar 29) = 8 := (h.2.1 29 (by decide)).2.2
theorem RepM.g29 (h : RepM G m ar S) {j : Nat} (hj : j < 8) : gi G (ar 29) j = nI (S 29 j) := h.2.2.2.2 29 (by decide) j hj
theorem ak_29 : (aK 29 ≠ 99) = True := by simp [aK]
theorem RepM.a30 (h : RepM G m ar S) : gr G m 30 = some (ar 30) := (h.2.1 30 (by decide)).1
theorem RepM.k30 (h : RepM G m ar S) : knd G (ar 30) = 8 := (h.2.1 30 (by decide)).2.1
theorem RepM.n30 (h : RepM G m ar S) : gn G (ar 30) = 8 := (h.2.1 30 (by decide)).2.2
theorem RepM.g30 (h : RepM G m ar S) {j : Nat} (hj : j < 8) : gi G (ar 30) j = nI (S 30 j) := h.2.2.2.2 30 (by decide) j hj
theorem ak_30 : (aK 30 ≠ 99) = True := by simp [aK]
theorem RepM.a31 (h : RepM G m ar S) : gr G m 31 = some (ar 31) := (h.2.1 31 (by decide)).1
theorem RepM.k31 (h : RepM G m ar S) : knd G (ar 31) = 8 := (h.2.1 31 (by decide)).2.1
theorem RepM.n31 (h : RepM G m ar S) : gn G (ar 31) = 8 := (h.2.1 31 (by decide)).2.2
theorem RepM.g31 (h : RepM G m ar S) {j : Nat} (hj : j < 8) : gi G (ar 31) j = nI (S 31 j) := h.2.2.2.2 31 (by decide) j hj
theorem ak_31 : (aK 31 ≠ 99) = True := by simp [aK]
theorem RepM.a32 (h : RepM G m ar S) : gr G m 32 = some (ar 32) := (h.2.1 32 (by decide)).1
theorem RepM.k32 (h : RepM G m ar S) : knd G (ar 32) = 8 := (h.2.1 32 (by decide)).2.1
theorem RepM.n32 (h : RepM G m ar S) : gn G (ar 32) = 8 := (h.2.1 32 (by decide)).2.2
theorem RepM.g32 (h : RepM G m ar S) {j : Nat} (hj : j < 8) : gi G (ar 32) j = nI (S 32 j) := h.2.2.2.2 32 (by decide) j hj
theorem ak_32 : (aK 32 ≠ 99) = True := by simp [aK]
theorem RepM.a33 (h : RepM G m ar S) : gr G m 33 = some (ar 33) := (h.2.1 33 (by decide)).1
theorem RepM.k33 (h : RepM G m ar S) : knd G (ar 33) = 8 := (h.2.1 33 (by decide)).2.1
theorem RepM.n33 (h : RepM G m ar S) : gn G (ar 33) = 8 := (h.2.1 33 (by decide)).2.2
theorem RepM.g33 (h : RepM G m ar S) {j : Nat} (hj : j < 8) : gi G (ar 33) j = nI (S 33 j) := h.2.2.2.2 33 (by decide) j hj
theorem ak_33 : (aK 33 ≠ 99) = True := by simp [aK]
theorem RepM.a34 (h : RepM G m ar S) : gr G m 34 = some (ar 34) := (h.2.1 34 (by decide)).1
theorem RepM.k34 (h : RepM G m ar S) : knd G (ar 34) = 8 := (h.2.1 34 (by decide)).2.1
theorem RepM.n34 (h : RepM G m ar S) : gn G (ar 34) = 8 := (h.2.1 34 (by decide)).2.2
theorem RepM.g34 (h : RepM G m ar S) {j : Nat} (hj : j < 8) : gi G (ar 34) j = nI (S 34 j) := h.2.2.2.2 34 (by decide) j hj
theorem ak_34 : (aK 34 ≠ 99) = True := by simp [aK]
theorem RepM.a35 (h : RepM G m ar S) : gr G m 35 = some (ar 35) := (h.2.1 35 (by decide)).1
theorem RepM.k35 (h : RepM G m ar S) : knd G (ar 35) = 7 := (h.2.1 35 (by decide)).2.1
theorem RepM.n35 (h : RepM G m ar S) : gn G (ar 35) = 60 := (h.2.1 35 (by decide)).2.2
theorem RepM.g35 (h : RepM G m ar S) {j : Nat} (hj : j < 60) : gi G (ar 35) j = nI (S 35 j) := h.2.2.2.2 35 (by decide) j hj
theorem ak_35 : (aK 35 ≠ 99) = True := by simp [aK]
theorem RepM.a37 (h : RepM G m ar S) : gr G m 37 = some (ar 37) := (h.2.1 37 (by decide)).1
theorem RepM.k37 (h : RepM G m ar S) : knd G (ar 37) = 7 := (h.2.1 37 (by decide)).2.1
theorem RepM.n37 (h : RepM G m ar S) : gn G (ar 37) = 60 := (h.2.1 37 (by decide)).2.2
theorem RepM.g37 (h : RepM G m ar S) {j : Nat} (hj : j < 60) : gi G (ar 37) j = nI (S 37 j) := h.2.2.2.2 37 (by decide) j hj
theorem ak_37 : (aK 37 ≠ 99) = True := by simp [aK]
theorem RepM.s0 (h : RepM G m ar S) : gi G m 0 = nI (S 0 0) := h.2.2.2.1 0 rfl
theorem RepM.s1 (h : RepM G m ar S) : gi G m 1 = nI (S 1 0) := h.2.2.2.1 1 rfl
theorem RepM.s2 (h : RepM G m ar S) : gi G m 2 = nI (S 2 0) := h.2.2.2.1 2 rfl
theorem RepM.s3 (h : RepM G m ar S) : gi G m 3 = nI (S 3 0) := h.2.2.2.1 3 rfl
theorem RepM.s4 (h : RepM G m ar S) : gi G m 4 = nI (S 4 0) := h.2.2.2.1 4 rfl
theorem RepM.s5 (h : RepM G m ar S) : gi G m 5 = nI (S 5 0) := h.2.2.2.1 5 rfl
theorem RepM.s6 (h : RepM G m ar S) : gi G m 6 = nI (S 6 0) := h.2.2.2.1 6 rfl
theorem RepM.s7 (h : RepM G m ar S) : gi G m 7 = nI (S 7 0) := h.2.2.2.1 7 rfl
theorem RepM.s8 (h : RepM G m ar S) : gi G m 8 = nI (S 8 0) := h.2.2.2.1 8 rfl
theorem RepM.s9 (h : RepM G m ar S) : gi G m 9 = nI (S 9 0) := h.2.2.2.1 9 rfl
theorem RepM.s10 (h : RepM G m ar S) : gi G m 10 = nI (S 10 0) := h.2.2.2.1 10 rfl
theorem RepM.s11 (h : RepM G m ar S) : gi G m 11 = nI (S 11 0) := h.2.2.2.1 11 rfl
theorem RepM.s12 (h : RepM G m ar S) : gi G m 12 = nI (S 12 0) := h.2.2.2.1 12 rfl
theorem RepM.s36 (h : RepM G m ar S) : gi G m 36 = nI (S 36 0) := h.2.2.2.1 36 rfl
theorem RepM.s38 (h : RepM G m ar S) : gi G m 38 = nI (S 38 0) := h.2.2.2.1 38 rfl
end RM
end
section
def bt (x : Int32) (i : Nat) : Bool := x.toBitVec.getLsbD i
theorem b_ext {x y : Int32} (h : ∀ i, i < 32 → bt x i = bt y i) : x = y := Int32.toBitVec_inj.mp (BitVec.eq_of_getLsbD_eq (fun i hi => h i hi))
theorem b_or (x y : Int32) (i : Nat) : bt (x ||| y) i = (bt x i || bt y i) := by unfold bt; rw [Int32.toBitVec_or, BitVec.getLsbD_or]
theorem b_and (x y : Int32) (i : Nat) : bt (x &&& y) i = (bt x i && bt y i) := by unfold bt; rw [Int32.toBitVec_and, BitVec.getLsbD_and]
theorem b_xor (x y : Int32) (i : Nat) : bt (x ^^^ y) i = (bt x i ^^ bt y i) := by unfold bt; rw [Int32.toBitVec_xor, BitVec.getLsbD_xor]
theorem b_big {x : Int32} {i : Nat} (h : 32 ≤ i) : bt x i = false := BitVec.getLsbD_of_ge _ _ h
theorem b_255 (i : Nat) : bt 255 i = decide (i < 8) := by
  rcases Nat.lt_or_ge i 32 with h | h
  · exact (by decide +kernel : ∀ i, i < 32 → bt 255 i = decide (i < 8)) i h
  · rw [b_big h, decide_eq_false (by omega)]
theorem b_65535 (i : Nat) : bt 65535 i = decide (i < 16) := by
  rcases Nat.lt_or_ge i 32 with h | h
  · exact (by decide +kernel : ∀ i, i < 32 → bt 65535 i = decide (i < 16)) i h
  · rw [b_big h, decide_eq_false (by omega)]
theorem b_m1 : ∀ i, i < 32 → bt (-1) i = true := by decide +kernel
theorem b_0 (i : Nat) : bt 0 i = false := BitVec.getLsbD_zero
theorem s_l : ∀ n, n < 32 → ((nI n &&& 31).toBitVec.smod 32).toNat = n := by decide +kernel
theorem s_u : ∀ n, n < 32 → (((nI n).toUInt32 &&& Int32.toUInt32 31).toBitVec % 32).toNat = n := by decide +kernel
theorem b_shl (n : Nat) (hn : n < 32) (x : Int32) {i : Nat} (hi : i < 32) : bt (x <<< (nI n &&& 31)) i = (decide (n ≤ i) && bt x (i - n)) := by
  unfold bt
  rw [Int32.toBitVec_shiftLeft]
  show (x.toBitVec <<< ((nI n &&& 31).toBitVec.smod 32).toNat).getLsbD i = _
  rw [s_l n hn, BitVec.getLsbD_shiftLeft]
  rcases Nat.lt_or_ge i n with h | h
  · simp [h, Nat.not_le.mpr h]
  · simp [hi, h, Nat.not_lt.mpr h]
theorem b_ushr (n : Nat) (hn : n < 32) (x : Int32) (i : Nat) : bt ((x.toUInt32 >>> ((nI n).toUInt32 &&& Int32.toUInt32 31)).toInt32) i = bt x (n + i) := by
  show (x.toUInt32 >>> ((nI n).toUInt32 &&& Int32.toUInt32 31)).toBitVec.getLsbD i = x.toUInt32.toBitVec.getLsbD (n + i)
  rw [UInt32.toBitVec_shiftRight]
  show (x.toUInt32.toBitVec >>> (((nI n).toUInt32 &&& Int32.toUInt32 31).toBitVec % 32).toNat).getLsbD i = _
  rw [s_u n hn, BitVec.getLsbD_ushiftRight]
theorem b_sshr (n : Nat) (hn : n < 32) (x : Int32) {i : Nat} (hi : i < 32) : bt (x >>> (nI n &&& 31)) i = if n + i < 32 then bt x (n + i) else bt x 31 := by
  unfold bt
  rw [Int32.toBitVec_shiftRight]
  show (x.toBitVec.sshiftRight ((nI n &&& 31).toBitVec.smod 32).toNat).getLsbD i = _
  rw [s_l n hn, BitVec.getLsbD_sshiftRight, BitVec.msb_eq_getLsbD_last]
  simp [hi]
theorem bt_nI {M i : Nat} (hi : i < 32) : bt (nI M) i = M.testBit i := by
  show (BitVec.ofNat 32 M).getLsbD i = _
  rw [BitVec.getLsbD_ofNat, decide_eq_true hi, Bool.true_and]
theorem and_1 (x : Int32) : (x &&& nI 1 = nI 0) = (bt x 0 = false) := by
  refine propext ⟨fun h => ?_, fun h => b_ext fun i hi => ?_⟩
  · have := congrArg (fun z => bt z 0) h
    simp only [b_and] at this
    have e1 : bt (nI 1) 0 = true := by decide
    have e0 : bt (nI 0) 0 = false := by decide
    rw [e1, e0, Bool.and_true] at this
    exact this
  · rw [b_and]
    by_cases e : i = 0
    · subst e; rw [h]; rfl
    · have e1 : bt (nI 1) i = false := (by decide +kernel : ∀ i, i < 32 → i ≠ 0 → bt (nI 1) i = false) i hi e
      rw [e1, Bool.and_false]
      exact ((by decide +kernel : ∀ i, i < 32 → bt (nI 0) i = false) i hi).symm
theorem q_bitS {M v : Nat} (hv : v < 8) : ((nI M >>> (nI v &&& 31)) &&& nI 1 = nI 0) = (M.testBit v = false) := by
  rw [and_1, b_sshr v (by omega) _ (by omega), if_pos (by omega), Nat.add_zero, bt_nI (by omega)]
theorem q_bitU {M v : Nat} (hv : v < 8) : (((nI M).toUInt32 >>> ((nI v).toUInt32 &&& Int32.toUInt32 31)).toInt32 &&& nI 1 = nI 0) = (M.testBit v = false) := by
  rw [and_1, b_ushr v (by omega), Nat.add_zero, bt_nI (by omega)]
end
section
/-! ===== numbers: what the walk computes with Int32, said of Nat ===== -/
theorem q_lt {a b : Nat} (ha : a < 2147483648) (hb : b < 2147483648) : (nI a < nI b) = (a < b) := propext (nI_ltI ha hb)
theorem q_le {a b : Nat} (ha : a < 2147483648) (hb : b < 2147483648) : (nI a ≤ nI b) = (a ≤ b) := propext (nI_leI ha hb)
theorem q_eq {a b : Nat} (ha : a < 4294967296) (hb : b < 4294967296) : (nI a = nI b) = (a = b) := by
  refine propext ⟨fun h => ?_, fun h => by rw [h]⟩
  have h2 := congrArg (fun x : Int32 => x.toBitVec.toNat) h
  simp only [pk_tn ha, pk_tn hb] at h2
  exact h2
theorem q_add {a b : Nat} : nI a + nI b = nI (a + b) := nI_add a b
theorem q_mul {a b : Nat} : nI a * nI b = nI (a * b) := pk_mul a b
theorem q_sub {a b : Nat} (h : b ≤ a) : nI a - nI b = nI (a - b) := pk_sub h
theorem q_div {a b : Nat} (ha : a < 2147483648) (h0 : 0 < b) (hb : b < 2147483648) : nI a / nI b = nI (a / b) := pk_div ha h0 hb
theorem q_rem {a b : Nat} (ha : a < 2147483648) (h0 : 0 < b) (hb : b < 2147483648) : nI a - nI a / nI b * nI b = nI (a % b) := pk_rem ha h0 hb
theorem q_in {a N : Nat} (ha : a < 2147483648) : vp_in (nI a) N = (a < N) := by
  refine propext ⟨fun h => ?_, fun h => ?_⟩
  · have := (vp_in_iff).mp h
    rw [nI_toInt ha] at this
    omega
  · exact (vp_in_iff).mpr (by rw [nI_toInt ha]; omega)
theorem q_cl {a : Nat} (ha : a < 2147483648) : (nI a).toNatClampNeg = a := nI_clamp ha
theorem q_0l : (0 : Int32).toNatClampNeg = 0 := rfl
theorem q_sac {a b c : Nat} (h : b ≤ a + c) : nI a - nI b + nI c = nI (a + c - b) := by
  have h1 : nI (a + c - b) + nI b = nI a + nI c := by rw [nI_add, nI_add]; congr 1; omega
  grind
theorem q_m1 {a : Nat} (h : 0 < a) : nI a + -1 = nI (a - 1) := by
  obtain ⟨b, rfl⟩ : ∃ b, a = b + 1 := ⟨a - 1, by omega⟩
  rw [pk_m1]; rfl
theorem l_0 : (0 : Int32) = nI 0 := rfl
theorem l_1 : (1 : Int32) = nI 1 := rfl
theorem l_2 : (2 : Int32) = nI 2 := rfl
theorem l_3 : (3 : Int32) = nI 3 := rfl
theorem l_4 : (4 : Int32) = nI 4 := rfl
theorem l_5 : (5 : Int32) = nI 5 := rfl
theorem l_6 : (6 : Int32) = nI 6 := rfl
theorem l_8 : (8 : Int32) = nI 8 := rfl
theorem l_15 : (15 : Int32) = nI 15 := rfl
theorem l_16 : (16 : Int32) = nI 16 := rfl
theorem l_32 : (32 : Int32) = nI 32 := rfl
theorem l_60 : (60 : Int32) = nI 60 := rfl
theorem l_250 : (250 : Int32) = nI 250 := rfl
theorem l_255 : (255 : Int32) = nI 255 := rfl
theorem l_4000 : (4000 : Int32) = nI 4000 := rfl
theorem l_5000 : (5000 : Int32) = nI 5000 := rfl
theorem l_m1 : (-1 : Int32) = nI NN := rfl
theorem q_nn {a : Nat} (ha : a < 4294967295) : (nI a = -1) = False := by
  rw [l_m1, q_eq (by omega) (by decide)]
  simp only [NN, eq_iff_iff, iff_false]; omega
/-- an int is a channel's number, or none -/
theorem q_ch {x : Int32} {n : Nat} (hn : n < 2147483648) : (0 ≤ x ∧ x < nI n) ↔ ∃ v, v < n ∧ x = nI v := by
  constructor
  · rintro ⟨h1, h2⟩
    rcases pk_ix x hn with q | q | q
    · exact absurd q (by rw [Int32.not_lt]; exact h1)
    · exact absurd q (by rw [Int32.not_le]; exact h2)
    · exact q
  · rintro ⟨v, h1, rfl⟩
    rw [l_0, q_le (by omega) (by omega), q_lt (by omega) hn]
    exact ⟨Nat.zero_le _, h1⟩
theorem q_rg {x : Int32} {a b : Nat} (hb : b < 2147483648) : (nI a ≤ x ∧ x ≤ nI b) → a < 2147483648 → ∃ v, a ≤ v ∧ v ≤ b ∧ x = nI v := by
  rintro ⟨h1, h2⟩ ha
  have h0 : ¬ x < 0 := by
    rw [Int32.not_lt]
    exact Int32.le_trans (by rw [l_0, q_le (by omega) ha]; omega) h1
  obtain ⟨j, hj, rfl⟩ := nI_of h0
  rw [q_le ha hj] at h1
  rw [q_le hj hb] at h2
  exact ⟨j, h1, h2, rfl⟩
/-- so many flits have n bytes -/
def fo (n : Nat) : Nat := if n = 0 then 1 else (n + 3) / 4
def cr (S : St) (v : Nat) : Nat := S 13 v + S 33 v - S 30 v
def abl (S : St) (v : Nat) : Bool := decide (S 30 v < S 29 v ∧ 0 < cr S v)
/-- bounds that keep the model's own numbers small -/
def Wc (S : St) (v : Nat) : Prop := 1 ≤ S 13 v ∧ S 13 v ≤ 16 ∧ 1 ≤ S 14 v ∧ S 14 v ≤ 15 ∧ S 33 v ≤ S 32 v ∧ S 32 v ≤ S 31 v ∧ S 31 v ≤ S 30 v ∧ S 30 v ≤ S 29 v ∧ S 29 v ≤ 15 * S 6 0 ∧ S 30 v ≤ S 13 v + S 33 v ∧ S 34 v ≤ 4000
def Ws (S : St) : Prop := 1 ≤ S 1 0 ∧ S 1 0 ≤ 8 ∧ 1 ≤ S 2 0 ∧ S 2 0 ≤ 16 ∧ 1 ≤ S 3 0 ∧ S 3 0 ≤ 16 ∧ S 4 0 ≤ 3 ∧ S 5 0 ≤ 32 ∧ S 6 0 ≤ 250 ∧ S 7 0 ≤ 10000000 ∧ (S 8 0 = NN ∨ S 8 0 < S 1 0) ∧ S 9 0 ≤ 10000000 ∧ S 10 0 ≤ 10000000 ∧ S 11 0 ≤ 100000000 ∧ S 12 0 ≤ 100000000 ∧ S 36 0 ≤ 60 ∧ S 38 0 ≤ 60
def Wp (S : St) (p : Nat) : Prop := S 16 p < S 1 0 ∧ S 17 p ≤ 60 ∧ S 19 p ≤ S 7 0 ∧ (S 20 p = NN ∨ S 20 p ≤ S 7 0) ∧ (S 21 p = NN ∨ S 21 p ≤ S 7 0) ∧ S 22 p ≤ 1000000000 ∧ S 23 p ≤ 1 ∧ S 24 p ≤ 1
def Wf (S : St) (v f : Nat) : Prop := S 25 (4000 * v + f) < S 6 0 ∧ S 26 (4000 * v + f) < fo (S 17 (S 25 (4000 * v + f))) ∧ (f < S 30 v → S 27 (4000 * v + f) ≤ S 7 0) ∧ (f < S 32 v → S 28 (4000 * v + f) ≤ S 7 0)
def WF (S : St) : Prop := Ws S ∧ (∀ v, v < 8 → Wc S v) ∧ (∀ p, p < S 6 0 → Wp S p) ∧ (∀ v, v < 8 → ∀ f, f < S 29 v → Wf S v f)
theorem ite_zn {c : Prop} [Decidable c] : ((if c then nI 1 else nI 0) = nI 0) = ¬ c := by by_cases h : c <;> simp [h, show ¬ nI 1 = nI 0 by decide]
theorem ite_zm {c : Prop} [Decidable c] : ((if c then nI 0 else nI 1) = nI 0) = c := by by_cases h : c <;> simp [h, show ¬ nI 1 = nI 0 by decide]
theorem q_rem2 {a b : Nat} : nI a - nI (a / b * b) = nI (a % b) := by
  rw [pk_sub (Nat.div_mul_le_self a b)]
  congr 1
  have := Nat.div_add_mod a b
  have e : b * (a / b) = a / b * b := Nat.mul_comm _ _
  omega
theorem l_neg : -nI 1 = nI NN := rfl
theorem NN_lt : NN < 4294967296 := by decide
theorem NN_v : NN = 4294967295 := rfl
theorem q_max {a b : Nat} : (if a < b then nI b else nI a) = nI (max a b) := by
  split
  · congr 1; omega
  · congr 1; omega
theorem q_min {a b : Nat} : (if b < a then nI b else nI a) = nI (min a b) := by
  split
  · congr 1; omega
  · congr 1; omega
end
section
theorem ite_z {c : Prop} [Decidable c] : ((if c then (1 : Int32) else 0) = 0) = ¬ c := by by_cases h : c <;> simp [h]
theorem ite_zb {c : Prop} [Decidable c] : ((if c then (1 : Int32) else 0) = 0 ∨ (if c then (1 : Int32) else 0) = 1) = True := by by_cases h : c <;> simp [h]
abbrev rf (a : Nat) : AV := .inr (.inl (some a))
def T_X6_thrown : TT := fun av G Qr _ => ∃ m, av = [rf m] ∧ knd G m = 6 ∧ Qr (some (.inl (gi G m 0))) G
theorem mono_X6_thrown : TMono T_X6_thrown := fun av G Q1 Q2 Qx ⟨m, h1, h2, h3⟩ hq => ⟨m, h1, h2, hq _ _ h3⟩
def T_X6_isIn : TT := fun av G Qr _ => ∃ a b c, av = [.inl a, .inl b, .inl c] ∧ Qr (some (.inl (if b ≤ a ∧ a ≤ c then 1 else 0))) G
theorem mono_X6_isIn : TMono T_X6_isIn := fun av G Q1 Q2 Qx ⟨a, b, c, h1, h3⟩ hq => ⟨a, b, c, h1, hq _ _ h3⟩
theorem T_X6_isIn_e {a b c : Int32} {G : GG} {Q : Option AV → GG → Prop} {X : String → GG → Prop} : T_X6_isIn [.inl a, .inl b, .inl c] G Q X = Q (some (.inl (if b ≤ a ∧ a ≤ c then 1 else 0))) G := by simp [T_X6_isIn]
def T_X6_isChannel : TT := fun av G Qr _ => ∃ m x, av = [rf m, .inl x] ∧ knd G m = 6 ∧ Qr (some (.inl (if 0 ≤ x ∧ x < gi G m 1 then 1 else 0))) G
theorem mono_X6_isChannel : TMono T_X6_isChannel := fun av G Q1 Q2 Qx ⟨a, b, h1, h2, h3⟩ hq => ⟨a, b, h1, h2, hq _ _ h3⟩
theorem T_X6_isChannel_e {m : Nat} {x : Int32} {G : GG} {Q : Option AV → GG → Prop} {X : String → GG → Prop} : T_X6_isChannel [.inr (.inl (some m)), .inl x] G Q X = (knd G m = 6 ∧ Q (some (.inl (if 0 ≤ x ∧ x < gi G m 1 then 1 else 0))) G) := by simp [T_X6_isChannel, rf]
def T_X6_flitsOf : TT := fun av G Qr _ => ∃ n, av = [.inl (nI n)] ∧ n ≤ 100000 ∧ Qr (some (.inl (nI (fo n)))) G
theorem mono_X6_flitsOf : TMono T_X6_flitsOf := fun av G Q1 Q2 Qx ⟨a, h1, h2, h3⟩ hq => ⟨a, h1, h2, hq _ _ h3⟩
def rm_X6_thrown : Room := { frames := 0, cells := 0, slots := 0, locals := 0 }
def ct_X6_thrown : List (Nat × CS) := []
set_option maxRecDepth 20000 in
set_option maxHeartbeats 4000000 in
theorem c_X6_thrown (l : Launch) : CM l yX6_thrown cX6_thrown 1 (some .int) rm_X6_thrown T_X6_thrown := by
  refine CM.ev (ft := ftX6) (nt := []) (ct := ct_X6_thrown) (oi := 0) (rt := 1) (ini := false) (by decide +kernel) (Or.inr (Or.inl ⟨rfl, rfl⟩)) ftX6_ok (fun q => by cases q) (fun x h => by cases h) (fun x h => by cases h) (fun q => absurd rfl q) ?_
  intro av G Qr Qx hT
  obtain ⟨m, rfl, h1, h2⟩ := hT
  refine ⟨Nat.le_refl _, fun J hJ => hJ [] 30 0 [some (rf m)] [] G 0 0 (fun x h => by cases h) ?_⟩
  simp only [wpf_s, wpA_s, wq_c, wq_n, lkp_n, lkp_c, lk_0, lk_s, ldI_s, ldR_s, ldL_s, incI_s, gfE_I, gfE_Z, gfE_R, pfE_I, pfE_Z, pfE_R, nwE_s, anE_0, anE_1, anE_4, kE_n, kE_s, ii_s, sw_iload_n, sw_iload, sw_aload_n, sw_aload, sw_lload_n, sw_lload, sw_istore_n, sw_istore, sw_astore_n, sw_astore, sw_lstore, sw_iinc, sw_iconst, sw_bipush, sw_sipush, sw_null, sw_ldc2, sw_dup, sw_dup2, sw_iadd, sw_isub, sw_imul, sw_iand, sw_ixor, sw_ishr, sw_iushr, sw_idiv, sw_irem, sw_land, sw_lor, sw_lcmp, sw_lshl, sw_lshr, sw_lushr, sw_i2l, sw_l2i, sw_i2b, sw_goto, sw_icmp_eq, sw_if_eq, sw_icmp_ne, sw_if_ne, sw_icmp_lt, sw_if_lt, sw_icmp_ge, sw_if_ge, sw_icmp_gt, sw_if_gt, sw_icmp_le, sw_if_le, sw_ifnull, sw_ifnonnull, sw_acmp, sw_get, sw_put, sw_iaload, sw_baload, sw_laload, sw_aaload, sw_alen, sw_iastore, sw_bastore, sw_lastore, sw_aastore, sw_aastoreN, sw_newa_byte, sw_newa_int, sw_newa_boolean, sw_newa_long, sw_anew, sw_new, sw_iv, sw_is, sw_ii, sw_ireturn, sw_areturn, sw_return, sw_table, cv_0, cv_1, cv_2, cv_3, cv_4, ci_0, ci_1, ci_2, ci_3, ci_4, cs_1, cs_2, cs_3, cs_4, ic_m1, ic_0, ic_1, ic_2, ic_3, ic_4, ic_5, ic_6, bp_6, bp_7, bp_8, bp_15, bp_16, bp_31, bp_32, bp_60, sp_250, sp_255, sp_4000, sp_5000, sp_15000, sp_32000, f4_0, f4_1, f4_2, f4_3, c_nat, rtm, rok_0, rok_1, rok_2, rok_3, okS_0, okS_s, okq_n, okq_i, okq_r, stW_n, stW_i, stW_r, stW_l, cat_i, cat_r, nox, nf_0, nf_1, nf_2, nf_3, nf_4, nf_5, nf_6, true_and, and_true, Nat.zero_le, Nat.reduceAdd, Nat.reduceLT, Nat.reduceLeDiff, Nat.reduceEqDiff, Int.reduceAdd, Int.reduceToNat, Int.reduceLE, reduceIte, List.length_cons, List.length_nil, List.set_cons_zero, List.set_cons_succ, Option.some.injEq, ne_eq, not_true, not_false_eq_true, false_or, or_false, reduceCtorEq, dX6_thrown_0, dX6_thrown_1, dX6_thrown_4, ftX6_88, rf, h1, ct_X6_thrown]
  exact h2
def rm_X6_isIn : Room := { frames := 0, cells := 0, slots := 0, locals := 0 }
def ct_X6_isIn : List (Nat × CS) := []
set_option maxRecDepth 20000 in
set_option maxHeartbeats 4000000 in
theorem c_X6_isIn (l : Launch) : CM l yX6_isIn cX6_isIn 3 (some .boolean) rm_X6_isIn T_X6_isIn := by
  refine CM.ev (ft := ftX6) (nt := []) (ct := ct_X6_isIn) (oi := 0) (rt := 2) (ini := false) (by decide +kernel) (Or.inr (Or.inr (Or.inl ⟨rfl, rfl⟩))) ftX6_ok (fun q => by cases q) (fun x h => by cases h) (fun x h => by cases h) (fun q => absurd rfl q) ?_
  intro av G Qr Qx hT
  obtain ⟨a, b, c, rfl, h2⟩ := hT
  refine ⟨Nat.le_refl _, fun J hJ => hJ [] 30 0 [some (.inl a), some (.inl b), some (.inl c)] [] G 0 0 (fun x h => by cases h) ?_⟩
  simp only [wpf_s, wpA_s, wq_c, wq_n, lkp_n, lkp_c, lk_0, lk_s, ldI_s, ldR_s, ldL_s, incI_s, gfE_I, gfE_Z, gfE_R, pfE_I, pfE_Z, pfE_R, nwE_s, anE_0, anE_1, anE_4, kE_n, kE_s, ii_s, sw_iload_n, sw_iload, sw_aload_n, sw_aload, sw_lload_n, sw_lload, sw_istore_n, sw_istore, sw_astore_n, sw_astore, sw_lstore, sw_iinc, sw_iconst, sw_bipush, sw_sipush, sw_null, sw_ldc2, sw_dup, sw_dup2, sw_iadd, sw_isub, sw_imul, sw_iand, sw_ixor, sw_ishr, sw_iushr, sw_idiv, sw_irem, sw_land, sw_lor, sw_lcmp, sw_lshl, sw_lshr, sw_lushr, sw_i2l, sw_l2i, sw_i2b, sw_goto, sw_icmp_eq, sw_if_eq, sw_icmp_ne, sw_if_ne, sw_icmp_lt, sw_if_lt, sw_icmp_ge, sw_if_ge, sw_icmp_gt, sw_if_gt, sw_icmp_le, sw_if_le, sw_ifnull, sw_ifnonnull, sw_acmp, sw_get, sw_put, sw_iaload, sw_baload, sw_laload, sw_aaload, sw_alen, sw_iastore, sw_bastore, sw_lastore, sw_aastore, sw_aastoreN, sw_newa_byte, sw_newa_int, sw_newa_boolean, sw_newa_long, sw_anew, sw_new, sw_iv, sw_is, sw_ii, sw_ireturn, sw_areturn, sw_return, sw_table, cv_0, cv_1, cv_2, cv_3, cv_4, ci_0, ci_1, ci_2, ci_3, ci_4, cs_1, cs_2, cs_3, cs_4, ic_m1, ic_0, ic_1, ic_2, ic_3, ic_4, ic_5, ic_6, bp_6, bp_7, bp_8, bp_15, bp_16, bp_31, bp_32, bp_60, sp_250, sp_255, sp_4000, sp_5000, sp_15000, sp_32000, f4_0, f4_1, f4_2, f4_3, c_nat, rtm, rok_0, rok_1, rok_2, rok_3, okS_0, okS_s, okq_n, okq_i, okq_r, stW_n, stW_i, stW_r, stW_l, cat_i, cat_r, nox, nf_0, nf_1, nf_2, nf_3, nf_4, nf_5, nf_6, true_and, and_true, Nat.zero_le, Nat.reduceAdd, Nat.reduceLT, Nat.reduceLeDiff, Nat.reduceEqDiff, Int.reduceAdd, Int.reduceToNat, Int.reduceLE, reduceIte, List.length_cons, List.length_nil, List.set_cons_zero, List.set_cons_succ, Option.some.injEq, ne_eq, not_true, not_false_eq_true, false_or, or_false, reduceCtorEq, dX6_isIn_0, dX6_isIn_1, dX6_isIn_2, dX6_isIn_5, dX6_isIn_6, dX6_isIn_7, dX6_isIn_10, dX6_isIn_11, dX6_isIn_14, dX6_isIn_15, ct_X6_isIn]
  grind
def rm_X6_isChannel : Room := { frames := 0, cells := 0, slots := 0, locals := 0 }
def ct_X6_isChannel : List (Nat × CS) := []
set_option maxRecDepth 20000 in
set_option maxHeartbeats 4000000 in
theorem c_X6_isChannel (l : Launch) : CM l yX6_isChannel cX6_isChannel 2 (some .boolean) rm_X6_isChannel T_X6_isChannel := by
  refine CM.ev (ft := ftX6) (nt := []) (ct := ct_X6_isChannel) (oi := 0) (rt := 2) (ini := false) (by decide +kernel) (Or.inr (Or.inr (Or.inl ⟨rfl, rfl⟩))) ftX6_ok (fun q => by cases q) (fun x h => by cases h) (fun x h => by cases h) (fun q => absurd rfl q) ?_
  intro av G Qr Qx hT
  obtain ⟨m, x, rfl, h1, h2⟩ := hT
  refine ⟨Nat.le_refl _, fun J hJ => hJ [] 30 0 [some (rf m), some (.inl x)] [] G 0 0 (fun x h => by cases h) ?_⟩
  simp only [wpf_s, wpA_s, wq_c, wq_n, lkp_n, lkp_c, lk_0, lk_s, ldI_s, ldR_s, ldL_s, incI_s, gfE_I, gfE_Z, gfE_R, pfE_I, pfE_Z, pfE_R, nwE_s, anE_0, anE_1, anE_4, kE_n, kE_s, ii_s, sw_iload_n, sw_iload, sw_aload_n, sw_aload, sw_lload_n, sw_lload, sw_istore_n, sw_istore, sw_astore_n, sw_astore, sw_lstore, sw_iinc, sw_iconst, sw_bipush, sw_sipush, sw_null, sw_ldc2, sw_dup, sw_dup2, sw_iadd, sw_isub, sw_imul, sw_iand, sw_ixor, sw_ishr, sw_iushr, sw_idiv, sw_irem, sw_land, sw_lor, sw_lcmp, sw_lshl, sw_lshr, sw_lushr, sw_i2l, sw_l2i, sw_i2b, sw_goto, sw_icmp_eq, sw_if_eq, sw_icmp_ne, sw_if_ne, sw_icmp_lt, sw_if_lt, sw_icmp_ge, sw_if_ge, sw_icmp_gt, sw_if_gt, sw_icmp_le, sw_if_le, sw_ifnull, sw_ifnonnull, sw_acmp, sw_get, sw_put, sw_iaload, sw_baload, sw_laload, sw_aaload, sw_alen, sw_iastore, sw_bastore, sw_lastore, sw_aastore, sw_aastoreN, sw_newa_byte, sw_newa_int, sw_newa_boolean, sw_newa_long, sw_anew, sw_new, sw_iv, sw_is, sw_ii, sw_ireturn, sw_areturn, sw_return, sw_table, cv_0, cv_1, cv_2, cv_3, cv_4, ci_0, ci_1, ci_2, ci_3, ci_4, cs_1, cs_2, cs_3, cs_4, ic_m1, ic_0, ic_1, ic_2, ic_3, ic_4, ic_5, ic_6, bp_6, bp_7, bp_8, bp_15, bp_16, bp_31, bp_32, bp_60, sp_250, sp_255, sp_4000, sp_5000, sp_15000, sp_32000, f4_0, f4_1, f4_2, f4_3, c_nat, rtm, rok_0, rok_1, rok_2, rok_3, okS_0, okS_s, okq_n, okq_i, okq_r, stW_n, stW_i, stW_r, stW_l, cat_i, cat_r, nox, nf_0, nf_1, nf_2, nf_3, nf_4, nf_5, nf_6, true_and, and_true, Nat.zero_le, Nat.reduceAdd, Nat.reduceLT, Nat.reduceLeDiff, Nat.reduceEqDiff, Int.reduceAdd, Int.reduceToNat, Int.reduceLE, reduceIte, List.length_cons, List.length_nil, List.set_cons_zero, List.set_cons_succ, Option.some.injEq, ne_eq, not_true, not_false_eq_true, false_or, or_false, reduceCtorEq, dX6_isChannel_0, dX6_isChannel_1, dX6_isChannel_4, dX6_isChannel_5, dX6_isChannel_6, dX6_isChannel_9, dX6_isChannel_12, dX6_isChannel_13, dX6_isChannel_16, dX6_isChannel_17, ftX6_96, rf, h1, ct_X6_isChannel]
  grind
def rm_X6_flitsOf : Room := { frames := 0, cells := 0, slots := 0, locals := 0 }
def ct_X6_flitsOf : List (Nat × CS) := []
set_option maxRecDepth 20000 in
set_option maxHeartbeats 4000000 in
theorem c_X6_flitsOf (l : Launch) : CM l yX6_flitsOf cX6_flitsOf 1 (some .int) rm_X6_flitsOf T_X6_flitsOf := by
  refine CM.ev (ft := ftX6) (nt := []) (ct := ct_X6_flitsOf) (oi := 0) (rt := 1) (ini := false) (by decide +kernel) (Or.inr (Or.inl ⟨rfl, rfl⟩)) ftX6_ok (fun q => by cases q) (fun x h => by cases h) (fun x h => by cases h) (fun q => absurd rfl q) ?_
  intro av G Qr Qx hT
  obtain ⟨n, rfl, h1, h2⟩ := hT
  refine ⟨Nat.le_refl _, fun J hJ => hJ [] 30 0 [some (.inl (nI n))] [] G 0 0 (fun x h => by cases h) ?_⟩
  simp only [wpf_s, wpA_s, wq_c, wq_n, lkp_n, lkp_c, lk_0, lk_s, ldI_s, ldR_s, ldL_s, incI_s, gfE_I, gfE_Z, gfE_R, pfE_I, pfE_Z, pfE_R, nwE_s, anE_0, anE_1, anE_4, kE_n, kE_s, ii_s, sw_iload_n, sw_iload, sw_aload_n, sw_aload, sw_lload_n, sw_lload, sw_istore_n, sw_istore, sw_astore_n, sw_astore, sw_lstore, sw_iinc, sw_iconst, sw_bipush, sw_sipush, sw_null, sw_ldc2, sw_dup, sw_dup2, sw_iadd, sw_isub, sw_imul, sw_iand, sw_ixor, sw_ishr, sw_iushr, sw_idiv, sw_irem, sw_land, sw_lor, sw_lcmp, sw_lshl, sw_lshr, sw_lushr, sw_i2l, sw_l2i, sw_i2b, sw_goto, sw_icmp_eq, sw_if_eq, sw_icmp_ne, sw_if_ne, sw_icmp_lt, sw_if_lt, sw_icmp_ge, sw_if_ge, sw_icmp_gt, sw_if_gt, sw_icmp_le, sw_if_le, sw_ifnull, sw_ifnonnull, sw_acmp, sw_get, sw_put, sw_iaload, sw_baload, sw_laload, sw_aaload, sw_alen, sw_iastore, sw_bastore, sw_lastore, sw_aastore, sw_aastoreN, sw_newa_byte, sw_newa_int, sw_newa_boolean, sw_newa_long, sw_anew, sw_new, sw_iv, sw_is, sw_ii, sw_ireturn, sw_areturn, sw_return, sw_table, cv_0, cv_1, cv_2, cv_3, cv_4, ci_0, ci_1, ci_2, ci_3, ci_4, cs_1, cs_2, cs_3, cs_4, ic_m1, ic_0, ic_1, ic_2, ic_3, ic_4, ic_5, ic_6, bp_6, bp_7, bp_8, bp_15, bp_16, bp_31, bp_32, bp_60, sp_250, sp_255, sp_4000, sp_5000, sp_15000, sp_32000, f4_0, f4_1, f4_2, f4_3, c_nat, rtm, rok_0, rok_1, rok_2, rok_3, okS_0, okS_s, okq_n, okq_i, okq_r, stW_n, stW_i, stW_r, stW_l, cat_i, cat_r, nox, nf_0, nf_1, nf_2, nf_3, nf_4, nf_5, nf_6, true_and, and_true, Nat.zero_le, Nat.reduceAdd, Nat.reduceLT, Nat.reduceLeDiff, Nat.reduceEqDiff, Int.reduceAdd, Int.reduceToNat, Int.reduceLE, reduceIte, List.length_cons, List.length_nil, List.set_cons_zero, List.set_cons_succ, Option.some.injEq, ne_eq, not_true, not_false_eq_true, false_or, or_false, reduceCtorEq, dX6_flitsOf_0, dX6_flitsOf_1, dX6_flitsOf_4, dX6_flitsOf_5, dX6_flitsOf_8, dX6_flitsOf_9, dX6_flitsOf_10, dX6_flitsOf_11, dX6_flitsOf_12, dX6_flitsOf_13, ct_X6_flitsOf]
  refine ⟨fun q => ?_, fun q => ⟨by decide, ?_⟩⟩
  · have : n = 0 := by rw [← nI_0, nI_eq (by omega) (by omega)] at q; exact q
    subst this; exact h2
  · have hn : n ≠ 0 := fun e => q (by rw [e]; rfl)
    have e1 : (nI n + 3) / 4 = nI ((n + 3) / 4) := by
      rw [show (3 : Int32) = nI 3 from rfl, show (4 : Int32) = nI 4 from rfl, nI_add, pk_div (by omega) (by omega) (by omega)]
    rw [e1]; simpa [fo, hn] using h2
end
section
def T_J9_max_7cf53 : TT := fun av G Qr _ => ∃ a b, av = [.inl a, .inl b] ∧ Qr (some (.inl (if a < b then b else a))) G
theorem mono_J9_max_7cf53 : TMono T_J9_max_7cf53 := fun av G Q1 Q2 Qx ⟨a, b, h1, h3⟩ hq => ⟨a, b, h1, hq _ _ h3⟩
theorem T_max_e {a b : Int32} {G : GG} {Q : Option AV → GG → Prop} {X : String → GG → Prop} : T_J9_max_7cf53 [.inl a, .inl b] G Q X = Q (some (.inl (if a < b then b else a))) G := by simp [T_J9_max_7cf53]
def T_J9_min_7cf53 : TT := fun av G Qr _ => ∃ a b, av = [.inl a, .inl b] ∧ Qr (some (.inl (if b < a then b else a))) G
theorem mono_J9_min_7cf53 : TMono T_J9_min_7cf53 := fun av G Q1 Q2 Qx ⟨a, b, h1, h3⟩ hq => ⟨a, b, h1, hq _ _ h3⟩
theorem T_min_e {a b : Int32} {G : GG} {Q : Option AV → GG → Prop} {X : String → GG → Prop} : T_J9_min_7cf53 [.inl a, .inl b] G Q X = Q (some (.inl (if b < a then b else a))) G := by simp [T_J9_min_7cf53]
def T_J9_floorMod_7cf53 : TT := fun av G Qr _ => ∃ a b, av = [.inl (nI a), .inl (nI b)] ∧ a < 2147483648 ∧ 0 < b ∧ b < 2147483648 ∧ Qr (some (.inl (nI (a % b)))) G
theorem mono_J9_floorMod_7cf53 : TMono T_J9_floorMod_7cf53 := fun av G Q1 Q2 Qx ⟨a, b, h1, h2, h4, h5, h3⟩ hq => ⟨a, b, h1, h2, h4, h5, hq _ _ h3⟩
def rm_J9_max_7cf53 : Room := { frames := 0, cells := 0, slots := 0, locals := 0 }
def ct_J9_max_7cf53 : List (Nat × CS) := []
set_option maxRecDepth 20000 in
set_option maxHeartbeats 4000000 in
theorem c_J9_max_7cf53 (l : Launch) : CM l yJ9_max_7cf53 cJ9_max_7cf53 2 (some .int) rm_J9_max_7cf53 T_J9_max_7cf53 := by
  refine CM.ev (ft := []) (nt := []) (ct := ct_J9_max_7cf53) (oi := 0) (rt := 1) (ini := false) (by decide +kernel) (Or.inr (Or.inl ⟨rfl, rfl⟩)) (fun x h => by cases h) (fun q => by cases q) (fun x h => by cases h) (fun x h => by cases h) (fun q => absurd rfl q) ?_
  intro av G Qr Qx hT
  obtain ⟨a, b, rfl, h2⟩ := hT
  refine ⟨Nat.le_refl _, fun J hJ => hJ [] 30 0 [some (.inl a), some (.inl b)] [] G 0 0 (fun x h => by cases h) ?_⟩
  simp only [wpf_s, wpA_s, wq_c, wq_n, lkp_n, lkp_c, lk_0, lk_s, ldI_s, ldR_s, ldL_s, incI_s, gfE_I, gfE_Z, gfE_R, pfE_I, pfE_Z, pfE_R, nwE_s, anE_0, anE_1, anE_4, kE_n, kE_s, ii_s, sw_iload_n, sw_iload, sw_aload_n, sw_aload, sw_lload_n, sw_lload, sw_istore_n, sw_istore, sw_astore_n, sw_astore, sw_lstore, sw_iinc, sw_iconst, sw_bipush, sw_sipush, sw_null, sw_ldc2, sw_dup, sw_dup2, sw_iadd, sw_isub, sw_imul, sw_iand, sw_ixor, sw_ishr, sw_iushr, sw_idiv, sw_irem, sw_land, sw_lor, sw_lcmp, sw_lshl, sw_lshr, sw_lushr, sw_i2l, sw_l2i, sw_i2b, sw_goto, sw_icmp_eq, sw_if_eq, sw_icmp_ne, sw_if_ne, sw_icmp_lt, sw_if_lt, sw_icmp_ge, sw_if_ge, sw_icmp_gt, sw_if_gt, sw_icmp_le, sw_if_le, sw_ifnull, sw_ifnonnull, sw_acmp, sw_get, sw_put, sw_iaload, sw_baload, sw_laload, sw_aaload, sw_alen, sw_iastore, sw_bastore, sw_lastore, sw_aastore, sw_aastoreN, sw_newa_byte, sw_newa_int, sw_newa_boolean, sw_newa_long, sw_anew, sw_new, sw_iv, sw_is, sw_ii, sw_ireturn, sw_areturn, sw_return, sw_table, cv_0, cv_1, cv_2, cv_3, cv_4, ci_0, ci_1, ci_2, ci_3, ci_4, cs_1, cs_2, cs_3, cs_4, ic_m1, ic_0, ic_1, ic_2, ic_3, ic_4, ic_5, ic_6, bp_6, bp_7, bp_8, bp_15, bp_16, bp_31, bp_32, bp_60, sp_250, sp_255, sp_4000, sp_5000, sp_15000, sp_32000, f4_0, f4_1, f4_2, f4_3, c_nat, rtm, rok_0, rok_1, rok_2, rok_3, okS_0, okS_s, okq_n, okq_i, okq_r, stW_n, stW_i, stW_r, stW_l, cat_i, cat_r, nox, nf_0, nf_1, nf_2, nf_3, nf_4, nf_5, nf_6, true_and, and_true, Nat.zero_le, Nat.reduceAdd, Nat.reduceLT, Nat.reduceLeDiff, Nat.reduceEqDiff, Int.reduceAdd, Int.reduceToNat, Int.reduceLE, reduceIte, List.length_cons, List.length_nil, List.set_cons_zero, List.set_cons_succ, Option.some.injEq, ne_eq, not_true, not_false_eq_true, false_or, or_false, true_or, or_true, false_and, and_false, true_implies, false_implies, implies_true, not_false_eq_true, Bool.false_eq_true, reduceCtorEq, dJ9_max_7cf53_0, dJ9_max_7cf53_1, dJ9_max_7cf53_2, dJ9_max_7cf53_5, dJ9_max_7cf53_6, dJ9_max_7cf53_9, dJ9_max_7cf53_10, ct_J9_max_7cf53]
  grind
def rm_J9_min_7cf53 : Room := { frames := 0, cells := 0, slots := 0, locals := 0 }
def ct_J9_min_7cf53 : List (Nat × CS) := []
set_option maxRecDepth 20000 in
set_option maxHeartbeats 4000000 in
theorem c_J9_min_7cf53 (l : Launch) : CM l yJ9_min_7cf53 cJ9_min_7cf53 2 (some .int) rm_J9_min_7cf53 T_J9_min_7cf53 := by
  refine CM.ev (ft := []) (nt := []) (ct := ct_J9_min_7cf53) (oi := 0) (rt := 1) (ini := false) (by decide +kernel) (Or.inr (Or.inl ⟨rfl, rfl⟩)) (fun x h => by cases h) (fun q => by cases q) (fun x h => by cases h) (fun x h => by cases h) (fun q => absurd rfl q) ?_
  intro av G Qr Qx hT
  obtain ⟨a, b, rfl, h2⟩ := hT
  refine ⟨Nat.le_refl _, fun J hJ => hJ [] 30 0 [some (.inl a), some (.inl b)] [] G 0 0 (fun x h => by cases h) ?_⟩
  simp only [wpf_s, wpA_s, wq_c, wq_n, lkp_n, lkp_c, lk_0, lk_s, ldI_s, ldR_s, ldL_s, incI_s, gfE_I, gfE_Z, gfE_R, pfE_I, pfE_Z, pfE_R, nwE_s, anE_0, anE_1, anE_4, kE_n, kE_s, ii_s, sw_iload_n, sw_iload, sw_aload_n, sw_aload, sw_lload_n, sw_lload, sw_istore_n, sw_istore, sw_astore_n, sw_astore, sw_lstore, sw_iinc, sw_iconst, sw_bipush, sw_sipush, sw_null, sw_ldc2, sw_dup, sw_dup2, sw_iadd, sw_isub, sw_imul, sw_iand, sw_ixor, sw_ishr, sw_iushr, sw_idiv, sw_irem, sw_land, sw_lor, sw_lcmp, sw_lshl, sw_lshr, sw_lushr, sw_i2l, sw_l2i, sw_i2b, sw_goto, sw_icmp_eq, sw_if_eq, sw_icmp_ne, sw_if_ne, sw_icmp_lt, sw_if_lt, sw_icmp_ge, sw_if_ge, sw_icmp_gt, sw_if_gt, sw_icmp_le, sw_if_le, sw_ifnull, sw_ifnonnull, sw_acmp, sw_get, sw_put, sw_iaload, sw_baload, sw_laload, sw_aaload, sw_alen, sw_iastore, sw_bastore, sw_lastore, sw_aastore, sw_aastoreN, sw_newa_byte, sw_newa_int, sw_newa_boolean, sw_newa_long, sw_anew, sw_new, sw_iv, sw_is, sw_ii, sw_ireturn, sw_areturn, sw_return, sw_table, cv_0, cv_1, cv_2, cv_3, cv_4, ci_0, ci_1, ci_2, ci_3, ci_4, cs_1, cs_2, cs_3, cs_4, ic_m1, ic_0, ic_1, ic_2, ic_3, ic_4, ic_5, ic_6, bp_6, bp_7, bp_8, bp_15, bp_16, bp_31, bp_32, bp_60, sp_250, sp_255, sp_4000, sp_5000, sp_15000, sp_32000, f4_0, f4_1, f4_2, f4_3, c_nat, rtm, rok_0, rok_1, rok_2, rok_3, okS_0, okS_s, okq_n, okq_i, okq_r, stW_n, stW_i, stW_r, stW_l, cat_i, cat_r, nox, nf_0, nf_1, nf_2, nf_3, nf_4, nf_5, nf_6, true_and, and_true, Nat.zero_le, Nat.reduceAdd, Nat.reduceLT, Nat.reduceLeDiff, Nat.reduceEqDiff, Int.reduceAdd, Int.reduceToNat, Int.reduceLE, reduceIte, List.length_cons, List.length_nil, List.set_cons_zero, List.set_cons_succ, Option.some.injEq, ne_eq, not_true, not_false_eq_true, false_or, or_false, true_or, or_true, false_and, and_false, true_implies, false_implies, implies_true, not_false_eq_true, Bool.false_eq_true, reduceCtorEq, dJ9_min_7cf53_0, dJ9_min_7cf53_1, dJ9_min_7cf53_2, dJ9_min_7cf53_5, dJ9_min_7cf53_6, dJ9_min_7cf53_9, dJ9_min_7cf53_10, ct_J9_min_7cf53]
  grind
def rm_J9_floorMod_7cf53 : Room := { frames := 0, cells := 0, slots := 0, locals := 0 }
def ct_J9_floorMod_7cf53 : List (Nat × CS) := []
set_option maxRecDepth 20000 in
set_option maxHeartbeats 4000000 in
theorem c_J9_floorMod_7cf53 (l : Launch) : CM l yJ9_floorMod_7cf53 cJ9_floorMod_7cf53 3 (some .int) rm_J9_floorMod_7cf53 T_J9_floorMod_7cf53 := by
  refine CM.ev (ft := []) (nt := []) (ct := ct_J9_floorMod_7cf53) (oi := 0) (rt := 1) (ini := false) (by decide +kernel) (Or.inr (Or.inl ⟨rfl, rfl⟩)) (fun x h => by cases h) (fun q => by cases q) (fun x h => by cases h) (fun x h => by cases h) (fun q => absurd rfl q) ?_
  intro av G Qr Qx hT
  obtain ⟨a, b, rfl, h2, h3, h4, h5⟩ := hT
  refine ⟨Nat.le_of_ble_eq_true rfl, fun J hJ => hJ [] 30 0 [some (.inl (nI a)), some (.inl (nI b)), none] [] G 0 0 (fun x h => by cases h) ?_⟩
  simp only [wpf_s, wpA_s, wq_c, wq_n, lkp_n, lkp_c, lk_0, lk_s, ldI_s, ldR_s, ldL_s, incI_s, gfE_I, gfE_Z, gfE_R, pfE_I, pfE_Z, pfE_R, nwE_s, anE_0, anE_1, anE_4, kE_n, kE_s, ii_s, sw_iload_n, sw_iload, sw_aload_n, sw_aload, sw_lload_n, sw_lload, sw_istore_n, sw_istore, sw_astore_n, sw_astore, sw_lstore, sw_iinc, sw_iconst, sw_bipush, sw_sipush, sw_null, sw_ldc2, sw_dup, sw_dup2, sw_iadd, sw_isub, sw_imul, sw_iand, sw_ixor, sw_ishr, sw_iushr, sw_idiv, sw_irem, sw_land, sw_lor, sw_lcmp, sw_lshl, sw_lshr, sw_lushr, sw_i2l, sw_l2i, sw_i2b, sw_goto, sw_icmp_eq, sw_if_eq, sw_icmp_ne, sw_if_ne, sw_icmp_lt, sw_if_lt, sw_icmp_ge, sw_if_ge, sw_icmp_gt, sw_if_gt, sw_icmp_le, sw_if_le, sw_ifnull, sw_ifnonnull, sw_acmp, sw_get, sw_put, sw_iaload, sw_baload, sw_laload, sw_aaload, sw_alen, sw_iastore, sw_bastore, sw_lastore, sw_aastore, sw_aastoreN, sw_newa_byte, sw_newa_int, sw_newa_boolean, sw_newa_long, sw_anew, sw_new, sw_iv, sw_is, sw_ii, sw_ireturn, sw_areturn, sw_return, sw_table, cv_0, cv_1, cv_2, cv_3, cv_4, ci_0, ci_1, ci_2, ci_3, ci_4, cs_1, cs_2, cs_3, cs_4, ic_m1, ic_0, ic_1, ic_2, ic_3, ic_4, ic_5, ic_6, bp_6, bp_7, bp_8, bp_15, bp_16, bp_31, bp_32, bp_60, sp_250, sp_255, sp_4000, sp_5000, sp_15000, sp_32000, f4_0, f4_1, f4_2, f4_3, c_nat, rtm, rok_0, rok_1, rok_2, rok_3, okS_0, okS_s, okq_n, okq_i, okq_r, stW_n, stW_i, stW_r, stW_l, cat_i, cat_r, nox, nf_0, nf_1, nf_2, nf_3, nf_4, nf_5, nf_6, true_and, and_true, Nat.zero_le, Nat.reduceAdd, Nat.reduceLT, Nat.reduceLeDiff, Nat.reduceEqDiff, Int.reduceAdd, Int.reduceToNat, Int.reduceLE, reduceIte, List.length_cons, List.length_nil, List.set_cons_zero, List.set_cons_succ, Option.some.injEq, ne_eq, not_true, not_false_eq_true, false_or, or_false, true_or, or_true, false_and, and_false, true_implies, false_implies, implies_true, not_false_eq_true, Bool.false_eq_true, reduceCtorEq, dJ9_floorMod_7cf53_0, dJ9_floorMod_7cf53_1, dJ9_floorMod_7cf53_2, dJ9_floorMod_7cf53_3, dJ9_floorMod_7cf53_4, dJ9_floorMod_7cf53_5, dJ9_floorMod_7cf53_6, dJ9_floorMod_7cf53_7, dJ9_floorMod_7cf53_10, dJ9_floorMod_7cf53_11, dJ9_floorMod_7cf53_14, dJ9_floorMod_7cf53_15, dJ9_floorMod_7cf53_16, dJ9_floorMod_7cf53_17, dJ9_floorMod_7cf53_18, dJ9_floorMod_7cf53_19, ct_J9_floorMod_7cf53]
  rw [q_rem h2 h3 h4]
  have hm : a % b < 2147483648 := Nat.lt_trans (Nat.mod_lt _ h3) h4
  have hx : (0 : Int32) ≤ nI a ^^^ nI b := by
    rw [Int32.le_iff_toInt_le]
    have e1 : (nI a ^^^ nI b) = nI (a ^^^ b) := by
      apply Int32.toBitVec_inj.mp
      simp [nI, Int32.toBitVec_xor, BitVec.ofNat_xor]
    have hlt : a ^^^ b < 2147483648 := Nat.xor_lt_two_pow (n := 31) h2 h4
    rw [e1, nI_toInt hlt]
    exact Int.natCast_nonneg _
  refine ⟨?_, ?_⟩
  · rw [show (nI b = 0) = (b = 0) by rw [l_0]; exact q_eq (by omega) (by decide)]; omega
  · exact ⟨fun _ => h5, fun q => absurd hx q⟩
def T_X6_credits : TT := fun av G Qr _ => ∃ m ar S v, av = [rf m, .inl (nI v)] ∧ v < 8 ∧ RepM G m ar S ∧ WF S ∧ Qr (some (.inl (nI (cr S v)))) G
theorem mono_X6_credits : TMono T_X6_credits := fun av G Q1 Q2 Qx ⟨m, ar, S, v, h1, h2, h3, h4, h5⟩ hq => ⟨m, ar, S, v, h1, h2, h3, h4, hq _ _ h5⟩
def T_X6_isAble : TT := fun av G Qr _ => ∃ m ar S v, av = [rf m, .inl (nI v)] ∧ v < 8 ∧ RepM G m ar S ∧ WF S ∧ Qr (some (.inl (if abl S v = true then 1 else 0))) G
theorem mono_X6_isAble : TMono T_X6_isAble := fun av G Q1 Q2 Qx ⟨m, ar, S, v, h1, h2, h3, h4, h5⟩ hq => ⟨m, ar, S, v, h1, h2, h3, h4, hq _ _ h5⟩
def rm_X6_credits : Room := { frames := 0, cells := 0, slots := 0, locals := 0 }
def ct_X6_credits : List (Nat × CS) := []
set_option maxRecDepth 20000 in
set_option maxHeartbeats 4000000 in
theorem c_X6_credits (l : Launch) : CM l yX6_credits cX6_credits 2 (some .int) rm_X6_credits T_X6_credits := by
  refine CM.ev (ft := ftX6) (nt := []) (ct := ct_X6_credits) (oi := 0) (rt := 1) (ini := false) (by decide +kernel) (Or.inr (Or.inl ⟨rfl, rfl⟩)) ftX6_ok (fun q => by cases q) (fun x h => by cases h) (fun x h => by cases h) (fun q => absurd rfl q) ?_
  intro av G Qr Qx hT
  obtain ⟨m, ar, S, v, rfl, hv, hR, hW, h5⟩ := hT
  obtain ⟨w1, w2, w3, w4, w5, w6, w7, w8, w9, w10, w11⟩ := hW.2.1 v hv
  have w0 := hW.1.2.2.2.2.2.2.2.2.1
  refine ⟨Nat.le_of_ble_eq_true rfl, fun J hJ => hJ [] 30 0 [some (rf m), some (.inl (nI v))] [] G 0 0 (fun x h => by cases h) ?_⟩
  simp (disch := omega) only [wpf_s, wpA_s, wq_c, wq_n, lkp_n, lkp_c, lk_0, lk_s, ldI_s, ldR_s, ldL_s, incI_s, gfE_I, gfE_Z, gfE_R, pfE_I, pfE_Z, pfE_R, nwE_s, anE_0, anE_1, anE_4, kE_n, kE_s, ii_s, sw_iload_n, sw_iload, sw_aload_n, sw_aload, sw_lload_n, sw_lload, sw_istore_n, sw_istore, sw_astore_n, sw_astore, sw_lstore, sw_iinc, sw_iconst, sw_bipush, sw_sipush, sw_null, sw_ldc2, sw_dup, sw_dup2, sw_iadd, sw_isub, sw_imul, sw_iand, sw_ixor, sw_ishr, sw_iushr, sw_idiv, sw_irem, sw_land, sw_lor, sw_lcmp, sw_lshl, sw_lshr, sw_lushr, sw_i2l, sw_l2i, sw_i2b, sw_goto, sw_icmp_eq, sw_if_eq, sw_icmp_ne, sw_if_ne, sw_icmp_lt, sw_if_lt, sw_icmp_ge, sw_if_ge, sw_icmp_gt, sw_if_gt, sw_icmp_le, sw_if_le, sw_ifnull, sw_ifnonnull, sw_acmp, sw_get, sw_put, sw_iaload, sw_baload, sw_laload, sw_aaload, sw_alen, sw_iastore, sw_bastore, sw_lastore, sw_aastore, sw_aastoreN, sw_newa_byte, sw_newa_int, sw_newa_boolean, sw_newa_long, sw_anew, sw_new, sw_iv, sw_is, sw_ii, sw_ireturn, sw_areturn, sw_return, sw_table, cv_0, cv_1, cv_2, cv_3, cv_4, ci_0, ci_1, ci_2, ci_3, ci_4, cs_1, cs_2, cs_3, cs_4, ic_m1, ic_0, ic_1, ic_2, ic_3, ic_4, ic_5, ic_6, bp_6, bp_7, bp_8, bp_15, bp_16, bp_31, bp_32, bp_60, sp_250, sp_255, sp_4000, sp_5000, sp_15000, sp_32000, f4_0, f4_1, f4_2, f4_3, c_nat, rtm, rok_0, rok_1, rok_2, rok_3, okS_0, okS_s, okq_n, okq_i, okq_r, stW_n, stW_i, stW_r, stW_l, cat_i, cat_r, nox, nf_0, nf_1, nf_2, nf_3, nf_4, nf_5, nf_6, true_and, and_true, Nat.zero_le, Nat.reduceAdd, Nat.reduceLT, Nat.reduceLeDiff, Nat.reduceEqDiff, Int.reduceAdd, Int.reduceToNat, Int.reduceLE, reduceIte, List.length_cons, List.length_nil, List.set_cons_zero, List.set_cons_succ, Option.some.injEq, ne_eq, not_true, not_false_eq_true, false_or, or_false, true_or, or_true, false_and, and_false, true_implies, false_implies, implies_true, not_false_eq_true, Bool.false_eq_true, reduceCtorEq, dX6_credits_0, dX6_credits_1, dX6_credits_4, dX6_credits_5, dX6_credits_6, dX6_credits_7, dX6_credits_10, dX6_credits_11, dX6_credits_12, dX6_credits_13, dX6_credits_14, dX6_credits_17, dX6_credits_18, dX6_credits_19, dX6_credits_20, ftX6_9, ftX6_63, ftX6_72, rf, hR.1, hR.a13, hR.k13, hR.n13, hR.g13, hR.a30, hR.k30, hR.n30, hR.g30, hR.a33, hR.k33, hR.n33, hR.g33, ite_zn, ite_zm, q_lt, q_le, q_eq, q_add, q_mul, q_sub, q_div, q_rem, q_in, q_cl, q_0l, q_sac, l_0, l_1, l_2, l_3, l_4, l_5, l_6, l_8, l_15, l_16, l_32, l_60, l_250, l_4000, l_5000, ct_X6_credits]
  exact ⟨by omega, by omega, by omega, h5⟩
def rm_X6_isAble : Room := { frames := 1, cells := 0, slots := 0, locals := 21 }
def ct_X6_isAble : List (Nat × CS) := [(152, 6, 1, 0, 0, T_X6_credits)]
set_option maxRecDepth 20000 in
set_option maxHeartbeats 4000000 in
theorem c_X6_isAble (l : Launch) : CM l yX6_isAble cX6_isAble 2 (some .boolean) rm_X6_isAble T_X6_isAble := by
  refine CM.ev (ft := ftX6) (nt := []) (ct := ct_X6_isAble) (oi := 0) (rt := 2) (ini := false) (by decide +kernel) (Or.inr (Or.inr (Or.inl ⟨rfl, rfl⟩))) ftX6_ok (fun q => by cases q) (fun x h => by cases h) (List.forall_mem_cons.mpr ⟨⟨mono_X6_credits, yX6_credits, cX6_credits, 2, (some .int), rm_X6_credits, c_X6_credits l, mi_X6_credits, rfl, rfl, ⟨by decide, by decide⟩, fun _ => ⟨mv_X6_credits, lnkX6_152, rfl⟩, fun q => absurd q (by decide), fun q => absurd q (by decide), fun q => absurd q (by decide)⟩, fun x h => by cases h⟩) (fun q => absurd rfl q) ?_
  intro av G Qr Qx hT
  obtain ⟨m, ar, S, v, rfl, hv, hR, hW, h5⟩ := hT
  obtain ⟨w1, w2, w3, w4, w5, w6, w7, w8, w9, w10, w11⟩ := hW.2.1 v hv
  have w0 := hW.1.2.2.2.2.2.2.2.2.1
  refine ⟨Nat.le_of_ble_eq_true rfl, fun J hJ => hJ [] 30 0 [some (rf m), some (.inl (nI v))] [] G 0 0 (fun x h => by cases h) ?_⟩
  simp (disch := omega) only [wpf_s, wpA_s, wq_c, wq_n, lkp_n, lkp_c, lk_0, lk_s, ldI_s, ldR_s, ldL_s, incI_s, gfE_I, gfE_Z, gfE_R, pfE_I, pfE_Z, pfE_R, nwE_s, anE_0, anE_1, anE_4, kE_n, kE_s, ii_s, sw_iload_n, sw_iload, sw_aload_n, sw_aload, sw_lload_n, sw_lload, sw_istore_n, sw_istore, sw_astore_n, sw_astore, sw_lstore, sw_iinc, sw_iconst, sw_bipush, sw_sipush, sw_null, sw_ldc2, sw_dup, sw_dup2, sw_iadd, sw_isub, sw_imul, sw_iand, sw_ixor, sw_ishr, sw_iushr, sw_idiv, sw_irem, sw_land, sw_lor, sw_lcmp, sw_lshl, sw_lshr, sw_lushr, sw_i2l, sw_l2i, sw_i2b, sw_goto, sw_icmp_eq, sw_if_eq, sw_icmp_ne, sw_if_ne, sw_icmp_lt, sw_if_lt, sw_icmp_ge, sw_if_ge, sw_icmp_gt, sw_if_gt, sw_icmp_le, sw_if_le, sw_ifnull, sw_ifnonnull, sw_acmp, sw_get, sw_put, sw_iaload, sw_baload, sw_laload, sw_aaload, sw_alen, sw_iastore, sw_bastore, sw_lastore, sw_aastore, sw_aastoreN, sw_newa_byte, sw_newa_int, sw_newa_boolean, sw_newa_long, sw_anew, sw_new, sw_iv, sw_is, sw_ii, sw_ireturn, sw_areturn, sw_return, sw_table, cv_0, cv_1, cv_2, cv_3, cv_4, ci_0, ci_1, ci_2, ci_3, ci_4, cs_1, cs_2, cs_3, cs_4, ic_m1, ic_0, ic_1, ic_2, ic_3, ic_4, ic_5, ic_6, bp_6, bp_7, bp_8, bp_15, bp_16, bp_31, bp_32, bp_60, sp_250, sp_255, sp_4000, sp_5000, sp_15000, sp_32000, f4_0, f4_1, f4_2, f4_3, c_nat, rtm, rok_0, rok_1, rok_2, rok_3, okS_0, okS_s, okq_n, okq_i, okq_r, stW_n, stW_i, stW_r, stW_l, cat_i, cat_r, nox, nf_0, nf_1, nf_2, nf_3, nf_4, nf_5, nf_6, true_and, and_true, Nat.zero_le, Nat.reduceAdd, Nat.reduceLT, Nat.reduceLeDiff, Nat.reduceEqDiff, Int.reduceAdd, Int.reduceToNat, Int.reduceLE, reduceIte, List.length_cons, List.length_nil, List.set_cons_zero, List.set_cons_succ, Option.some.injEq, ne_eq, not_true, not_false_eq_true, false_or, or_false, true_or, or_true, false_and, and_false, true_implies, false_implies, implies_true, not_false_eq_true, Bool.false_eq_true, reduceCtorEq, dX6_isAble_0, dX6_isAble_1, dX6_isAble_4, dX6_isAble_5, dX6_isAble_6, dX6_isAble_7, dX6_isAble_10, dX6_isAble_11, dX6_isAble_12, dX6_isAble_15, dX6_isAble_16, dX6_isAble_17, dX6_isAble_20, dX6_isAble_23, dX6_isAble_24, dX6_isAble_27, dX6_isAble_28, ftX6_63, ftX6_60, rf, hR.1, hv, hR.a29, hR.k29, hR.n29, hR.g29, hR.a30, hR.k30, hR.n30, hR.g30, ite_zn, ite_zm, q_lt, q_le, q_eq, q_add, q_mul, q_sub, q_div, q_rem, q_in, q_cl, q_0l, q_sac, l_0, l_1, l_2, l_3, l_4, l_5, l_6, l_8, l_15, l_16, l_32, l_60, l_250, l_4000, l_5000, ct_X6_isAble]
  refine ⟨fun q => ?_, fun q => ⟨m, ar, S, v, rfl, hv, hR, hW, ?_⟩⟩
  · rw [show abl S v = false by simp [abl]; omega] at h5; exact h5
  · have hc : cr S v ≤ 4000 := by unfold cr; omega
    simp (disch := omega) only [wpf_s, wpA_s, wq_c, wq_n, lkp_n, lkp_c, lk_0, lk_s, ldI_s, ldR_s, ldL_s, incI_s, gfE_I, gfE_Z, gfE_R, pfE_I, pfE_Z, pfE_R, nwE_s, anE_0, anE_1, anE_4, kE_n, kE_s, ii_s, sw_iload_n, sw_iload, sw_aload_n, sw_aload, sw_lload_n, sw_lload, sw_istore_n, sw_istore, sw_astore_n, sw_astore, sw_lstore, sw_iinc, sw_iconst, sw_bipush, sw_sipush, sw_null, sw_ldc2, sw_dup, sw_dup2, sw_iadd, sw_isub, sw_imul, sw_iand, sw_ixor, sw_ishr, sw_iushr, sw_idiv, sw_irem, sw_land, sw_lor, sw_lcmp, sw_lshl, sw_lshr, sw_lushr, sw_i2l, sw_l2i, sw_i2b, sw_goto, sw_icmp_eq, sw_if_eq, sw_icmp_ne, sw_if_ne, sw_icmp_lt, sw_if_lt, sw_icmp_ge, sw_if_ge, sw_icmp_gt, sw_if_gt, sw_icmp_le, sw_if_le, sw_ifnull, sw_ifnonnull, sw_acmp, sw_get, sw_put, sw_iaload, sw_baload, sw_laload, sw_aaload, sw_alen, sw_iastore, sw_bastore, sw_lastore, sw_aastore, sw_aastoreN, sw_newa_byte, sw_newa_int, sw_newa_boolean, sw_newa_long, sw_anew, sw_new, sw_iv, sw_is, sw_ii, sw_ireturn, sw_areturn, sw_return, sw_table, cv_0, cv_1, cv_2, cv_3, cv_4, ci_0, ci_1, ci_2, ci_3, ci_4, cs_1, cs_2, cs_3, cs_4, ic_m1, ic_0, ic_1, ic_2, ic_3, ic_4, ic_5, ic_6, bp_6, bp_7, bp_8, bp_15, bp_16, bp_31, bp_32, bp_60, sp_250, sp_255, sp_4000, sp_5000, sp_15000, sp_32000, f4_0, f4_1, f4_2, f4_3, c_nat, rtm, rok_0, rok_1, rok_2, rok_3, okS_0, okS_s, okq_n, okq_i, okq_r, stW_n, stW_i, stW_r, stW_l, cat_i, cat_r, nox, nf_0, nf_1, nf_2, nf_3, nf_4, nf_5, nf_6, true_and, and_true, Nat.zero_le, Nat.reduceAdd, Nat.reduceLT, Nat.reduceLeDiff, Nat.reduceEqDiff, Int.reduceAdd, Int.reduceToNat, Int.reduceLE, reduceIte, List.length_cons, List.length_nil, List.set_cons_zero, List.set_cons_succ, Option.some.injEq, ne_eq, not_true, not_false_eq_true, false_or, or_false, true_or, or_true, false_and, and_false, true_implies, false_implies, implies_true, not_false_eq_true, Bool.false_eq_true, reduceCtorEq, dX6_isAble_0, dX6_isAble_1, dX6_isAble_4, dX6_isAble_5, dX6_isAble_6, dX6_isAble_7, dX6_isAble_10, dX6_isAble_11, dX6_isAble_12, dX6_isAble_15, dX6_isAble_16, dX6_isAble_17, dX6_isAble_20, dX6_isAble_23, dX6_isAble_24, dX6_isAble_27, dX6_isAble_28, ftX6_63, ftX6_60, rf, hR.1, hv, hR.a29, hR.k29, hR.n29, hR.g29, hR.a30, hR.k30, hR.n30, hR.g30, ite_zn, ite_zm, q_lt, q_le, q_eq, q_add, q_mul, q_sub, q_div, q_rem, q_in, q_cl, q_0l, q_sac, l_0, l_1, l_2, l_3, l_4, l_5, l_6, l_8, l_15, l_16, l_32, l_60, l_250, l_4000, l_5000, ct_X6_isAble]
    refine ⟨fun q2 => ?_, fun q2 => ?_⟩
    · rw [show abl S v = false by simp [abl]; omega] at h5; exact h5
    · rw [show abl S v = true by simp [abl]; omega] at h5; exact h5
/-- the first of i, i+1, .. (so many) of which p holds, or none -/
def ff (p : Nat → Bool) : Nat → Nat → Nat
  | _, 0 => NN
  | i, n + 1 => if p i = true then i else ff p (i + 1) n
theorem ff_t {p : Nat → Bool} {i n : Nat} (h : p i = true) : ff p i (n + 1) = i := by rw [ff, if_pos h]
theorem ff_f {p : Nat → Bool} {i n : Nat} (h : p i = false) : ff p i (n + 1) = ff p (i + 1) n := by rw [ff, if_neg (by rw [h]; decide)]
def wai (S : St) (v : Nat) : Bool := decide (S 30 v < S 29 v)
def beg (S : St) (v : Nat) : Bool := decide (S 30 v < S 29 v ∧ 0 < S 26 (4000 * v + S 30 v))
def T_X6_least : TT := fun av G Qr _ => ∃ m ar S, av = [rf m] ∧ RepM G m ar S ∧ WF S ∧ Qr (some (.inl (nI (ff (abl S) 0 (S 1 0))))) G
theorem mono_X6_least : TMono T_X6_least := fun av G Q1 Q2 Qx ⟨m, ar, S, h1, h3, h4, h5⟩ hq => ⟨m, ar, S, h1, h3, h4, hq _ _ h5⟩
def T_X6_begun : TT := fun av G Qr _ => ∃ m ar S, av = [rf m] ∧ RepM G m ar S ∧ WF S ∧ Qr (some (.inl (nI (ff (beg S) 0 (S 1 0))))) G
theorem mono_X6_begun : TMono T_X6_begun := fun av G Q1 Q2 Qx ⟨m, ar, S, h1, h3, h4, h5⟩ hq => ⟨m, ar, S, h1, h3, h4, hq _ _ h5⟩
def T_X6_doesWait : TT := fun av G Qr _ => ∃ m ar S, av = [rf m] ∧ RepM G m ar S ∧ WF S ∧ Qr (some (.inl (if ff (wai S) 0 (S 1 0) = NN then 0 else 1))) G
theorem mono_X6_doesWait : TMono T_X6_doesWait := fun av G Q1 Q2 Qx ⟨m, ar, S, h1, h3, h4, h5⟩ hq => ⟨m, ar, S, h1, h3, h4, hq _ _ h5⟩
def trn (S : St) (k : Nat) : Nat := if S 8 0 = NN then k - 1 else (S 8 0 + k) % S 1 0
def T_X6_byTurns : TT := fun av G Qr _ => ∃ m ar S, av = [rf m] ∧ RepM G m ar S ∧ WF S ∧ Qr (some (.inl (nI (let k := ff (fun k => abl S (trn S k)) 1 (S 1 0); if k = NN then NN else trn S k)))) G
theorem mono_X6_byTurns : TMono T_X6_byTurns := fun av G Q1 Q2 Qx ⟨m, ar, S, h1, h3, h4, h5⟩ hq => ⟨m, ar, S, h1, h3, h4, hq _ _ h5⟩
def rm_X6_least : Room := { frames := 2, cells := 0, slots := 0, locals := 42 }
def ct_X6_least : List (Nat × CS) := [(155, 6, 1, 0, 0, T_X6_isAble)]
set_option maxRecDepth 20000 in
set_option maxHeartbeats 4000000 in
theorem c_X6_least (l : Launch) : CM l yX6_least cX6_least 2 (some .int) rm_X6_least T_X6_least := by
  refine CM.ev (ft := ftX6) (nt := []) (ct := ct_X6_least) (oi := 0) (rt := 1) (ini := false) (by decide +kernel) (Or.inr (Or.inl ⟨rfl, rfl⟩)) ftX6_ok (fun q => by cases q) (fun x h => by cases h) (List.forall_mem_cons.mpr ⟨⟨mono_X6_isAble, yX6_isAble, cX6_isAble, 2, (some .boolean), rm_X6_isAble, c_X6_isAble l, mi_X6_isAble, rfl, rfl, ⟨by decide, by decide⟩, fun _ => ⟨mv_X6_isAble, lnkX6_155, rfl⟩, fun q => absurd q (by decide), fun q => absurd q (by decide), fun q => absurd q (by decide)⟩, fun x h => by cases h⟩) (fun q => absurd rfl q) ?_
  intro av G Qr Qx hT
  obtain ⟨m, ar, S, rfl, hR, hW, h5⟩ := hT
  have w0 := hW.1.2.2.2.2.2.2.2.2.1
  have w1 := hW.1.1
  have w2 := hW.1.2.1
  refine ⟨Nat.le_of_ble_eq_true rfl, fun J hJ => ?_⟩
  have loop : ∀ (d i : Nat), i + d = S 1 0 → Qr (some (.inl (nI (ff (abl S) i d)))) G → J 2 [some (rf m), some (.inl (nI i))] [] G 0 0 := by
    intro d
    induction d with
    | zero =>
      intro i hi hq
      refine hJ [] 60 2 [some (rf m), some (.inl (nI i))] [] G 0 0 (fun x h => by cases h) ?_
      simp (disch := omega) only [wpf_s, wpA_s, wq_c, wq_n, lkp_n, lkp_c, lk_0, lk_s, ldI_s, ldR_s, ldL_s, incI_s, gfE_I, gfE_Z, gfE_R, pfE_I, pfE_Z, pfE_R, nwE_s, anE_0, anE_1, anE_4, kE_n, kE_s, ii_s, sw_iload_n, sw_iload, sw_aload_n, sw_aload, sw_lload_n, sw_lload, sw_istore_n, sw_istore, sw_astore_n, sw_astore, sw_lstore, sw_iinc, sw_iconst, sw_bipush, sw_sipush, sw_null, sw_ldc2, sw_dup, sw_dup2, sw_iadd, sw_isub, sw_imul, sw_iand, sw_ixor, sw_ishr, sw_iushr, sw_idiv, sw_irem, sw_land, sw_lor, sw_lcmp, sw_lshl, sw_lshr, sw_lushr, sw_i2l, sw_l2i, sw_i2b, sw_goto, sw_icmp_eq, sw_if_eq, sw_icmp_ne, sw_if_ne, sw_icmp_lt, sw_if_lt, sw_icmp_ge, sw_if_ge, sw_icmp_gt, sw_if_gt, sw_icmp_le, sw_if_le, sw_ifnull, sw_ifnonnull, sw_acmp, sw_get, sw_put, sw_iaload, sw_baload, sw_laload, sw_aaload, sw_alen, sw_iastore, sw_bastore, sw_lastore, sw_aastore, sw_aastoreN, sw_newa_byte, sw_newa_int, sw_newa_boolean, sw_newa_long, sw_anew, sw_new, sw_iv, sw_is, sw_ii, sw_ireturn, sw_areturn, sw_return, sw_table, cv_0, cv_1, cv_2, cv_3, cv_4, ci_0, ci_1, ci_2, ci_3, ci_4, cs_1, cs_2, cs_3, cs_4, ic_m1, ic_0, ic_1, ic_2, ic_3, ic_4, ic_5, ic_6, bp_6, bp_7, bp_8, bp_15, bp_16, bp_31, bp_32, bp_60, sp_250, sp_255, sp_4000, sp_5000, sp_15000, sp_32000, f4_0, f4_1, f4_2, f4_3, c_nat, rtm, rok_0, rok_1, rok_2, rok_3, okS_0, okS_s, okq_n, okq_i, okq_r, stW_n, stW_i, stW_r, stW_l, cat_i, cat_r, nox, nf_0, nf_1, nf_2, nf_3, nf_4, nf_5, nf_6, true_and, and_true, Nat.zero_le, Nat.reduceAdd, Nat.reduceLT, Nat.reduceLeDiff, Nat.reduceEqDiff, Int.reduceAdd, Int.reduceToNat, Int.reduceLE, reduceIte, List.length_cons, List.length_nil, List.set_cons_zero, List.set_cons_succ, Option.some.injEq, ne_eq, not_true, not_false_eq_true, false_or, or_false, true_or, or_true, false_and, and_false, true_implies, false_implies, implies_true, not_false_eq_true, Bool.false_eq_true, reduceCtorEq, dX6_least_0, dX6_least_1, dX6_least_2, dX6_least_3, dX6_least_4, dX6_least_7, dX6_least_10, dX6_least_11, dX6_least_12, dX6_least_15, dX6_least_18, dX6_least_19, dX6_least_20, dX6_least_23, dX6_least_26, dX6_least_27, ftX6_96, rf, hR.1, hR.s1, ite_zn, ite_zm, q_lt, q_le, q_eq, q_add, q_mul, q_sub, q_div, q_rem, q_in, q_cl, q_0l, q_sac, l_0, l_1, l_2, l_3, l_4, l_5, l_6, l_8, l_15, l_16, l_32, l_60, l_250, l_4000, l_5000, ct_X6_least]
      refine ⟨fun q => ?_, fun q => ?_⟩
      · exact hq
      · omega
    | succ d ih =>
      intro i hi hq
      have hi8 : i < 8 := by omega
      have hn : i < S 1 0 := by omega
      have hc := hW.2.1 i hi8
      unfold Wc at hc
      refine hJ [(2, J 2)] 60 2 [some (rf m), some (.inl (nI i))] [] G 0 0 (fun x h ls st G k n q => by cases h with | head => exact q | tail _ h => cases h) ?_
      simp (disch := omega) only [wpf_s, wpA_s, wq_c, wq_n, lkp_n, lkp_c, lk_0, lk_s, ldI_s, ldR_s, ldL_s, incI_s, gfE_I, gfE_Z, gfE_R, pfE_I, pfE_Z, pfE_R, nwE_s, anE_0, anE_1, anE_4, kE_n, kE_s, ii_s, sw_iload_n, sw_iload, sw_aload_n, sw_aload, sw_lload_n, sw_lload, sw_istore_n, sw_istore, sw_astore_n, sw_astore, sw_lstore, sw_iinc, sw_iconst, sw_bipush, sw_sipush, sw_null, sw_ldc2, sw_dup, sw_dup2, sw_iadd, sw_isub, sw_imul, sw_iand, sw_ixor, sw_ishr, sw_iushr, sw_idiv, sw_irem, sw_land, sw_lor, sw_lcmp, sw_lshl, sw_lshr, sw_lushr, sw_i2l, sw_l2i, sw_i2b, sw_goto, sw_icmp_eq, sw_if_eq, sw_icmp_ne, sw_if_ne, sw_icmp_lt, sw_if_lt, sw_icmp_ge, sw_if_ge, sw_icmp_gt, sw_if_gt, sw_icmp_le, sw_if_le, sw_ifnull, sw_ifnonnull, sw_acmp, sw_get, sw_put, sw_iaload, sw_baload, sw_laload, sw_aaload, sw_alen, sw_iastore, sw_bastore, sw_lastore, sw_aastore, sw_aastoreN, sw_newa_byte, sw_newa_int, sw_newa_boolean, sw_newa_long, sw_anew, sw_new, sw_iv, sw_is, sw_ii, sw_ireturn, sw_areturn, sw_return, sw_table, cv_0, cv_1, cv_2, cv_3, cv_4, ci_0, ci_1, ci_2, ci_3, ci_4, cs_1, cs_2, cs_3, cs_4, ic_m1, ic_0, ic_1, ic_2, ic_3, ic_4, ic_5, ic_6, bp_6, bp_7, bp_8, bp_15, bp_16, bp_31, bp_32, bp_60, sp_250, sp_255, sp_4000, sp_5000, sp_15000, sp_32000, f4_0, f4_1, f4_2, f4_3, c_nat, rtm, rok_0, rok_1, rok_2, rok_3, okS_0, okS_s, okq_n, okq_i, okq_r, stW_n, stW_i, stW_r, stW_l, cat_i, cat_r, nox, nf_0, nf_1, nf_2, nf_3, nf_4, nf_5, nf_6, true_and, and_true, Nat.zero_le, Nat.reduceAdd, Nat.reduceLT, Nat.reduceLeDiff, Nat.reduceEqDiff, Int.reduceAdd, Int.reduceToNat, Int.reduceLE, reduceIte, List.length_cons, List.length_nil, List.set_cons_zero, List.set_cons_succ, Option.some.injEq, ne_eq, not_true, not_false_eq_true, false_or, or_false, true_or, or_true, false_and, and_false, true_implies, false_implies, implies_true, not_false_eq_true, Bool.false_eq_true, reduceCtorEq, dX6_least_0, dX6_least_1, dX6_least_2, dX6_least_3, dX6_least_4, dX6_least_7, dX6_least_10, dX6_least_11, dX6_least_12, dX6_least_15, dX6_least_18, dX6_least_19, dX6_least_20, dX6_least_23, dX6_least_26, dX6_least_27, ftX6_96, rf, hR.1, hR.s1, ite_zn, ite_zm, q_lt, q_le, q_eq, q_add, q_mul, q_sub, q_div, q_rem, q_in, q_cl, q_0l, q_sac, l_0, l_1, l_2, l_3, l_4, l_5, l_6, l_8, l_15, l_16, l_32, l_60, l_250, l_4000, l_5000, ct_X6_least]
      refine ⟨fun q => by omega, fun _ => ⟨m, ar, S, i, rfl, hi8, hR, hW, ?_⟩⟩
      simp (disch := omega) only [wpf_s, wpA_s, wq_c, wq_n, lkp_n, lkp_c, lk_0, lk_s, ldI_s, ldR_s, ldL_s, incI_s, gfE_I, gfE_Z, gfE_R, pfE_I, pfE_Z, pfE_R, nwE_s, anE_0, anE_1, anE_4, kE_n, kE_s, ii_s, sw_iload_n, sw_iload, sw_aload_n, sw_aload, sw_lload_n, sw_lload, sw_istore_n, sw_istore, sw_astore_n, sw_astore, sw_lstore, sw_iinc, sw_iconst, sw_bipush, sw_sipush, sw_null, sw_ldc2, sw_dup, sw_dup2, sw_iadd, sw_isub, sw_imul, sw_iand, sw_ixor, sw_ishr, sw_iushr, sw_idiv, sw_irem, sw_land, sw_lor, sw_lcmp, sw_lshl, sw_lshr, sw_lushr, sw_i2l, sw_l2i, sw_i2b, sw_goto, sw_icmp_eq, sw_if_eq, sw_icmp_ne, sw_if_ne, sw_icmp_lt, sw_if_lt, sw_icmp_ge, sw_if_ge, sw_icmp_gt, sw_if_gt, sw_icmp_le, sw_if_le, sw_ifnull, sw_ifnonnull, sw_acmp, sw_get, sw_put, sw_iaload, sw_baload, sw_laload, sw_aaload, sw_alen, sw_iastore, sw_bastore, sw_lastore, sw_aastore, sw_aastoreN, sw_newa_byte, sw_newa_int, sw_newa_boolean, sw_newa_long, sw_anew, sw_new, sw_iv, sw_is, sw_ii, sw_ireturn, sw_areturn, sw_return, sw_table, cv_0, cv_1, cv_2, cv_3, cv_4, ci_0, ci_1, ci_2, ci_3, ci_4, cs_1, cs_2, cs_3, cs_4, ic_m1, ic_0, ic_1, ic_2, ic_3, ic_4, ic_5, ic_6, bp_6, bp_7, bp_8, bp_15, bp_16, bp_31, bp_32, bp_60, sp_250, sp_255, sp_4000, sp_5000, sp_15000, sp_32000, f4_0, f4_1, f4_2, f4_3, c_nat, rtm, rok_0, rok_1, rok_2, rok_3, okS_0, okS_s, okq_n, okq_i, okq_r, stW_n, stW_i, stW_r, stW_l, cat_i, cat_r, nox, nf_0, nf_1, nf_2, nf_3, nf_4, nf_5, nf_6, true_and, and_true, Nat.zero_le, Nat.reduceAdd, Nat.reduceLT, Nat.reduceLeDiff, Nat.reduceEqDiff, Int.reduceAdd, Int.reduceToNat, Int.reduceLE, reduceIte, List.length_cons, List.length_nil, List.set_cons_zero, List.set_cons_succ, Option.some.injEq, ne_eq, not_true, not_false_eq_true, false_or, or_false, true_or, or_true, false_and, and_false, true_implies, false_implies, implies_true, not_false_eq_true, Bool.false_eq_true, reduceCtorEq, dX6_least_0, dX6_least_1, dX6_least_2, dX6_least_3, dX6_least_4, dX6_least_7, dX6_least_10, dX6_least_11, dX6_least_12, dX6_least_15, dX6_least_18, dX6_least_19, dX6_least_20, dX6_least_23, dX6_least_26, dX6_least_27, ftX6_96, rf, hR.1, hR.s1, ite_z, ite_zn, ite_zm, q_lt, q_le, q_eq, q_add, q_mul, q_sub, q_div, q_rem, q_in, q_cl, q_0l, q_sac, l_0, l_1, l_2, l_3, l_4, l_5, l_6, l_8, l_15, l_16, l_32, l_60, l_250, l_4000, l_5000, ct_X6_least]
      refine ⟨fun q => ?_, fun q => ?_⟩
      · exact ih (i + 1) (by omega) (by rw [ff, if_neg q] at hq; exact hq)
      · rw [ff, if_pos (Decidable.not_not.mp q)] at hq; exact hq
  refine hJ [(2, J 2)] 60 0 [some (rf m), none] [] G 0 0 (fun x h ls st G k n q => by cases h with | head => exact q | tail _ h => cases h) ?_
  simp (disch := omega) only [wpf_s, wpA_s, wq_c, wq_n, lkp_n, lkp_c, lk_0, lk_s, ldI_s, ldR_s, ldL_s, incI_s, gfE_I, gfE_Z, gfE_R, pfE_I, pfE_Z, pfE_R, nwE_s, anE_0, anE_1, anE_4, kE_n, kE_s, ii_s, sw_iload_n, sw_iload, sw_aload_n, sw_aload, sw_lload_n, sw_lload, sw_istore_n, sw_istore, sw_astore_n, sw_astore, sw_lstore, sw_iinc, sw_iconst, sw_bipush, sw_sipush, sw_null, sw_ldc2, sw_dup, sw_dup2, sw_iadd, sw_isub, sw_imul, sw_iand, sw_ixor, sw_ishr, sw_iushr, sw_idiv, sw_irem, sw_land, sw_lor, sw_lcmp, sw_lshl, sw_lshr, sw_lushr, sw_i2l, sw_l2i, sw_i2b, sw_goto, sw_icmp_eq, sw_if_eq, sw_icmp_ne, sw_if_ne, sw_icmp_lt, sw_if_lt, sw_icmp_ge, sw_if_ge, sw_icmp_gt, sw_if_gt, sw_icmp_le, sw_if_le, sw_ifnull, sw_ifnonnull, sw_acmp, sw_get, sw_put, sw_iaload, sw_baload, sw_laload, sw_aaload, sw_alen, sw_iastore, sw_bastore, sw_lastore, sw_aastore, sw_aastoreN, sw_newa_byte, sw_newa_int, sw_newa_boolean, sw_newa_long, sw_anew, sw_new, sw_iv, sw_is, sw_ii, sw_ireturn, sw_areturn, sw_return, sw_table, cv_0, cv_1, cv_2, cv_3, cv_4, ci_0, ci_1, ci_2, ci_3, ci_4, cs_1, cs_2, cs_3, cs_4, ic_m1, ic_0, ic_1, ic_2, ic_3, ic_4, ic_5, ic_6, bp_6, bp_7, bp_8, bp_15, bp_16, bp_31, bp_32, bp_60, sp_250, sp_255, sp_4000, sp_5000, sp_15000, sp_32000, f4_0, f4_1, f4_2, f4_3, c_nat, rtm, rok_0, rok_1, rok_2, rok_3, okS_0, okS_s, okq_n, okq_i, okq_r, stW_n, stW_i, stW_r, stW_l, cat_i, cat_r, nox, nf_0, nf_1, nf_2, nf_3, nf_4, nf_5, nf_6, true_and, and_true, Nat.zero_le, Nat.reduceAdd, Nat.reduceLT, Nat.reduceLeDiff, Nat.reduceEqDiff, Int.reduceAdd, Int.reduceToNat, Int.reduceLE, reduceIte, List.length_cons, List.length_nil, List.set_cons_zero, List.set_cons_succ, Option.some.injEq, ne_eq, not_true, not_false_eq_true, false_or, or_false, true_or, or_true, false_and, and_false, true_implies, false_implies, implies_true, not_false_eq_true, Bool.false_eq_true, reduceCtorEq, dX6_least_0, dX6_least_1, dX6_least_2, dX6_least_3, dX6_least_4, dX6_least_7, dX6_least_10, dX6_least_11, dX6_least_12, dX6_least_15, dX6_least_18, dX6_least_19, dX6_least_20, dX6_least_23, dX6_least_26, dX6_least_27, ftX6_96, rf, ite_zn, ite_zm, q_lt, q_le, q_eq, q_add, q_mul, q_sub, q_div, q_rem, q_in, q_cl, q_0l, q_sac, l_0, l_1, l_2, l_3, l_4, l_5, l_6, l_8, l_15, l_16, l_32, l_60, l_250, l_4000, l_5000, ct_X6_least]
  exact loop (S 1 0) 0 (by omega) h5
def rm_X6_doesWait : Room := { frames := 0, cells := 0, slots := 0, locals := 0 }
def ct_X6_doesWait : List (Nat × CS) := []
set_option maxRecDepth 20000 in
set_option maxHeartbeats 4000000 in
theorem c_X6_doesWait (l : Launch) : CM l yX6_doesWait cX6_doesWait 2 (some .boolean) rm_X6_doesWait T_X6_doesWait := by
  refine CM.ev (ft := ftX6) (nt := []) (ct := ct_X6_doesWait) (oi := 0) (rt := 2) (ini := false) (by decide +kernel) (Or.inr (Or.inr (Or.inl ⟨rfl, rfl⟩))) ftX6_ok (fun q => by cases q) (fun x h => by cases h) (fun x h => by cases h) (fun q => absurd rfl q) ?_
  intro av G Qr Qx hT
  obtain ⟨m, ar, S, rfl, hR, hW, h5⟩ := hT
  have w0 := hW.1.2.2.2.2.2.2.2.2.1
  have w1 := hW.1.1
  have w2 := hW.1.2.1
  refine ⟨Nat.le_of_ble_eq_true rfl, fun J hJ => ?_⟩
  have loop : ∀ (d i : Nat), i + d = S 1 0 → Qr (some (.inl (if ff (wai S) i d = NN then 0 else 1))) G → J 2 [some (rf m), some (.inl (nI i))] [] G 0 0 := by
    intro d
    induction d with
    | zero =>
      intro i hi hq
      refine hJ [] 60 2 [some (rf m), some (.inl (nI i))] [] G 0 0 (fun x h => by cases h) ?_
      simp (disch := omega) only [wpf_s, wpA_s, wq_c, wq_n, lkp_n, lkp_c, lk_0, lk_s, ldI_s, ldR_s, ldL_s, incI_s, gfE_I, gfE_Z, gfE_R, pfE_I, pfE_Z, pfE_R, nwE_s, anE_0, anE_1, anE_4, kE_n, kE_s, ii_s, sw_iload_n, sw_iload, sw_aload_n, sw_aload, sw_lload_n, sw_lload, sw_istore_n, sw_istore, sw_astore_n, sw_astore, sw_lstore, sw_iinc, sw_iconst, sw_bipush, sw_sipush, sw_null, sw_ldc2, sw_dup, sw_dup2, sw_iadd, sw_isub, sw_imul, sw_iand, sw_ixor, sw_ishr, sw_iushr, sw_idiv, sw_irem, sw_land, sw_lor, sw_lcmp, sw_lshl, sw_lshr, sw_lushr, sw_i2l, sw_l2i, sw_i2b, sw_goto, sw_icmp_eq, sw_if_eq, sw_icmp_ne, sw_if_ne, sw_icmp_lt, sw_if_lt, sw_icmp_ge, sw_if_ge, sw_icmp_gt, sw_if_gt, sw_icmp_le, sw_if_le, sw_ifnull, sw_ifnonnull, sw_acmp, sw_get, sw_put, sw_iaload, sw_baload, sw_laload, sw_aaload, sw_alen, sw_iastore, sw_bastore, sw_lastore, sw_aastore, sw_aastoreN, sw_newa_byte, sw_newa_int, sw_newa_boolean, sw_newa_long, sw_anew, sw_new, sw_iv, sw_is, sw_ii, sw_ireturn, sw_areturn, sw_return, sw_table, cv_0, cv_1, cv_2, cv_3, cv_4, ci_0, ci_1, ci_2, ci_3, ci_4, cs_1, cs_2, cs_3, cs_4, ic_m1, ic_0, ic_1, ic_2, ic_3, ic_4, ic_5, ic_6, bp_6, bp_7, bp_8, bp_15, bp_16, bp_31, bp_32, bp_60, sp_250, sp_255, sp_4000, sp_5000, sp_15000, sp_32000, f4_0, f4_1, f4_2, f4_3, c_nat, rtm, rok_0, rok_1, rok_2, rok_3, okS_0, okS_s, okq_n, okq_i, okq_r, stW_n, stW_i, stW_r, stW_l, cat_i, cat_r, nox, nf_0, nf_1, nf_2, nf_3, nf_4, nf_5, nf_6, true_and, and_true, Nat.zero_le, Nat.reduceAdd, Nat.reduceLT, Nat.reduceLeDiff, Nat.reduceEqDiff, Int.reduceAdd, Int.reduceToNat, Int.reduceLE, reduceIte, List.length_cons, List.length_nil, List.set_cons_zero, List.set_cons_succ, Option.some.injEq, ne_eq, not_true, not_false_eq_true, false_or, or_false, true_or, or_true, false_and, and_false, true_implies, false_implies, implies_true, not_false_eq_true, Bool.false_eq_true, reduceCtorEq, dX6_doesWait_0, dX6_doesWait_1, dX6_doesWait_2, dX6_doesWait_3, dX6_doesWait_4, dX6_doesWait_7, dX6_doesWait_10, dX6_doesWait_11, dX6_doesWait_14, dX6_doesWait_15, dX6_doesWait_16, dX6_doesWait_17, dX6_doesWait_20, dX6_doesWait_21, dX6_doesWait_22, dX6_doesWait_25, dX6_doesWait_26, dX6_doesWait_27, dX6_doesWait_30, dX6_doesWait_33, dX6_doesWait_34, ftX6_96, ftX6_63, ftX6_60, rf, hR.1, hR.s1, ite_zn, ite_zm, q_lt, q_le, q_eq, q_add, q_mul, q_sub, q_div, q_rem, q_in, q_cl, q_0l, q_sac, l_0, l_1, l_2, l_3, l_4, l_5, l_6, l_8, l_15, l_16, l_32, l_60, l_250, l_4000, l_5000, ct_X6_doesWait]
      refine ⟨fun q => ?_, fun q => ?_⟩
      · exact hq
      · omega
    | succ d ih =>
      intro i hi hq
      have hi8 : i < 8 := by omega
      have hn : i < S 1 0 := by omega
      have hc := hW.2.1 i hi8
      unfold Wc at hc
      refine hJ [(2, J 2)] 60 2 [some (rf m), some (.inl (nI i))] [] G 0 0 (fun x h ls st G k n q => by cases h with | head => exact q | tail _ h => cases h) ?_
      simp (disch := omega) only [wpf_s, wpA_s, wq_c, wq_n, lkp_n, lkp_c, lk_0, lk_s, ldI_s, ldR_s, ldL_s, incI_s, gfE_I, gfE_Z, gfE_R, pfE_I, pfE_Z, pfE_R, nwE_s, anE_0, anE_1, anE_4, kE_n, kE_s, ii_s, sw_iload_n, sw_iload, sw_aload_n, sw_aload, sw_lload_n, sw_lload, sw_istore_n, sw_istore, sw_astore_n, sw_astore, sw_lstore, sw_iinc, sw_iconst, sw_bipush, sw_sipush, sw_null, sw_ldc2, sw_dup, sw_dup2, sw_iadd, sw_isub, sw_imul, sw_iand, sw_ixor, sw_ishr, sw_iushr, sw_idiv, sw_irem, sw_land, sw_lor, sw_lcmp, sw_lshl, sw_lshr, sw_lushr, sw_i2l, sw_l2i, sw_i2b, sw_goto, sw_icmp_eq, sw_if_eq, sw_icmp_ne, sw_if_ne, sw_icmp_lt, sw_if_lt, sw_icmp_ge, sw_if_ge, sw_icmp_gt, sw_if_gt, sw_icmp_le, sw_if_le, sw_ifnull, sw_ifnonnull, sw_acmp, sw_get, sw_put, sw_iaload, sw_baload, sw_laload, sw_aaload, sw_alen, sw_iastore, sw_bastore, sw_lastore, sw_aastore, sw_aastoreN, sw_newa_byte, sw_newa_int, sw_newa_boolean, sw_newa_long, sw_anew, sw_new, sw_iv, sw_is, sw_ii, sw_ireturn, sw_areturn, sw_return, sw_table, cv_0, cv_1, cv_2, cv_3, cv_4, ci_0, ci_1, ci_2, ci_3, ci_4, cs_1, cs_2, cs_3, cs_4, ic_m1, ic_0, ic_1, ic_2, ic_3, ic_4, ic_5, ic_6, bp_6, bp_7, bp_8, bp_15, bp_16, bp_31, bp_32, bp_60, sp_250, sp_255, sp_4000, sp_5000, sp_15000, sp_32000, f4_0, f4_1, f4_2, f4_3, c_nat, rtm, rok_0, rok_1, rok_2, rok_3, okS_0, okS_s, okq_n, okq_i, okq_r, stW_n, stW_i, stW_r, stW_l, cat_i, cat_r, nox, nf_0, nf_1, nf_2, nf_3, nf_4, nf_5, nf_6, true_and, and_true, Nat.zero_le, Nat.reduceAdd, Nat.reduceLT, Nat.reduceLeDiff, Nat.reduceEqDiff, Int.reduceAdd, Int.reduceToNat, Int.reduceLE, reduceIte, List.length_cons, List.length_nil, List.set_cons_zero, List.set_cons_succ, Option.some.injEq, ne_eq, not_true, not_false_eq_true, false_or, or_false, true_or, or_true, false_and, and_false, true_implies, false_implies, implies_true, not_false_eq_true, Bool.false_eq_true, reduceCtorEq, dX6_doesWait_0, dX6_doesWait_1, dX6_doesWait_2, dX6_doesWait_3, dX6_doesWait_4, dX6_doesWait_7, dX6_doesWait_10, dX6_doesWait_11, dX6_doesWait_14, dX6_doesWait_15, dX6_doesWait_16, dX6_doesWait_17, dX6_doesWait_20, dX6_doesWait_21, dX6_doesWait_22, dX6_doesWait_25, dX6_doesWait_26, dX6_doesWait_27, dX6_doesWait_30, dX6_doesWait_33, dX6_doesWait_34, ftX6_96, ftX6_63, ftX6_60, rf, hR.1, hR.s1, hi8, hR.a29, hR.k29, hR.n29, hR.g29, hR.a30, hR.k30, hR.n30, hR.g30, ite_zn, ite_zm, q_lt, q_le, q_eq, q_add, q_mul, q_sub, q_div, q_rem, q_in, q_cl, q_0l, q_sac, l_0, l_1, l_2, l_3, l_4, l_5, l_6, l_8, l_15, l_16, l_32, l_60, l_250, l_4000, l_5000, ct_X6_doesWait]
      refine ⟨fun q => by omega, fun _ => ⟨fun q => ?_, fun q => ?_⟩⟩
      · exact ih (i + 1) (by omega) (by rw [ff_f (by simp [wai]; omega)] at hq; exact hq)
      · rw [ff_t (by simp [wai]; omega), if_neg (show ¬ i = NN by unfold NN; omega)] at hq; exact hq
  refine hJ [(2, J 2)] 60 0 [some (rf m), none] [] G 0 0 (fun x h ls st G k n q => by cases h with | head => exact q | tail _ h => cases h) ?_
  simp (disch := omega) only [wpf_s, wpA_s, wq_c, wq_n, lkp_n, lkp_c, lk_0, lk_s, ldI_s, ldR_s, ldL_s, incI_s, gfE_I, gfE_Z, gfE_R, pfE_I, pfE_Z, pfE_R, nwE_s, anE_0, anE_1, anE_4, kE_n, kE_s, ii_s, sw_iload_n, sw_iload, sw_aload_n, sw_aload, sw_lload_n, sw_lload, sw_istore_n, sw_istore, sw_astore_n, sw_astore, sw_lstore, sw_iinc, sw_iconst, sw_bipush, sw_sipush, sw_null, sw_ldc2, sw_dup, sw_dup2, sw_iadd, sw_isub, sw_imul, sw_iand, sw_ixor, sw_ishr, sw_iushr, sw_idiv, sw_irem, sw_land, sw_lor, sw_lcmp, sw_lshl, sw_lshr, sw_lushr, sw_i2l, sw_l2i, sw_i2b, sw_goto, sw_icmp_eq, sw_if_eq, sw_icmp_ne, sw_if_ne, sw_icmp_lt, sw_if_lt, sw_icmp_ge, sw_if_ge, sw_icmp_gt, sw_if_gt, sw_icmp_le, sw_if_le, sw_ifnull, sw_ifnonnull, sw_acmp, sw_get, sw_put, sw_iaload, sw_baload, sw_laload, sw_aaload, sw_alen, sw_iastore, sw_bastore, sw_lastore, sw_aastore, sw_aastoreN, sw_newa_byte, sw_newa_int, sw_newa_boolean, sw_newa_long, sw_anew, sw_new, sw_iv, sw_is, sw_ii, sw_ireturn, sw_areturn, sw_return, sw_table, cv_0, cv_1, cv_2, cv_3, cv_4, ci_0, ci_1, ci_2, ci_3, ci_4, cs_1, cs_2, cs_3, cs_4, ic_m1, ic_0, ic_1, ic_2, ic_3, ic_4, ic_5, ic_6, bp_6, bp_7, bp_8, bp_15, bp_16, bp_31, bp_32, bp_60, sp_250, sp_255, sp_4000, sp_5000, sp_15000, sp_32000, f4_0, f4_1, f4_2, f4_3, c_nat, rtm, rok_0, rok_1, rok_2, rok_3, okS_0, okS_s, okq_n, okq_i, okq_r, stW_n, stW_i, stW_r, stW_l, cat_i, cat_r, nox, nf_0, nf_1, nf_2, nf_3, nf_4, nf_5, nf_6, true_and, and_true, Nat.zero_le, Nat.reduceAdd, Nat.reduceLT, Nat.reduceLeDiff, Nat.reduceEqDiff, Int.reduceAdd, Int.reduceToNat, Int.reduceLE, reduceIte, List.length_cons, List.length_nil, List.set_cons_zero, List.set_cons_succ, Option.some.injEq, ne_eq, not_true, not_false_eq_true, false_or, or_false, true_or, or_true, false_and, and_false, true_implies, false_implies, implies_true, not_false_eq_true, Bool.false_eq_true, reduceCtorEq, dX6_doesWait_0, dX6_doesWait_1, dX6_doesWait_2, dX6_doesWait_3, dX6_doesWait_4, dX6_doesWait_7, dX6_doesWait_10, dX6_doesWait_11, dX6_doesWait_14, dX6_doesWait_15, dX6_doesWait_16, dX6_doesWait_17, dX6_doesWait_20, dX6_doesWait_21, dX6_doesWait_22, dX6_doesWait_25, dX6_doesWait_26, dX6_doesWait_27, dX6_doesWait_30, dX6_doesWait_33, dX6_doesWait_34, ftX6_96, ftX6_63, ftX6_60, rf, ite_zn, ite_zm, q_lt, q_le, q_eq, q_add, q_mul, q_sub, q_div, q_rem, q_in, q_cl, q_0l, q_sac, l_0, l_1, l_2, l_3, l_4, l_5, l_6, l_8, l_15, l_16, l_32, l_60, l_250, l_4000, l_5000, ct_X6_doesWait]
  exact loop (S 1 0) 0 (by omega) h5
def rm_X6_begun : Room := { frames := 0, cells := 0, slots := 0, locals := 0 }
def ct_X6_begun : List (Nat × CS) := []
set_option maxRecDepth 20000 in
set_option maxHeartbeats 4000000 in
theorem c_X6_begun (l : Launch) : CM l yX6_begun cX6_begun 2 (some .int) rm_X6_begun T_X6_begun := by
  refine CM.ev (ft := ftX6) (nt := []) (ct := ct_X6_begun) (oi := 0) (rt := 1) (ini := false) (by decide +kernel) (Or.inr (Or.inl ⟨rfl, rfl⟩)) ftX6_ok (fun q => by cases q) (fun x h => by cases h) (fun x h => by cases h) (fun q => absurd rfl q) ?_
  intro av G Qr Qx hT
  obtain ⟨m, ar, S, rfl, hR, hW, h5⟩ := hT
  have w0 := hW.1.2.2.2.2.2.2.2.2.1
  have w1 := hW.1.1
  have w2 := hW.1.2.1
  refine ⟨Nat.le_of_ble_eq_true rfl, fun J hJ => ?_⟩
  have loop : ∀ (d i : Nat), i + d = S 1 0 → Qr (some (.inl (nI (ff (beg S) i d)))) G → J 2 [some (rf m), some (.inl (nI i))] [] G 0 0 := by
    intro d
    induction d with
    | zero =>
      intro i hi hq
      refine hJ [] 60 2 [some (rf m), some (.inl (nI i))] [] G 0 0 (fun x h => by cases h) ?_
      simp (disch := omega) only [wpf_s, wpA_s, wq_c, wq_n, lkp_n, lkp_c, lk_0, lk_s, ldI_s, ldR_s, ldL_s, incI_s, gfE_I, gfE_Z, gfE_R, pfE_I, pfE_Z, pfE_R, nwE_s, anE_0, anE_1, anE_4, kE_n, kE_s, ii_s, sw_iload_n, sw_iload, sw_aload_n, sw_aload, sw_lload_n, sw_lload, sw_istore_n, sw_istore, sw_astore_n, sw_astore, sw_lstore, sw_iinc, sw_iconst, sw_bipush, sw_sipush, sw_null, sw_ldc2, sw_dup, sw_dup2, sw_iadd, sw_isub, sw_imul, sw_iand, sw_ixor, sw_ishr, sw_iushr, sw_idiv, sw_irem, sw_land, sw_lor, sw_lcmp, sw_lshl, sw_lshr, sw_lushr, sw_i2l, sw_l2i, sw_i2b, sw_goto, sw_icmp_eq, sw_if_eq, sw_icmp_ne, sw_if_ne, sw_icmp_lt, sw_if_lt, sw_icmp_ge, sw_if_ge, sw_icmp_gt, sw_if_gt, sw_icmp_le, sw_if_le, sw_ifnull, sw_ifnonnull, sw_acmp, sw_get, sw_put, sw_iaload, sw_baload, sw_laload, sw_aaload, sw_alen, sw_iastore, sw_bastore, sw_lastore, sw_aastore, sw_aastoreN, sw_newa_byte, sw_newa_int, sw_newa_boolean, sw_newa_long, sw_anew, sw_new, sw_iv, sw_is, sw_ii, sw_ireturn, sw_areturn, sw_return, sw_table, cv_0, cv_1, cv_2, cv_3, cv_4, ci_0, ci_1, ci_2, ci_3, ci_4, cs_1, cs_2, cs_3, cs_4, ic_m1, ic_0, ic_1, ic_2, ic_3, ic_4, ic_5, ic_6, bp_6, bp_7, bp_8, bp_15, bp_16, bp_31, bp_32, bp_60, sp_250, sp_255, sp_4000, sp_5000, sp_15000, sp_32000, f4_0, f4_1, f4_2, f4_3, c_nat, rtm, rok_0, rok_1, rok_2, rok_3, okS_0, okS_s, okq_n, okq_i, okq_r, stW_n, stW_i, stW_r, stW_l, cat_i, cat_r, nox, nf_0, nf_1, nf_2, nf_3, nf_4, nf_5, nf_6, true_and, and_true, Nat.zero_le, Nat.reduceAdd, Nat.reduceLT, Nat.reduceLeDiff, Nat.reduceEqDiff, Int.reduceAdd, Int.reduceToNat, Int.reduceLE, reduceIte, List.length_cons, List.length_nil, List.set_cons_zero, List.set_cons_succ, Option.some.injEq, ne_eq, not_true, not_false_eq_true, false_or, or_false, true_or, or_true, false_and, and_false, true_implies, false_implies, implies_true, not_false_eq_true, Bool.false_eq_true, reduceCtorEq, dX6_begun_0, dX6_begun_1, dX6_begun_2, dX6_begun_3, dX6_begun_4, dX6_begun_7, dX6_begun_10, dX6_begun_11, dX6_begun_14, dX6_begun_15, dX6_begun_16, dX6_begun_17, dX6_begun_20, dX6_begun_21, dX6_begun_22, dX6_begun_25, dX6_begun_26, dX6_begun_29, dX6_begun_32, dX6_begun_33, dX6_begun_34, dX6_begun_35, dX6_begun_38, dX6_begun_39, dX6_begun_40, dX6_begun_41, dX6_begun_42, dX6_begun_45, dX6_begun_46, dX6_begun_47, dX6_begun_50, dX6_begun_53, dX6_begun_54, ftX6_96, ftX6_63, ftX6_60, ftX6_51, rf, hR.1, hR.s1, ite_zn, ite_zm, q_lt, q_le, q_eq, q_add, q_mul, q_sub, q_div, q_rem, q_in, q_cl, q_0l, q_sac, l_0, l_1, l_2, l_3, l_4, l_5, l_6, l_8, l_15, l_16, l_32, l_60, l_250, l_4000, l_5000, ct_X6_begun]
      refine ⟨fun q => ?_, fun q => ?_⟩
      · exact hq
      · omega
    | succ d ih =>
      intro i hi hq
      have hi8 : i < 8 := by omega
      have hn : i < S 1 0 := by omega
      have hc := hW.2.1 i hi8
      unfold Wc at hc
      refine hJ [(2, J 2)] 60 2 [some (rf m), some (.inl (nI i))] [] G 0 0 (fun x h ls st G k n q => by cases h with | head => exact q | tail _ h => cases h) ?_
      have hf : S 30 i < S 29 i → S 26 (4000 * i + S 30 i) < 100 := fun q => by
        have h9 := hW.2.2.2 i hi8 (S 30 i) q
        have h8 := (hW.2.2.1 _ h9.1).2.1
        have h7 := h9.2.1
        unfold fo at h7; split at h7 <;> omega
      simp (disch := omega) only [wpf_s, wpA_s, wq_c, wq_n, lkp_n, lkp_c, lk_0, lk_s, ldI_s, ldR_s, ldL_s, incI_s, gfE_I, gfE_Z, gfE_R, pfE_I, pfE_Z, pfE_R, nwE_s, anE_0, anE_1, anE_4, kE_n, kE_s, ii_s, sw_iload_n, sw_iload, sw_aload_n, sw_aload, sw_lload_n, sw_lload, sw_istore_n, sw_istore, sw_astore_n, sw_astore, sw_lstore, sw_iinc, sw_iconst, sw_bipush, sw_sipush, sw_null, sw_ldc2, sw_dup, sw_dup2, sw_iadd, sw_isub, sw_imul, sw_iand, sw_ixor, sw_ishr, sw_iushr, sw_idiv, sw_irem, sw_land, sw_lor, sw_lcmp, sw_lshl, sw_lshr, sw_lushr, sw_i2l, sw_l2i, sw_i2b, sw_goto, sw_icmp_eq, sw_if_eq, sw_icmp_ne, sw_if_ne, sw_icmp_lt, sw_if_lt, sw_icmp_ge, sw_if_ge, sw_icmp_gt, sw_if_gt, sw_icmp_le, sw_if_le, sw_ifnull, sw_ifnonnull, sw_acmp, sw_get, sw_put, sw_iaload, sw_baload, sw_laload, sw_aaload, sw_alen, sw_iastore, sw_bastore, sw_lastore, sw_aastore, sw_aastoreN, sw_newa_byte, sw_newa_int, sw_newa_boolean, sw_newa_long, sw_anew, sw_new, sw_iv, sw_is, sw_ii, sw_ireturn, sw_areturn, sw_return, sw_table, cv_0, cv_1, cv_2, cv_3, cv_4, ci_0, ci_1, ci_2, ci_3, ci_4, cs_1, cs_2, cs_3, cs_4, ic_m1, ic_0, ic_1, ic_2, ic_3, ic_4, ic_5, ic_6, bp_6, bp_7, bp_8, bp_15, bp_16, bp_31, bp_32, bp_60, sp_250, sp_255, sp_4000, sp_5000, sp_15000, sp_32000, f4_0, f4_1, f4_2, f4_3, c_nat, rtm, rok_0, rok_1, rok_2, rok_3, okS_0, okS_s, okq_n, okq_i, okq_r, stW_n, stW_i, stW_r, stW_l, cat_i, cat_r, nox, nf_0, nf_1, nf_2, nf_3, nf_4, nf_5, nf_6, true_and, and_true, Nat.zero_le, Nat.reduceAdd, Nat.reduceLT, Nat.reduceLeDiff, Nat.reduceEqDiff, Int.reduceAdd, Int.reduceToNat, Int.reduceLE, reduceIte, List.length_cons, List.length_nil, List.set_cons_zero, List.set_cons_succ, Option.some.injEq, ne_eq, not_true, not_false_eq_true, false_or, or_false, true_or, or_true, false_and, and_false, true_implies, false_implies, implies_true, not_false_eq_true, Bool.false_eq_true, reduceCtorEq, dX6_begun_0, dX6_begun_1, dX6_begun_2, dX6_begun_3, dX6_begun_4, dX6_begun_7, dX6_begun_10, dX6_begun_11, dX6_begun_14, dX6_begun_15, dX6_begun_16, dX6_begun_17, dX6_begun_20, dX6_begun_21, dX6_begun_22, dX6_begun_25, dX6_begun_26, dX6_begun_29, dX6_begun_32, dX6_begun_33, dX6_begun_34, dX6_begun_35, dX6_begun_38, dX6_begun_39, dX6_begun_40, dX6_begun_41, dX6_begun_42, dX6_begun_45, dX6_begun_46, dX6_begun_47, dX6_begun_50, dX6_begun_53, dX6_begun_54, ftX6_96, ftX6_63, ftX6_60, ftX6_51, rf, hR.1, hR.s1, hi8, hR.a29, hR.k29, hR.n29, hR.g29, hR.a30, hR.k30, hR.n30, hR.g30, hR.a26, hR.k26, hR.n26, hR.g26, ite_zn, ite_zm, q_lt, q_le, q_eq, q_add, q_mul, q_sub, q_div, q_rem, q_in, q_cl, q_0l, q_sac, l_0, l_1, l_2, l_3, l_4, l_5, l_6, l_8, l_15, l_16, l_32, l_60, l_250, l_4000, l_5000, ct_X6_begun]
      refine ⟨fun q => by omega, fun _ => ⟨fun q => ?_, fun q => ?_⟩⟩
      · exact ih (i + 1) (by omega) (by rw [ff_f (by simp [beg]; omega)] at hq; exact hq)
      · have hf := hf (by omega)
        simp (disch := omega) only [wpf_s, wpA_s, wq_c, wq_n, lkp_n, lkp_c, lk_0, lk_s, ldI_s, ldR_s, ldL_s, incI_s, gfE_I, gfE_Z, gfE_R, pfE_I, pfE_Z, pfE_R, nwE_s, anE_0, anE_1, anE_4, kE_n, kE_s, ii_s, sw_iload_n, sw_iload, sw_aload_n, sw_aload, sw_lload_n, sw_lload, sw_istore_n, sw_istore, sw_astore_n, sw_astore, sw_lstore, sw_iinc, sw_iconst, sw_bipush, sw_sipush, sw_null, sw_ldc2, sw_dup, sw_dup2, sw_iadd, sw_isub, sw_imul, sw_iand, sw_ixor, sw_ishr, sw_iushr, sw_idiv, sw_irem, sw_land, sw_lor, sw_lcmp, sw_lshl, sw_lshr, sw_lushr, sw_i2l, sw_l2i, sw_i2b, sw_goto, sw_icmp_eq, sw_if_eq, sw_icmp_ne, sw_if_ne, sw_icmp_lt, sw_if_lt, sw_icmp_ge, sw_if_ge, sw_icmp_gt, sw_if_gt, sw_icmp_le, sw_if_le, sw_ifnull, sw_ifnonnull, sw_acmp, sw_get, sw_put, sw_iaload, sw_baload, sw_laload, sw_aaload, sw_alen, sw_iastore, sw_bastore, sw_lastore, sw_aastore, sw_aastoreN, sw_newa_byte, sw_newa_int, sw_newa_boolean, sw_newa_long, sw_anew, sw_new, sw_iv, sw_is, sw_ii, sw_ireturn, sw_areturn, sw_return, sw_table, cv_0, cv_1, cv_2, cv_3, cv_4, ci_0, ci_1, ci_2, ci_3, ci_4, cs_1, cs_2, cs_3, cs_4, ic_m1, ic_0, ic_1, ic_2, ic_3, ic_4, ic_5, ic_6, bp_6, bp_7, bp_8, bp_15, bp_16, bp_31, bp_32, bp_60, sp_250, sp_255, sp_4000, sp_5000, sp_15000, sp_32000, f4_0, f4_1, f4_2, f4_3, c_nat, rtm, rok_0, rok_1, rok_2, rok_3, okS_0, okS_s, okq_n, okq_i, okq_r, stW_n, stW_i, stW_r, stW_l, cat_i, cat_r, nox, nf_0, nf_1, nf_2, nf_3, nf_4, nf_5, nf_6, true_and, and_true, Nat.zero_le, Nat.reduceAdd, Nat.reduceLT, Nat.reduceLeDiff, Nat.reduceEqDiff, Int.reduceAdd, Int.reduceToNat, Int.reduceLE, reduceIte, List.length_cons, List.length_nil, List.set_cons_zero, List.set_cons_succ, Option.some.injEq, ne_eq, not_true, not_false_eq_true, false_or, or_false, true_or, or_true, false_and, and_false, true_implies, false_implies, implies_true, not_false_eq_true, Bool.false_eq_true, reduceCtorEq, dX6_begun_0, dX6_begun_1, dX6_begun_2, dX6_begun_3, dX6_begun_4, dX6_begun_7, dX6_begun_10, dX6_begun_11, dX6_begun_14, dX6_begun_15, dX6_begun_16, dX6_begun_17, dX6_begun_20, dX6_begun_21, dX6_begun_22, dX6_begun_25, dX6_begun_26, dX6_begun_29, dX6_begun_32, dX6_begun_33, dX6_begun_34, dX6_begun_35, dX6_begun_38, dX6_begun_39, dX6_begun_40, dX6_begun_41, dX6_begun_42, dX6_begun_45, dX6_begun_46, dX6_begun_47, dX6_begun_50, dX6_begun_53, dX6_begun_54, ftX6_96, ftX6_63, ftX6_60, ftX6_51, rf, hR.1, hR.s1, hi8, hR.a29, hR.k29, hR.n29, hR.g29, hR.a30, hR.k30, hR.n30, hR.g30, hR.a26, hR.k26, hR.n26, hR.g26, ite_zn, ite_zm, q_lt, q_le, q_eq, q_add, q_mul, q_sub, q_div, q_rem, q_in, q_cl, q_0l, q_sac, l_0, l_1, l_2, l_3, l_4, l_5, l_6, l_8, l_15, l_16, l_32, l_60, l_250, l_4000, l_5000, ct_X6_begun]
        refine ⟨by omega, fun q => ?_, fun q => ?_⟩
        · exact ih (i + 1) (by omega) (by rw [ff_f (by simp [beg]; omega)] at hq; exact hq)
        · rw [ff_t (by simp [beg]; omega)] at hq; exact hq
  refine hJ [(2, J 2)] 60 0 [some (rf m), none] [] G 0 0 (fun x h ls st G k n q => by cases h with | head => exact q | tail _ h => cases h) ?_
  simp (disch := omega) only [wpf_s, wpA_s, wq_c, wq_n, lkp_n, lkp_c, lk_0, lk_s, ldI_s, ldR_s, ldL_s, incI_s, gfE_I, gfE_Z, gfE_R, pfE_I, pfE_Z, pfE_R, nwE_s, anE_0, anE_1, anE_4, kE_n, kE_s, ii_s, sw_iload_n, sw_iload, sw_aload_n, sw_aload, sw_lload_n, sw_lload, sw_istore_n, sw_istore, sw_astore_n, sw_astore, sw_lstore, sw_iinc, sw_iconst, sw_bipush, sw_sipush, sw_null, sw_ldc2, sw_dup, sw_dup2, sw_iadd, sw_isub, sw_imul, sw_iand, sw_ixor, sw_ishr, sw_iushr, sw_idiv, sw_irem, sw_land, sw_lor, sw_lcmp, sw_lshl, sw_lshr, sw_lushr, sw_i2l, sw_l2i, sw_i2b, sw_goto, sw_icmp_eq, sw_if_eq, sw_icmp_ne, sw_if_ne, sw_icmp_lt, sw_if_lt, sw_icmp_ge, sw_if_ge, sw_icmp_gt, sw_if_gt, sw_icmp_le, sw_if_le, sw_ifnull, sw_ifnonnull, sw_acmp, sw_get, sw_put, sw_iaload, sw_baload, sw_laload, sw_aaload, sw_alen, sw_iastore, sw_bastore, sw_lastore, sw_aastore, sw_aastoreN, sw_newa_byte, sw_newa_int, sw_newa_boolean, sw_newa_long, sw_anew, sw_new, sw_iv, sw_is, sw_ii, sw_ireturn, sw_areturn, sw_return, sw_table, cv_0, cv_1, cv_2, cv_3, cv_4, ci_0, ci_1, ci_2, ci_3, ci_4, cs_1, cs_2, cs_3, cs_4, ic_m1, ic_0, ic_1, ic_2, ic_3, ic_4, ic_5, ic_6, bp_6, bp_7, bp_8, bp_15, bp_16, bp_31, bp_32, bp_60, sp_250, sp_255, sp_4000, sp_5000, sp_15000, sp_32000, f4_0, f4_1, f4_2, f4_3, c_nat, rtm, rok_0, rok_1, rok_2, rok_3, okS_0, okS_s, okq_n, okq_i, okq_r, stW_n, stW_i, stW_r, stW_l, cat_i, cat_r, nox, nf_0, nf_1, nf_2, nf_3, nf_4, nf_5, nf_6, true_and, and_true, Nat.zero_le, Nat.reduceAdd, Nat.reduceLT, Nat.reduceLeDiff, Nat.reduceEqDiff, Int.reduceAdd, Int.reduceToNat, Int.reduceLE, reduceIte, List.length_cons, List.length_nil, List.set_cons_zero, List.set_cons_succ, Option.some.injEq, ne_eq, not_true, not_false_eq_true, false_or, or_false, true_or, or_true, false_and, and_false, true_implies, false_implies, implies_true, not_false_eq_true, Bool.false_eq_true, reduceCtorEq, dX6_begun_0, dX6_begun_1, dX6_begun_2, dX6_begun_3, dX6_begun_4, dX6_begun_7, dX6_begun_10, dX6_begun_11, dX6_begun_14, dX6_begun_15, dX6_begun_16, dX6_begun_17, dX6_begun_20, dX6_begun_21, dX6_begun_22, dX6_begun_25, dX6_begun_26, dX6_begun_29, dX6_begun_32, dX6_begun_33, dX6_begun_34, dX6_begun_35, dX6_begun_38, dX6_begun_39, dX6_begun_40, dX6_begun_41, dX6_begun_42, dX6_begun_45, dX6_begun_46, dX6_begun_47, dX6_begun_50, dX6_begun_53, dX6_begun_54, ftX6_96, ftX6_63, ftX6_60, ftX6_51, rf, ite_zn, ite_zm, q_lt, q_le, q_eq, q_add, q_mul, q_sub, q_div, q_rem, q_in, q_cl, q_0l, q_sac, l_0, l_1, l_2, l_3, l_4, l_5, l_6, l_8, l_15, l_16, l_32, l_60, l_250, l_4000, l_5000, ct_X6_begun]
  exact loop (S 1 0) 0 (by omega) h5
end
section
/-! ===== the pure steps of a cycle, as the model does them; component 50: how many packets arrived in this call so far ===== -/
def itr (f : Nat → St → St) : Nat → St → St
  | 0, S => S
  | n + 1, S => f n (itr f n S)
def cbs (v : Nat) (S : St) : St := if S 33 v < S 32 v ∧ S 28 (4000 * v + S 33 v) + S 3 0 = S 7 0 then up S 33 v (S 33 v + 1) else S
def cms (v : Nat) (S : St) : St := if S 31 v = S 30 v ∨ S 27 (4000 * v + S 31 v) + S 2 0 ≠ S 7 0 then S else
  up (up (if S 13 v ≤ S 31 v - S 32 v then up S 11 0 (S 11 0 + 1) else S) 31 v (S 31 v + 1)) 34 v (max (S 34 v) (S 31 v + 1 - S 32 v))
def mskN (S : St) : Nat := if S 5 0 = 0 then NN else S 15 (S 7 0 % S 5 0)
def drb (M v : Nat) : Bool := M.testBit v
def drs (M v : Nat) (S : St) : St := if drb M v = false ∨ S 32 v = S 31 v then S else
  if S 26 (4000 * v + S 32 v) + 1 < fo (S 17 (S 25 (4000 * v + S 32 v))) then up (up S 28 (4000 * v + S 32 v) (S 7 0)) 32 v (S 32 v + 1) else
  up (up (up (up (up S 28 (4000 * v + S 32 v) (S 7 0)) 32 v (S 32 v + 1)) 21 (S 25 (4000 * v + S 32 v)) (S 7 0)) 50 0 (S 50 0 + 1)) 12 0 (S 12 0 + if S 24 (S 25 (4000 * v + S 32 v)) = 1 ∧ S 22 (S 25 (4000 * v + S 32 v)) < S 7 0 then 1 else 0)
def sdV (S : St) : Nat := if S 4 0 = 1 then ff (abl S) 0 (S 1 0) else
  if S 4 0 = 2 ∧ S 8 0 ≠ NN ∧ abl S (S 8 0) = true ∧ S 9 0 < S 14 (S 8 0) then S 8 0 else
  if S 4 0 = 3 ∧ ff (beg S) 0 (S 1 0) ≠ NN then (if abl S (ff (beg S) 0 (S 1 0)) = true then ff (beg S) 0 (S 1 0) else NN) else
  if ff (fun k => abl S (trn S k)) 1 (S 1 0) = NN then NN else trn S (ff (fun k => abl S (trn S k)) 1 (S 1 0))
def goes (S : St) : Prop := S 4 0 = 2 ∧ S 8 0 ≠ NN ∧ abl S (S 8 0) = true ∧ S 9 0 < S 14 (S 8 0)
/-- the flit of channel v is sent -/
def sdT (v : Nat) (row : Nat) (S : St) : St := up (up (up (if S 26 (4000 * v + S 30 v) = 0 then up (up S 27 (4000 * v + S 30 v) (S 7 0)) 20 (S 25 (4000 * v + S 30 v)) (S 7 0) else up S 27 (4000 * v + S 30 v) (S 7 0)) 30 v (S 30 v + 1)) 9 0 row) 8 0 v
theorem WF.rows {S : St} (h : WF S) : S 6 0 ≤ 250 ∧ 1 ≤ S 1 0 ∧ S 1 0 ≤ 8 ∧ S 7 0 ≤ 10000000 ∧ S 2 0 ≤ 16 ∧ S 3 0 ≤ 16 ∧ S 5 0 ≤ 32 ∧ S 4 0 ≤ 3 := by
  obtain ⟨⟨h1, h2, h3, h4, h5, h6, h7, h8, h9, h10, -⟩, -⟩ := h
  exact ⟨h9, h1, h2, h10, h4, h6, h8, h7⟩
theorem WF_cbs {S : St} (h : WF S) (v : Nat) : WF (cbs v S) := by
  unfold cbs
  split
  · rename_i hc
    obtain ⟨h1, h2, h3, h4⟩ := h
    refine ⟨?_, fun u hu => ?_, fun p hp => ?_, fun u hu f hf => ?_⟩
    · simpa [Ws, up_n] using h1
    · have := h2 u hu
      simp only [Wc, up_n, Nat.reduceEqDiff, false_and, reduceIte, true_and] at this ⊢
      by_cases e : u = v
      · subst e; simp only [reduceIte]; omega
      · simp only [e, reduceIte]; exact this
    · simp only [up_n, Nat.reduceEqDiff, false_and, reduceIte] at hp
      simpa [Wp, up_n] using h3 p hp
    · simp only [up_n, Nat.reduceEqDiff, false_and, reduceIte] at hf
      simpa [Wf, up_n] using h4 u hu f hf
  · exact h
theorem WF_cms {S : St} (h : WF S) (v : Nat) (hv : v < 8) (h11 : S 11 0 < 100000000) : WF (cms v S) := by
  unfold cms
  split
  · exact h
  · rename_i hc
    obtain ⟨h1, h2, h3, h4⟩ := h
    have hv2 := h2 v hv
    unfold Wc at hv2
    have h9 := h1.2.2.2.2.2.2.2.2.1
    refine ⟨?_, fun u hu => ?_, fun p hp => ?_, fun u hu f hf => ?_⟩
    · unfold Ws at h1 ⊢
      split <;> simp only [up_n, Nat.reduceEqDiff, false_and, reduceIte, true_and, and_self] <;> omega
    · have := h2 u hu
      by_cases e : u = v
      · subst e
        split <;> simp only [Wc, up_n, Nat.reduceEqDiff, false_and, reduceIte, true_and] at this ⊢ <;> omega
      · split <;> simp only [Wc, up_n, Nat.reduceEqDiff, false_and, reduceIte, true_and, e] at this ⊢ <;> exact this
    · split at hp <;> split <;> simp only [up_n, Nat.reduceEqDiff, false_and, reduceIte] at hp <;> simpa [Wp, up_n] using h3 p hp
    · split at hf <;> split <;> simp only [up_n, Nat.reduceEqDiff, false_and, reduceIte] at hf <;> simpa [Wf, up_n] using h4 u hu f hf
theorem fo_le {n : Nat} (h : n ≤ 60) : fo n ≤ 15 := by unfold fo; split <;> omega
theorem fo_pos (n : Nat) : 1 ≤ fo n := by unfold fo; split <;> omega
theorem WF_drs {S : St} (h : WF S) (M v : Nat) (hv : v < 8) (h12 : S 12 0 < 100000000) : WF (drs M v S) := by
  unfold drs
  split
  · exact h
  · rename_i hc
    obtain ⟨h1, h2, h3, h4⟩ := h
    have hv2 := h2 v hv
    unfold Wc at hv2
    have h9 := h1.2.2.2.2.2.2.2.2.1
    split
    · refine ⟨?_, fun u hu => ?_, fun p hp => ?_, fun u hu f hf => ?_⟩
      · simpa [Ws, up_n] using h1
      · have := h2 u hu
        by_cases e : u = v
        · subst e
          simp only [Wc, up_n, Nat.reduceEqDiff, false_and, reduceIte, true_and] at this ⊢; omega
        · simp only [Wc, up_n, Nat.reduceEqDiff, false_and, reduceIte, true_and, e] at this ⊢; exact this
      · simp only [up_n, Nat.reduceEqDiff, false_and, reduceIte] at hp
        simpa [Wp, up_n] using h3 p hp
      · simp only [up_n, Nat.reduceEqDiff, false_and, reduceIte] at hf
        have := h4 u hu f hf
        have hu2 := h2 u hu
        unfold Wc at hu2
        simp only [Wf, up_n, Nat.reduceEqDiff, false_and, reduceIte, true_and] at this ⊢
        refine ⟨this.1, this.2.1, this.2.2.1, fun q => ?_⟩
        split
        · exact Nat.le_refl _
        · rename_i e
          refine this.2.2.2 ?_
          by_cases e2 : u = v
          · subst e2; simp only [reduceIte] at q; omega
          · simp only [e2, reduceIte] at q; exact q
    · refine ⟨?_, fun u hu => ?_, fun p hp => ?_, fun u hu f hf => ?_⟩
      · unfold Ws at h1 ⊢
        simp only [up_n, Nat.reduceEqDiff, false_and, reduceIte, true_and, and_self]
        split <;> omega
      · have := h2 u hu
        by_cases e : u = v
        · subst e
          simp only [Wc, up_n, Nat.reduceEqDiff, false_and, reduceIte, true_and] at this ⊢; omega
        · simp only [Wc, up_n, Nat.reduceEqDiff, false_and, reduceIte, true_and, e] at this ⊢; exact this
      · simp only [up_n, Nat.reduceEqDiff, false_and, reduceIte] at hp
        have := h3 p hp
        simp only [Wp, up_n, Nat.reduceEqDiff, false_and, reduceIte, true_and] at this ⊢
        refine ⟨this.1, this.2.1, this.2.2.1, this.2.2.2.1, ?_, this.2.2.2.2.2⟩
        split
        · exact Or.inr (Nat.le_refl _)
        · exact this.2.2.2.2.1
      · simp only [up_n, Nat.reduceEqDiff, false_and, reduceIte] at hf
        have := h4 u hu f hf
        have hu2 := h2 u hu
        unfold Wc at hu2
        simp only [Wf, up_n, Nat.reduceEqDiff, false_and, reduceIte, true_and] at this ⊢
        refine ⟨this.1, this.2.1, this.2.2.1, fun q => ?_⟩
        split
        · exact Nat.le_refl _
        · rename_i e
          refine this.2.2.2 ?_
          by_cases e2 : u = v
          · subst e2; simp only [reduceIte] at q; omega
          · simp only [e2, reduceIte] at q; exact q
theorem ff_some {p : Nat → Bool} : ∀ {n i : Nat}, i + n ≤ NN → ff p i n ≠ NN → i ≤ ff p i n ∧ ff p i n < i + n ∧ p (ff p i n) = true
  | 0, i, _, h => absurd rfl h
  | n + 1, i, hb, h => by
    by_cases hp : p i = true
    · rw [ff_t hp]; exact ⟨Nat.le_refl _, by omega, hp⟩
    · have hp' : p i = false := by simpa using hp
      rw [ff_f hp'] at h ⊢
      have := ff_some (p := p) (n := n) (i := i + 1) (by omega) h
      exact ⟨by omega, by omega, this.2.2⟩
def wt (S : St) : Nat := if ff (wai S) 0 (S 1 0) = NN then 0 else 1
def goB (S : St) : Bool := decide (S 4 0 = 2 ∧ S 8 0 ≠ NN ∧ abl S (S 8 0) = true ∧ S 9 0 < S 14 (S 8 0))
def whN (S : St) : Nat := if S 4 0 = 3 then ff (beg S) 0 (S 1 0) else NN
def tuN (S : St) : Nat := if ff (fun k => abl S (trn S k)) 1 (S 1 0) = NN then NN else trn S (ff (fun k => abl S (trn S k)) 1 (S 1 0))
/-- which channel sends -/
def sdN (S : St) : Nat := if S 4 0 = 1 then ff (abl S) 0 (S 1 0) else if goB S = true then S 8 0 else if whN S = NN then tuN S else if abl S (whN S) = true then whN S else NN
def rwN (S : St) : Nat := if sdN S = S 8 0 ∧ ¬ (S 4 0 = 2 ∧ goB S = false) then S 9 0 + 1 else 1
def sds (S : St) : St := if sdN S = NN then up S 10 0 (S 10 0 + wt S) else sdT (sdN S) (rwN S) S
theorem trn_lt {S : St} (h : WF S) {k : Nat} (h1 : 1 ≤ k) (h2 : k ≤ S 1 0) : trn S k < S 1 0 := by
  unfold trn
  split
  · omega
  · exact Nat.mod_lt _ (by omega)
theorem sdN_ok {S : St} (h : WF S) : sdN S = NN ∨ (sdN S < S 1 0 ∧ abl S (sdN S) = true) := by
  have hN := NN_v
  have h1 := h.1.1
  have h2 := h.1.2.1
  have h8 := h.1.2.2.2.2.2.2.2.2.2.2.1
  have hl : ∀ p : Nat → Bool, ff p 0 (S 1 0) = NN ∨ (ff p 0 (S 1 0) < S 1 0 ∧ p (ff p 0 (S 1 0)) = true) := fun p => by
    by_cases e : ff p 0 (S 1 0) = NN
    · exact Or.inl e
    · have := ff_some (p := p) (n := S 1 0) (i := 0) (by omega) e
      exact Or.inr ⟨by omega, this.2.2⟩
  unfold sdN
  split
  · exact hl _
  · split
    · rename_i hg
      simp only [goB, decide_eq_true_eq] at hg
      exact Or.inr ⟨h8.resolve_left hg.2.1, hg.2.2.1⟩
    · split
      · unfold tuN
        split
        · exact Or.inl rfl
        · rename_i e
          have := ff_some (p := fun k => abl S (trn S k)) (n := S 1 0) (i := 1) (by omega) e
          exact Or.inr ⟨trn_lt h (by omega) (by omega), this.2.2⟩
      · split
        · rename_i hw ha
          refine Or.inr ⟨?_, ha⟩
          unfold whN at hw ⊢
          split at hw
          · rename_i e3
            rw [if_pos e3]
            exact ((hl (beg S)).resolve_left hw).1
          · exact absurd rfl hw
        · exact Or.inl rfl
theorem WF_sdT {S : St} (h : WF S) {v r : Nat} (hv : v < S 1 0) (ha : abl S v = true) (hr : r ≤ 10000000) : WF (sdT v r S) := by
  obtain ⟨h1, h2, h3, h4⟩ := h
  have h18 := h1.2.1
  have hv2 := h2 v (by omega)
  unfold Wc at hv2
  unfold abl at ha
  replace ha := of_decide_eq_true ha
  unfold cr at ha
  have hf := h4 v (by omega) (S 30 v) ha.1
  have hN := NN_v
  unfold sdT
  refine ⟨?_, fun u hu => ?_, fun p hp => ?_, fun u hu f hf => ?_⟩
  · unfold Ws at h1 ⊢
    split <;> simp only [up_n, Nat.reduceEqDiff, false_and, reduceIte, true_and, and_self] <;> omega
  · have := h2 u hu
    by_cases e : u = v
    · subst e
      split <;> simp only [Wc, up_n, Nat.reduceEqDiff, false_and, reduceIte, true_and] at this ⊢ <;> omega
    · split <;> simp only [Wc, up_n, Nat.reduceEqDiff, false_and, reduceIte, true_and, e] at this ⊢ <;> exact this
  · have hp' : p < S 6 0 := by split at hp <;> simpa [up_n] using hp
    have := h3 p hp'
    split
    · simp only [Wp, up_n, Nat.reduceEqDiff, false_and, reduceIte, true_and] at this ⊢
      refine ⟨this.1, this.2.1, this.2.2.1, ?_, this.2.2.2.2⟩
      split
      · exact Or.inr (Nat.le_refl _)
      · exact this.2.2.2.1
    · simpa [Wp, up_n] using this
  · have hf' : f < S 29 u := by split at hf <;> simpa [up_n] using hf
    have := h4 u hu f hf'
    have hu2 := h2 u hu
    unfold Wc at hu2
    split <;>
    · simp only [Wf, up_n, Nat.reduceEqDiff, false_and, reduceIte, true_and] at this ⊢
      refine ⟨this.1, this.2.1, fun q => ?_, this.2.2.2⟩
      split
      · exact Nat.le_refl _
      · rename_i e
        refine this.2.2.1 ?_
        by_cases e2 : u = v
        · subst e2; simp only [reduceIte] at q; omega
        · simp only [e2, reduceIte] at q; exact q
end
section
def rm_X6_byTurns : Room := { frames := 2, cells := 0, slots := 0, locals := 42 }
def ct_X6_byTurns : List (Nat × CS) := [(155, 6, 1, 0, 0, T_X6_isAble)]
set_option maxRecDepth 20000 in
set_option maxHeartbeats 4000000 in
theorem c_X6_byTurns (l : Launch) : CM l yX6_byTurns cX6_byTurns 3 (some .int) rm_X6_byTurns T_X6_byTurns := by
  refine CM.ev (ft := ftX6) (nt := []) (ct := ct_X6_byTurns) (oi := 0) (rt := 1) (ini := false) (by decide +kernel) (Or.inr (Or.inl ⟨rfl, rfl⟩)) ftX6_ok (fun q => by cases q) (fun x h => by cases h) (List.forall_mem_cons.mpr ⟨⟨mono_X6_isAble, yX6_isAble, cX6_isAble, 2, (some .boolean), rm_X6_isAble, c_X6_isAble l, mi_X6_isAble, rfl, rfl, ⟨by decide, by decide⟩, fun _ => ⟨mv_X6_isAble, lnkX6_155, rfl⟩, fun q => absurd q (by decide), fun q => absurd q (by decide), fun q => absurd q (by decide)⟩, fun x h => by cases h⟩) (fun q => absurd rfl q) ?_
  intro av G Qr Qx hT
  obtain ⟨m, ar, S, rfl, hR, hW, h5⟩ := hT
  have w0 := hW.1.2.2.2.2.2.2.2.2.1
  have w1 := hW.1.1
  have w2 := hW.1.2.1
  refine ⟨Nat.le_of_ble_eq_true rfl, fun J hJ => ?_⟩
  have w8 := hW.1.2.2.2.2.2.2.2.2.2.2.1
  have loop : ∀ (d i : Nat) (o : Option AV), o = none ∨ (∃ x, o = some (.inl x)) → 1 ≤ i → i + d = S 1 0 + 1 → Qr (some (.inl (nI (let k := ff (fun k => abl S (trn S k)) i d; if k = NN then NN else trn S k)))) G → J 2 [some (rf m), some (.inl (nI i)), o] [] G 0 0 := by
    intro d
    induction d with
    | zero =>
      intro i o ho h1 hi hq
      refine hJ [] 60 2 [some (rf m), some (.inl (nI i)), o] [] G 0 0 (fun x h => by cases h) ?_
      simp (disch := omega) only [wpf_s, wpA_s, wq_c, wq_n, lkp_n, lkp_c, lk_0, lk_s, ldI_s, ldR_s, ldL_s, incI_s, gfE_I, gfE_Z, gfE_R, pfE_I, pfE_Z, pfE_R, nwE_s, anE_0, anE_1, anE_4, kE_n, kE_s, ii_s, sw_iload_n, sw_iload, sw_aload_n, sw_aload, sw_lload_n, sw_lload, sw_istore_n, sw_istore, sw_astore_n, sw_astore, sw_lstore, sw_iinc, sw_iconst, sw_bipush, sw_sipush, sw_null, sw_ldc2, sw_dup, sw_dup2, sw_iadd, sw_isub, sw_imul, sw_iand, sw_ixor, sw_ishr, sw_iushr, sw_idiv, sw_irem, sw_land, sw_lor, sw_lcmp, sw_lshl, sw_lshr, sw_lushr, sw_i2l, sw_l2i, sw_i2b, sw_goto, sw_icmp_eq, sw_if_eq, sw_icmp_ne, sw_if_ne, sw_icmp_lt, sw_if_lt, sw_icmp_ge, sw_if_ge, sw_icmp_gt, sw_if_gt, sw_icmp_le, sw_if_le, sw_ifnull, sw_ifnonnull, sw_acmp, sw_get, sw_put, sw_iaload, sw_baload, sw_laload, sw_aaload, sw_alen, sw_iastore, sw_bastore, sw_lastore, sw_aastore, sw_aastoreN, sw_newa_byte, sw_newa_int, sw_newa_boolean, sw_newa_long, sw_anew, sw_new, sw_iv, sw_is, sw_ii, sw_ireturn, sw_areturn, sw_return, sw_table, cv_0, cv_1, cv_2, cv_3, cv_4, ci_0, ci_1, ci_2, ci_3, ci_4, cs_1, cs_2, cs_3, cs_4, ic_m1, ic_0, ic_1, ic_2, ic_3, ic_4, ic_5, ic_6, bp_6, bp_7, bp_8, bp_15, bp_16, bp_31, bp_32, bp_60, sp_250, sp_255, sp_4000, sp_5000, sp_15000, sp_32000, f4_0, f4_1, f4_2, f4_3, c_nat, rtm, rok_0, rok_1, rok_2, rok_3, okS_0, okS_s, okq_n, okq_i, okq_r, stW_n, stW_i, stW_r, stW_l, cat_i, cat_r, nox, nf_0, nf_1, nf_2, nf_3, nf_4, nf_5, nf_6, true_and, and_true, Nat.zero_le, Nat.reduceAdd, Nat.reduceLT, Nat.reduceLeDiff, Nat.reduceEqDiff, Int.reduceAdd, Int.reduceToNat, Int.reduceLE, reduceIte, List.length_cons, List.length_nil, List.set_cons_zero, List.set_cons_succ, Option.some.injEq, ne_eq, not_true, not_false_eq_true, false_or, or_false, true_or, or_true, false_and, and_false, true_implies, false_implies, implies_true, not_false_eq_true, Bool.false_eq_true, reduceCtorEq, dX6_byTurns_0, dX6_byTurns_1, dX6_byTurns_2, dX6_byTurns_3, dX6_byTurns_4, dX6_byTurns_7, dX6_byTurns_10, dX6_byTurns_11, dX6_byTurns_14, dX6_byTurns_15, dX6_byTurns_18, dX6_byTurns_19, dX6_byTurns_20, dX6_byTurns_21, dX6_byTurns_24, dX6_byTurns_25, dX6_byTurns_28, dX6_byTurns_29, dX6_byTurns_30, dX6_byTurns_31, dX6_byTurns_34, dX6_byTurns_35, dX6_byTurns_36, dX6_byTurns_37, dX6_byTurns_38, dX6_byTurns_41, dX6_byTurns_44, dX6_byTurns_45, dX6_byTurns_46, dX6_byTurns_49, dX6_byTurns_52, dX6_byTurns_53, ftX6_96, ftX6_117, rf, hR.1, hR.s1, ite_zn, ite_zm, l_neg, q_rem2, q_lt, q_le, q_eq, q_add, q_mul, q_sub, q_div, q_rem, q_in, q_cl, q_0l, q_sac, l_0, l_1, l_2, l_3, l_4, l_5, l_6, l_8, l_15, l_16, l_32, l_60, l_250, l_4000, l_5000, ct_X6_byTurns]
      refine ⟨fun q => ?_, fun q => ?_⟩
      · exact hq
      · omega
    | succ d ih =>
      intro i o ho h1 hi hq
      have hn : i ≤ S 1 0 := by omega
      have ht : trn S i < S 1 0 := by
        unfold trn
        split
        · omega
        · exact Nat.mod_lt _ (by omega)
      have hok : okq (some (.inl (nI i))) = true := rfl
      refine hJ [(2, J 2)] 60 2 [some (rf m), some (.inl (nI i)), o] [] G 0 0 (fun x h ls st G k n q => by cases h with | head => exact q | tail _ h => cases h) ?_
      have key : ∀ K : Prop, K → (S 1 0 < i → K) := fun K h _ => h
      by_cases e8 : S 8 0 = NN
      · have hNN := NN_v
        have et : trn S i = i - 1 := by unfold trn; rw [if_pos e8]
        simp (disch := omega) only [wpf_s, wpA_s, wq_c, wq_n, lkp_n, lkp_c, lk_0, lk_s, ldI_s, ldR_s, ldL_s, incI_s, gfE_I, gfE_Z, gfE_R, pfE_I, pfE_Z, pfE_R, nwE_s, anE_0, anE_1, anE_4, kE_n, kE_s, ii_s, sw_iload_n, sw_iload, sw_aload_n, sw_aload, sw_lload_n, sw_lload, sw_istore_n, sw_istore, sw_astore_n, sw_astore, sw_lstore, sw_iinc, sw_iconst, sw_bipush, sw_sipush, sw_null, sw_ldc2, sw_dup, sw_dup2, sw_iadd, sw_isub, sw_imul, sw_iand, sw_ixor, sw_ishr, sw_iushr, sw_idiv, sw_irem, sw_land, sw_lor, sw_lcmp, sw_lshl, sw_lshr, sw_lushr, sw_i2l, sw_l2i, sw_i2b, sw_goto, sw_icmp_eq, sw_if_eq, sw_icmp_ne, sw_if_ne, sw_icmp_lt, sw_if_lt, sw_icmp_ge, sw_if_ge, sw_icmp_gt, sw_if_gt, sw_icmp_le, sw_if_le, sw_ifnull, sw_ifnonnull, sw_acmp, sw_get, sw_put, sw_iaload, sw_baload, sw_laload, sw_aaload, sw_alen, sw_iastore, sw_bastore, sw_lastore, sw_aastore, sw_aastoreN, sw_newa_byte, sw_newa_int, sw_newa_boolean, sw_newa_long, sw_anew, sw_new, sw_iv, sw_is, sw_ii, sw_ireturn, sw_areturn, sw_return, sw_table, cv_0, cv_1, cv_2, cv_3, cv_4, ci_0, ci_1, ci_2, ci_3, ci_4, cs_1, cs_2, cs_3, cs_4, ic_m1, ic_0, ic_1, ic_2, ic_3, ic_4, ic_5, ic_6, bp_6, bp_7, bp_8, bp_15, bp_16, bp_31, bp_32, bp_60, sp_250, sp_255, sp_4000, sp_5000, sp_15000, sp_32000, f4_0, f4_1, f4_2, f4_3, c_nat, rtm, rok_0, rok_1, rok_2, rok_3, okS_0, okS_s, okq_n, okq_i, okq_r, stW_n, stW_i, stW_r, stW_l, cat_i, cat_r, nox, nf_0, nf_1, nf_2, nf_3, nf_4, nf_5, nf_6, true_and, and_true, Nat.zero_le, Nat.reduceAdd, Nat.reduceLT, Nat.reduceLeDiff, Nat.reduceEqDiff, Int.reduceAdd, Int.reduceToNat, Int.reduceLE, reduceIte, List.length_cons, List.length_nil, List.set_cons_zero, List.set_cons_succ, Option.some.injEq, ne_eq, not_true, not_false_eq_true, false_or, or_false, true_or, or_true, false_and, and_false, true_implies, false_implies, implies_true, not_false_eq_true, Bool.false_eq_true, reduceCtorEq, dX6_byTurns_0, dX6_byTurns_1, dX6_byTurns_2, dX6_byTurns_3, dX6_byTurns_4, dX6_byTurns_7, dX6_byTurns_10, dX6_byTurns_11, dX6_byTurns_14, dX6_byTurns_15, dX6_byTurns_18, dX6_byTurns_19, dX6_byTurns_20, dX6_byTurns_21, dX6_byTurns_24, dX6_byTurns_25, dX6_byTurns_28, dX6_byTurns_29, dX6_byTurns_30, dX6_byTurns_31, dX6_byTurns_34, dX6_byTurns_35, dX6_byTurns_36, dX6_byTurns_37, dX6_byTurns_38, dX6_byTurns_41, dX6_byTurns_44, dX6_byTurns_45, dX6_byTurns_46, dX6_byTurns_49, dX6_byTurns_52, dX6_byTurns_53, ftX6_96, ftX6_117, rf, hR.1, hR.s1, hR.s8, e8, ite_zn, ite_zm, l_neg, q_rem2, q_lt, q_le, q_eq, q_add, q_mul, q_sub, q_div, q_rem, q_in, q_cl, q_0l, q_sac, l_0, l_1, l_2, l_3, l_4, l_5, l_6, l_8, l_15, l_16, l_32, l_60, l_250, l_4000, l_5000, ct_X6_byTurns]
        refine ⟨fun q => by omega, fun _ => ⟨m, ar, S, i - 1, rfl, by omega, hR, hW, ?_⟩⟩
        simp (disch := omega) only [wpf_s, wpA_s, wq_c, wq_n, lkp_n, lkp_c, lk_0, lk_s, ldI_s, ldR_s, ldL_s, incI_s, gfE_I, gfE_Z, gfE_R, pfE_I, pfE_Z, pfE_R, nwE_s, anE_0, anE_1, anE_4, kE_n, kE_s, ii_s, sw_iload_n, sw_iload, sw_aload_n, sw_aload, sw_lload_n, sw_lload, sw_istore_n, sw_istore, sw_astore_n, sw_astore, sw_lstore, sw_iinc, sw_iconst, sw_bipush, sw_sipush, sw_null, sw_ldc2, sw_dup, sw_dup2, sw_iadd, sw_isub, sw_imul, sw_iand, sw_ixor, sw_ishr, sw_iushr, sw_idiv, sw_irem, sw_land, sw_lor, sw_lcmp, sw_lshl, sw_lshr, sw_lushr, sw_i2l, sw_l2i, sw_i2b, sw_goto, sw_icmp_eq, sw_if_eq, sw_icmp_ne, sw_if_ne, sw_icmp_lt, sw_if_lt, sw_icmp_ge, sw_if_ge, sw_icmp_gt, sw_if_gt, sw_icmp_le, sw_if_le, sw_ifnull, sw_ifnonnull, sw_acmp, sw_get, sw_put, sw_iaload, sw_baload, sw_laload, sw_aaload, sw_alen, sw_iastore, sw_bastore, sw_lastore, sw_aastore, sw_aastoreN, sw_newa_byte, sw_newa_int, sw_newa_boolean, sw_newa_long, sw_anew, sw_new, sw_iv, sw_is, sw_ii, sw_ireturn, sw_areturn, sw_return, sw_table, cv_0, cv_1, cv_2, cv_3, cv_4, ci_0, ci_1, ci_2, ci_3, ci_4, cs_1, cs_2, cs_3, cs_4, ic_m1, ic_0, ic_1, ic_2, ic_3, ic_4, ic_5, ic_6, bp_6, bp_7, bp_8, bp_15, bp_16, bp_31, bp_32, bp_60, sp_250, sp_255, sp_4000, sp_5000, sp_15000, sp_32000, f4_0, f4_1, f4_2, f4_3, c_nat, rtm, rok_0, rok_1, rok_2, rok_3, okS_0, okS_s, okq_n, okq_i, okq_r, stW_n, stW_i, stW_r, stW_l, cat_i, cat_r, nox, nf_0, nf_1, nf_2, nf_3, nf_4, nf_5, nf_6, true_and, and_true, Nat.zero_le, Nat.reduceAdd, Nat.reduceLT, Nat.reduceLeDiff, Nat.reduceEqDiff, Int.reduceAdd, Int.reduceToNat, Int.reduceLE, reduceIte, List.length_cons, List.length_nil, List.set_cons_zero, List.set_cons_succ, Option.some.injEq, ne_eq, not_true, not_false_eq_true, false_or, or_false, true_or, or_true, false_and, and_false, true_implies, false_implies, implies_true, not_false_eq_true, Bool.false_eq_true, reduceCtorEq, dX6_byTurns_0, dX6_byTurns_1, dX6_byTurns_2, dX6_byTurns_3, dX6_byTurns_4, dX6_byTurns_7, dX6_byTurns_10, dX6_byTurns_11, dX6_byTurns_14, dX6_byTurns_15, dX6_byTurns_18, dX6_byTurns_19, dX6_byTurns_20, dX6_byTurns_21, dX6_byTurns_24, dX6_byTurns_25, dX6_byTurns_28, dX6_byTurns_29, dX6_byTurns_30, dX6_byTurns_31, dX6_byTurns_34, dX6_byTurns_35, dX6_byTurns_36, dX6_byTurns_37, dX6_byTurns_38, dX6_byTurns_41, dX6_byTurns_44, dX6_byTurns_45, dX6_byTurns_46, dX6_byTurns_49, dX6_byTurns_52, dX6_byTurns_53, ftX6_96, ftX6_117, rf, hR.1, hR.s1, hR.s8, e8, ite_zn, ite_zm, l_neg, q_rem2, q_lt, q_le, q_eq, q_add, q_mul, q_sub, q_div, q_rem, q_in, q_cl, q_0l, q_sac, l_0, l_1, l_2, l_3, l_4, l_5, l_6, l_8, l_15, l_16, l_32, l_60, l_250, l_4000, l_5000, ct_X6_byTurns]
        refine ⟨fun q => ?_, fun q => ?_⟩
        · refine ih (i + 1) _ (Or.inr ⟨_, rfl⟩) (by omega) (by omega) ?_
          rw [ff_f (by rw [et]; simpa using q)] at hq; exact hq
        · have q' : abl S (trn S i) = true := by rw [et]; exact Decidable.not_not.mp q
          rw [ff_t (p := fun k => abl S (trn S k)) (i := i) q'] at hq
          dsimp only at hq
          rw [if_neg (by unfold NN; omega), et] at hq; exact hq
      · have e9 : S 8 0 < S 1 0 := w8.resolve_left e8
        have et : trn S i = (S 8 0 + i) % S 1 0 := by unfold trn; rw [if_neg e8]
        have h32 : S 8 0 < 4294967296 := by omega
        have hNN := NN_v
        simp (disch := omega) only [wpf_s, wpA_s, wq_c, wq_n, lkp_n, lkp_c, lk_0, lk_s, ldI_s, ldR_s, ldL_s, incI_s, gfE_I, gfE_Z, gfE_R, pfE_I, pfE_Z, pfE_R, nwE_s, anE_0, anE_1, anE_4, kE_n, kE_s, ii_s, sw_iload_n, sw_iload, sw_aload_n, sw_aload, sw_lload_n, sw_lload, sw_istore_n, sw_istore, sw_astore_n, sw_astore, sw_lstore, sw_iinc, sw_iconst, sw_bipush, sw_sipush, sw_null, sw_ldc2, sw_dup, sw_dup2, sw_iadd, sw_isub, sw_imul, sw_iand, sw_ixor, sw_ishr, sw_iushr, sw_idiv, sw_irem, sw_land, sw_lor, sw_lcmp, sw_lshl, sw_lshr, sw_lushr, sw_i2l, sw_l2i, sw_i2b, sw_goto, sw_icmp_eq, sw_if_eq, sw_icmp_ne, sw_if_ne, sw_icmp_lt, sw_if_lt, sw_icmp_ge, sw_if_ge, sw_icmp_gt, sw_if_gt, sw_icmp_le, sw_if_le, sw_ifnull, sw_ifnonnull, sw_acmp, sw_get, sw_put, sw_iaload, sw_baload, sw_laload, sw_aaload, sw_alen, sw_iastore, sw_bastore, sw_lastore, sw_aastore, sw_aastoreN, sw_newa_byte, sw_newa_int, sw_newa_boolean, sw_newa_long, sw_anew, sw_new, sw_iv, sw_is, sw_ii, sw_ireturn, sw_areturn, sw_return, sw_table, cv_0, cv_1, cv_2, cv_3, cv_4, ci_0, ci_1, ci_2, ci_3, ci_4, cs_1, cs_2, cs_3, cs_4, ic_m1, ic_0, ic_1, ic_2, ic_3, ic_4, ic_5, ic_6, bp_6, bp_7, bp_8, bp_15, bp_16, bp_31, bp_32, bp_60, sp_250, sp_255, sp_4000, sp_5000, sp_15000, sp_32000, f4_0, f4_1, f4_2, f4_3, c_nat, rtm, rok_0, rok_1, rok_2, rok_3, okS_0, okS_s, okq_n, okq_i, okq_r, stW_n, stW_i, stW_r, stW_l, cat_i, cat_r, nox, nf_0, nf_1, nf_2, nf_3, nf_4, nf_5, nf_6, true_and, and_true, Nat.zero_le, Nat.reduceAdd, Nat.reduceLT, Nat.reduceLeDiff, Nat.reduceEqDiff, Int.reduceAdd, Int.reduceToNat, Int.reduceLE, reduceIte, List.length_cons, List.length_nil, List.set_cons_zero, List.set_cons_succ, Option.some.injEq, ne_eq, not_true, not_false_eq_true, false_or, or_false, true_or, or_true, false_and, and_false, true_implies, false_implies, implies_true, not_false_eq_true, Bool.false_eq_true, reduceCtorEq, dX6_byTurns_0, dX6_byTurns_1, dX6_byTurns_2, dX6_byTurns_3, dX6_byTurns_4, dX6_byTurns_7, dX6_byTurns_10, dX6_byTurns_11, dX6_byTurns_14, dX6_byTurns_15, dX6_byTurns_18, dX6_byTurns_19, dX6_byTurns_20, dX6_byTurns_21, dX6_byTurns_24, dX6_byTurns_25, dX6_byTurns_28, dX6_byTurns_29, dX6_byTurns_30, dX6_byTurns_31, dX6_byTurns_34, dX6_byTurns_35, dX6_byTurns_36, dX6_byTurns_37, dX6_byTurns_38, dX6_byTurns_41, dX6_byTurns_44, dX6_byTurns_45, dX6_byTurns_46, dX6_byTurns_49, dX6_byTurns_52, dX6_byTurns_53, ftX6_96, ftX6_117, rf, hR.1, hR.s1, hR.s8, e8, ite_zn, ite_zm, l_neg, q_rem2, q_lt, q_le, q_eq, q_add, q_mul, q_sub, q_div, q_rem, q_in, q_cl, q_0l, q_sac, l_0, l_1, l_2, l_3, l_4, l_5, l_6, l_8, l_15, l_16, l_32, l_60, l_250, l_4000, l_5000, ct_X6_byTurns]
        refine ⟨fun q => by omega, fun _ => ⟨by omega, m, ar, S, (S 8 0 + i) % S 1 0, rfl, by omega, hR, hW, ?_⟩⟩
        simp (disch := omega) only [wpf_s, wpA_s, wq_c, wq_n, lkp_n, lkp_c, lk_0, lk_s, ldI_s, ldR_s, ldL_s, incI_s, gfE_I, gfE_Z, gfE_R, pfE_I, pfE_Z, pfE_R, nwE_s, anE_0, anE_1, anE_4, kE_n, kE_s, ii_s, sw_iload_n, sw_iload, sw_aload_n, sw_aload, sw_lload_n, sw_lload, sw_istore_n, sw_istore, sw_astore_n, sw_astore, sw_lstore, sw_iinc, sw_iconst, sw_bipush, sw_sipush, sw_null, sw_ldc2, sw_dup, sw_dup2, sw_iadd, sw_isub, sw_imul, sw_iand, sw_ixor, sw_ishr, sw_iushr, sw_idiv, sw_irem, sw_land, sw_lor, sw_lcmp, sw_lshl, sw_lshr, sw_lushr, sw_i2l, sw_l2i, sw_i2b, sw_goto, sw_icmp_eq, sw_if_eq, sw_icmp_ne, sw_if_ne, sw_icmp_lt, sw_if_lt, sw_icmp_ge, sw_if_ge, sw_icmp_gt, sw_if_gt, sw_icmp_le, sw_if_le, sw_ifnull, sw_ifnonnull, sw_acmp, sw_get, sw_put, sw_iaload, sw_baload, sw_laload, sw_aaload, sw_alen, sw_iastore, sw_bastore, sw_lastore, sw_aastore, sw_aastoreN, sw_newa_byte, sw_newa_int, sw_newa_boolean, sw_newa_long, sw_anew, sw_new, sw_iv, sw_is, sw_ii, sw_ireturn, sw_areturn, sw_return, sw_table, cv_0, cv_1, cv_2, cv_3, cv_4, ci_0, ci_1, ci_2, ci_3, ci_4, cs_1, cs_2, cs_3, cs_4, ic_m1, ic_0, ic_1, ic_2, ic_3, ic_4, ic_5, ic_6, bp_6, bp_7, bp_8, bp_15, bp_16, bp_31, bp_32, bp_60, sp_250, sp_255, sp_4000, sp_5000, sp_15000, sp_32000, f4_0, f4_1, f4_2, f4_3, c_nat, rtm, rok_0, rok_1, rok_2, rok_3, okS_0, okS_s, okq_n, okq_i, okq_r, stW_n, stW_i, stW_r, stW_l, cat_i, cat_r, nox, nf_0, nf_1, nf_2, nf_3, nf_4, nf_5, nf_6, true_and, and_true, Nat.zero_le, Nat.reduceAdd, Nat.reduceLT, Nat.reduceLeDiff, Nat.reduceEqDiff, Int.reduceAdd, Int.reduceToNat, Int.reduceLE, reduceIte, List.length_cons, List.length_nil, List.set_cons_zero, List.set_cons_succ, Option.some.injEq, ne_eq, not_true, not_false_eq_true, false_or, or_false, true_or, or_true, false_and, and_false, true_implies, false_implies, implies_true, not_false_eq_true, Bool.false_eq_true, reduceCtorEq, dX6_byTurns_0, dX6_byTurns_1, dX6_byTurns_2, dX6_byTurns_3, dX6_byTurns_4, dX6_byTurns_7, dX6_byTurns_10, dX6_byTurns_11, dX6_byTurns_14, dX6_byTurns_15, dX6_byTurns_18, dX6_byTurns_19, dX6_byTurns_20, dX6_byTurns_21, dX6_byTurns_24, dX6_byTurns_25, dX6_byTurns_28, dX6_byTurns_29, dX6_byTurns_30, dX6_byTurns_31, dX6_byTurns_34, dX6_byTurns_35, dX6_byTurns_36, dX6_byTurns_37, dX6_byTurns_38, dX6_byTurns_41, dX6_byTurns_44, dX6_byTurns_45, dX6_byTurns_46, dX6_byTurns_49, dX6_byTurns_52, dX6_byTurns_53, ftX6_96, ftX6_117, rf, hR.1, hR.s1, hR.s8, e8, ite_zn, ite_zm, l_neg, q_rem2, q_lt, q_le, q_eq, q_add, q_mul, q_sub, q_div, q_rem, q_in, q_cl, q_0l, q_sac, l_0, l_1, l_2, l_3, l_4, l_5, l_6, l_8, l_15, l_16, l_32, l_60, l_250, l_4000, l_5000, ct_X6_byTurns]
        refine ⟨fun q => ?_, fun q => ?_⟩
        · refine ih (i + 1) _ (Or.inr ⟨_, rfl⟩) (by omega) (by omega) ?_
          rw [ff_f (by rw [et]; simpa using q)] at hq; exact hq
        · have q' : abl S (trn S i) = true := by rw [et]; exact Decidable.not_not.mp q
          rw [ff_t (p := fun k => abl S (trn S k)) (i := i) q'] at hq
          dsimp only at hq
          rw [if_neg (by unfold NN; omega), et] at hq; exact hq
  refine hJ [(2, J 2)] 60 0 [some (rf m), none, none] [] G 0 0 (fun x h ls st G k n q => by cases h with | head => exact q | tail _ h => cases h) ?_
  simp (disch := omega) only [wpf_s, wpA_s, wq_c, wq_n, lkp_n, lkp_c, lk_0, lk_s, ldI_s, ldR_s, ldL_s, incI_s, gfE_I, gfE_Z, gfE_R, pfE_I, pfE_Z, pfE_R, nwE_s, anE_0, anE_1, anE_4, kE_n, kE_s, ii_s, sw_iload_n, sw_iload, sw_aload_n, sw_aload, sw_lload_n, sw_lload, sw_istore_n, sw_istore, sw_astore_n, sw_astore, sw_lstore, sw_iinc, sw_iconst, sw_bipush, sw_sipush, sw_null, sw_ldc2, sw_dup, sw_dup2, sw_iadd, sw_isub, sw_imul, sw_iand, sw_ixor, sw_ishr, sw_iushr, sw_idiv, sw_irem, sw_land, sw_lor, sw_lcmp, sw_lshl, sw_lshr, sw_lushr, sw_i2l, sw_l2i, sw_i2b, sw_goto, sw_icmp_eq, sw_if_eq, sw_icmp_ne, sw_if_ne, sw_icmp_lt, sw_if_lt, sw_icmp_ge, sw_if_ge, sw_icmp_gt, sw_if_gt, sw_icmp_le, sw_if_le, sw_ifnull, sw_ifnonnull, sw_acmp, sw_get, sw_put, sw_iaload, sw_baload, sw_laload, sw_aaload, sw_alen, sw_iastore, sw_bastore, sw_lastore, sw_aastore, sw_aastoreN, sw_newa_byte, sw_newa_int, sw_newa_boolean, sw_newa_long, sw_anew, sw_new, sw_iv, sw_is, sw_ii, sw_ireturn, sw_areturn, sw_return, sw_table, cv_0, cv_1, cv_2, cv_3, cv_4, ci_0, ci_1, ci_2, ci_3, ci_4, cs_1, cs_2, cs_3, cs_4, ic_m1, ic_0, ic_1, ic_2, ic_3, ic_4, ic_5, ic_6, bp_6, bp_7, bp_8, bp_15, bp_16, bp_31, bp_32, bp_60, sp_250, sp_255, sp_4000, sp_5000, sp_15000, sp_32000, f4_0, f4_1, f4_2, f4_3, c_nat, rtm, rok_0, rok_1, rok_2, rok_3, okS_0, okS_s, okq_n, okq_i, okq_r, stW_n, stW_i, stW_r, stW_l, cat_i, cat_r, nox, nf_0, nf_1, nf_2, nf_3, nf_4, nf_5, nf_6, true_and, and_true, Nat.zero_le, Nat.reduceAdd, Nat.reduceLT, Nat.reduceLeDiff, Nat.reduceEqDiff, Int.reduceAdd, Int.reduceToNat, Int.reduceLE, reduceIte, List.length_cons, List.length_nil, List.set_cons_zero, List.set_cons_succ, Option.some.injEq, ne_eq, not_true, not_false_eq_true, false_or, or_false, true_or, or_true, false_and, and_false, true_implies, false_implies, implies_true, not_false_eq_true, Bool.false_eq_true, reduceCtorEq, dX6_byTurns_0, dX6_byTurns_1, dX6_byTurns_2, dX6_byTurns_3, dX6_byTurns_4, dX6_byTurns_7, dX6_byTurns_10, dX6_byTurns_11, dX6_byTurns_14, dX6_byTurns_15, dX6_byTurns_18, dX6_byTurns_19, dX6_byTurns_20, dX6_byTurns_21, dX6_byTurns_24, dX6_byTurns_25, dX6_byTurns_28, dX6_byTurns_29, dX6_byTurns_30, dX6_byTurns_31, dX6_byTurns_34, dX6_byTurns_35, dX6_byTurns_36, dX6_byTurns_37, dX6_byTurns_38, dX6_byTurns_41, dX6_byTurns_44, dX6_byTurns_45, dX6_byTurns_46, dX6_byTurns_49, dX6_byTurns_52, dX6_byTurns_53, ftX6_96, ftX6_117, rf, ite_zn, ite_zm, l_neg, q_rem2, q_lt, q_le, q_eq, q_add, q_mul, q_sub, q_div, q_rem, q_in, q_cl, q_0l, q_sac, l_0, l_1, l_2, l_3, l_4, l_5, l_6, l_8, l_15, l_16, l_32, l_60, l_250, l_4000, l_5000, ct_X6_byTurns]
  exact loop (S 1 0) 1 none (Or.inl rfl) (by omega) (by omega) h5
end
section
def T_X6_comesBack : TT := fun av G Qr _ => ∃ m ar S, av = [rf m] ∧ RepM G m ar S ∧ WF S ∧ ∀ G', RepM G' m ar (itr cbs (S 1 0) S) → Fr m ar G G' → Qr none G'
theorem mono_X6_comesBack : TMono T_X6_comesBack := fun av G Q1 Q2 Qx ⟨m, ar, S, h1, h3, h4, h5⟩ hq => ⟨m, ar, S, h1, h3, h4, fun G' q1 q2 => hq _ _ (h5 G' q1 q2)⟩
def T_X6_comes : TT := fun av G Qr _ => ∃ m ar S, av = [rf m] ∧ RepM G m ar S ∧ WF S ∧ S 11 0 + 8 ≤ 100000000 ∧ ∀ G', RepM G' m ar (itr cms (S 1 0) S) → Fr m ar G G' → Qr none G'
theorem mono_X6_comes : TMono T_X6_comes := fun av G Q1 Q2 Qx ⟨m, ar, S, h1, h3, h4, h6, h5⟩ hq => ⟨m, ar, S, h1, h3, h4, h6, fun G' q1 q2 => hq _ _ (h5 G' q1 q2)⟩
theorem cbs_o {S : St} {v k j : Nat} (h : k ≠ 33) : cbs v S k j = S k j := by unfold cbs; split <;> simp [up_n, h]
theorem cms_o {S : St} {v k j : Nat} (h1 : k ≠ 11) (h2 : k ≠ 31) (h3 : k ≠ 34) : cms v S k j = S k j := by unfold cms; split <;> (try split) <;> simp [up_n, h1, h2, h3]
def rm_X6_comesBack : Room := { frames := 0, cells := 0, slots := 0, locals := 0 }
def ct_X6_comesBack : List (Nat × CS) := []
set_option maxRecDepth 20000 in
set_option maxHeartbeats 4000000 in
theorem c_X6_comesBack (l : Launch) : CM l yX6_comesBack cX6_comesBack 2 none rm_X6_comesBack T_X6_comesBack := by
  refine CM.ev (ft := ftX6) (nt := []) (ct := ct_X6_comesBack) (oi := 0) (rt := 0) (ini := false) (by decide +kernel) (Or.inl ⟨rfl, rfl⟩) ftX6_ok (fun q => by cases q) (fun x h => by cases h) (fun x h => by cases h) (fun q => absurd rfl q) ?_
  intro av G Qr Qx hT
  obtain ⟨m, ar, S, rfl, hR, hW, h5⟩ := hT
  have w0 := hW.1.2.2.2.2.2.2.2.2.1
  have w1 := hW.1.1
  have w2 := hW.1.2.1
  refine ⟨Nat.le_of_ble_eq_true rfl, fun J hJ => ?_⟩
  have loop : ∀ (d i : Nat) (G1 : GG) (S1 : St), i + d = S 1 0 → S1 = itr cbs i S → S1 1 0 = S 1 0 → RepM G1 m ar S1 → Fr m ar G G1 → WF S1 → J 2 [some (rf m), some (.inl (nI i))] [] G1 0 0 := by
    intro d
    induction d with
    | zero =>
      intro i G1 S1 hi hS h1 hR1 hF hW1
      refine hJ [] 60 2 [some (rf m), some (.inl (nI i))] [] G1 0 0 (fun x h => by cases h) ?_
      simp (disch := omega) only [wpf_s, wpA_s, wq_c, wq_n, lkp_n, lkp_c, lk_0, lk_s, ldI_s, ldR_s, ldL_s, incI_s, gfE_I, gfE_Z, gfE_R, pfE_I, pfE_Z, pfE_R, nwE_s, anE_0, anE_1, anE_4, kE_n, kE_s, ii_s, sw_iload_n, sw_iload, sw_aload_n, sw_aload, sw_lload_n, sw_lload, sw_istore_n, sw_istore, sw_astore_n, sw_astore, sw_lstore, sw_iinc, sw_iconst, sw_bipush, sw_sipush, sw_null, sw_ldc2, sw_dup, sw_dup2, sw_iadd, sw_isub, sw_imul, sw_iand, sw_ixor, sw_ishr, sw_iushr, sw_idiv, sw_irem, sw_land, sw_lor, sw_lcmp, sw_lshl, sw_lshr, sw_lushr, sw_i2l, sw_l2i, sw_i2b, sw_goto, sw_icmp_eq, sw_if_eq, sw_icmp_ne, sw_if_ne, sw_icmp_lt, sw_if_lt, sw_icmp_ge, sw_if_ge, sw_icmp_gt, sw_if_gt, sw_icmp_le, sw_if_le, sw_ifnull, sw_ifnonnull, sw_acmp, sw_get, sw_put, sw_iaload, sw_baload, sw_laload, sw_aaload, sw_alen, sw_iastore, sw_bastore, sw_lastore, sw_aastore, sw_aastoreN, sw_newa_byte, sw_newa_int, sw_newa_boolean, sw_newa_long, sw_anew, sw_new, sw_iv, sw_is, sw_ii, sw_ireturn, sw_areturn, sw_return, sw_table, cv_0, cv_1, cv_2, cv_3, cv_4, ci_0, ci_1, ci_2, ci_3, ci_4, cs_1, cs_2, cs_3, cs_4, ic_m1, ic_0, ic_1, ic_2, ic_3, ic_4, ic_5, ic_6, bp_6, bp_7, bp_8, bp_15, bp_16, bp_31, bp_32, bp_60, sp_250, sp_255, sp_4000, sp_5000, sp_15000, sp_32000, f4_0, f4_1, f4_2, f4_3, c_nat, rtm, rok_0, rok_1, rok_2, rok_3, okS_0, okS_s, okq_n, okq_i, okq_r, stW_n, stW_i, stW_r, stW_l, cat_i, cat_r, nox, nf_0, nf_1, nf_2, nf_3, nf_4, nf_5, nf_6, true_and, and_true, Nat.zero_le, Nat.reduceAdd, Nat.reduceLT, Nat.reduceLeDiff, Nat.reduceEqDiff, Int.reduceAdd, Int.reduceToNat, Int.reduceLE, reduceIte, List.length_cons, List.length_nil, List.set_cons_zero, List.set_cons_succ, Option.some.injEq, ne_eq, not_true, not_false_eq_true, false_or, or_false, true_or, or_true, false_and, and_false, true_implies, false_implies, implies_true, not_false_eq_true, Bool.false_eq_true, reduceCtorEq, dX6_comesBack_0, dX6_comesBack_1, dX6_comesBack_2, dX6_comesBack_3, dX6_comesBack_4, dX6_comesBack_7, dX6_comesBack_10, dX6_comesBack_11, dX6_comesBack_14, dX6_comesBack_15, dX6_comesBack_16, dX6_comesBack_17, dX6_comesBack_20, dX6_comesBack_21, dX6_comesBack_22, dX6_comesBack_25, dX6_comesBack_26, dX6_comesBack_29, dX6_comesBack_32, dX6_comesBack_33, dX6_comesBack_34, dX6_comesBack_35, dX6_comesBack_38, dX6_comesBack_39, dX6_comesBack_40, dX6_comesBack_41, dX6_comesBack_42, dX6_comesBack_43, dX6_comesBack_46, dX6_comesBack_47, dX6_comesBack_48, dX6_comesBack_51, dX6_comesBack_54, dX6_comesBack_55, dX6_comesBack_58, dX6_comesBack_59, dX6_comesBack_60, dX6_comesBack_61, dX6_comesBack_62, dX6_comesBack_63, dX6_comesBack_64, dX6_comesBack_67, dX6_comesBack_70, ftX6_96, ftX6_72, ftX6_69, ftX6_57, ftX6_102, ftX6_114, rf, hR1.1, hR1.s1, h1, ite_zn, ite_zm, q_max, l_neg, q_rem2, q_lt, q_le, q_eq, q_add, q_mul, q_sub, q_div, q_rem, q_in, q_cl, q_0l, q_sac, l_0, l_1, l_2, l_3, l_4, l_5, l_6, l_8, l_15, l_16, l_32, l_60, l_250, l_4000, l_5000, ct_X6_comesBack]
      refine ⟨fun q => ?_, fun q => ?_⟩
      · exact h5 G1 (by rw [hS, show i = S 1 0 by omega] at hR1; exact hR1) hF
      · omega
    | succ d ih =>
      intro i G1 S1 hi hS h1 hR1 hF hW1
      have hi8 : i < 8 := by omega
      have hc := hW1.2.1 i hi8
      unfold Wc at hc
      have hr := hW1.rows
      have hf : S1 33 i < S1 32 i → S1 28 (4000 * i + S1 33 i) ≤ S1 7 0 := fun q => (hW1.2.2.2 i hi8 (S1 33 i) (by omega)).2.2.2 q
      refine hJ [(2, J 2)] 60 2 [some (rf m), some (.inl (nI i))] [] G1 0 0 (fun x h ls st G k n q => by cases h with | head => exact q | tail _ h => cases h) ?_
      simp (disch := omega) only [wpf_s, wpA_s, wq_c, wq_n, lkp_n, lkp_c, lk_0, lk_s, ldI_s, ldR_s, ldL_s, incI_s, gfE_I, gfE_Z, gfE_R, pfE_I, pfE_Z, pfE_R, nwE_s, anE_0, anE_1, anE_4, kE_n, kE_s, ii_s, sw_iload_n, sw_iload, sw_aload_n, sw_aload, sw_lload_n, sw_lload, sw_istore_n, sw_istore, sw_astore_n, sw_astore, sw_lstore, sw_iinc, sw_iconst, sw_bipush, sw_sipush, sw_null, sw_ldc2, sw_dup, sw_dup2, sw_iadd, sw_isub, sw_imul, sw_iand, sw_ixor, sw_ishr, sw_iushr, sw_idiv, sw_irem, sw_land, sw_lor, sw_lcmp, sw_lshl, sw_lshr, sw_lushr, sw_i2l, sw_l2i, sw_i2b, sw_goto, sw_icmp_eq, sw_if_eq, sw_icmp_ne, sw_if_ne, sw_icmp_lt, sw_if_lt, sw_icmp_ge, sw_if_ge, sw_icmp_gt, sw_if_gt, sw_icmp_le, sw_if_le, sw_ifnull, sw_ifnonnull, sw_acmp, sw_get, sw_put, sw_iaload, sw_baload, sw_laload, sw_aaload, sw_alen, sw_iastore, sw_bastore, sw_lastore, sw_aastore, sw_aastoreN, sw_newa_byte, sw_newa_int, sw_newa_boolean, sw_newa_long, sw_anew, sw_new, sw_iv, sw_is, sw_ii, sw_ireturn, sw_areturn, sw_return, sw_table, cv_0, cv_1, cv_2, cv_3, cv_4, ci_0, ci_1, ci_2, ci_3, ci_4, cs_1, cs_2, cs_3, cs_4, ic_m1, ic_0, ic_1, ic_2, ic_3, ic_4, ic_5, ic_6, bp_6, bp_7, bp_8, bp_15, bp_16, bp_31, bp_32, bp_60, sp_250, sp_255, sp_4000, sp_5000, sp_15000, sp_32000, f4_0, f4_1, f4_2, f4_3, c_nat, rtm, rok_0, rok_1, rok_2, rok_3, okS_0, okS_s, okq_n, okq_i, okq_r, stW_n, stW_i, stW_r, stW_l, cat_i, cat_r, nox, nf_0, nf_1, nf_2, nf_3, nf_4, nf_5, nf_6, true_and, and_true, Nat.zero_le, Nat.reduceAdd, Nat.reduceLT, Nat.reduceLeDiff, Nat.reduceEqDiff, Int.reduceAdd, Int.reduceToNat, Int.reduceLE, reduceIte, List.length_cons, List.length_nil, List.set_cons_zero, List.set_cons_succ, Option.some.injEq, ne_eq, not_true, not_false_eq_true, false_or, or_false, true_or, or_true, false_and, and_false, true_implies, false_implies, implies_true, not_false_eq_true, Bool.false_eq_true, reduceCtorEq, dX6_comesBack_0, dX6_comesBack_1, dX6_comesBack_2, dX6_comesBack_3, dX6_comesBack_4, dX6_comesBack_7, dX6_comesBack_10, dX6_comesBack_11, dX6_comesBack_14, dX6_comesBack_15, dX6_comesBack_16, dX6_comesBack_17, dX6_comesBack_20, dX6_comesBack_21, dX6_comesBack_22, dX6_comesBack_25, dX6_comesBack_26, dX6_comesBack_29, dX6_comesBack_32, dX6_comesBack_33, dX6_comesBack_34, dX6_comesBack_35, dX6_comesBack_38, dX6_comesBack_39, dX6_comesBack_40, dX6_comesBack_41, dX6_comesBack_42, dX6_comesBack_43, dX6_comesBack_46, dX6_comesBack_47, dX6_comesBack_48, dX6_comesBack_51, dX6_comesBack_54, dX6_comesBack_55, dX6_comesBack_58, dX6_comesBack_59, dX6_comesBack_60, dX6_comesBack_61, dX6_comesBack_62, dX6_comesBack_63, dX6_comesBack_64, dX6_comesBack_67, dX6_comesBack_70, ftX6_96, ftX6_72, ftX6_69, ftX6_57, ftX6_102, ftX6_114, rf, hR1.1, hR1.s1, hR1.s3, hR1.s7, h1, hi8, hR1.a28, hR1.k28, hR1.n28, hR1.g28, hR1.a32, hR1.k32, hR1.n32, hR1.g32, hR1.a33, hR1.k33, hR1.n33, hR1.g33, ite_zn, ite_zm, q_max, l_neg, q_rem2, q_lt, q_le, q_eq, q_add, q_mul, q_sub, q_div, q_rem, q_in, q_cl, q_0l, q_sac, l_0, l_1, l_2, l_3, l_4, l_5, l_6, l_8, l_15, l_16, l_32, l_60, l_250, l_4000, l_5000, ct_X6_comesBack]
      refine ⟨fun q => by omega, fun _ => ⟨fun q => ?_, fun q => ?_⟩⟩
      · have e : cbs i S1 = S1 := by unfold cbs; rw [if_neg (by omega)]
        exact ih (i + 1) G1 S1 (by omega) (by rw [itr, ← hS, e]) h1 hR1 hF hW1
      · have hf := hf (by omega)
        simp (disch := omega) only [wpf_s, wpA_s, wq_c, wq_n, lkp_n, lkp_c, lk_0, lk_s, ldI_s, ldR_s, ldL_s, incI_s, gfE_I, gfE_Z, gfE_R, pfE_I, pfE_Z, pfE_R, nwE_s, anE_0, anE_1, anE_4, kE_n, kE_s, ii_s, sw_iload_n, sw_iload, sw_aload_n, sw_aload, sw_lload_n, sw_lload, sw_istore_n, sw_istore, sw_astore_n, sw_astore, sw_lstore, sw_iinc, sw_iconst, sw_bipush, sw_sipush, sw_null, sw_ldc2, sw_dup, sw_dup2, sw_iadd, sw_isub, sw_imul, sw_iand, sw_ixor, sw_ishr, sw_iushr, sw_idiv, sw_irem, sw_land, sw_lor, sw_lcmp, sw_lshl, sw_lshr, sw_lushr, sw_i2l, sw_l2i, sw_i2b, sw_goto, sw_icmp_eq, sw_if_eq, sw_icmp_ne, sw_if_ne, sw_icmp_lt, sw_if_lt, sw_icmp_ge, sw_if_ge, sw_icmp_gt, sw_if_gt, sw_icmp_le, sw_if_le, sw_ifnull, sw_ifnonnull, sw_acmp, sw_get, sw_put, sw_iaload, sw_baload, sw_laload, sw_aaload, sw_alen, sw_iastore, sw_bastore, sw_lastore, sw_aastore, sw_aastoreN, sw_newa_byte, sw_newa_int, sw_newa_boolean, sw_newa_long, sw_anew, sw_new, sw_iv, sw_is, sw_ii, sw_ireturn, sw_areturn, sw_return, sw_table, cv_0, cv_1, cv_2, cv_3, cv_4, ci_0, ci_1, ci_2, ci_3, ci_4, cs_1, cs_2, cs_3, cs_4, ic_m1, ic_0, ic_1, ic_2, ic_3, ic_4, ic_5, ic_6, bp_6, bp_7, bp_8, bp_15, bp_16, bp_31, bp_32, bp_60, sp_250, sp_255, sp_4000, sp_5000, sp_15000, sp_32000, f4_0, f4_1, f4_2, f4_3, c_nat, rtm, rok_0, rok_1, rok_2, rok_3, okS_0, okS_s, okq_n, okq_i, okq_r, stW_n, stW_i, stW_r, stW_l, cat_i, cat_r, nox, nf_0, nf_1, nf_2, nf_3, nf_4, nf_5, nf_6, true_and, and_true, Nat.zero_le, Nat.reduceAdd, Nat.reduceLT, Nat.reduceLeDiff, Nat.reduceEqDiff, Int.reduceAdd, Int.reduceToNat, Int.reduceLE, reduceIte, List.length_cons, List.length_nil, List.set_cons_zero, List.set_cons_succ, Option.some.injEq, ne_eq, not_true, not_false_eq_true, false_or, or_false, true_or, or_true, false_and, and_false, true_implies, false_implies, implies_true, not_false_eq_true, Bool.false_eq_true, reduceCtorEq, dX6_comesBack_0, dX6_comesBack_1, dX6_comesBack_2, dX6_comesBack_3, dX6_comesBack_4, dX6_comesBack_7, dX6_comesBack_10, dX6_comesBack_11, dX6_comesBack_14, dX6_comesBack_15, dX6_comesBack_16, dX6_comesBack_17, dX6_comesBack_20, dX6_comesBack_21, dX6_comesBack_22, dX6_comesBack_25, dX6_comesBack_26, dX6_comesBack_29, dX6_comesBack_32, dX6_comesBack_33, dX6_comesBack_34, dX6_comesBack_35, dX6_comesBack_38, dX6_comesBack_39, dX6_comesBack_40, dX6_comesBack_41, dX6_comesBack_42, dX6_comesBack_43, dX6_comesBack_46, dX6_comesBack_47, dX6_comesBack_48, dX6_comesBack_51, dX6_comesBack_54, dX6_comesBack_55, dX6_comesBack_58, dX6_comesBack_59, dX6_comesBack_60, dX6_comesBack_61, dX6_comesBack_62, dX6_comesBack_63, dX6_comesBack_64, dX6_comesBack_67, dX6_comesBack_70, ftX6_96, ftX6_72, ftX6_69, ftX6_57, ftX6_102, ftX6_114, rf, hR1.1, hR1.s1, hR1.s3, hR1.s7, h1, hi8, hR1.a28, hR1.k28, hR1.n28, hR1.g28, hR1.a32, hR1.k32, hR1.n32, hR1.g32, hR1.a33, hR1.k33, hR1.n33, hR1.g33, ite_zn, ite_zm, q_max, l_neg, q_rem2, q_lt, q_le, q_eq, q_add, q_mul, q_sub, q_div, q_rem, q_in, q_cl, q_0l, q_sac, l_0, l_1, l_2, l_3, l_4, l_5, l_6, l_8, l_15, l_16, l_32, l_60, l_250, l_4000, l_5000, ct_X6_comesBack]
        refine ⟨by omega, fun q2 => ?_, fun q2 => ?_⟩
        · have e : cbs i S1 = up S1 33 i (S1 33 i + 1) := by unfold cbs; rw [if_pos (by omega)]
          exact ih (i + 1) _ (up S1 33 i (S1 33 i + 1)) (by omega) (by rw [itr, ← hS, e]) (by simp [up_n, h1]) (hR1.setA (by decide) rfl) (hF.a (by decide)) (by rw [← e]; exact WF_cbs hW1 i)
        · have e : cbs i S1 = S1 := by unfold cbs; rw [if_neg (by omega)]
          exact ih (i + 1) G1 S1 (by omega) (by rw [itr, ← hS, e]) h1 hR1 hF hW1
  refine hJ [(2, J 2)] 60 0 [some (rf m), none] [] G 0 0 (fun x h ls st G k n q => by cases h with | head => exact q | tail _ h => cases h) ?_
  simp (disch := omega) only [wpf_s, wpA_s, wq_c, wq_n, lkp_n, lkp_c, lk_0, lk_s, ldI_s, ldR_s, ldL_s, incI_s, gfE_I, gfE_Z, gfE_R, pfE_I, pfE_Z, pfE_R, nwE_s, anE_0, anE_1, anE_4, kE_n, kE_s, ii_s, sw_iload_n, sw_iload, sw_aload_n, sw_aload, sw_lload_n, sw_lload, sw_istore_n, sw_istore, sw_astore_n, sw_astore, sw_lstore, sw_iinc, sw_iconst, sw_bipush, sw_sipush, sw_null, sw_ldc2, sw_dup, sw_dup2, sw_iadd, sw_isub, sw_imul, sw_iand, sw_ixor, sw_ishr, sw_iushr, sw_idiv, sw_irem, sw_land, sw_lor, sw_lcmp, sw_lshl, sw_lshr, sw_lushr, sw_i2l, sw_l2i, sw_i2b, sw_goto, sw_icmp_eq, sw_if_eq, sw_icmp_ne, sw_if_ne, sw_icmp_lt, sw_if_lt, sw_icmp_ge, sw_if_ge, sw_icmp_gt, sw_if_gt, sw_icmp_le, sw_if_le, sw_ifnull, sw_ifnonnull, sw_acmp, sw_get, sw_put, sw_iaload, sw_baload, sw_laload, sw_aaload, sw_alen, sw_iastore, sw_bastore, sw_lastore, sw_aastore, sw_aastoreN, sw_newa_byte, sw_newa_int, sw_newa_boolean, sw_newa_long, sw_anew, sw_new, sw_iv, sw_is, sw_ii, sw_ireturn, sw_areturn, sw_return, sw_table, cv_0, cv_1, cv_2, cv_3, cv_4, ci_0, ci_1, ci_2, ci_3, ci_4, cs_1, cs_2, cs_3, cs_4, ic_m1, ic_0, ic_1, ic_2, ic_3, ic_4, ic_5, ic_6, bp_6, bp_7, bp_8, bp_15, bp_16, bp_31, bp_32, bp_60, sp_250, sp_255, sp_4000, sp_5000, sp_15000, sp_32000, f4_0, f4_1, f4_2, f4_3, c_nat, rtm, rok_0, rok_1, rok_2, rok_3, okS_0, okS_s, okq_n, okq_i, okq_r, stW_n, stW_i, stW_r, stW_l, cat_i, cat_r, nox, nf_0, nf_1, nf_2, nf_3, nf_4, nf_5, nf_6, true_and, and_true, Nat.zero_le, Nat.reduceAdd, Nat.reduceLT, Nat.reduceLeDiff, Nat.reduceEqDiff, Int.reduceAdd, Int.reduceToNat, Int.reduceLE, reduceIte, List.length_cons, List.length_nil, List.set_cons_zero, List.set_cons_succ, Option.some.injEq, ne_eq, not_true, not_false_eq_true, false_or, or_false, true_or, or_true, false_and, and_false, true_implies, false_implies, implies_true, not_false_eq_true, Bool.false_eq_true, reduceCtorEq, dX6_comesBack_0, dX6_comesBack_1, dX6_comesBack_2, dX6_comesBack_3, dX6_comesBack_4, dX6_comesBack_7, dX6_comesBack_10, dX6_comesBack_11, dX6_comesBack_14, dX6_comesBack_15, dX6_comesBack_16, dX6_comesBack_17, dX6_comesBack_20, dX6_comesBack_21, dX6_comesBack_22, dX6_comesBack_25, dX6_comesBack_26, dX6_comesBack_29, dX6_comesBack_32, dX6_comesBack_33, dX6_comesBack_34, dX6_comesBack_35, dX6_comesBack_38, dX6_comesBack_39, dX6_comesBack_40, dX6_comesBack_41, dX6_comesBack_42, dX6_comesBack_43, dX6_comesBack_46, dX6_comesBack_47, dX6_comesBack_48, dX6_comesBack_51, dX6_comesBack_54, dX6_comesBack_55, dX6_comesBack_58, dX6_comesBack_59, dX6_comesBack_60, dX6_comesBack_61, dX6_comesBack_62, dX6_comesBack_63, dX6_comesBack_64, dX6_comesBack_67, dX6_comesBack_70, ftX6_96, ftX6_72, ftX6_69, ftX6_57, ftX6_102, ftX6_114, rf, ite_zn, ite_zm, q_max, l_neg, q_rem2, q_lt, q_le, q_eq, q_add, q_mul, q_sub, q_div, q_rem, q_in, q_cl, q_0l, q_sac, l_0, l_1, l_2, l_3, l_4, l_5, l_6, l_8, l_15, l_16, l_32, l_60, l_250, l_4000, l_5000, ct_X6_comesBack]
  exact loop (S 1 0) 0 G S (by omega) rfl rfl hR Fr.rf hW
def rm_X6_comes : Room := { frames := 1, cells := 0, slots := 0, locals := 21 }
def ct_X6_comes : List (Nat × CS) := [(149, 8, 2, 0, 0, T_J9_max_7cf53)]
set_option maxRecDepth 20000 in
set_option maxHeartbeats 4000000 in
theorem c_X6_comes (l : Launch) : CM l yX6_comes cX6_comes 2 none rm_X6_comes T_X6_comes := by
  refine CM.ev (ft := ftX6) (nt := []) (ct := ct_X6_comes) (oi := 0) (rt := 0) (ini := false) (by decide +kernel) (Or.inl ⟨rfl, rfl⟩) ftX6_ok (fun q => by cases q) (fun x h => by cases h) (List.forall_mem_cons.mpr ⟨⟨mono_J9_max_7cf53, yJ9_max_7cf53, cJ9_max_7cf53, 2, (some .int), rm_J9_max_7cf53, c_J9_max_7cf53 l, mi_J9_max_7cf53, rfl, rfl, ⟨by decide, by decide⟩, fun q => absurd q (by decide), fun _ => ⟨ms_J9_max_7cf53, lnkX6_149⟩, fun q => absurd q (by decide), fun q => absurd q (by decide)⟩, fun x h => by cases h⟩) (fun q => absurd rfl q) ?_
  intro av G Qr Qx hT
  obtain ⟨m, ar, S, rfl, hR, hW, h6, h5⟩ := hT
  have w0 := hW.1.2.2.2.2.2.2.2.2.1
  have w1 := hW.1.1
  have w2 := hW.1.2.1
  refine ⟨Nat.le_of_ble_eq_true rfl, fun J hJ => ?_⟩
  have loop : ∀ (d i : Nat) (G1 : GG) (S1 : St), i + d = S 1 0 → S1 = itr cms i S → S1 1 0 = S 1 0 → S1 11 0 ≤ S 11 0 + i → RepM G1 m ar S1 → Fr m ar G G1 → WF S1 → J 2 [some (rf m), some (.inl (nI i))] [] G1 0 0 := by
    intro d
    induction d with
    | zero =>
      intro i G1 S1 hi hS h1 h11 hR1 hF hW1
      refine hJ [] 60 2 [some (rf m), some (.inl (nI i))] [] G1 0 0 (fun x h => by cases h) ?_
      simp (disch := omega) only [wpf_s, wpA_s, wq_c, wq_n, lkp_n, lkp_c, lk_0, lk_s, ldI_s, ldR_s, ldL_s, incI_s, gfE_I, gfE_Z, gfE_R, pfE_I, pfE_Z, pfE_R, nwE_s, anE_0, anE_1, anE_4, kE_n, kE_s, ii_s, sw_iload_n, sw_iload, sw_aload_n, sw_aload, sw_lload_n, sw_lload, sw_istore_n, sw_istore, sw_astore_n, sw_astore, sw_lstore, sw_iinc, sw_iconst, sw_bipush, sw_sipush, sw_null, sw_ldc2, sw_dup, sw_dup2, sw_iadd, sw_isub, sw_imul, sw_iand, sw_ixor, sw_ishr, sw_iushr, sw_idiv, sw_irem, sw_land, sw_lor, sw_lcmp, sw_lshl, sw_lshr, sw_lushr, sw_i2l, sw_l2i, sw_i2b, sw_goto, sw_icmp_eq, sw_if_eq, sw_icmp_ne, sw_if_ne, sw_icmp_lt, sw_if_lt, sw_icmp_ge, sw_if_ge, sw_icmp_gt, sw_if_gt, sw_icmp_le, sw_if_le, sw_ifnull, sw_ifnonnull, sw_acmp, sw_get, sw_put, sw_iaload, sw_baload, sw_laload, sw_aaload, sw_alen, sw_iastore, sw_bastore, sw_lastore, sw_aastore, sw_aastoreN, sw_newa_byte, sw_newa_int, sw_newa_boolean, sw_newa_long, sw_anew, sw_new, sw_iv, sw_is, sw_ii, sw_ireturn, sw_areturn, sw_return, sw_table, cv_0, cv_1, cv_2, cv_3, cv_4, ci_0, ci_1, ci_2, ci_3, ci_4, cs_1, cs_2, cs_3, cs_4, ic_m1, ic_0, ic_1, ic_2, ic_3, ic_4, ic_5, ic_6, bp_6, bp_7, bp_8, bp_15, bp_16, bp_31, bp_32, bp_60, sp_250, sp_255, sp_4000, sp_5000, sp_15000, sp_32000, f4_0, f4_1, f4_2, f4_3, c_nat, rtm, rok_0, rok_1, rok_2, rok_3, okS_0, okS_s, okq_n, okq_i, okq_r, stW_n, stW_i, stW_r, stW_l, cat_i, cat_r, nox, nf_0, nf_1, nf_2, nf_3, nf_4, nf_5, nf_6, true_and, and_true, Nat.zero_le, Nat.reduceAdd, Nat.reduceLT, Nat.reduceLeDiff, Nat.reduceEqDiff, Int.reduceAdd, Int.reduceToNat, Int.reduceLE, reduceIte, List.length_cons, List.length_nil, List.set_cons_zero, List.set_cons_succ, Option.some.injEq, ne_eq, not_true, not_false_eq_true, false_or, or_false, true_or, or_true, false_and, and_false, true_implies, false_implies, implies_true, not_false_eq_true, Bool.false_eq_true, reduceCtorEq, dX6_comes_0, dX6_comes_1, dX6_comes_2, dX6_comes_3, dX6_comes_4, dX6_comes_7, dX6_comes_10, dX6_comes_11, dX6_comes_14, dX6_comes_15, dX6_comes_16, dX6_comes_17, dX6_comes_20, dX6_comes_21, dX6_comes_22, dX6_comes_25, dX6_comes_26, dX6_comes_29, dX6_comes_32, dX6_comes_33, dX6_comes_34, dX6_comes_35, dX6_comes_38, dX6_comes_39, dX6_comes_40, dX6_comes_41, dX6_comes_42, dX6_comes_43, dX6_comes_46, dX6_comes_47, dX6_comes_48, dX6_comes_51, dX6_comes_54, dX6_comes_57, dX6_comes_58, dX6_comes_61, dX6_comes_62, dX6_comes_63, dX6_comes_64, dX6_comes_67, dX6_comes_68, dX6_comes_69, dX6_comes_70, dX6_comes_71, dX6_comes_74, dX6_comes_75, dX6_comes_76, dX6_comes_79, dX6_comes_80, dX6_comes_81, dX6_comes_84, dX6_comes_85, dX6_comes_86, dX6_comes_89, dX6_comes_90, dX6_comes_93, dX6_comes_94, dX6_comes_95, dX6_comes_96, dX6_comes_97, dX6_comes_98, dX6_comes_99, dX6_comes_100, dX6_comes_103, dX6_comes_104, dX6_comes_105, dX6_comes_108, dX6_comes_109, dX6_comes_110, dX6_comes_111, dX6_comes_114, dX6_comes_115, dX6_comes_116, dX6_comes_117, dX6_comes_120, dX6_comes_121, dX6_comes_122, dX6_comes_123, dX6_comes_126, dX6_comes_127, dX6_comes_130, dX6_comes_133, ftX6_96, ftX6_66, ftX6_63, ftX6_54, ftX6_99, ftX6_114, ftX6_69, ftX6_9, ftX6_126, ftX6_75, rf, hR1.1, hR1.s1, h1, ite_zn, ite_zm, q_max, l_neg, q_rem2, q_lt, q_le, q_eq, q_add, q_mul, q_sub, q_div, q_rem, q_in, q_cl, q_0l, q_sac, l_0, l_1, l_2, l_3, l_4, l_5, l_6, l_8, l_15, l_16, l_32, l_60, l_250, l_4000, l_5000, ct_X6_comes]
      refine ⟨fun q => ?_, fun q => ?_⟩
      · exact h5 G1 (by rw [hS, show i = S 1 0 by omega] at hR1; exact hR1) hF
      · omega
    | succ d ih =>
      intro i G1 S1 hi hS h1 h11 hR1 hF hW1
      have hi8 : i < 8 := by omega
      have hc := hW1.2.1 i hi8
      unfold Wc at hc
      have hr := hW1.rows
      have hW2 := WF_cms hW1 i hi8 (by omega)
      have a31 : ar 31 ≠ m := hR1.am (by decide)
      have a32 : ar 32 ≠ m := hR1.am (by decide)
      have a34 : ar 34 ≠ m := hR1.am (by decide)
      have n1 : ar 32 ≠ ar 31 := fun e => by have := hR1.2.2.1 32 31 (by decide) (by decide) e; omega
      have n2 : ar 34 ≠ ar 31 := fun e => by have := hR1.2.2.1 34 31 (by decide) (by decide) e; omega
      have hf : S1 31 i < S1 30 i → S1 27 (4000 * i + S1 31 i) ≤ S1 7 0 := fun q => (hW1.2.2.2 i hi8 (S1 31 i) (by omega)).2.2.1 q
      refine hJ [(2, J 2)] 100 2 [some (rf m), some (.inl (nI i))] [] G1 0 0 (fun x h ls st G k n q => by cases h with | head => exact q | tail _ h => cases h) ?_
      simp (disch := omega) only [wpf_s, wpA_s, wq_c, wq_n, lkp_n, lkp_c, lk_0, lk_s, ldI_s, ldR_s, ldL_s, incI_s, gfE_I, gfE_Z, gfE_R, pfE_I, pfE_Z, pfE_R, nwE_s, anE_0, anE_1, anE_4, kE_n, kE_s, ii_s, sw_iload_n, sw_iload, sw_aload_n, sw_aload, sw_lload_n, sw_lload, sw_istore_n, sw_istore, sw_astore_n, sw_astore, sw_lstore, sw_iinc, sw_iconst, sw_bipush, sw_sipush, sw_null, sw_ldc2, sw_dup, sw_dup2, sw_iadd, sw_isub, sw_imul, sw_iand, sw_ixor, sw_ishr, sw_iushr, sw_idiv, sw_irem, sw_land, sw_lor, sw_lcmp, sw_lshl, sw_lshr, sw_lushr, sw_i2l, sw_l2i, sw_i2b, sw_goto, sw_icmp_eq, sw_if_eq, sw_icmp_ne, sw_if_ne, sw_icmp_lt, sw_if_lt, sw_icmp_ge, sw_if_ge, sw_icmp_gt, sw_if_gt, sw_icmp_le, sw_if_le, sw_ifnull, sw_ifnonnull, sw_acmp, sw_get, sw_put, sw_iaload, sw_baload, sw_laload, sw_aaload, sw_alen, sw_iastore, sw_bastore, sw_lastore, sw_aastore, sw_aastoreN, sw_newa_byte, sw_newa_int, sw_newa_boolean, sw_newa_long, sw_anew, sw_new, sw_iv, sw_is, sw_ii, sw_ireturn, sw_areturn, sw_return, sw_table, cv_0, cv_1, cv_2, cv_3, cv_4, ci_0, ci_1, ci_2, ci_3, ci_4, cs_1, cs_2, cs_3, cs_4, ic_m1, ic_0, ic_1, ic_2, ic_3, ic_4, ic_5, ic_6, bp_6, bp_7, bp_8, bp_15, bp_16, bp_31, bp_32, bp_60, sp_250, sp_255, sp_4000, sp_5000, sp_15000, sp_32000, f4_0, f4_1, f4_2, f4_3, c_nat, rtm, rok_0, rok_1, rok_2, rok_3, okS_0, okS_s, okq_n, okq_i, okq_r, stW_n, stW_i, stW_r, stW_l, cat_i, cat_r, nox, nf_0, nf_1, nf_2, nf_3, nf_4, nf_5, nf_6, true_and, and_true, Nat.zero_le, Nat.reduceAdd, Nat.reduceLT, Nat.reduceLeDiff, Nat.reduceEqDiff, Int.reduceAdd, Int.reduceToNat, Int.reduceLE, reduceIte, List.length_cons, List.length_nil, List.set_cons_zero, List.set_cons_succ, Option.some.injEq, ne_eq, not_true, not_false_eq_true, false_or, or_false, true_or, or_true, false_and, and_false, true_implies, false_implies, implies_true, not_false_eq_true, Bool.false_eq_true, reduceCtorEq, dX6_comes_0, dX6_comes_1, dX6_comes_2, dX6_comes_3, dX6_comes_4, dX6_comes_7, dX6_comes_10, dX6_comes_11, dX6_comes_14, dX6_comes_15, dX6_comes_16, dX6_comes_17, dX6_comes_20, dX6_comes_21, dX6_comes_22, dX6_comes_25, dX6_comes_26, dX6_comes_29, dX6_comes_32, dX6_comes_33, dX6_comes_34, dX6_comes_35, dX6_comes_38, dX6_comes_39, dX6_comes_40, dX6_comes_41, dX6_comes_42, dX6_comes_43, dX6_comes_46, dX6_comes_47, dX6_comes_48, dX6_comes_51, dX6_comes_54, dX6_comes_57, dX6_comes_58, dX6_comes_61, dX6_comes_62, dX6_comes_63, dX6_comes_64, dX6_comes_67, dX6_comes_68, dX6_comes_69, dX6_comes_70, dX6_comes_71, dX6_comes_74, dX6_comes_75, dX6_comes_76, dX6_comes_79, dX6_comes_80, dX6_comes_81, dX6_comes_84, dX6_comes_85, dX6_comes_86, dX6_comes_89, dX6_comes_90, dX6_comes_93, dX6_comes_94, dX6_comes_95, dX6_comes_96, dX6_comes_97, dX6_comes_98, dX6_comes_99, dX6_comes_100, dX6_comes_103, dX6_comes_104, dX6_comes_105, dX6_comes_108, dX6_comes_109, dX6_comes_110, dX6_comes_111, dX6_comes_114, dX6_comes_115, dX6_comes_116, dX6_comes_117, dX6_comes_120, dX6_comes_121, dX6_comes_122, dX6_comes_123, dX6_comes_126, dX6_comes_127, dX6_comes_130, dX6_comes_133, ftX6_96, ftX6_66, ftX6_63, ftX6_54, ftX6_99, ftX6_114, ftX6_69, ftX6_9, ftX6_126, ftX6_75, rf, hR1.1, hR1.s1, hR1.s2, hR1.s7, h1, hi8, knd_sI, gn_sI, gr_sI, hR1.a27, hR1.k27, hR1.n27, hR1.g27, hR1.a30, hR1.k30, hR1.n30, hR1.g30, hR1.a31, hR1.k31, hR1.n31, hR1.g31, ite_zn, ite_zm, q_max, l_neg, q_rem2, q_lt, q_le, q_eq, q_add, q_mul, q_sub, q_div, q_rem, q_in, q_cl, q_0l, q_sac, l_0, l_1, l_2, l_3, l_4, l_5, l_6, l_8, l_15, l_16, l_32, l_60, l_250, l_4000, l_5000, ct_X6_comes]
      refine ⟨fun q => by omega, fun _ => ⟨fun q => ?_, fun q => ?_⟩⟩
      · have e : cms i S1 = S1 := by unfold cms; rw [if_pos (by omega)]
        exact ih (i + 1) G1 S1 (by omega) (by rw [itr, ← hS, e]) h1 (by omega) hR1 hF hW1
      · have hf := hf (by omega)
        refine ⟨by omega, fun q2 => ?_, fun q2 => ?_⟩
        · rw [q_eq (by omega) (by omega)] at q2
          simp (disch := omega) only [wpf_s, wpA_s, wq_c, wq_n, lkp_n, lkp_c, lk_0, lk_s, ldI_s, ldR_s, ldL_s, incI_s, gfE_I, gfE_Z, gfE_R, pfE_I, pfE_Z, pfE_R, nwE_s, anE_0, anE_1, anE_4, kE_n, kE_s, ii_s, sw_iload_n, sw_iload, sw_aload_n, sw_aload, sw_lload_n, sw_lload, sw_istore_n, sw_istore, sw_astore_n, sw_astore, sw_lstore, sw_iinc, sw_iconst, sw_bipush, sw_sipush, sw_null, sw_ldc2, sw_dup, sw_dup2, sw_iadd, sw_isub, sw_imul, sw_iand, sw_ixor, sw_ishr, sw_iushr, sw_idiv, sw_irem, sw_land, sw_lor, sw_lcmp, sw_lshl, sw_lshr, sw_lushr, sw_i2l, sw_l2i, sw_i2b, sw_goto, sw_icmp_eq, sw_if_eq, sw_icmp_ne, sw_if_ne, sw_icmp_lt, sw_if_lt, sw_icmp_ge, sw_if_ge, sw_icmp_gt, sw_if_gt, sw_icmp_le, sw_if_le, sw_ifnull, sw_ifnonnull, sw_acmp, sw_get, sw_put, sw_iaload, sw_baload, sw_laload, sw_aaload, sw_alen, sw_iastore, sw_bastore, sw_lastore, sw_aastore, sw_aastoreN, sw_newa_byte, sw_newa_int, sw_newa_boolean, sw_newa_long, sw_anew, sw_new, sw_iv, sw_is, sw_ii, sw_ireturn, sw_areturn, sw_return, sw_table, cv_0, cv_1, cv_2, cv_3, cv_4, ci_0, ci_1, ci_2, ci_3, ci_4, cs_1, cs_2, cs_3, cs_4, ic_m1, ic_0, ic_1, ic_2, ic_3, ic_4, ic_5, ic_6, bp_6, bp_7, bp_8, bp_15, bp_16, bp_31, bp_32, bp_60, sp_250, sp_255, sp_4000, sp_5000, sp_15000, sp_32000, f4_0, f4_1, f4_2, f4_3, c_nat, rtm, rok_0, rok_1, rok_2, rok_3, okS_0, okS_s, okq_n, okq_i, okq_r, stW_n, stW_i, stW_r, stW_l, cat_i, cat_r, nox, nf_0, nf_1, nf_2, nf_3, nf_4, nf_5, nf_6, true_and, and_true, Nat.zero_le, Nat.reduceAdd, Nat.reduceLT, Nat.reduceLeDiff, Nat.reduceEqDiff, Int.reduceAdd, Int.reduceToNat, Int.reduceLE, reduceIte, List.length_cons, List.length_nil, List.set_cons_zero, List.set_cons_succ, Option.some.injEq, ne_eq, not_true, not_false_eq_true, false_or, or_false, true_or, or_true, false_and, and_false, true_implies, false_implies, implies_true, not_false_eq_true, Bool.false_eq_true, reduceCtorEq, dX6_comes_0, dX6_comes_1, dX6_comes_2, dX6_comes_3, dX6_comes_4, dX6_comes_7, dX6_comes_10, dX6_comes_11, dX6_comes_14, dX6_comes_15, dX6_comes_16, dX6_comes_17, dX6_comes_20, dX6_comes_21, dX6_comes_22, dX6_comes_25, dX6_comes_26, dX6_comes_29, dX6_comes_32, dX6_comes_33, dX6_comes_34, dX6_comes_35, dX6_comes_38, dX6_comes_39, dX6_comes_40, dX6_comes_41, dX6_comes_42, dX6_comes_43, dX6_comes_46, dX6_comes_47, dX6_comes_48, dX6_comes_51, dX6_comes_54, dX6_comes_57, dX6_comes_58, dX6_comes_61, dX6_comes_62, dX6_comes_63, dX6_comes_64, dX6_comes_67, dX6_comes_68, dX6_comes_69, dX6_comes_70, dX6_comes_71, dX6_comes_74, dX6_comes_75, dX6_comes_76, dX6_comes_79, dX6_comes_80, dX6_comes_81, dX6_comes_84, dX6_comes_85, dX6_comes_86, dX6_comes_89, dX6_comes_90, dX6_comes_93, dX6_comes_94, dX6_comes_95, dX6_comes_96, dX6_comes_97, dX6_comes_98, dX6_comes_99, dX6_comes_100, dX6_comes_103, dX6_comes_104, dX6_comes_105, dX6_comes_108, dX6_comes_109, dX6_comes_110, dX6_comes_111, dX6_comes_114, dX6_comes_115, dX6_comes_116, dX6_comes_117, dX6_comes_120, dX6_comes_121, dX6_comes_122, dX6_comes_123, dX6_comes_126, dX6_comes_127, dX6_comes_130, dX6_comes_133, ftX6_96, ftX6_66, ftX6_63, ftX6_54, ftX6_99, ftX6_114, ftX6_69, ftX6_9, ftX6_126, ftX6_75, rf, hR1.1, hR1.s1, hR1.s2, hR1.s7, hR1.s11, h1, hi8, knd_sI, gn_sI, gr_sI, gi_sI, T_max_e, a31, a32, a34, n1, n2, hR1.a13, hR1.k13, hR1.n13, hR1.g13, hR1.a27, hR1.k27, hR1.n27, hR1.g27, hR1.a30, hR1.k30, hR1.n30, hR1.g30, hR1.a31, hR1.k31, hR1.n31, hR1.g31, hR1.a32, hR1.k32, hR1.n32, hR1.g32, hR1.a34, hR1.k34, hR1.n34, hR1.g34, ite_zn, ite_zm, q_max, l_neg, q_rem2, q_lt, q_le, q_eq, q_add, q_mul, q_sub, q_div, q_rem, q_in, q_cl, q_0l, q_sac, l_0, l_1, l_2, l_3, l_4, l_5, l_6, l_8, l_15, l_16, l_32, l_60, l_250, l_4000, l_5000, ct_X6_comes]
          refine ⟨fun q3 => ?_, fun q3 => ?_⟩
          · have e : cms i S1 = up (up S1 31 i (S1 31 i + 1)) 34 i (max (S1 34 i) (S1 31 i + 1 - S1 32 i)) := by unfold cms; rw [if_neg (by omega), if_neg (by omega)]
            exact ih (i + 1) _ _ (by omega) (by rw [itr, ← hS]) (by rw [cms_o (by decide) (by decide) (by decide)]; exact h1) (by rw [e]; simp [up_n]; omega) (by rw [e]; exact (hR1.setA (by decide) rfl).setA (by decide) rfl) ((hF.a (by decide)).a (by decide)) hW2
          · have e : cms i S1 = up (up (up S1 11 0 (S1 11 0 + 1)) 31 i (S1 31 i + 1)) 34 i (max (S1 34 i) (S1 31 i + 1 - S1 32 i)) := by unfold cms; rw [if_neg (by omega), if_pos (by omega)]
            exact ih (i + 1) _ _ (by omega) (by rw [itr, ← hS]) (by rw [cms_o (by decide) (by decide) (by decide)]; exact h1) (by rw [e]; simp [up_n]; omega) (by rw [e]; exact ((hR1.setS rfl rfl).setA (by decide) rfl).setA (by decide) rfl) ((hF.s.a (by decide)).a (by decide)) hW2
        · rw [q_eq (by omega) (by omega)] at q2
          have e : cms i S1 = S1 := by unfold cms; rw [if_pos (Or.inr q2)]
          exact ih (i + 1) G1 S1 (by omega) (by rw [itr, ← hS, e]) h1 (by omega) hR1 hF hW1
  refine hJ [(2, J 2)] 60 0 [some (rf m), none] [] G 0 0 (fun x h ls st G k n q => by cases h with | head => exact q | tail _ h => cases h) ?_
  simp (disch := omega) only [wpf_s, wpA_s, wq_c, wq_n, lkp_n, lkp_c, lk_0, lk_s, ldI_s, ldR_s, ldL_s, incI_s, gfE_I, gfE_Z, gfE_R, pfE_I, pfE_Z, pfE_R, nwE_s, anE_0, anE_1, anE_4, kE_n, kE_s, ii_s, sw_iload_n, sw_iload, sw_aload_n, sw_aload, sw_lload_n, sw_lload, sw_istore_n, sw_istore, sw_astore_n, sw_astore, sw_lstore, sw_iinc, sw_iconst, sw_bipush, sw_sipush, sw_null, sw_ldc2, sw_dup, sw_dup2, sw_iadd, sw_isub, sw_imul, sw_iand, sw_ixor, sw_ishr, sw_iushr, sw_idiv, sw_irem, sw_land, sw_lor, sw_lcmp, sw_lshl, sw_lshr, sw_lushr, sw_i2l, sw_l2i, sw_i2b, sw_goto, sw_icmp_eq, sw_if_eq, sw_icmp_ne, sw_if_ne, sw_icmp_lt, sw_if_lt, sw_icmp_ge, sw_if_ge, sw_icmp_gt, sw_if_gt, sw_icmp_le, sw_if_le, sw_ifnull, sw_ifnonnull, sw_acmp, sw_get, sw_put, sw_iaload, sw_baload, sw_laload, sw_aaload, sw_alen, sw_iastore, sw_bastore, sw_lastore, sw_aastore, sw_aastoreN, sw_newa_byte, sw_newa_int, sw_newa_boolean, sw_newa_long, sw_anew, sw_new, sw_iv, sw_is, sw_ii, sw_ireturn, sw_areturn, sw_return, sw_table, cv_0, cv_1, cv_2, cv_3, cv_4, ci_0, ci_1, ci_2, ci_3, ci_4, cs_1, cs_2, cs_3, cs_4, ic_m1, ic_0, ic_1, ic_2, ic_3, ic_4, ic_5, ic_6, bp_6, bp_7, bp_8, bp_15, bp_16, bp_31, bp_32, bp_60, sp_250, sp_255, sp_4000, sp_5000, sp_15000, sp_32000, f4_0, f4_1, f4_2, f4_3, c_nat, rtm, rok_0, rok_1, rok_2, rok_3, okS_0, okS_s, okq_n, okq_i, okq_r, stW_n, stW_i, stW_r, stW_l, cat_i, cat_r, nox, nf_0, nf_1, nf_2, nf_3, nf_4, nf_5, nf_6, true_and, and_true, Nat.zero_le, Nat.reduceAdd, Nat.reduceLT, Nat.reduceLeDiff, Nat.reduceEqDiff, Int.reduceAdd, Int.reduceToNat, Int.reduceLE, reduceIte, List.length_cons, List.length_nil, List.set_cons_zero, List.set_cons_succ, Option.some.injEq, ne_eq, not_true, not_false_eq_true, false_or, or_false, true_or, or_true, false_and, and_false, true_implies, false_implies, implies_true, not_false_eq_true, Bool.false_eq_true, reduceCtorEq, dX6_comes_0, dX6_comes_1, dX6_comes_2, dX6_comes_3, dX6_comes_4, dX6_comes_7, dX6_comes_10, dX6_comes_11, dX6_comes_14, dX6_comes_15, dX6_comes_16, dX6_comes_17, dX6_comes_20, dX6_comes_21, dX6_comes_22, dX6_comes_25, dX6_comes_26, dX6_comes_29, dX6_comes_32, dX6_comes_33, dX6_comes_34, dX6_comes_35, dX6_comes_38, dX6_comes_39, dX6_comes_40, dX6_comes_41, dX6_comes_42, dX6_comes_43, dX6_comes_46, dX6_comes_47, dX6_comes_48, dX6_comes_51, dX6_comes_54, dX6_comes_57, dX6_comes_58, dX6_comes_61, dX6_comes_62, dX6_comes_63, dX6_comes_64, dX6_comes_67, dX6_comes_68, dX6_comes_69, dX6_comes_70, dX6_comes_71, dX6_comes_74, dX6_comes_75, dX6_comes_76, dX6_comes_79, dX6_comes_80, dX6_comes_81, dX6_comes_84, dX6_comes_85, dX6_comes_86, dX6_comes_89, dX6_comes_90, dX6_comes_93, dX6_comes_94, dX6_comes_95, dX6_comes_96, dX6_comes_97, dX6_comes_98, dX6_comes_99, dX6_comes_100, dX6_comes_103, dX6_comes_104, dX6_comes_105, dX6_comes_108, dX6_comes_109, dX6_comes_110, dX6_comes_111, dX6_comes_114, dX6_comes_115, dX6_comes_116, dX6_comes_117, dX6_comes_120, dX6_comes_121, dX6_comes_122, dX6_comes_123, dX6_comes_126, dX6_comes_127, dX6_comes_130, dX6_comes_133, ftX6_96, ftX6_66, ftX6_63, ftX6_54, ftX6_99, ftX6_114, ftX6_69, ftX6_9, ftX6_126, ftX6_75, rf, ite_zn, ite_zm, q_max, l_neg, q_rem2, q_lt, q_le, q_eq, q_add, q_mul, q_sub, q_div, q_rem, q_in, q_cl, q_0l, q_sac, l_0, l_1, l_2, l_3, l_4, l_5, l_6, l_8, l_15, l_16, l_32, l_60, l_250, l_4000, l_5000, ct_X6_comes]
  exact loop (S 1 0) 0 G S (by omega) rfl rfl (by omega) hR Fr.rf hW
end
section
def T_X6_drains : TT := fun av G Qr _ => ∃ m ar S, av = [rf m] ∧ RepM G m ar S ∧ WF S ∧ S 50 0 = 0 ∧ S 12 0 + 8 ≤ 100000000 ∧ ∀ G', RepM G' m ar (itr (drs (mskN S)) (S 1 0) S) → Fr m ar G G' → Qr (some (.inl (nI (itr (drs (mskN S)) (S 1 0) S 50 0)))) G'
theorem mono_X6_drains : TMono T_X6_drains := fun av G Q1 Q2 Qx ⟨m, ar, S, h1, h3, h4, h6, h7, h5⟩ hq => ⟨m, ar, S, h1, h3, h4, h6, h7, fun G' q1 q2 => hq _ _ (h5 G' q1 q2)⟩
theorem drs_o {S : St} {M v k j : Nat} (h1 : k ≠ 28) (h2 : k ≠ 32) (h3 : k ≠ 21) (h4 : k ≠ 50) (h5 : k ≠ 12) : drs M v S k j = S k j := by unfold drs; split <;> (try split) <;> simp [up_n, h1, h2, h3, h4, h5]
theorem drs_12 {S : St} {M v : Nat} : drs M v S 12 0 ≤ S 12 0 + 1 := by unfold drs; split <;> (try split) <;> simp [up_n] <;> split <;> omega
theorem drs_50 {S : St} {M v : Nat} : drs M v S 50 0 ≤ S 50 0 + 1 := by unfold drs; split <;> (try split) <;> simp [up_n]
def rm_X6_drains : Room := { frames := 1, cells := 0, slots := 0, locals := 20 }
def ct_X6_drains : List (Nat × CS) := [(145, 8, 1, 0, 0, T_X6_flitsOf)]
set_option maxRecDepth 20000 in
set_option maxHeartbeats 4000000 in
theorem c_X6_drains (l : Launch) : CM l yX6_drains cX6_drains 6 (some .int) rm_X6_drains T_X6_drains := by
  refine CM.ev (ft := ftX6) (nt := []) (ct := ct_X6_drains) (oi := 0) (rt := 1) (ini := false) (by decide +kernel) (Or.inr (Or.inl ⟨rfl, rfl⟩)) ftX6_ok (fun q => by cases q) (fun x h => by cases h) (List.forall_mem_cons.mpr ⟨⟨mono_X6_flitsOf, yX6_flitsOf, cX6_flitsOf, 1, (some .int), rm_X6_flitsOf, c_X6_flitsOf l, mi_X6_flitsOf, rfl, rfl, ⟨by decide, by decide⟩, fun q => absurd q (by decide), fun _ => ⟨ms_X6_flitsOf, lnkX6_145⟩, fun q => absurd q (by decide), fun q => absurd q (by decide)⟩, fun x h => by cases h⟩) (fun q => absurd rfl q) ?_
  intro av G Qr Qx hT
  obtain ⟨m, ar, S, rfl, hR, hW, h50, h12, h5⟩ := hT
  have w0 := hW.1.2.2.2.2.2.2.2.2.1
  have w1 := hW.1.1
  have w2 := hW.1.2.1
  refine ⟨Nat.le_of_ble_eq_true rfl, fun J hJ => ?_⟩
  have hrow := hW.rows
  have loop : ∀ (d i : Nat) (G1 : GG) (S1 : St) (o4 o5 : Option AV), i + d = S 1 0 → S1 = itr (drs (mskN S)) i S → S1 1 0 = S 1 0 → S1 12 0 ≤ S 12 0 + i → S1 50 0 ≤ i → RepM G1 m ar S1 → Fr m ar G G1 → WF S1 → J 30 [some (rf m), some (.inl (nI (mskN S))), some (.inl (nI (S1 50 0))), some (.inl (nI i)), o4, o5] [] G1 0 0 := by
    intro d
    induction d with
    | zero =>
      intro i G1 S1 o4 o5 hi hS h1 h12' h50' hR1 hF hW1
      refine hJ [] 60 30 [some (rf m), some (.inl (nI (mskN S))), some (.inl (nI (S1 50 0))), some (.inl (nI i)), o4, o5] [] G1 0 0 (fun x h => by cases h) ?_
      simp (disch := omega) only [wpf_s, wpA_s, wq_c, wq_n, lkp_n, lkp_c, lk_0, lk_s, ldI_s, ldR_s, ldL_s, incI_s, gfE_I, gfE_Z, gfE_R, pfE_I, pfE_Z, pfE_R, nwE_s, anE_0, anE_1, anE_4, kE_n, kE_s, ii_s, sw_iload_n, sw_iload, sw_aload_n, sw_aload, sw_lload_n, sw_lload, sw_istore_n, sw_istore, sw_astore_n, sw_astore, sw_lstore, sw_iinc, sw_iconst, sw_bipush, sw_sipush, sw_null, sw_ldc2, sw_dup, sw_dup2, sw_iadd, sw_isub, sw_imul, sw_iand, sw_ixor, sw_ishr, sw_iushr, sw_idiv, sw_irem, sw_land, sw_lor, sw_lcmp, sw_lshl, sw_lshr, sw_lushr, sw_i2l, sw_l2i, sw_i2b, sw_goto, sw_icmp_eq, sw_if_eq, sw_icmp_ne, sw_if_ne, sw_icmp_lt, sw_if_lt, sw_icmp_ge, sw_if_ge, sw_icmp_gt, sw_if_gt, sw_icmp_le, sw_if_le, sw_ifnull, sw_ifnonnull, sw_acmp, sw_get, sw_put, sw_iaload, sw_baload, sw_laload, sw_aaload, sw_alen, sw_iastore, sw_bastore, sw_lastore, sw_aastore, sw_aastoreN, sw_newa_byte, sw_newa_int, sw_newa_boolean, sw_newa_long, sw_anew, sw_new, sw_iv, sw_is, sw_ii, sw_ireturn, sw_areturn, sw_return, sw_table, cv_0, cv_1, cv_2, cv_3, cv_4, ci_0, ci_1, ci_2, ci_3, ci_4, cs_1, cs_2, cs_3, cs_4, ic_m1, ic_0, ic_1, ic_2, ic_3, ic_4, ic_5, ic_6, bp_6, bp_7, bp_8, bp_15, bp_16, bp_31, bp_32, bp_60, sp_250, sp_255, sp_4000, sp_5000, sp_15000, sp_32000, f4_0, f4_1, f4_2, f4_3, c_nat, rtm, rok_0, rok_1, rok_2, rok_3, okS_0, okS_s, okq_n, okq_i, okq_r, stW_n, stW_i, stW_r, stW_l, cat_i, cat_r, nox, nf_0, nf_1, nf_2, nf_3, nf_4, nf_5, nf_6, true_and, and_true, Nat.zero_le, Nat.reduceAdd, Nat.reduceLT, Nat.reduceLeDiff, Nat.reduceEqDiff, Int.reduceAdd, Int.reduceToNat, Int.reduceLE, reduceIte, List.length_cons, List.length_nil, List.set_cons_zero, List.set_cons_succ, Option.some.injEq, ne_eq, not_true, not_false_eq_true, false_or, or_false, true_or, or_true, false_and, and_false, true_implies, false_implies, implies_true, not_false_eq_true, Bool.false_eq_true, reduceCtorEq, dX6_drains_0, dX6_drains_1, dX6_drains_4, dX6_drains_7, dX6_drains_8, dX6_drains_11, dX6_drains_12, dX6_drains_15, dX6_drains_16, dX6_drains_19, dX6_drains_20, dX6_drains_23, dX6_drains_24, dX6_drains_25, dX6_drains_26, dX6_drains_27, dX6_drains_28, dX6_drains_29, dX6_drains_30, dX6_drains_31, dX6_drains_32, dX6_drains_35, dX6_drains_38, dX6_drains_39, dX6_drains_40, dX6_drains_41, dX6_drains_42, dX6_drains_43, dX6_drains_46, dX6_drains_47, dX6_drains_50, dX6_drains_51, dX6_drains_52, dX6_drains_53, dX6_drains_56, dX6_drains_57, dX6_drains_58, dX6_drains_61, dX6_drains_64, dX6_drains_67, dX6_drains_68, dX6_drains_69, dX6_drains_70, dX6_drains_73, dX6_drains_74, dX6_drains_75, dX6_drains_76, dX6_drains_78, dX6_drains_79, dX6_drains_82, dX6_drains_84, dX6_drains_85, dX6_drains_87, dX6_drains_88, dX6_drains_91, dX6_drains_93, dX6_drains_94, dX6_drains_97, dX6_drains_98, dX6_drains_99, dX6_drains_102, dX6_drains_103, dX6_drains_104, dX6_drains_105, dX6_drains_106, dX6_drains_107, dX6_drains_108, dX6_drains_109, dX6_drains_112, dX6_drains_114, dX6_drains_115, dX6_drains_116, dX6_drains_117, dX6_drains_118, dX6_drains_121, dX6_drains_123, dX6_drains_124, dX6_drains_127, dX6_drains_130, dX6_drains_133, dX6_drains_134, dX6_drains_137, dX6_drains_139, dX6_drains_140, dX6_drains_143, dX6_drains_144, dX6_drains_147, dX6_drains_148, dX6_drains_149, dX6_drains_152, dX6_drains_153, dX6_drains_156, dX6_drains_158, dX6_drains_159, dX6_drains_162, dX6_drains_163, dX6_drains_166, dX6_drains_167, dX6_drains_170, dX6_drains_172, dX6_drains_173, dX6_drains_176, dX6_drains_177, dX6_drains_180, dX6_drains_181, dX6_drains_182, dX6_drains_185, dX6_drains_188, dX6_drains_191, dX6_drains_192, ftX6_108, ftX6_16, ftX6_114, ftX6_96, ftX6_69, ftX6_66, ftX6_48, ftX6_57, ftX6_51, ftX6_22, ftX6_35, ftX6_129, ftX6_45, ftX6_38, rf, hR1.1, hR1.s1, h1, ite_zn, ite_zm, q_max, l_neg, q_rem2, q_lt, q_le, q_eq, q_add, q_mul, q_sub, q_div, q_rem, q_in, q_cl, q_0l, q_sac, l_0, l_1, l_2, l_3, l_4, l_5, l_6, l_8, l_15, l_16, l_32, l_60, l_250, l_4000, l_5000, ct_X6_drains]
      refine ⟨fun q => ?_, fun q => ?_⟩
      · have e : i = S 1 0 := by omega
        subst hS
        rw [e] at hR1 ⊢
        exact h5 G1 hR1 hF
      · omega
    | succ d ih =>
      intro i G1 S1 o4 o5 hi hS h1 h12' h50' hR1 hF hW1
      have hi8 : i < 8 := by omega
      have hc := hW1.2.1 i hi8
      unfold Wc at hc
      have hr := hW1.rows
      have hW2 := WF_drs hW1 (mskN S) i hi8 (by omega)
      have hb12 := drs_12 (S := S1) (M := mskN S) (v := i)
      have hb50 := drs_50 (S := S1) (M := mskN S) (v := i)
      have ho1 : drs (mskN S) i S1 1 0 = S 1 0 := by rw [drs_o (by decide) (by decide) (by decide) (by decide) (by decide)]; exact h1
      have n17_28 : ar 17 ≠ ar 28 := fun e => absurd (hR1.2.2.1 17 28 (by decide) (by decide) e) (by decide)
      have n21_28 : ar 21 ≠ ar 28 := fun e => absurd (hR1.2.2.1 21 28 (by decide) (by decide) e) (by decide)
      have n22_28 : ar 22 ≠ ar 28 := fun e => absurd (hR1.2.2.1 22 28 (by decide) (by decide) e) (by decide)
      have n24_28 : ar 24 ≠ ar 28 := fun e => absurd (hR1.2.2.1 24 28 (by decide) (by decide) e) (by decide)
      have n25_28 : ar 25 ≠ ar 28 := fun e => absurd (hR1.2.2.1 25 28 (by decide) (by decide) e) (by decide)
      have n26_28 : ar 26 ≠ ar 28 := fun e => absurd (hR1.2.2.1 26 28 (by decide) (by decide) e) (by decide)
      have n31_28 : ar 31 ≠ ar 28 := fun e => absurd (hR1.2.2.1 31 28 (by decide) (by decide) e) (by decide)
      have n32_28 : ar 32 ≠ ar 28 := fun e => absurd (hR1.2.2.1 32 28 (by decide) (by decide) e) (by decide)
      have n17_32 : ar 17 ≠ ar 32 := fun e => absurd (hR1.2.2.1 17 32 (by decide) (by decide) e) (by decide)
      have n21_32 : ar 21 ≠ ar 32 := fun e => absurd (hR1.2.2.1 21 32 (by decide) (by decide) e) (by decide)
      have n22_32 : ar 22 ≠ ar 32 := fun e => absurd (hR1.2.2.1 22 32 (by decide) (by decide) e) (by decide)
      have n24_32 : ar 24 ≠ ar 32 := fun e => absurd (hR1.2.2.1 24 32 (by decide) (by decide) e) (by decide)
      have n25_32 : ar 25 ≠ ar 32 := fun e => absurd (hR1.2.2.1 25 32 (by decide) (by decide) e) (by decide)
      have n26_32 : ar 26 ≠ ar 32 := fun e => absurd (hR1.2.2.1 26 32 (by decide) (by decide) e) (by decide)
      have n28_32 : ar 28 ≠ ar 32 := fun e => absurd (hR1.2.2.1 28 32 (by decide) (by decide) e) (by decide)
      have n31_32 : ar 31 ≠ ar 32 := fun e => absurd (hR1.2.2.1 31 32 (by decide) (by decide) e) (by decide)
      have n17_21 : ar 17 ≠ ar 21 := fun e => absurd (hR1.2.2.1 17 21 (by decide) (by decide) e) (by decide)
      have n22_21 : ar 22 ≠ ar 21 := fun e => absurd (hR1.2.2.1 22 21 (by decide) (by decide) e) (by decide)
      have n24_21 : ar 24 ≠ ar 21 := fun e => absurd (hR1.2.2.1 24 21 (by decide) (by decide) e) (by decide)
      have n25_21 : ar 25 ≠ ar 21 := fun e => absurd (hR1.2.2.1 25 21 (by decide) (by decide) e) (by decide)
      have n26_21 : ar 26 ≠ ar 21 := fun e => absurd (hR1.2.2.1 26 21 (by decide) (by decide) e) (by decide)
      have n28_21 : ar 28 ≠ ar 21 := fun e => absurd (hR1.2.2.1 28 21 (by decide) (by decide) e) (by decide)
      have n31_21 : ar 31 ≠ ar 21 := fun e => absurd (hR1.2.2.1 31 21 (by decide) (by decide) e) (by decide)
      have n32_21 : ar 32 ≠ ar 21 := fun e => absurd (hR1.2.2.1 32 21 (by decide) (by decide) e) (by decide)
      have am17 : ar 17 ≠ m := hR1.am (by decide)
      have ma17 : m ≠ ar 17 := fun e => am17 e.symm
      have am21 : ar 21 ≠ m := hR1.am (by decide)
      have ma21 : m ≠ ar 21 := fun e => am21 e.symm
      have am22 : ar 22 ≠ m := hR1.am (by decide)
      have ma22 : m ≠ ar 22 := fun e => am22 e.symm
      have am24 : ar 24 ≠ m := hR1.am (by decide)
      have ma24 : m ≠ ar 24 := fun e => am24 e.symm
      have am25 : ar 25 ≠ m := hR1.am (by decide)
      have ma25 : m ≠ ar 25 := fun e => am25 e.symm
      have am26 : ar 26 ≠ m := hR1.am (by decide)
      have ma26 : m ≠ ar 26 := fun e => am26 e.symm
      have am28 : ar 28 ≠ m := hR1.am (by decide)
      have ma28 : m ≠ ar 28 := fun e => am28 e.symm
      have am31 : ar 31 ≠ m := hR1.am (by decide)
      have ma31 : m ≠ ar 31 := fun e => am31 e.symm
      have am32 : ar 32 ≠ m := hR1.am (by decide)
      have ma32 : m ≠ ar 32 := fun e => am32 e.symm
      refine hJ [(30, J 30)] 120 30 [some (rf m), some (.inl (nI (mskN S))), some (.inl (nI (S1 50 0))), some (.inl (nI i)), o4, o5] [] G1 0 0 (fun x h ls st G k n q => by cases h with | head => exact q | tail _ h => cases h) ?_
      by_cases hsk : drb (mskN S) i = false ∨ S1 32 i = S1 31 i
      · have e : drs (mskN S) i S1 = S1 := by unfold drs; rw [if_pos hsk]
        have hz := ih (i + 1) G1 S1 o4 o5 (by omega) (by rw [itr, ← hS, e]) h1 (by omega) (by omega) hR1 hF hW1
        simp (disch := omega) only [wpf_s, wpA_s, wq_c, wq_n, lkp_n, lkp_c, lk_0, lk_s, ldI_s, ldR_s, ldL_s, incI_s, gfE_I, gfE_Z, gfE_R, pfE_I, pfE_Z, pfE_R, nwE_s, anE_0, anE_1, anE_4, kE_n, kE_s, ii_s, sw_iload_n, sw_iload, sw_aload_n, sw_aload, sw_lload_n, sw_lload, sw_istore_n, sw_istore, sw_astore_n, sw_astore, sw_lstore, sw_iinc, sw_iconst, sw_bipush, sw_sipush, sw_null, sw_ldc2, sw_dup, sw_dup2, sw_iadd, sw_isub, sw_imul, sw_iand, sw_ixor, sw_ishr, sw_iushr, sw_idiv, sw_irem, sw_land, sw_lor, sw_lcmp, sw_lshl, sw_lshr, sw_lushr, sw_i2l, sw_l2i, sw_i2b, sw_goto, sw_icmp_eq, sw_if_eq, sw_icmp_ne, sw_if_ne, sw_icmp_lt, sw_if_lt, sw_icmp_ge, sw_if_ge, sw_icmp_gt, sw_if_gt, sw_icmp_le, sw_if_le, sw_ifnull, sw_ifnonnull, sw_acmp, sw_get, sw_put, sw_iaload, sw_baload, sw_laload, sw_aaload, sw_alen, sw_iastore, sw_bastore, sw_lastore, sw_aastore, sw_aastoreN, sw_newa_byte, sw_newa_int, sw_newa_boolean, sw_newa_long, sw_anew, sw_new, sw_iv, sw_is, sw_ii, sw_ireturn, sw_areturn, sw_return, sw_table, cv_0, cv_1, cv_2, cv_3, cv_4, ci_0, ci_1, ci_2, ci_3, ci_4, cs_1, cs_2, cs_3, cs_4, ic_m1, ic_0, ic_1, ic_2, ic_3, ic_4, ic_5, ic_6, bp_6, bp_7, bp_8, bp_15, bp_16, bp_31, bp_32, bp_60, sp_250, sp_255, sp_4000, sp_5000, sp_15000, sp_32000, f4_0, f4_1, f4_2, f4_3, c_nat, rtm, rok_0, rok_1, rok_2, rok_3, okS_0, okS_s, okq_n, okq_i, okq_r, stW_n, stW_i, stW_r, stW_l, cat_i, cat_r, nox, nf_0, nf_1, nf_2, nf_3, nf_4, nf_5, nf_6, true_and, and_true, Nat.zero_le, Nat.reduceAdd, Nat.reduceLT, Nat.reduceLeDiff, Nat.reduceEqDiff, Int.reduceAdd, Int.reduceToNat, Int.reduceLE, reduceIte, List.length_cons, List.length_nil, List.set_cons_zero, List.set_cons_succ, Option.some.injEq, ne_eq, not_true, not_false_eq_true, false_or, or_false, true_or, or_true, false_and, and_false, true_implies, false_implies, implies_true, not_false_eq_true, Bool.false_eq_true, reduceCtorEq, dX6_drains_0, dX6_drains_1, dX6_drains_4, dX6_drains_7, dX6_drains_8, dX6_drains_11, dX6_drains_12, dX6_drains_15, dX6_drains_16, dX6_drains_19, dX6_drains_20, dX6_drains_23, dX6_drains_24, dX6_drains_25, dX6_drains_26, dX6_drains_27, dX6_drains_28, dX6_drains_29, dX6_drains_30, dX6_drains_31, dX6_drains_32, dX6_drains_35, dX6_drains_38, dX6_drains_39, dX6_drains_40, dX6_drains_41, dX6_drains_42, dX6_drains_43, dX6_drains_46, dX6_drains_47, dX6_drains_50, dX6_drains_51, dX6_drains_52, dX6_drains_53, dX6_drains_56, dX6_drains_57, dX6_drains_58, dX6_drains_61, dX6_drains_64, dX6_drains_67, dX6_drains_68, dX6_drains_69, dX6_drains_70, dX6_drains_73, dX6_drains_74, dX6_drains_75, dX6_drains_76, dX6_drains_78, dX6_drains_79, dX6_drains_82, dX6_drains_84, dX6_drains_85, dX6_drains_87, dX6_drains_88, dX6_drains_91, dX6_drains_93, dX6_drains_94, dX6_drains_97, dX6_drains_98, dX6_drains_99, dX6_drains_102, dX6_drains_103, dX6_drains_104, dX6_drains_105, dX6_drains_106, dX6_drains_107, dX6_drains_108, dX6_drains_109, dX6_drains_112, dX6_drains_114, dX6_drains_115, dX6_drains_116, dX6_drains_117, dX6_drains_118, dX6_drains_121, dX6_drains_123, dX6_drains_124, dX6_drains_127, dX6_drains_130, dX6_drains_133, dX6_drains_134, dX6_drains_137, dX6_drains_139, dX6_drains_140, dX6_drains_143, dX6_drains_144, dX6_drains_147, dX6_drains_148, dX6_drains_149, dX6_drains_152, dX6_drains_153, dX6_drains_156, dX6_drains_158, dX6_drains_159, dX6_drains_162, dX6_drains_163, dX6_drains_166, dX6_drains_167, dX6_drains_170, dX6_drains_172, dX6_drains_173, dX6_drains_176, dX6_drains_177, dX6_drains_180, dX6_drains_181, dX6_drains_182, dX6_drains_185, dX6_drains_188, dX6_drains_191, dX6_drains_192, ftX6_108, ftX6_16, ftX6_114, ftX6_96, ftX6_69, ftX6_66, ftX6_48, ftX6_57, ftX6_51, ftX6_22, ftX6_35, ftX6_129, ftX6_45, ftX6_38, rf, hR1.1, hR1.s1, h1, hi8, q_bitS, hR1.a31, hR1.k31, hR1.n31, hR1.g31, hR1.a32, hR1.k32, hR1.n32, hR1.g32, ite_zn, ite_zm, q_max, l_neg, q_rem2, q_lt, q_le, q_eq, q_add, q_mul, q_sub, q_div, q_rem, q_in, q_cl, q_0l, q_sac, l_0, l_1, l_2, l_3, l_4, l_5, l_6, l_8, l_15, l_16, l_32, l_60, l_250, l_4000, l_5000, ct_X6_drains]
        exact ⟨fun q => by omega, fun _ => ⟨fun q => hz, fun q => ⟨fun q2 => hz, fun q2 => (hsk.elim (fun h => q h) (fun h => q2 h)).elim⟩⟩⟩
      · have hf := hW1.2.2.2 i hi8 (S1 32 i) (by omega)
        unfold Wf at hf
        have hp := hW1.2.2.1 _ hf.1
        unfold Wp at hp
        have hfo := fo_le hp.2.1
        simp (disch := omega) only [wpf_s, wpA_s, wq_c, wq_n, lkp_n, lkp_c, lk_0, lk_s, ldI_s, ldR_s, ldL_s, incI_s, gfE_I, gfE_Z, gfE_R, pfE_I, pfE_Z, pfE_R, nwE_s, anE_0, anE_1, anE_4, kE_n, kE_s, ii_s, sw_iload_n, sw_iload, sw_aload_n, sw_aload, sw_lload_n, sw_lload, sw_istore_n, sw_istore, sw_astore_n, sw_astore, sw_lstore, sw_iinc, sw_iconst, sw_bipush, sw_sipush, sw_null, sw_ldc2, sw_dup, sw_dup2, sw_iadd, sw_isub, sw_imul, sw_iand, sw_ixor, sw_ishr, sw_iushr, sw_idiv, sw_irem, sw_land, sw_lor, sw_lcmp, sw_lshl, sw_lshr, sw_lushr, sw_i2l, sw_l2i, sw_i2b, sw_goto, sw_icmp_eq, sw_if_eq, sw_icmp_ne, sw_if_ne, sw_icmp_lt, sw_if_lt, sw_icmp_ge, sw_if_ge, sw_icmp_gt, sw_if_gt, sw_icmp_le, sw_if_le, sw_ifnull, sw_ifnonnull, sw_acmp, sw_get, sw_put, sw_iaload, sw_baload, sw_laload, sw_aaload, sw_alen, sw_iastore, sw_bastore, sw_lastore, sw_aastore, sw_aastoreN, sw_newa_byte, sw_newa_int, sw_newa_boolean, sw_newa_long, sw_anew, sw_new, sw_iv, sw_is, sw_ii, sw_ireturn, sw_areturn, sw_return, sw_table, cv_0, cv_1, cv_2, cv_3, cv_4, ci_0, ci_1, ci_2, ci_3, ci_4, cs_1, cs_2, cs_3, cs_4, ic_m1, ic_0, ic_1, ic_2, ic_3, ic_4, ic_5, ic_6, bp_6, bp_7, bp_8, bp_15, bp_16, bp_31, bp_32, bp_60, sp_250, sp_255, sp_4000, sp_5000, sp_15000, sp_32000, f4_0, f4_1, f4_2, f4_3, c_nat, rtm, rok_0, rok_1, rok_2, rok_3, okS_0, okS_s, okq_n, okq_i, okq_r, stW_n, stW_i, stW_r, stW_l, cat_i, cat_r, nox, nf_0, nf_1, nf_2, nf_3, nf_4, nf_5, nf_6, true_and, and_true, Nat.zero_le, Nat.reduceAdd, Nat.reduceLT, Nat.reduceLeDiff, Nat.reduceEqDiff, Int.reduceAdd, Int.reduceToNat, Int.reduceLE, reduceIte, List.length_cons, List.length_nil, List.set_cons_zero, List.set_cons_succ, Option.some.injEq, ne_eq, not_true, not_false_eq_true, false_or, or_false, true_or, or_true, false_and, and_false, true_implies, false_implies, implies_true, not_false_eq_true, Bool.false_eq_true, reduceCtorEq, dX6_drains_0, dX6_drains_1, dX6_drains_4, dX6_drains_7, dX6_drains_8, dX6_drains_11, dX6_drains_12, dX6_drains_15, dX6_drains_16, dX6_drains_19, dX6_drains_20, dX6_drains_23, dX6_drains_24, dX6_drains_25, dX6_drains_26, dX6_drains_27, dX6_drains_28, dX6_drains_29, dX6_drains_30, dX6_drains_31, dX6_drains_32, dX6_drains_35, dX6_drains_38, dX6_drains_39, dX6_drains_40, dX6_drains_41, dX6_drains_42, dX6_drains_43, dX6_drains_46, dX6_drains_47, dX6_drains_50, dX6_drains_51, dX6_drains_52, dX6_drains_53, dX6_drains_56, dX6_drains_57, dX6_drains_58, dX6_drains_61, dX6_drains_64, dX6_drains_67, dX6_drains_68, dX6_drains_69, dX6_drains_70, dX6_drains_73, dX6_drains_74, dX6_drains_75, dX6_drains_76, dX6_drains_78, dX6_drains_79, dX6_drains_82, dX6_drains_84, dX6_drains_85, dX6_drains_87, dX6_drains_88, dX6_drains_91, dX6_drains_93, dX6_drains_94, dX6_drains_97, dX6_drains_98, dX6_drains_99, dX6_drains_102, dX6_drains_103, dX6_drains_104, dX6_drains_105, dX6_drains_106, dX6_drains_107, dX6_drains_108, dX6_drains_109, dX6_drains_112, dX6_drains_114, dX6_drains_115, dX6_drains_116, dX6_drains_117, dX6_drains_118, dX6_drains_121, dX6_drains_123, dX6_drains_124, dX6_drains_127, dX6_drains_130, dX6_drains_133, dX6_drains_134, dX6_drains_137, dX6_drains_139, dX6_drains_140, dX6_drains_143, dX6_drains_144, dX6_drains_147, dX6_drains_148, dX6_drains_149, dX6_drains_152, dX6_drains_153, dX6_drains_156, dX6_drains_158, dX6_drains_159, dX6_drains_162, dX6_drains_163, dX6_drains_166, dX6_drains_167, dX6_drains_170, dX6_drains_172, dX6_drains_173, dX6_drains_176, dX6_drains_177, dX6_drains_180, dX6_drains_181, dX6_drains_182, dX6_drains_185, dX6_drains_188, dX6_drains_191, dX6_drains_192, ftX6_108, ftX6_16, ftX6_114, ftX6_96, ftX6_69, ftX6_66, ftX6_48, ftX6_57, ftX6_51, ftX6_22, ftX6_35, ftX6_129, ftX6_45, ftX6_38, rf, hR1.1, hR1.s1, hR1.s7, hR1.s12, h1, hi8, knd_sI, gn_sI, gr_sI, gi_sI, q_bitS, n17_28, n21_28, n22_28, n24_28, n25_28, n26_28, n31_28, n32_28, n17_32, n21_32, n22_32, n24_32, n25_32, n26_32, n28_32, n31_32, n17_21, n22_21, n24_21, n25_21, n26_21, n28_21, n31_21, n32_21, am17, ma17, am21, ma21, am22, ma22, am24, ma24, am25, ma25, am26, ma26, am28, ma28, am31, ma31, am32, ma32, hR1.a17, hR1.k17, hR1.n17, hR1.g17, hR1.a21, hR1.k21, hR1.n21, hR1.g21, hR1.a22, hR1.k22, hR1.n22, hR1.g22, hR1.a24, hR1.k24, hR1.n24, hR1.g24, hR1.a25, hR1.k25, hR1.n25, hR1.g25, hR1.a26, hR1.k26, hR1.n26, hR1.g26, hR1.a28, hR1.k28, hR1.n28, hR1.g28, hR1.a31, hR1.k31, hR1.n31, hR1.g31, hR1.a32, hR1.k32, hR1.n32, hR1.g32, ite_zn, ite_zm, q_max, l_neg, q_rem2, q_lt, q_le, q_eq, q_add, q_mul, q_sub, q_div, q_rem, q_in, q_cl, q_0l, q_sac, l_0, l_1, l_2, l_3, l_4, l_5, l_6, l_8, l_15, l_16, l_32, l_60, l_250, l_4000, l_5000, ct_X6_drains]
        refine ⟨fun q => by omega, fun _ => ⟨fun q => absurd (Or.inl q) hsk, fun q => ⟨fun q2 => absurd (Or.inr q2) hsk, fun q2 => ⟨by omega, by omega, by omega, by omega, _, rfl, by omega, ?_⟩⟩⟩⟩
        simp (disch := omega) only [wpf_s, wpA_s, wq_c, wq_n, lkp_n, lkp_c, lk_0, lk_s, ldI_s, ldR_s, ldL_s, incI_s, gfE_I, gfE_Z, gfE_R, pfE_I, pfE_Z, pfE_R, nwE_s, anE_0, anE_1, anE_4, kE_n, kE_s, ii_s, sw_iload_n, sw_iload, sw_aload_n, sw_aload, sw_lload_n, sw_lload, sw_istore_n, sw_istore, sw_astore_n, sw_astore, sw_lstore, sw_iinc, sw_iconst, sw_bipush, sw_sipush, sw_null, sw_ldc2, sw_dup, sw_dup2, sw_iadd, sw_isub, sw_imul, sw_iand, sw_ixor, sw_ishr, sw_iushr, sw_idiv, sw_irem, sw_land, sw_lor, sw_lcmp, sw_lshl, sw_lshr, sw_lushr, sw_i2l, sw_l2i, sw_i2b, sw_goto, sw_icmp_eq, sw_if_eq, sw_icmp_ne, sw_if_ne, sw_icmp_lt, sw_if_lt, sw_icmp_ge, sw_if_ge, sw_icmp_gt, sw_if_gt, sw_icmp_le, sw_if_le, sw_ifnull, sw_ifnonnull, sw_acmp, sw_get, sw_put, sw_iaload, sw_baload, sw_laload, sw_aaload, sw_alen, sw_iastore, sw_bastore, sw_lastore, sw_aastore, sw_aastoreN, sw_newa_byte, sw_newa_int, sw_newa_boolean, sw_newa_long, sw_anew, sw_new, sw_iv, sw_is, sw_ii, sw_ireturn, sw_areturn, sw_return, sw_table, cv_0, cv_1, cv_2, cv_3, cv_4, ci_0, ci_1, ci_2, ci_3, ci_4, cs_1, cs_2, cs_3, cs_4, ic_m1, ic_0, ic_1, ic_2, ic_3, ic_4, ic_5, ic_6, bp_6, bp_7, bp_8, bp_15, bp_16, bp_31, bp_32, bp_60, sp_250, sp_255, sp_4000, sp_5000, sp_15000, sp_32000, f4_0, f4_1, f4_2, f4_3, c_nat, rtm, rok_0, rok_1, rok_2, rok_3, okS_0, okS_s, okq_n, okq_i, okq_r, stW_n, stW_i, stW_r, stW_l, cat_i, cat_r, nox, nf_0, nf_1, nf_2, nf_3, nf_4, nf_5, nf_6, true_and, and_true, Nat.zero_le, Nat.reduceAdd, Nat.reduceLT, Nat.reduceLeDiff, Nat.reduceEqDiff, Int.reduceAdd, Int.reduceToNat, Int.reduceLE, reduceIte, List.length_cons, List.length_nil, List.set_cons_zero, List.set_cons_succ, Option.some.injEq, ne_eq, not_true, not_false_eq_true, false_or, or_false, true_or, or_true, false_and, and_false, true_implies, false_implies, implies_true, not_false_eq_true, Bool.false_eq_true, reduceCtorEq, dX6_drains_0, dX6_drains_1, dX6_drains_4, dX6_drains_7, dX6_drains_8, dX6_drains_11, dX6_drains_12, dX6_drains_15, dX6_drains_16, dX6_drains_19, dX6_drains_20, dX6_drains_23, dX6_drains_24, dX6_drains_25, dX6_drains_26, dX6_drains_27, dX6_drains_28, dX6_drains_29, dX6_drains_30, dX6_drains_31, dX6_drains_32, dX6_drains_35, dX6_drains_38, dX6_drains_39, dX6_drains_40, dX6_drains_41, dX6_drains_42, dX6_drains_43, dX6_drains_46, dX6_drains_47, dX6_drains_50, dX6_drains_51, dX6_drains_52, dX6_drains_53, dX6_drains_56, dX6_drains_57, dX6_drains_58, dX6_drains_61, dX6_drains_64, dX6_drains_67, dX6_drains_68, dX6_drains_69, dX6_drains_70, dX6_drains_73, dX6_drains_74, dX6_drains_75, dX6_drains_76, dX6_drains_78, dX6_drains_79, dX6_drains_82, dX6_drains_84, dX6_drains_85, dX6_drains_87, dX6_drains_88, dX6_drains_91, dX6_drains_93, dX6_drains_94, dX6_drains_97, dX6_drains_98, dX6_drains_99, dX6_drains_102, dX6_drains_103, dX6_drains_104, dX6_drains_105, dX6_drains_106, dX6_drains_107, dX6_drains_108, dX6_drains_109, dX6_drains_112, dX6_drains_114, dX6_drains_115, dX6_drains_116, dX6_drains_117, dX6_drains_118, dX6_drains_121, dX6_drains_123, dX6_drains_124, dX6_drains_127, dX6_drains_130, dX6_drains_133, dX6_drains_134, dX6_drains_137, dX6_drains_139, dX6_drains_140, dX6_drains_143, dX6_drains_144, dX6_drains_147, dX6_drains_148, dX6_drains_149, dX6_drains_152, dX6_drains_153, dX6_drains_156, dX6_drains_158, dX6_drains_159, dX6_drains_162, dX6_drains_163, dX6_drains_166, dX6_drains_167, dX6_drains_170, dX6_drains_172, dX6_drains_173, dX6_drains_176, dX6_drains_177, dX6_drains_180, dX6_drains_181, dX6_drains_182, dX6_drains_185, dX6_drains_188, dX6_drains_191, dX6_drains_192, ftX6_108, ftX6_16, ftX6_114, ftX6_96, ftX6_69, ftX6_66, ftX6_48, ftX6_57, ftX6_51, ftX6_22, ftX6_35, ftX6_129, ftX6_45, ftX6_38, rf, hR1.1, hR1.s1, hR1.s7, hR1.s12, h1, hi8, knd_sI, gn_sI, gr_sI, gi_sI, q_bitS, n17_28, n21_28, n22_28, n24_28, n25_28, n26_28, n31_28, n32_28, n17_32, n21_32, n22_32, n24_32, n25_32, n26_32, n28_32, n31_32, n17_21, n22_21, n24_21, n25_21, n26_21, n28_21, n31_21, n32_21, am17, ma17, am21, ma21, am22, ma22, am24, ma24, am25, ma25, am26, ma26, am28, ma28, am31, ma31, am32, ma32, hR1.a17, hR1.k17, hR1.n17, hR1.g17, hR1.a21, hR1.k21, hR1.n21, hR1.g21, hR1.a22, hR1.k22, hR1.n22, hR1.g22, hR1.a24, hR1.k24, hR1.n24, hR1.g24, hR1.a25, hR1.k25, hR1.n25, hR1.g25, hR1.a26, hR1.k26, hR1.n26, hR1.g26, hR1.a28, hR1.k28, hR1.n28, hR1.g28, hR1.a31, hR1.k31, hR1.n31, hR1.g31, hR1.a32, hR1.k32, hR1.n32, hR1.g32, ite_zn, ite_zm, q_max, l_neg, q_rem2, q_lt, q_le, q_eq, q_add, q_mul, q_sub, q_div, q_rem, q_in, q_cl, q_0l, q_sac, l_0, l_1, l_2, l_3, l_4, l_5, l_6, l_8, l_15, l_16, l_32, l_60, l_250, l_4000, l_5000, ct_X6_drains]
        have fin : ∀ x, x = (if S1 24 (S1 25 (4000 * i + S1 32 i)) = 1 ∧ S1 22 (S1 25 (4000 * i + S1 32 i)) < S1 7 0 then 1 else 0) → fo (S1 17 (S1 25 (4000 * i + S1 32 i))) ≤ S1 26 (4000 * i + S1 32 i) + 1 →
            J 30 [some (rf m), some (.inl (nI (mskN S))), some (.inl (nI (S1 50 0 + 1))), some (.inl (nI (i + 1))), some (.inl (nI (4000 * i + S1 32 i))), some (.inl (nI (S1 25 (4000 * i + S1 32 i))))] []
              (sI (sI (sI (sI G1 (ar 28) (4000 * i + S1 32 i) (nI (S1 7 0))) (ar 32) i (nI (S1 32 i + 1))) (ar 21) (S1 25 (4000 * i + S1 32 i)) (nI (S1 7 0))) m 12 (nI (S1 12 0 + x))) 0 0 := by
          intro x hx hfl
          have e : drs (mskN S) i S1 = up (up (up (up (up S1 28 (4000 * i + S1 32 i) (S1 7 0)) 32 i (S1 32 i + 1)) 21 (S1 25 (4000 * i + S1 32 i)) (S1 7 0)) 50 0 (S1 50 0 + 1)) 12 0 (S1 12 0 + x) := by
            unfold drs; rw [if_neg hsk, if_neg (by omega), hx]
          have e50 : drs (mskN S) i S1 50 0 = S1 50 0 + 1 := by rw [e]; simp [up_n]
          have hz := ih (i + 1) (sI (sI (sI (sI G1 (ar 28) (4000 * i + S1 32 i) (nI (S1 7 0))) (ar 32) i (nI (S1 32 i + 1))) (ar 21) (S1 25 (4000 * i + S1 32 i)) (nI (S1 7 0))) m 12 (nI (S1 12 0 + x))) (drs (mskN S) i S1)
            (some (.inl (nI (4000 * i + S1 32 i)))) (some (.inl (nI (S1 25 (4000 * i + S1 32 i))))) (by omega) (by rw [itr, ← hS]) ho1 (by omega) (by omega)
            (by rw [e]; exact (((((hR1.setA (by decide) rfl).setA (by decide) rfl).setA (by decide) rfl).gh rfl rfl).setS rfl rfl)) ((((hF.a (by decide)).a (by decide)).a (by decide)).s) hW2
          rw [e50] at hz
          exact hz
        have h01 : S1 24 (S1 25 (4000 * i + S1 32 i)) ≤ 1 := hp.2.2.2.2.2.2.2
        refine ⟨fun q3 => ⟨by omega, by omega, fun q4 => fin 0 (by rw [if_neg (by omega)]) q3, fun q4 => ⟨by omega, fun q5 => fin 0 (by rw [if_neg (by omega)]) q3, fun q5 => fin 1 (by rw [if_pos (by omega)]) q3⟩⟩, fun q3 => ?_⟩
        have e : drs (mskN S) i S1 = up (up S1 28 (4000 * i + S1 32 i) (S1 7 0)) 32 i (S1 32 i + 1) := by
          unfold drs; rw [if_neg hsk, if_pos (by omega)]
        have e50 : drs (mskN S) i S1 50 0 = S1 50 0 := by rw [e]; simp [up_n]
        have hz := ih (i + 1) (sI (sI G1 (ar 28) (4000 * i + S1 32 i) (nI (S1 7 0))) (ar 32) i (nI (S1 32 i + 1))) (drs (mskN S) i S1)
          (some (.inl (nI (4000 * i + S1 32 i)))) (some (.inl (nI (S1 25 (4000 * i + S1 32 i))))) (by omega) (by rw [itr, ← hS]) ho1 (by omega) (by omega)
          (by rw [e]; exact (hR1.setA (by decide) rfl).setA (by decide) rfl) ((hF.a (by decide)).a (by decide)) hW2
        rw [e50] at hz
        exact hz
  refine hJ [(30, J 30)] 60 0 [some (rf m), none, none, none, none, none] [] G 0 0 (fun x h ls st G k n q => by cases h with | head => exact q | tail _ h => cases h) ?_
  have hz := loop (S 1 0) 0 G S none none (by omega) rfl rfl (by omega) (by omega) hR Fr.rf hW
  rw [h50] at hz
  by_cases e5 : S 5 0 = 0
  · have em : mskN S = NN := by unfold mskN; rw [if_pos e5]
    rw [em] at hz
    simp (disch := omega) only [wpf_s, wpA_s, wq_c, wq_n, lkp_n, lkp_c, lk_0, lk_s, ldI_s, ldR_s, ldL_s, incI_s, gfE_I, gfE_Z, gfE_R, pfE_I, pfE_Z, pfE_R, nwE_s, anE_0, anE_1, anE_4, kE_n, kE_s, ii_s, sw_iload_n, sw_iload, sw_aload_n, sw_aload, sw_lload_n, sw_lload, sw_istore_n, sw_istore, sw_astore_n, sw_astore, sw_lstore, sw_iinc, sw_iconst, sw_bipush, sw_sipush, sw_null, sw_ldc2, sw_dup, sw_dup2, sw_iadd, sw_isub, sw_imul, sw_iand, sw_ixor, sw_ishr, sw_iushr, sw_idiv, sw_irem, sw_land, sw_lor, sw_lcmp, sw_lshl, sw_lshr, sw_lushr, sw_i2l, sw_l2i, sw_i2b, sw_goto, sw_icmp_eq, sw_if_eq, sw_icmp_ne, sw_if_ne, sw_icmp_lt, sw_if_lt, sw_icmp_ge, sw_if_ge, sw_icmp_gt, sw_if_gt, sw_icmp_le, sw_if_le, sw_ifnull, sw_ifnonnull, sw_acmp, sw_get, sw_put, sw_iaload, sw_baload, sw_laload, sw_aaload, sw_alen, sw_iastore, sw_bastore, sw_lastore, sw_aastore, sw_aastoreN, sw_newa_byte, sw_newa_int, sw_newa_boolean, sw_newa_long, sw_anew, sw_new, sw_iv, sw_is, sw_ii, sw_ireturn, sw_areturn, sw_return, sw_table, cv_0, cv_1, cv_2, cv_3, cv_4, ci_0, ci_1, ci_2, ci_3, ci_4, cs_1, cs_2, cs_3, cs_4, ic_m1, ic_0, ic_1, ic_2, ic_3, ic_4, ic_5, ic_6, bp_6, bp_7, bp_8, bp_15, bp_16, bp_31, bp_32, bp_60, sp_250, sp_255, sp_4000, sp_5000, sp_15000, sp_32000, f4_0, f4_1, f4_2, f4_3, c_nat, rtm, rok_0, rok_1, rok_2, rok_3, okS_0, okS_s, okq_n, okq_i, okq_r, stW_n, stW_i, stW_r, stW_l, cat_i, cat_r, nox, nf_0, nf_1, nf_2, nf_3, nf_4, nf_5, nf_6, true_and, and_true, Nat.zero_le, Nat.reduceAdd, Nat.reduceLT, Nat.reduceLeDiff, Nat.reduceEqDiff, Int.reduceAdd, Int.reduceToNat, Int.reduceLE, reduceIte, List.length_cons, List.length_nil, List.set_cons_zero, List.set_cons_succ, Option.some.injEq, ne_eq, not_true, not_false_eq_true, false_or, or_false, true_or, or_true, false_and, and_false, true_implies, false_implies, implies_true, not_false_eq_true, Bool.false_eq_true, reduceCtorEq, dX6_drains_0, dX6_drains_1, dX6_drains_4, dX6_drains_7, dX6_drains_8, dX6_drains_11, dX6_drains_12, dX6_drains_15, dX6_drains_16, dX6_drains_19, dX6_drains_20, dX6_drains_23, dX6_drains_24, dX6_drains_25, dX6_drains_26, dX6_drains_27, dX6_drains_28, dX6_drains_29, dX6_drains_30, dX6_drains_31, dX6_drains_32, dX6_drains_35, dX6_drains_38, dX6_drains_39, dX6_drains_40, dX6_drains_41, dX6_drains_42, dX6_drains_43, dX6_drains_46, dX6_drains_47, dX6_drains_50, dX6_drains_51, dX6_drains_52, dX6_drains_53, dX6_drains_56, dX6_drains_57, dX6_drains_58, dX6_drains_61, dX6_drains_64, dX6_drains_67, dX6_drains_68, dX6_drains_69, dX6_drains_70, dX6_drains_73, dX6_drains_74, dX6_drains_75, dX6_drains_76, dX6_drains_78, dX6_drains_79, dX6_drains_82, dX6_drains_84, dX6_drains_85, dX6_drains_87, dX6_drains_88, dX6_drains_91, dX6_drains_93, dX6_drains_94, dX6_drains_97, dX6_drains_98, dX6_drains_99, dX6_drains_102, dX6_drains_103, dX6_drains_104, dX6_drains_105, dX6_drains_106, dX6_drains_107, dX6_drains_108, dX6_drains_109, dX6_drains_112, dX6_drains_114, dX6_drains_115, dX6_drains_116, dX6_drains_117, dX6_drains_118, dX6_drains_121, dX6_drains_123, dX6_drains_124, dX6_drains_127, dX6_drains_130, dX6_drains_133, dX6_drains_134, dX6_drains_137, dX6_drains_139, dX6_drains_140, dX6_drains_143, dX6_drains_144, dX6_drains_147, dX6_drains_148, dX6_drains_149, dX6_drains_152, dX6_drains_153, dX6_drains_156, dX6_drains_158, dX6_drains_159, dX6_drains_162, dX6_drains_163, dX6_drains_166, dX6_drains_167, dX6_drains_170, dX6_drains_172, dX6_drains_173, dX6_drains_176, dX6_drains_177, dX6_drains_180, dX6_drains_181, dX6_drains_182, dX6_drains_185, dX6_drains_188, dX6_drains_191, dX6_drains_192, ftX6_108, ftX6_16, ftX6_114, ftX6_96, ftX6_69, ftX6_66, ftX6_48, ftX6_57, ftX6_51, ftX6_22, ftX6_35, ftX6_129, ftX6_45, ftX6_38, rf, hR.1, hR.s5, hR.s7, hR.a15, hR.k15, hR.n15, hR.g15, e5, ite_zn, ite_zm, q_max, l_neg, q_rem2, q_lt, q_le, q_eq, q_add, q_mul, q_sub, q_div, q_rem, q_in, q_cl, q_0l, q_sac, l_0, l_1, l_2, l_3, l_4, l_5, l_6, l_8, l_15, l_16, l_32, l_60, l_250, l_4000, l_5000, ct_X6_drains]
    exact hz
  · have em : mskN S = S 15 (S 7 0 % S 5 0) := by unfold mskN; rw [if_neg e5]
    have hlt : S 7 0 % S 5 0 < S 5 0 := Nat.mod_lt _ (by omega)
    rw [em] at hz
    simp (disch := omega) only [wpf_s, wpA_s, wq_c, wq_n, lkp_n, lkp_c, lk_0, lk_s, ldI_s, ldR_s, ldL_s, incI_s, gfE_I, gfE_Z, gfE_R, pfE_I, pfE_Z, pfE_R, nwE_s, anE_0, anE_1, anE_4, kE_n, kE_s, ii_s, sw_iload_n, sw_iload, sw_aload_n, sw_aload, sw_lload_n, sw_lload, sw_istore_n, sw_istore, sw_astore_n, sw_astore, sw_lstore, sw_iinc, sw_iconst, sw_bipush, sw_sipush, sw_null, sw_ldc2, sw_dup, sw_dup2, sw_iadd, sw_isub, sw_imul, sw_iand, sw_ixor, sw_ishr, sw_iushr, sw_idiv, sw_irem, sw_land, sw_lor, sw_lcmp, sw_lshl, sw_lshr, sw_lushr, sw_i2l, sw_l2i, sw_i2b, sw_goto, sw_icmp_eq, sw_if_eq, sw_icmp_ne, sw_if_ne, sw_icmp_lt, sw_if_lt, sw_icmp_ge, sw_if_ge, sw_icmp_gt, sw_if_gt, sw_icmp_le, sw_if_le, sw_ifnull, sw_ifnonnull, sw_acmp, sw_get, sw_put, sw_iaload, sw_baload, sw_laload, sw_aaload, sw_alen, sw_iastore, sw_bastore, sw_lastore, sw_aastore, sw_aastoreN, sw_newa_byte, sw_newa_int, sw_newa_boolean, sw_newa_long, sw_anew, sw_new, sw_iv, sw_is, sw_ii, sw_ireturn, sw_areturn, sw_return, sw_table, cv_0, cv_1, cv_2, cv_3, cv_4, ci_0, ci_1, ci_2, ci_3, ci_4, cs_1, cs_2, cs_3, cs_4, ic_m1, ic_0, ic_1, ic_2, ic_3, ic_4, ic_5, ic_6, bp_6, bp_7, bp_8, bp_15, bp_16, bp_31, bp_32, bp_60, sp_250, sp_255, sp_4000, sp_5000, sp_15000, sp_32000, f4_0, f4_1, f4_2, f4_3, c_nat, rtm, rok_0, rok_1, rok_2, rok_3, okS_0, okS_s, okq_n, okq_i, okq_r, stW_n, stW_i, stW_r, stW_l, cat_i, cat_r, nox, nf_0, nf_1, nf_2, nf_3, nf_4, nf_5, nf_6, true_and, and_true, Nat.zero_le, Nat.reduceAdd, Nat.reduceLT, Nat.reduceLeDiff, Nat.reduceEqDiff, Int.reduceAdd, Int.reduceToNat, Int.reduceLE, reduceIte, List.length_cons, List.length_nil, List.set_cons_zero, List.set_cons_succ, Option.some.injEq, ne_eq, not_true, not_false_eq_true, false_or, or_false, true_or, or_true, false_and, and_false, true_implies, false_implies, implies_true, not_false_eq_true, Bool.false_eq_true, reduceCtorEq, dX6_drains_0, dX6_drains_1, dX6_drains_4, dX6_drains_7, dX6_drains_8, dX6_drains_11, dX6_drains_12, dX6_drains_15, dX6_drains_16, dX6_drains_19, dX6_drains_20, dX6_drains_23, dX6_drains_24, dX6_drains_25, dX6_drains_26, dX6_drains_27, dX6_drains_28, dX6_drains_29, dX6_drains_30, dX6_drains_31, dX6_drains_32, dX6_drains_35, dX6_drains_38, dX6_drains_39, dX6_drains_40, dX6_drains_41, dX6_drains_42, dX6_drains_43, dX6_drains_46, dX6_drains_47, dX6_drains_50, dX6_drains_51, dX6_drains_52, dX6_drains_53, dX6_drains_56, dX6_drains_57, dX6_drains_58, dX6_drains_61, dX6_drains_64, dX6_drains_67, dX6_drains_68, dX6_drains_69, dX6_drains_70, dX6_drains_73, dX6_drains_74, dX6_drains_75, dX6_drains_76, dX6_drains_78, dX6_drains_79, dX6_drains_82, dX6_drains_84, dX6_drains_85, dX6_drains_87, dX6_drains_88, dX6_drains_91, dX6_drains_93, dX6_drains_94, dX6_drains_97, dX6_drains_98, dX6_drains_99, dX6_drains_102, dX6_drains_103, dX6_drains_104, dX6_drains_105, dX6_drains_106, dX6_drains_107, dX6_drains_108, dX6_drains_109, dX6_drains_112, dX6_drains_114, dX6_drains_115, dX6_drains_116, dX6_drains_117, dX6_drains_118, dX6_drains_121, dX6_drains_123, dX6_drains_124, dX6_drains_127, dX6_drains_130, dX6_drains_133, dX6_drains_134, dX6_drains_137, dX6_drains_139, dX6_drains_140, dX6_drains_143, dX6_drains_144, dX6_drains_147, dX6_drains_148, dX6_drains_149, dX6_drains_152, dX6_drains_153, dX6_drains_156, dX6_drains_158, dX6_drains_159, dX6_drains_162, dX6_drains_163, dX6_drains_166, dX6_drains_167, dX6_drains_170, dX6_drains_172, dX6_drains_173, dX6_drains_176, dX6_drains_177, dX6_drains_180, dX6_drains_181, dX6_drains_182, dX6_drains_185, dX6_drains_188, dX6_drains_191, dX6_drains_192, ftX6_108, ftX6_16, ftX6_114, ftX6_96, ftX6_69, ftX6_66, ftX6_48, ftX6_57, ftX6_51, ftX6_22, ftX6_35, ftX6_129, ftX6_45, ftX6_38, rf, hR.1, hR.s5, hR.s7, hR.a15, hR.k15, hR.n15, hR.g15, e5, ite_zn, ite_zm, q_max, l_neg, q_rem2, q_lt, q_le, q_eq, q_add, q_mul, q_sub, q_div, q_rem, q_in, q_cl, q_0l, q_sac, l_0, l_1, l_2, l_3, l_4, l_5, l_6, l_8, l_15, l_16, l_32, l_60, l_250, l_4000, l_5000, ct_X6_drains]
    exact ⟨by omega, hz⟩
end
section
def T_X6_sends : TT := fun av G Qr _ => ∃ m ar S, av = [rf m] ∧ RepM G m ar S ∧ WF S ∧ S 9 0 < 10000000 ∧ S 10 0 < 10000000 ∧ ∀ G', RepM G' m ar (sds S) → Fr m ar G G' → Qr none G'
theorem mono_X6_sends : TMono T_X6_sends := fun av G Q1 Q2 Qx ⟨m, ar, S, h1, h3, h4, h6, h7, h5⟩ hq => ⟨m, ar, S, h1, h3, h4, h6, h7, fun G' q1 q2 => hq _ _ (h5 G' q1 q2)⟩
def rm_X6_sends : Room := { frames := 3, cells := 0, slots := 0, locals := 64 }
def ct_X6_sends : List (Nat × CS) := [(158, 6, 0, 0, 0, T_X6_doesWait), (155, 6, 1, 0, 0, T_X6_isAble), (162, 6, 0, 0, 0, T_X6_begun), (166, 6, 0, 0, 0, T_X6_least), (169, 6, 0, 0, 0, T_X6_byTurns)]
set_option maxRecDepth 20000 in
set_option maxHeartbeats 4000000 in
theorem c_X6_sends (l : Launch) : CM l yX6_sends cX6_sends 6 none rm_X6_sends T_X6_sends := by
  refine CM.ev (ft := ftX6) (nt := []) (ct := ct_X6_sends) (oi := 0) (rt := 0) (ini := false) (by decide +kernel) (Or.inl ⟨rfl, rfl⟩) ftX6_ok (fun q => by cases q) (fun x h => by cases h) (List.forall_mem_cons.mpr ⟨⟨mono_X6_doesWait, yX6_doesWait, cX6_doesWait, 2, (some .boolean), rm_X6_doesWait, c_X6_doesWait l, mi_X6_doesWait, rfl, rfl, ⟨by decide, by decide⟩, fun _ => ⟨mv_X6_doesWait, lnkX6_158, rfl⟩, fun q => absurd q (by decide), fun q => absurd q (by decide), fun q => absurd q (by decide)⟩, List.forall_mem_cons.mpr ⟨⟨mono_X6_isAble, yX6_isAble, cX6_isAble, 2, (some .boolean), rm_X6_isAble, c_X6_isAble l, mi_X6_isAble, rfl, rfl, ⟨by decide, by decide⟩, fun _ => ⟨mv_X6_isAble, lnkX6_155, rfl⟩, fun q => absurd q (by decide), fun q => absurd q (by decide), fun q => absurd q (by decide)⟩, List.forall_mem_cons.mpr ⟨⟨mono_X6_begun, yX6_begun, cX6_begun, 2, (some .int), rm_X6_begun, c_X6_begun l, mi_X6_begun, rfl, rfl, ⟨by decide, by decide⟩, fun _ => ⟨mv_X6_begun, lnkX6_162, rfl⟩, fun q => absurd q (by decide), fun q => absurd q (by decide), fun q => absurd q (by decide)⟩, List.forall_mem_cons.mpr ⟨⟨mono_X6_least, yX6_least, cX6_least, 2, (some .int), rm_X6_least, c_X6_least l, mi_X6_least, rfl, rfl, ⟨by decide, by decide⟩, fun _ => ⟨mv_X6_least, lnkX6_166, rfl⟩, fun q => absurd q (by decide), fun q => absurd q (by decide), fun q => absurd q (by decide)⟩, List.forall_mem_cons.mpr ⟨⟨mono_X6_byTurns, yX6_byTurns, cX6_byTurns, 3, (some .int), rm_X6_byTurns, c_X6_byTurns l, mi_X6_byTurns, rfl, rfl, ⟨by decide, by decide⟩, fun _ => ⟨mv_X6_byTurns, lnkX6_169, rfl⟩, fun q => absurd q (by decide), fun q => absurd q (by decide), fun q => absurd q (by decide)⟩, fun x h => by cases h⟩⟩⟩⟩⟩) (fun q => absurd rfl q) ?_
  intro av G Qr Qx hT
  obtain ⟨m, ar, S, rfl, hR, hW, h9, h10, h5⟩ := hT
  have w0 := hW.1.2.2.2.2.2.2.2.2.1
  have w1 := hW.1.1
  have w2 := hW.1.2.1
  refine ⟨Nat.le_of_ble_eq_true rfl, fun J hJ => ?_⟩
  have hN := NN_v
  have hrow := hW.rows
  have w8 := hW.1.2.2.2.2.2.2.2.2.2.2.1
  have w8' : S 8 0 < 4294967296 := by omega
  have n20_27 : ar 20 ≠ ar 27 := fun e => absurd (hR.2.2.1 20 27 (by decide) (by decide) e) (by decide)
  have n25_27 : ar 25 ≠ ar 27 := fun e => absurd (hR.2.2.1 25 27 (by decide) (by decide) e) (by decide)
  have n26_27 : ar 26 ≠ ar 27 := fun e => absurd (hR.2.2.1 26 27 (by decide) (by decide) e) (by decide)
  have n30_27 : ar 30 ≠ ar 27 := fun e => absurd (hR.2.2.1 30 27 (by decide) (by decide) e) (by decide)
  have n25_20 : ar 25 ≠ ar 20 := fun e => absurd (hR.2.2.1 25 20 (by decide) (by decide) e) (by decide)
  have n26_20 : ar 26 ≠ ar 20 := fun e => absurd (hR.2.2.1 26 20 (by decide) (by decide) e) (by decide)
  have n27_20 : ar 27 ≠ ar 20 := fun e => absurd (hR.2.2.1 27 20 (by decide) (by decide) e) (by decide)
  have n30_20 : ar 30 ≠ ar 20 := fun e => absurd (hR.2.2.1 30 20 (by decide) (by decide) e) (by decide)
  have n20_30 : ar 20 ≠ ar 30 := fun e => absurd (hR.2.2.1 20 30 (by decide) (by decide) e) (by decide)
  have n25_30 : ar 25 ≠ ar 30 := fun e => absurd (hR.2.2.1 25 30 (by decide) (by decide) e) (by decide)
  have n26_30 : ar 26 ≠ ar 30 := fun e => absurd (hR.2.2.1 26 30 (by decide) (by decide) e) (by decide)
  have n27_30 : ar 27 ≠ ar 30 := fun e => absurd (hR.2.2.1 27 30 (by decide) (by decide) e) (by decide)
  have am20 : ar 20 ≠ m := hR.am (by decide)
  have ma20 : m ≠ ar 20 := fun e => am20 e.symm
  have am25 : ar 25 ≠ m := hR.am (by decide)
  have ma25 : m ≠ ar 25 := fun e => am25 e.symm
  have am26 : ar 26 ≠ m := hR.am (by decide)
  have ma26 : m ≠ ar 26 := fun e => am26 e.symm
  have am27 : ar 27 ≠ m := hR.am (by decide)
  have ma27 : m ≠ ar 27 := fun e => am27 e.symm
  have am30 : ar 30 ≠ m := hR.am (by decide)
  have ma30 : m ≠ ar 30 := fun e => am30 e.symm
  have wtb : wt S ≤ 1 := by unfold wt; split <;> omega
  have e124 : ∀ (w3 o5 : Option AV), J 124 [some (rf m), some (.inl (nI (wt S))), some (.inl (if goB S = true then nI 1 else nI 0)), w3, some (.inl (nI (sdN S))), o5] [] G 0 0 := by
    intro w3 o5
    refine hJ [] 120 124 [some (rf m), some (.inl (nI (wt S))), some (.inl (if goB S = true then nI 1 else nI 0)), w3, some (.inl (nI (sdN S))), o5] [] G 0 0 (fun x h => by cases h) ?_
    by_cases es : sdN S = NN
    · have e : sds S = up S 10 0 (S 10 0 + wt S) := by unfold sds; rw [if_pos es]
      simp (disch := omega) only [wpf_s, wpA_s, wq_c, wq_n, lkp_n, lkp_c, lk_0, lk_s, ldI_s, ldR_s, ldL_s, incI_s, gfE_I, gfE_Z, gfE_R, pfE_I, pfE_Z, pfE_R, nwE_s, anE_0, anE_1, anE_4, kE_n, kE_s, ii_s, sw_iload_n, sw_iload, sw_aload_n, sw_aload, sw_lload_n, sw_lload, sw_istore_n, sw_istore, sw_astore_n, sw_astore, sw_lstore, sw_iinc, sw_iconst, sw_bipush, sw_sipush, sw_null, sw_ldc2, sw_dup, sw_dup2, sw_iadd, sw_isub, sw_imul, sw_iand, sw_ixor, sw_ishr, sw_iushr, sw_idiv, sw_irem, sw_land, sw_lor, sw_lcmp, sw_lshl, sw_lshr, sw_lushr, sw_i2l, sw_l2i, sw_i2b, sw_goto, sw_icmp_eq, sw_if_eq, sw_icmp_ne, sw_if_ne, sw_icmp_lt, sw_if_lt, sw_icmp_ge, sw_if_ge, sw_icmp_gt, sw_if_gt, sw_icmp_le, sw_if_le, sw_ifnull, sw_ifnonnull, sw_acmp, sw_get, sw_put, sw_iaload, sw_baload, sw_laload, sw_aaload, sw_alen, sw_iastore, sw_bastore, sw_lastore, sw_aastore, sw_aastoreN, sw_newa_byte, sw_newa_int, sw_newa_boolean, sw_newa_long, sw_anew, sw_new, sw_iv, sw_is, sw_ii, sw_ireturn, sw_areturn, sw_return, sw_table, cv_0, cv_1, cv_2, cv_3, cv_4, ci_0, ci_1, ci_2, ci_3, ci_4, cs_1, cs_2, cs_3, cs_4, ic_m1, ic_0, ic_1, ic_2, ic_3, ic_4, ic_5, ic_6, bp_6, bp_7, bp_8, bp_15, bp_16, bp_31, bp_32, bp_60, sp_250, sp_255, sp_4000, sp_5000, sp_15000, sp_32000, f4_0, f4_1, f4_2, f4_3, c_nat, rtm, rok_0, rok_1, rok_2, rok_3, okS_0, okS_s, okq_n, okq_i, okq_r, stW_n, stW_i, stW_r, stW_l, cat_i, cat_r, nox, nf_0, nf_1, nf_2, nf_3, nf_4, nf_5, nf_6, true_and, and_true, Nat.zero_le, Nat.reduceAdd, Nat.reduceLT, Nat.reduceLeDiff, Nat.reduceEqDiff, Int.reduceAdd, Int.reduceToNat, Int.reduceLE, reduceIte, List.length_cons, List.length_nil, List.set_cons_zero, List.set_cons_succ, Option.some.injEq, ne_eq, not_true, not_false_eq_true, false_or, or_false, true_or, or_true, false_and, and_false, true_implies, false_implies, implies_true, not_false_eq_true, Bool.false_eq_true, reduceCtorEq, dX6_sends_0, dX6_sends_1, dX6_sends_4, dX6_sends_5, dX6_sends_6, dX6_sends_9, dX6_sends_10, dX6_sends_13, dX6_sends_14, dX6_sends_17, dX6_sends_18, dX6_sends_21, dX6_sends_22, dX6_sends_23, dX6_sends_26, dX6_sends_29, dX6_sends_32, dX6_sends_33, dX6_sends_36, dX6_sends_37, dX6_sends_40, dX6_sends_41, dX6_sends_44, dX6_sends_45, dX6_sends_48, dX6_sends_49, dX6_sends_52, dX6_sends_53, dX6_sends_54, dX6_sends_55, dX6_sends_58, dX6_sends_59, dX6_sends_62, dX6_sends_63, dX6_sends_66, dX6_sends_69, dX6_sends_70, dX6_sends_71, dX6_sends_72, dX6_sends_75, dX6_sends_76, dX6_sends_79, dX6_sends_80, dX6_sends_83, dX6_sends_86, dX6_sends_87, dX6_sends_90, dX6_sends_91, dX6_sends_94, dX6_sends_97, dX6_sends_98, dX6_sends_99, dX6_sends_102, dX6_sends_103, dX6_sends_104, dX6_sends_107, dX6_sends_110, dX6_sends_111, dX6_sends_114, dX6_sends_115, dX6_sends_118, dX6_sends_119, dX6_sends_122, dX6_sends_124, dX6_sends_126, dX6_sends_127, dX6_sends_130, dX6_sends_131, dX6_sends_132, dX6_sends_135, dX6_sends_136, dX6_sends_139, dX6_sends_140, dX6_sends_143, dX6_sends_144, dX6_sends_145, dX6_sends_148, dX6_sends_149, dX6_sends_152, dX6_sends_154, dX6_sends_155, dX6_sends_156, dX6_sends_159, dX6_sends_161, dX6_sends_162, dX6_sends_163, dX6_sends_165, dX6_sends_166, dX6_sends_169, dX6_sends_171, dX6_sends_172, dX6_sends_175, dX6_sends_176, dX6_sends_177, dX6_sends_180, dX6_sends_182, dX6_sends_183, dX6_sends_186, dX6_sends_187, dX6_sends_190, dX6_sends_191, dX6_sends_194, dX6_sends_196, dX6_sends_197, dX6_sends_198, dX6_sends_201, dX6_sends_202, dX6_sends_203, dX6_sends_206, dX6_sends_208, dX6_sends_209, dX6_sends_210, dX6_sends_211, dX6_sends_212, dX6_sends_213, dX6_sends_214, dX6_sends_216, dX6_sends_217, dX6_sends_220, dX6_sends_223, dX6_sends_224, dX6_sends_227, dX6_sends_228, dX6_sends_231, dX6_sends_232, dX6_sends_235, dX6_sends_236, dX6_sends_239, dX6_sends_240, dX6_sends_243, dX6_sends_244, dX6_sends_245, dX6_sends_248, dX6_sends_249, dX6_sends_251, dX6_sends_254, ftX6_105, ftX6_117, ftX6_120, ftX6_13, ftX6_123, ftX6_63, ftX6_54, ftX6_114, ftX6_51, ftX6_32, ftX6_48, rf, hR.1, hR.s4, hR.s7, hR.s8, hR.s9, hR.s10, hR.a14, hR.k14, hR.n14, hR.g14, ite_zn, ite_zm, q_max, l_neg, q_rem2, q_lt, q_le, q_eq, q_add, q_mul, q_sub, q_div, q_rem, q_in, q_cl, q_0l, q_sac, l_0, l_1, l_2, l_3, l_4, l_5, l_6, l_8, l_15, l_16, l_32, l_60, l_250, l_4000, l_5000, es, ct_X6_sends]
      trace_state
      sorry
    · obtain ⟨hv, ha⟩ := (sdN_ok hW).resolve_left es
      have hv8 : sdN S < 8 := by omega
      unfold abl at ha
      replace ha := of_decide_eq_true ha
      have hc := hW.2.1 (sdN S) hv8
      unfold Wc at hc
      have hf := hW.2.2.2 (sdN S) hv8 (S 30 (sdN S)) ha.1
      unfold Wf at hf
      have hp := hW.2.2.1 _ hf.1
      unfold Wp at hp
      have hfo := fo_le hp.2.1
      simp (disch := omega) only [wpf_s, wpA_s, wq_c, wq_n, lkp_n, lkp_c, lk_0, lk_s, ldI_s, ldR_s, ldL_s, incI_s, gfE_I, gfE_Z, gfE_R, pfE_I, pfE_Z, pfE_R, nwE_s, anE_0, anE_1, anE_4, kE_n, kE_s, ii_s, sw_iload_n, sw_iload, sw_aload_n, sw_aload, sw_lload_n, sw_lload, sw_istore_n, sw_istore, sw_astore_n, sw_astore, sw_lstore, sw_iinc, sw_iconst, sw_bipush, sw_sipush, sw_null, sw_ldc2, sw_dup, sw_dup2, sw_iadd, sw_isub, sw_imul, sw_iand, sw_ixor, sw_ishr, sw_iushr, sw_idiv, sw_irem, sw_land, sw_lor, sw_lcmp, sw_lshl, sw_lshr, sw_lushr, sw_i2l, sw_l2i, sw_i2b, sw_goto, sw_icmp_eq, sw_if_eq, sw_icmp_ne, sw_if_ne, sw_icmp_lt, sw_if_lt, sw_icmp_ge, sw_if_ge, sw_icmp_gt, sw_if_gt, sw_icmp_le, sw_if_le, sw_ifnull, sw_ifnonnull, sw_acmp, sw_get, sw_put, sw_iaload, sw_baload, sw_laload, sw_aaload, sw_alen, sw_iastore, sw_bastore, sw_lastore, sw_aastore, sw_aastoreN, sw_newa_byte, sw_newa_int, sw_newa_boolean, sw_newa_long, sw_anew, sw_new, sw_iv, sw_is, sw_ii, sw_ireturn, sw_areturn, sw_return, sw_table, cv_0, cv_1, cv_2, cv_3, cv_4, ci_0, ci_1, ci_2, ci_3, ci_4, cs_1, cs_2, cs_3, cs_4, ic_m1, ic_0, ic_1, ic_2, ic_3, ic_4, ic_5, ic_6, bp_6, bp_7, bp_8, bp_15, bp_16, bp_31, bp_32, bp_60, sp_250, sp_255, sp_4000, sp_5000, sp_15000, sp_32000, f4_0, f4_1, f4_2, f4_3, c_nat, rtm, rok_0, rok_1, rok_2, rok_3, okS_0, okS_s, okq_n, okq_i, okq_r, stW_n, stW_i, stW_r, stW_l, cat_i, cat_r, nox, nf_0, nf_1, nf_2, nf_3, nf_4, nf_5, nf_6, true_and, and_true, Nat.zero_le, Nat.reduceAdd, Nat.reduceLT, Nat.reduceLeDiff, Nat.reduceEqDiff, Int.reduceAdd, Int.reduceToNat, Int.reduceLE, reduceIte, List.length_cons, List.length_nil, List.set_cons_zero, List.set_cons_succ, Option.some.injEq, ne_eq, not_true, not_false_eq_true, false_or, or_false, true_or, or_true, false_and, and_false, true_implies, false_implies, implies_true, not_false_eq_true, Bool.false_eq_true, reduceCtorEq, dX6_sends_0, dX6_sends_1, dX6_sends_4, dX6_sends_5, dX6_sends_6, dX6_sends_9, dX6_sends_10, dX6_sends_13, dX6_sends_14, dX6_sends_17, dX6_sends_18, dX6_sends_21, dX6_sends_22, dX6_sends_23, dX6_sends_26, dX6_sends_29, dX6_sends_32, dX6_sends_33, dX6_sends_36, dX6_sends_37, dX6_sends_40, dX6_sends_41, dX6_sends_44, dX6_sends_45, dX6_sends_48, dX6_sends_49, dX6_sends_52, dX6_sends_53, dX6_sends_54, dX6_sends_55, dX6_sends_58, dX6_sends_59, dX6_sends_62, dX6_sends_63, dX6_sends_66, dX6_sends_69, dX6_sends_70, dX6_sends_71, dX6_sends_72, dX6_sends_75, dX6_sends_76, dX6_sends_79, dX6_sends_80, dX6_sends_83, dX6_sends_86, dX6_sends_87, dX6_sends_90, dX6_sends_91, dX6_sends_94, dX6_sends_97, dX6_sends_98, dX6_sends_99, dX6_sends_102, dX6_sends_103, dX6_sends_104, dX6_sends_107, dX6_sends_110, dX6_sends_111, dX6_sends_114, dX6_sends_115, dX6_sends_118, dX6_sends_119, dX6_sends_122, dX6_sends_124, dX6_sends_126, dX6_sends_127, dX6_sends_130, dX6_sends_131, dX6_sends_132, dX6_sends_135, dX6_sends_136, dX6_sends_139, dX6_sends_140, dX6_sends_143, dX6_sends_144, dX6_sends_145, dX6_sends_148, dX6_sends_149, dX6_sends_152, dX6_sends_154, dX6_sends_155, dX6_sends_156, dX6_sends_159, dX6_sends_161, dX6_sends_162, dX6_sends_163, dX6_sends_165, dX6_sends_166, dX6_sends_169, dX6_sends_171, dX6_sends_172, dX6_sends_175, dX6_sends_176, dX6_sends_177, dX6_sends_180, dX6_sends_182, dX6_sends_183, dX6_sends_186, dX6_sends_187, dX6_sends_190, dX6_sends_191, dX6_sends_194, dX6_sends_196, dX6_sends_197, dX6_sends_198, dX6_sends_201, dX6_sends_202, dX6_sends_203, dX6_sends_206, dX6_sends_208, dX6_sends_209, dX6_sends_210, dX6_sends_211, dX6_sends_212, dX6_sends_213, dX6_sends_214, dX6_sends_216, dX6_sends_217, dX6_sends_220, dX6_sends_223, dX6_sends_224, dX6_sends_227, dX6_sends_228, dX6_sends_231, dX6_sends_232, dX6_sends_235, dX6_sends_236, dX6_sends_239, dX6_sends_240, dX6_sends_243, dX6_sends_244, dX6_sends_245, dX6_sends_248, dX6_sends_249, dX6_sends_251, dX6_sends_254, ftX6_105, ftX6_117, ftX6_120, ftX6_13, ftX6_123, ftX6_63, ftX6_54, ftX6_114, ftX6_51, ftX6_32, ftX6_48, rf, hR.1, hR.s4, hR.s7, hR.s8, hR.s9, hR.s10, knd_sI, gn_sI, gr_sI, gi_sI, n20_27, n25_27, n26_27, n30_27, n25_20, n26_20, n27_20, n30_20, n20_30, n25_30, n26_30, n27_30, am20, ma20, am25, ma25, am26, ma26, am27, ma27, am30, ma30, hR.a14, hR.k14, hR.n14, hR.g14, hR.a20, hR.k20, hR.n20, hR.g20, hR.a25, hR.k25, hR.n25, hR.g25, hR.a26, hR.k26, hR.n26, hR.g26, hR.a27, hR.k27, hR.n27, hR.g27, hR.a29, hR.k29, hR.n29, hR.g29, hR.a30, hR.k30, hR.n30, hR.g30, ite_zn, ite_zm, q_max, l_neg, q_rem2, q_lt, q_le, q_eq, q_add, q_mul, q_sub, q_div, q_rem, q_in, q_cl, q_0l, q_sac, l_0, l_1, l_2, l_3, l_4, l_5, l_6, l_8, l_15, l_16, l_32, l_60, l_250, l_4000, l_5000, es, hv8, ct_X6_sends]
      trace_state
      sorry
  sorry
end
