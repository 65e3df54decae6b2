def strs : List (Nat × String) := [(35, "channels are 1 to 8"), (40, "wire and back are 1 to 16"), (42, "depth is 1 to 16"), (48, "no such channel, or depth is not 1 to 16"), (55, "the clock is not 0"), (66, "no such channel, or weight is not 1 to 15"), (71, "an arbiter is 0 to 3"), (82, "there are 32 rows"), (88, "1 to 16 bytes are fed"), (90, "the tape has at most 60 bytes"), (96, "no such channel"), (101, "there are 250 packets"), (113, "1 to 5000 cycles are run")]
def xIA : String := "java/lang/IllegalArgumentException"
def xIS : String := "java/lang/IllegalStateException"
def xUO : String := "java/lang/UnsupportedOperationException"
def lwC : List (String × String) := [(xIA, xIA), (xIS, xIS), (xUO, xUO), ("[B", "java/lang/Cloneable")]
def lwD : List MethodName := [⟨"java/lang/RuntimeException", "<init>", "(Ljava/lang/String;)V"⟩, ⟨"java/lang/Exception", "<init>", "(Ljava/lang/String;)V"⟩, ⟨"java/lang/Throwable", "<init>", "(Ljava/lang/String;)V"⟩]
/-- what the tables and the old heap say beside the good words: it holds wherever a method begins -/
def Wd (D : va_G) (cy : Nat → ClassId) (base : Nat) (U : State) (H : Heap) : Prop :=
  va_K D vwCl (tysY cy) U ∧ base ≤ H.size ∧ (va_AO RX0 U ∧ va_AO RX1 U ∧ va_AO RX4 U) ∧
  (vx_Zq Bundle.tN "UNASSIGNED_STACK" Bundle.steD (Ab base) U H ∧ vx_Zq Bundle.tN "SUPPRESSED_SENTINEL" Bundle.listD (Ab base) U H) ∧
  (∀ q ∈ strs, ∃ a, vk_R RX5 q.1 q.2 a U) ∧ (∀ q ∈ lwC, va_Nw (.castable q.1 q.2) U) ∧ (∀ q ∈ lwD, va_Nw (.declares q) U) ∧ va_Nw (.methodLinkNest RX0 11 yX2_init RX5) U
theorem Wd.moved {D : va_G} {cy : Nat → ClassId} {base : Nat} {s U : State} {H H1 : Heap} (h : Wd D cy base s H) (hW : s.WarmedH U.vm) (hz : H.size ≤ H1.size) (hk : ∀ a : Nat, a < H.size → ¬ Ab base a → H1[a]? = H[a]?) : Wd D cy base U H1 := by
  obtain ⟨h1, h2, ⟨h3, h4, h5⟩, ⟨h6, h7⟩, h8, h9, h11, h10⟩ := h
  refine ⟨va_K.moved hW.alike h1, Nat.le_trans h2 hz, ⟨va_AO.moved hW.alike h3, va_AO.moved hW.alike h4, va_AO.moved hW.alike h5⟩, ⟨(vx_Zq.moved hW.alike h6).kept hk, (vx_Zq.moved hW.alike h7).kept hk⟩, fun q hq => ?_, fun q hq => va_Nw.warmC hW (h9 q hq), fun q hq => va_Nw.warmD hW (h11 q hq), va_Nw.warmM hW h10⟩
  obtain ⟨a, ha⟩ := h8 q hq
  exact ⟨a, vk_R.warm hW ha⟩
def PcA (D : va_G) (cy : Nat → ClassId) (base : Nat) (S0 : GG) (av : List AV) (G : GG) : Array Value → State → Prop := fun v U => v = (av.map tV).toArray ∧ Wd D cy base U U.heap ∧ Hp D cy base S0 G U.heap
def QcA (D : va_G) (cy : Nat → ClassId) (base : Nat) (S0 : GG) (Qr : Option AV → GG → Prop) : Array Value → State → Outcome → State → Prop := fun _ st oc t => (∃ (r : Option AV) (G' : GG), oc = .returned (r.map tV) ∧ Qr r G' ∧ Hp D cy base S0 G' t.heap) ∧ va_F (Ab base) st t
def XcA (D : va_G) (cy : Nat → ClassId) (base : Nat) (S0 : GG) (Qx : String → GG → Prop) : String → State → State → Prop := fun E st t => (∃ G' : GG, Qx E G' ∧ Hp D cy base S0 G' t.heap) ∧ va_F (Ab base) st t
abbrev TT : Type := List AV → GG → (Option AV → GG → Prop) → (String → GG → Prop) → Prop
/-- method y's contract: from arguments and a heap of which T holds, it returns, or throws, what T asks -/
def CM (l : Launch) (y : MethodName) (bytes : ByteArray) (maxL : Nat) (ret : Option FieldType) (rm : Room) (T : TT) : Prop :=
  ∀ (D : va_G) (cy : Nat → ClassId) (base : Nat) (S0 : GG) (av : List AV) (G : GG) (Qr : Option AV → GG → Prop) (Qx : String → GG → Prop), T av G Qr Qx →
    vx_Met l y (Cond.code y bytes maxL ret :: lwG) rm (PcA D cy base S0 av G) (QcA D cy base S0 Qr) (XcA D cy base S0 Qx) rm.cells rm.slots (Ab base)
theorem PcA.blind (D : va_G) (cy : Nat → ClassId) (base : Nat) (S0 : GG) (av : List AV) (G : GG) : FrameBlind (PcA D cy base S0 av G) := by
  intro a U g mk h
  obtain ⟨h1, h2, h3⟩ := h
  have hh : (U.calling g mk a).heap = U.heap := rfl
  refine ⟨h1, ?_, by rw [hh]; exact h3⟩
  refine Wd.moved h2 (U := U.calling g mk a) ?_ (by rw [hh]; exact Nat.le_refl _) (fun b _ _ => by rw [hh])
  exact State.WarmedH.refl U
/-- the words of a callee -/
def MI (y : MethodName) (bytes : ByteArray) (maxL : Nat) (ret : Option FieldType) (na : Nat) : Prop := Cond.code y bytes maxL ret ∈ lwG ∧ Cond.initialized y.cls ∈ lwG ∧ (y.cls ≠ "java/lang/invoke/MethodHandle" ∧ y.cls ≠ "java/lang/invoke/VarHandle") ∧ (parseMethodDescriptor y.desc).map (fun d => d.parameters.length) = some na
def MV (y : MethodName) : Prop := Cond.instanceMethod y ∈ lwG ∧ Cond.selects y.cls y y ∈ lwG
theorem lwG_good : ∀ w ∈ lwG, (w.onTables && w.keeps) = true ∨ ∃ ty, w = .arrayClass ty := fun w h => good_of_word (List.mem_filter.mp h).2
theorem lwG_all {y : MethodName} {bytes : ByteArray} {maxL : Nat} {ret : Option FieldType} (h : Cond.code y bytes maxL ret ∈ lwG) : GoodIn lwG (Cond.code y bytes maxL ret :: lwG) := fun w hw => by
  rcases List.mem_cons.mp hw with e | hw
  · subst e; exact ⟨h, lwG_good _ h⟩
  · exact ⟨hw, lwG_good _ hw⟩
section JC
variable {p : Program} {l : Launch} {e : Env} {R : Room} {s : State} {m : MethodId} {args : Array Value} {below : List Frame} {meth : Method} {c : Code} {nL : Nat} {D : va_G} {cy : Nat → ClassId} {base : Nat} {S0 : GG} {Q : State → Prop}
variable {cc : ByteArray} {own : String} {pc : Nat} {ls : List (Option AV)} {st : List AV} {G : GG} {k n : Nat}
variable {y : MethodName} {bytes : ByteArray} {maxL : Nat} {ret : Option FieldType} {rm : Room} {T : TT} {na idx : Nat}
theorem callB_A (C : Cx p s m args c cc nL own D cy base) (hI : MI y bytes maxL ret na) (hl : Cond.methodLink own idx y ∈ lwG) (hR : rm.frames + 1 ≤ R.frames ∧ 8 + (maxL + 11) + rm.locals ≤ R.locals) : CallB R s args own idx y bytes maxL ret (Cond.code y bytes maxL ret :: lwG) rm rm.cells rm.slots na :=
  callB_of na C.2.2.2.2.1 (lwG_all hI.1) rfl rfl rfl (C.2.2.2.2.1 _ hI.2.1) (C.2.2.2.2.1 _ hl) ⟨hI.2.2.1.1, hI.2.2.1.2, hI.2.2.2⟩ hR
theorem pre_A (C : Cx p s m args c cc nL own D cy base) (hWd : Wd D cy base s s.heap) {H : Heap} {locs : List Loc} (hS : va_S (Ab base) s.heap H locs) {av : List AV} (hP : Hp D cy base S0 G H) : ∀ U : State, U.heap = H → s.WarmedH U.vm → PcA D cy base S0 av G (av.map tV).toArray U := by
  intro U hU hW
  refine ⟨rfl, ?_, by rw [hU]; exact hP⟩
  rw [hU]
  exact hWd.moved hW hS.1 hS.2.1
theorem metOf {ws : List Cond} {Pc : Array Value → State → Prop} {Qc : Array Value → State → Outcome → State → Prop} {XC : String → State → State → Prop} {mc ms : Nat} {free : Addr → Prop} (h : vx_Met l y ws rm Pc Qc XC mc ms free) (hx : ∀ E st t, ¬ XC E st t) : Met l y ws rm Pc Qc mc ms free := by
  intro p e ha hc hk s m args below hf happ hP hK
  obtain ⟨n, o, h1, h2, h3, h4⟩ := h p e ha hc hk s m args below hf happ hP hK
  refine ⟨n, o, h1, h2, h3, ?_⟩
  rcases h4 with h4 | ⟨q, rfl, E, ce, L, hX, -⟩
  · exact h4
  · exact absurd hX (hx _ _ _)
theorem CM.met (hM : CM l y bytes maxL ret rm T) {av : List AV} {Qr : Option AV → GG → Prop} (hT : T av G Qr (fun _ _ => False)) : Met l y (Cond.code y bytes maxL ret :: lwG) rm (PcA D cy base S0 av G) (QcA D cy base S0 Qr) rm.cells rm.slots (Ab base) :=
  metOf (hM D cy base S0 av G Qr _ hT) (fun E st t h => by obtain ⟨⟨G', h1, -⟩, -⟩ := h; exact h1)
/-- behind a call that came back -/
theorem j_run {mc ms : Nat} {Qr : Option AV → GG → Prop} {H : Heap} {locs : List Loc} {la : Array Slot} {st0 : List Value} {a : Array Value}
    (hr : va_Run p l e R s m args below meth c H locs k n mc ms (F0 m pc la st0) (st.map tV) (QcA D cy base S0 Qr a) (Ab base)) (hS : va_S (Ab base) s.heap H locs) (hls : ls.length = nL) (hl : lv_has la nL (lsP 0 ls))
    (kk : ∀ (r : Option AV) (G' : GG), Qr r G' → JJ p l e R s m args below meth c nL D cy base S0 Q (pc + 3) ls (r.toList ++ st) G' (k + mc) (n + ms)) : W p l e R s m args below meth c H locs k n Q (F0 m pc la st0) := by
  intro T hT X
  obtain ⟨v, st₀, t, T', L, h0, X', hL, e1, e2, ⟨⟨r, G', hv, hq, hp⟩, hF⟩, stp⟩ := hr T hT X
  cases hv
  obtain ⟨k1, k2, k3⟩ := vx_keep h0 e1 hS (fun _ _ h => h) (fun _ h => h) hL hF
  have kk' := kk r G' hq T'.heap (locs ++ L) la hls (by rw [e1]; exact hp) k3 hl
  have es : (r.toList ++ st).map tV = (r.map tV).toList ++ st.map tV := by cases r <;> rfl
  rw [es] at kk'
  obtain ⟨t2, a1, b1⟩ := kk' T' rfl X'
  exact ⟨t2, stp t2 a1, b1⟩
theorem st_room {la : Array Slot} {v : List Value} (h : (st.map fun v => (tV v).category).sum ≤ 8) : 2 * (F0 m pc la v).monitorRoom + ((st.map tV).map fun v => v.category).sum ≤ 8 := by
  show 2 * 0 + _ ≤ 8
  rw [List.map_map]
  have : ((fun v : Value => v.category) ∘ tV) = fun v => (tV v).category := rfl
  rw [this]; omega
theorem j_callV (C : Cx p s m args c cc nL own D cy base) (hWd : Wd D cy base s s.heap) (hM : CM l y bytes maxL ret rm T) (hI : MI y bytes maxL ret na) (hV : MV y) (hl : Cond.methodLink own idx y ∈ lwG) {ci b : Nat} (h7 : ci < 7) (hy : y.cls = RO ci) (hkb : knd G b = ci) (As : List AV) (hna : As.length = na)
    (hd : decode cc pc = .ok (.invokevirtual idx, 3)) (hR : rm.frames + 1 ≤ R.frames ∧ 8 + (maxL + 11) + rm.locals ≤ R.locals) (hst : (st.map fun v => (tV v).category).sum ≤ 8) (hc : k + rm.cells ≤ R.cells ∧ n + rm.slots ≤ R.slots)
    (hT : T (.inr (.inl (some b)) :: As) G (fun r G' => JJ p l e R s m args below meth c nL D cy base S0 Q (pc + 3) ls (r.toList ++ st) G' (k + rm.cells) (n + rm.slots)) (fun _ _ => False)) : JJ p l e R s m args below meth c nL D cy base S0 Q pc ls (As.reverse ++ .inr (.inl (some b)) :: st) G k n := by
  intro H locs la h1 h2 h3 h4
  have hrec : ∃ cell : Cell, H[b]? = some cell ∧ cell.vm.isStatics = false ∧ s.vm.findClass (RO ci) = some cell.cls := by
    obtain ⟨ws, q0, hP, hD, he, -⟩ := h2.at (hlt14 hkb (by omega))
    rw [enc_o cy hkb h7] at he
    exact va_recv C.2.2.2.2.2.1 hP (vw_at ci h7) he
  have hr := va_runV (p := p) (e := e) (below := below) (meth := meth) (locs := locs) (cells := k) (slots := n) (C := RO ci) (b := b) (As := As.map tV) (rest := st.map tV) (g := F0 m pc la ((As.reverse ++ .inr (.inl (some b)) :: st).map tV)) (H := H)
    ⟨C.1, C.2.1, C.2.2.1, C.2.2.2.1, C.2.2.2.2.1⟩ (hM.met (D := D) (cy := cy) (base := base) (S0 := S0) hT) ⟨callB_A C hI hl hR, C.2.2.2.2.1 _ hV.1, by rw [← hy]; exact C.2.2.2.2.1 _ hV.2⟩
    ⟨PcA.blind _ _ _ _ _ _, hrec, fun U hU hW => pre_A C hWd h3 h2 U hU hW⟩ rfl (by rw [List.length_map]; exact hna) h4.1 (by simp [tV, va_rf]) (st_room hst) hd hc
  exact j_run hr h3 h1 h4 (fun r G' h => h)
theorem j_callI (C : Cx p s m args c cc nL own D cy base) (hWd : Wd D cy base s s.heap) (hM : CM l y bytes maxL none rm T) (hI : MI y bytes maxL none na) (hin : Cond.instanceMethod y ∈ lwG) (hl : Cond.methodLink own idx y ∈ lwG) (hy : y.name = "<init>") {b : Nat} (As : List AV) (hna : As.length = na)
    (hd : decode cc pc = .ok (.invokespecial idx, 3)) (hR : rm.frames + 1 ≤ R.frames ∧ 8 + (maxL + 11) + rm.locals ≤ R.locals) (hst : (st.map fun v => (tV v).category).sum ≤ 8) (hc : k + rm.cells ≤ R.cells ∧ n + rm.slots ≤ R.slots)
    (hT : T (.inr (.inl (some b)) :: As) G (fun r G' => JJ p l e R s m args below meth c nL D cy base S0 Q (pc + 3) ls (r.toList ++ st) G' (k + rm.cells) (n + rm.slots)) (fun _ _ => False)) : JJ p l e R s m args below meth c nL D cy base S0 Q pc ls (As.reverse ++ .inr (.inl (some b)) :: st) G k n := by
  intro H locs la h1 h2 h3 h4
  have hr := va_runI (p := p) (e := e) (below := below) (meth := meth) (locs := locs) (cells := k) (slots := n) (b := b) (As := As.map tV) (rest := st.map tV) (g := F0 m pc la ((As.reverse ++ .inr (.inl (some b)) :: st).map tV)) (H := H)
    ⟨C.1, C.2.1, C.2.2.1, C.2.2.2.1, C.2.2.2.2.1⟩ (hM.met (D := D) (cy := cy) (base := base) (S0 := S0) hT) ⟨callB_A C hI hl hR, hy, C.2.2.2.2.1 _ hin⟩
    ⟨PcA.blind _ _ _ _ _ _, fun U hU hW => pre_A C hWd h3 h2 U hU hW⟩ rfl (by rw [List.length_map]; exact hna) h4.1 (by simp [tV, va_rf]) (st_room hst) hd hc
  exact j_run hr h3 h1 h4 (fun r G' h => h)
theorem j_callIN (C : Cx p s m args c cc nL own D cy base) (hWd : Wd D cy base s s.heap) {host : String} (hM : CM l y bytes maxL none rm T) (hI : MI y bytes maxL none na) (hin : Cond.instanceMethod y ∈ lwG) (hl : va_Nw (.methodLinkNest own idx y host) s) (hy : y.name = "<init>") {b : Nat} (As : List AV) (hna : As.length = na)
    (hd : decode cc pc = .ok (.invokespecial idx, 3)) (hR : rm.frames + 1 ≤ R.frames ∧ 8 + (maxL + 11) + rm.locals ≤ R.locals) (hst : (st.map fun v => (tV v).category).sum ≤ 8) (hc : k + rm.cells ≤ R.cells ∧ n + rm.slots ≤ R.slots)
    (hT : T (.inr (.inl (some b)) :: As) G (fun r G' => JJ p l e R s m args below meth c nL D cy base S0 Q (pc + 3) ls (r.toList ++ st) G' (k + rm.cells) (n + rm.slots)) (fun _ _ => False)) : JJ p l e R s m args below meth c nL D cy base S0 Q pc ls (As.reverse ++ .inr (.inl (some b)) :: st) G k n := by
  intro H locs la h1 h2 h3 h4
  have hr := va_runIN (p := p) (e := e) (below := below) (meth := meth) (locs := locs) (cells := k) (slots := n) (b := b) (As := As.map tV) (rest := st.map tV) (g := F0 m pc la ((As.reverse ++ .inr (.inl (some b)) :: st).map tV)) (H := H)
    ⟨C.1, C.2.1, C.2.2.1, C.2.2.2.1, C.2.2.2.2.1⟩ (hM.met (D := D) (cy := cy) (base := base) (S0 := S0) hT) ⟨va_cnB na C.2.2.2.2.1 (lwG_all hI.1) rfl rfl rfl hl (C.2.2.2.2.1 _ hI.2.1) ⟨hI.2.2.1.1, hI.2.2.1.2, hI.2.2.2⟩ hR, hy, C.2.2.2.2.1 _ hin⟩
    ⟨PcA.blind _ _ _ _ _ _, fun U hU hW => pre_A C hWd h3 h2 U hU hW⟩ rfl (by rw [List.length_map]; exact hna) h4.1 (by simp [tV, va_rf]) (st_room hst) hd hc
  exact j_run hr h3 h1 h4 (fun r G' h => h)
theorem j_callS (C : Cx p s m args c cc nL own D cy base) (hWd : Wd D cy base s s.heap) (hM : CM l y bytes maxL ret rm T) (hI : MI y bytes maxL ret na) (hin : Cond.static y ∈ lwG) (hl : Cond.methodLink own idx y ∈ lwG) (As : List AV) (hna : As.length = na)
    (hd : decode cc pc = .ok (.invokestatic idx, 3)) (hR : rm.frames + 1 ≤ R.frames ∧ 8 + (maxL + 11) + rm.locals ≤ R.locals) (hst : (st.map fun v => (tV v).category).sum ≤ 8) (hc : k + rm.cells ≤ R.cells ∧ n + rm.slots ≤ R.slots)
    (hT : T As G (fun r G' => JJ p l e R s m args below meth c nL D cy base S0 Q (pc + 3) ls (r.toList ++ st) G' (k + rm.cells) (n + rm.slots)) (fun _ _ => False)) : JJ p l e R s m args below meth c nL D cy base S0 Q pc ls (As.reverse ++ st) G k n := by
  intro H locs la h1 h2 h3 h4
  have hr := va_runS (p := p) (e := e) (below := below) (meth := meth) (locs := locs) (cells := k) (slots := n) (As := As.map tV) (rest := st.map tV) (g := F0 m pc la ((As.reverse ++ st).map tV)) (H := H)
    ⟨C.1, C.2.1, C.2.2.1, C.2.2.2.1, C.2.2.2.2.1⟩ (hM.met (D := D) (cy := cy) (base := base) (S0 := S0) hT) ⟨callB_A C hI hl hR, C.2.2.2.2.1 _ hin⟩
    ⟨PcA.blind _ _ _ _ _ _, fun U hU hW => pre_A C hWd h3 h2 U hU hW⟩ rfl (by rw [List.length_map]; exact hna) h4.1 (by simp) (st_room hst) hd hc
  exact j_run hr h3 h1 h4 (fun r G' h => h)
end JC
