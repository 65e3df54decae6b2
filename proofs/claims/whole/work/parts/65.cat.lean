/-! ===== catching ===== -/
/-- the search in frame f for a's handler ends at pc, and leaves the tables w -/
def HF (e : Env) (S : State) (f : JFrame) (a : Addr) (pc : Nat) (w : Vm) : Prop := ∀ (Q : Handler → _root_.Jvm.Pre) (E : CtlPost) (d : Bool) (acts : List Action), wp (findHandler f a) Q E e d acts S ↔ Q (.found pc) d acts (S.setVm w)
theorem hf_row {e : Env} {S : State} {f : JFrame} {a : Addr} {x : ExceptionTableEntry} {t : List ExceptionTableEntry} {k : ClassId} {ce : Cell} (hx : covers x f.pc = true) (h0 : x.catchType ≠ 0) (hl : S.vm.ClassLinks e.platform f.method.cls x.catchType k)
    (hce : S.heap[a]? = some ce) (hob : ∀ z, ce.vm ≠ .statics z) (hc1 : ∃ z, S.vm.classes[ce.cls]? = some z) (hc2 : ∃ z, S.vm.classes[k]? = some z) (Q : Handler → _root_.Jvm.Pre) (E : CtlPost) (d : Bool) (acts : List Action) :
    wp (findHandler.go f a (x :: t)) Q E e d acts S ↔ if S.vm.assignable ce.cls k = true then Q (.found x.handlerPc) d acts (S.setVm (S.vm.noted f.method.cls x.catchType (.cls k))) else wp (findHandler.go f a t) Q E e d acts (S.setVm (S.vm.noted f.method.cls x.catchType (.cls k))) := by
  simp only [covers] at hx
  obtain ⟨g1, g2⟩ := (resolveClass_links e.toSetting hl).op (op := VmOp.resolveClass f.method.cls x.catchType) rfl
  have al : S.vm.Alike (S.vm.noted f.method.cls x.catchType (.cls k)) := (Vm.Alike.refl S.vm).noted _ _ _
  obtain ⟨z1, hz1⟩ := hc1
  obtain ⟨z2, hz2⟩ := hc2
  obtain ⟨y1, hy1, -⟩ := al.2.2 _ _ hz1
  obtain ⟨y2, hy2, -⟩ := al.2.2 _ _ hz2
  cases hfit : S.vm.assignable ce.cls k with
  | true =>
    have hf' : (S.vm.noted f.method.cls x.catchType (.cls k)).assignable ce.cls k = true := by rw [al.assignable]; exact hfit
    simp [findHandler.go, hx, h0, g1, g2, hce, hob, hy1, hy2, hf', VmOp.dirties, VmOp.acts]
  | false =>
    have hf' : (S.vm.noted f.method.cls x.catchType (.cls k)).assignable ce.cls k = false := by rw [al.assignable]; exact hfit
    simp [findHandler.go, hx, h0, g1, g2, hce, hob, hy1, hy2, hf', VmOp.dirties, VmOp.acts]
/-- the table rs, read at fpc for an object of class th, ends at handler pc -/
def CT (pl : Platform) (s0 : State) (d : ClassId) (fpc : Nat) (th : ClassId) : List ExceptionTableEntry → Nat → Prop
  | [], _ => False
  | x :: t, pc => covers x fpc = true ∧ x.catchType ≠ 0 ∧ ∃ k, s0.vm.ClassLinks pl d x.catchType k ∧ ((s0.vm.assignable th k = true ∧ x.handlerPc = pc) ∨ (s0.vm.assignable th k = false ∧ CT pl s0 d fpc th t pc))
theorem hf_go {e : Env} {s0 : State} {f : JFrame} {a : Addr} {ce : Cell} {pc : Nat} (hob : ∀ z, ce.vm ≠ .statics z) (hk0 : ∃ z, s0.vm.classes[ce.cls]? = some z) :
    ∀ (rs : List ExceptionTableEntry) (S : State), s0.WarmedH S.vm → S.heap[a]? = some ce → CT e.platform s0 f.method.cls f.pc ce.cls rs pc →
      ∃ w, s0.WarmedH w ∧ ∀ (Q : Handler → _root_.Jvm.Pre) (E : CtlPost) (d : Bool) (acts : List Action), wp (findHandler.go f a rs) Q E e d acts S ↔ Q (.found pc) d acts (S.setVm w)
  | [], _, _, _, h => h.elim
  | x :: t, S, hW, hce, ⟨hx, h0, k, hl, hor⟩ => by
    obtain ⟨z0, hz0⟩ := hk0
    obtain ⟨y0, hy0, -⟩ := hW.alike.2.2 _ _ hz0
    obtain ⟨dk, _, _, kt, hd, _, _, _, _, hkt, _, hopen⟩ := hl.here
    obtain ⟨y1, hy1, -⟩ := hW.alike.2.2 _ _ hkt
    have row := hf_row (t := t) hx h0 (hW.classLinks hl) hce hob ⟨y0, hy0⟩ ⟨y1, hy1⟩
    have hW1 := hW.noted hd hopen (State.rightAt_cls hl)
    have ea : S.vm.assignable ce.cls k = s0.vm.assignable ce.cls k := hW.alike.assignable _ _
    rcases hor with ⟨h1, h2⟩ | ⟨h1, h2⟩
    · refine ⟨_, hW1, fun Q E d acts => ?_⟩
      rw [row Q E d acts, ea, h1, if_pos rfl, h2]
    · obtain ⟨w, hw, hq⟩ := hf_go hob ⟨z0, hz0⟩ t (S.setVm (S.vm.noted f.method.cls x.catchType (.cls k))) hW1 hce h2
      refine ⟨w, hw, fun Q E d acts => ?_⟩
      rw [row Q E d acts, ea, h1, if_neg (by decide)]
      exact hq Q E d acts
theorem hf_steps {tb : Tables} {e : Env} {s target : State} {g : JFrame} {c : Code} {below : List Frame} {a : Addr} {pc : Nat} {w : Vm} (h : At s g.method c below) (hf : HF e ((s.setTop g).pushFrame (.throwing a)) g a pc w)
    (hrest : Steps tb e below ((s.setVm w).setTop { g with pc := pc, stack := [.ref a] }) target) : Steps tb e below ((s.setTop g).pushFrame (.throwing a)) target := by
  obtain ⟨h1, h2⟩ := h.throwing a
  refine Steps.head h1 h2 ?_
  have hst : (stepThrowing e ((s.setTop g).pushFrame (.throwing a)) a (.java g :: s.frames.tail)).Is ((((s.setTop g).pushFrame (.throwing a)).setVm w).setFrames (.java { g with pc := pc, stack := [.ref a] } :: s.frames.tail)) [] := by
    simp only [stepThrowing, searchFrame, vmDo]
    generalize hr : Sem.go _ e false [] ((s.setTop g).pushFrame (.throwing a)) = res
    obtain ⟨as, rfl, ha⟩ := Sem.eq_ok_of hr (a := Handler.found pc) (s' := ((s.setTop g).pushFrame (.throwing a)).setVm w) (acts' := []) (by simp [hf _ _ _ _])
    exact ⟨rfl, ha⟩
  rw [stepThread_throwing (frames_entered h.top _), hst.1]
  obtain ⟨g0, hg⟩ := Option.isSome_iff_exists.mp h.top
  obtain ⟨r, hr⟩ := State.topJava?_eq_some.mp hg
  have hr' : (s.setVm w).frames = .java g0 :: r := hr
  rw [State.setTop_of_frames _ hr'] at hrest
  rw [hr, List.tail_cons]
  have e1 : (((s.setTop g).pushFrame (.throwing a)).setVm w).setFrames (.java { g with pc := pc, stack := [.ref a] } :: r) = (s.setVm w).setFrames (.java { g with pc := pc, stack := [.ref a] } :: r) := by
    rw [State.pushFrame, State.setTop_of_frames _ hr, State.setFrames_setFrames]
    show ((s.setVm w).setFrames _).setFrames _ = _
    rw [State.setFrames_setFrames]
  rw [e1]
  exact hrest
theorem st_catch {p : Program} {l : Launch} {e : Env} {R : Room} {s : State} {m : MethodId} {args : Array Value} {below : List Frame} {meth : Method} {c : Code} {T : State} {locs : List Loc} {cells slots : Nat} (X : Stand p l e R s m args below meth c T locs cells slots) {a : Addr} {g : JFrame} (hg : g.method = m) {ce : Cell} {pc : Nat} (hce : T.heap[a]? = some ce) (hv : ce.vm = .none)
    (hk0 : ∃ z, s.vm.classes[ce.cls]? = some z) (hct : CT e.platform s m.cls g.pc ce.cls c.exceptionTable.toList pc) :
    ∃ w, Stand p l e R s m args below meth c (T.setVm w) locs cells slots ∧ ∀ target, Steps p.tables e below ((T.setVm w).setTop { g with pc := pc, stack := [.ref a] }) target → Steps p.tables e below ((T.setTop g).pushFrame (.throwing a)) target := by
  subst hg
  obtain ⟨w, hW, hq⟩ := hf_go (e := e) (f := g) (a := a) (pc := pc) (fun z => by rw [hv]; simp) hk0 c.exceptionTable.toList ((T.setTop g).pushFrame (.throwing a)) (by rw [Stand.throwing_vm]; exact X.warmed) (by rw [Stand.throwing_heap]; exact hce) hct
  refine ⟨w, X.noted hW, fun target hrest => hf_steps X.here (fun Q E d acts => ?_) hrest⟩
  rw [W.findHandler_eq (by rw [Stand.throwing_vm]; exact X.method') X.code]
  exact hq Q E d acts
