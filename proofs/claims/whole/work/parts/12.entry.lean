/-! ===== a method's beginning and its ends ===== -/
def enL : List AV → List (Option AV)
  | [] => []
  | .inr (.inr z) :: r => some (.inr (.inr z)) :: none :: enL r
  | .inr (.inl o) :: r => some (.inr (.inl o)) :: enL r
  | .inl x :: r => some (.inl x) :: enL r
def enP (av : List AV) (n : Nat) : List (Option AV) := enL av ++ List.replicate (n - (enL av).length) none
theorem lsP_none : ∀ (n i : Nat), lsP i (List.replicate n none) = []
  | 0, _ => rfl
  | n + 1, i => lsP_none n (i + 1)
theorem lsP_args : ∀ (av : List AV) (i n : Nat), lsP i (enL av ++ List.replicate n none) = lv_args i (av.map tV)
  | [], i, n => lsP_none n i
  | .inr (.inr z) :: r, i, n => by
    show (i, tV (.inr (.inr z))) :: lsP (i + 1 + 1) (enL r ++ List.replicate n none) = (i, tV (.inr (.inr z))) :: lv_args (i + 2) (r.map tV)
    rw [lsP_args r]
  | .inr (.inl o) :: r, i, n => by
    show (i, tV (.inr (.inl o))) :: lsP (i + 1) (enL r ++ List.replicate n none) = (i, tV (.inr (.inl o))) :: lv_args (if (va_rf o).category = 2 then i + 2 else i + 1) (r.map tV)
    rw [lsP_args r, tV_rcat]; rfl
  | .inl x :: r, i, n => by
    show (i, tV (.inl x)) :: lsP (i + 1) (enL r ++ List.replicate n none) = (i, tV (.inl x)) :: lv_args (i + 1) (r.map tV)
    rw [lsP_args r]
theorem sl_len : ∀ av : List AV, (lg_sl (av.map tV)).length = (enL av).length
  | [] => rfl
  | .inr (.inr z) :: r => by
    show ([Slot.val (tV (.inr (.inr z))), Slot.second] ++ lg_sl (r.map tV)).length = (enL r).length + 1 + 1
    rw [List.length_append, sl_len r]
    show 2 + (enL r).length = _
    omega
  | .inr (.inl o) :: r => by
    show ((if (va_rf o).category = 2 then [Slot.val (va_rf o), Slot.second] else [Slot.val (va_rf o)]) ++ lg_sl (r.map tV)).length = (enL r).length + 1
    rw [List.length_append, sl_len r, tV_rcat]
    show 1 + (enL r).length = _
    omega
  | .inl x :: r => by
    show ([Slot.val (tV (.inl x))] ++ lg_sl (r.map tV)).length = (enL r).length + 1
    rw [List.length_append, sl_len r]
    show 1 + (enL r).length = _
    omega
/-- what a body knows of the machine -/
def Bx (p : Program) (s : State) (m : MethodId) (args : Array Value) (meth : Method) (c : Code) (y : MethodName) (bytes : ByteArray) (maxL : Nat) (ret : Option FieldType) (D : va_G) (cy : Nat → ClassId) (base : Nat) : Prop :=
  Cx p s m args c bytes maxL y.cls D cy base ∧ Wd D cy base s s.heap ∧ meth.sig.returnType = ret ∧ meth.locks = false ∧ meth.name = y.name ∧ (∀ x ∈ c.exceptionTable.toList, False)
/-- as vx_ofW; the method plainly its own (no native row stands in for it) -/
theorem vx_ofWF {l : Launch} {y : MethodName} {ws ws' : List Cond} {rm : Room} {Pc : Array Value → State → Prop} {Qc : Array Value → State → Outcome → State → Prop} {XC : String → State → State → Prop} {mc ms : Nat} {free : Addr → Prop} {cc : ByteArray} {maxL : Nat} {ret : Option FieldType}
    (hy : plainFor y = true) (hw : ws = Cond.code y cc maxL ret :: ws')
    (body : ∀ p e s m args below meth c s₁, BodyLoose p l y (headSpec ws rm) cc maxL ret e s m args below meth c s₁ → c.maxLocals = maxL → (∀ x ∈ c.exceptionTable.toList, False) → Pc args s →
      W p l e (headSpec ws rm).room s m args below meth c s.heap [] 0 0 (vx_MQ below Qc XC args s mc ms free) (entryFrame m args maxL)) : vx_Met l y ws rm Pc Qc XC mc ms free := by
  refine MetFree.of_bodySF (code := cc) (maxLocals := maxL) (ret := ret) hy ?_ ?_
  · intro args s m h hn
    obtain ⟨meth, c, h1, h2, h3, h4, h5, h6, -, -⟩ := Cond.code_spec hn (atoms_spec (ws := ws) h _ (by rw [hw]; exact List.mem_cons_self))
    exact ⟨meth, c, h1, h2, h3, h4, h5, h6⟩
  · intro p e s m args below meth c s₁ B hml hP _
    have hh0 : s₁.heap = s.heap := by rw [B.state]; rfl
    have ht : ∀ x ∈ c.exceptionTable.toList, False := by
      obtain ⟨meth9, c9, h1, h2, -, -, -, -, h7, -⟩ := Cond.code_spec B.named (atoms_spec (ws := ws) B.pre _ (by rw [hw]; exact List.mem_cons_self))
      cases Option.some.inj (h1.symm.trans B.method)
      cases Option.some.inj (h2.symm.trans (Stand.of_body B).code)
      intro x hx
      rw [Array.isEmpty_iff.mp h7] at hx
      cases hx
    obtain ⟨t, a1, o, b1, b2, b3⟩ := body p e s m args below meth c s₁ B hml ht hP s₁ hh0 (Stand.of_body B)
    exact ⟨t, o, a1, b1, b2, b3⟩
theorem CM.of {l : Launch} {y : MethodName} {bytes : ByteArray} {maxL : Nat} {ret : Option FieldType} {rm : Room} {T : TT} (hpl : plainFor y = true)
    (body : ∀ (D : va_G) (cy : Nat → ClassId) (base : Nat) (S0 : GG) (av : List AV) (G : GG) (Qr : Option AV → GG → Prop) (Qx : String → GG → Prop), T av G Qr Qx → (enL av).length ≤ maxL ∧
      ∀ (p : Program) (e : Env) (s : State) (m : MethodId) (args : Array Value) (below : List Frame) (meth : Method) (c : Code), Bx p s m args meth c y bytes maxL ret D cy base →
        JJ p l e rm s m args below meth c maxL D cy base S0 (vx_MQ below (QcA D cy base S0 Qr) (XcA D cy base S0 Qx) args s rm.cells rm.slots (Ab base)) 0 (enP av maxL) [] G 0 0) : CM l y bytes maxL ret rm T := by
  intro D cy base S0 av G Qr Qx hT
  obtain ⟨hlen, body⟩ := body D cy base S0 av G Qr Qx hT
  refine vx_ofWF (cc := bytes) (maxL := maxL) (ret := ret) hpl rfl ?_
  intro p e s m args below meth c s₁ B hml ht hv
  obtain ⟨rfl, hWd, hP⟩ := hv
  have hts := atoms_spec (ws := Cond.code y bytes maxL ret :: lwG) B.pre
  have hB : Bx p s m (av.map tV).toArray meth c y bytes maxL ret D cy base := ⟨⟨B.exec, B.bytes, hml, findClass_of_methodNamed B.named, fun w hw => hts w (List.mem_cons_of_mem _ hw), hWd.1, hWd.2.1⟩, hWd, B.returns, B.notSynchronized, (name_of_methodNamed B.named B.method).1, ht⟩
  have hl := lv_entry (av.map tV) (n := maxL) (by rw [sl_len]; exact hlen)
  rw [lg_entry_eq]
  rw [← lsP_args av 0 (maxL - (enL av).length)] at hl
  exact body p e s m _ below meth c hB s.heap [] _ (by unfold enP; rw [List.length_append, List.length_replicate]; omega) hP va_S.rf hl
section JE
variable {p : Program} {l : Launch} {e : Env} {R : Room} {s : State} {m : MethodId} {args : Array Value} {below : List Frame} {meth : Method} {c : Code} {nL : Nat} {D : va_G} {cy : Nat → ClassId} {base : Nat} {S0 : GG}
variable {cc : ByteArray} {own : String} {pc : Nat} {ls : List (Option AV)} {st : List AV} {G : GG} {k n mc ms : Nat} {Qr : Option AV → GG → Prop} {Qx : String → GG → Prop}
theorem j_iret (C : Cx p s m args c cc nL own D cy base) {ty : FieldType} {v : Int32} (hr : meth.sig.returnType = some ty) (hlocks : meth.locks = false) (hn : narrow ty (.int v) = .int v) (hd : decode cc pc = .ok (.ireturn, 1)) (hk : k ≤ mc) (hs : n ≤ ms) (hq : Qr (some (.inl v)) G) :
    JJ p l e R s m args below meth c nL D cy base S0 (vx_MQ below (QcA D cy base S0 Qr) (XcA D cy base S0 Qx) args s mc ms (Ab base)) pc ls [.inl v] G k n := by
  intro H locs la h1 h2 h3 h4
  refine vx_ret (W.widen (k := mc) (n := ms) hk hs ?_)
  exact W.zret C.1 C.2.1 hr hn (fun t ht hW => ⟨⟨some (.inl v), G, rfl, hq, by rw [ht]; exact h2⟩, h3.F ht⟩) h3.2.2 hd hlocks
theorem j_vret (C : Cx p s m args c cc nL own D cy base) (hr : meth.sig.returnType = none) (hlocks : meth.locks = false) (hd : decode cc pc = .ok (.return_, 1)) (hk : k ≤ mc) (hs : n ≤ ms) (hq : Qr none G) :
    JJ p l e R s m args below meth c nL D cy base S0 (vx_MQ below (QcA D cy base S0 Qr) (XcA D cy base S0 Qx) args s mc ms (Ab base)) pc ls [] G k n := by
  intro H locs la h1 h2 h3 h4
  refine vx_ret (W.widen (k := mc) (n := ms) hk hs ?_)
  exact W.vret C.1 C.2.1 hr (fun t ht hW => ⟨⟨none, G, rfl, hq, by rw [ht]; exact h2⟩, h3.F ht⟩) h3.2.2 hd hlocks
theorem j_aret (C : Cx p s m args c cc nL own D cy base) {ty : FieldType} {o : Option Nat} (hr : meth.sig.returnType = some ty) (hty : isRt ty = true) (hlocks : meth.locks = false) (hd : decode cc pc = .ok (.areturn, 1)) (hk : k ≤ mc) (hs : n ≤ ms) (hq : Qr (some (.inr (.inl o))) G) :
    JJ p l e R s m args below meth c nL D cy base S0 (vx_MQ below (QcA D cy base S0 Qr) (XcA D cy base S0 Qx) args s mc ms (Ab base)) pc ls [.inr (.inl o)] G k n := by
  intro H locs la h1 h2 h3 h4
  refine vx_ret (W.widen (k := mc) (n := ms) hk hs ?_)
  refine W.aret (v := va_rf o) C.1 C.2.1 hr ?_ ?_ (fun t ht hW => ⟨⟨some (.inr (.inl o)), G, rfl, hq, by rw [ht]; exact h2⟩, h3.F ht⟩) h3.2.2 hd hlocks
  · cases ty <;> simp_all [isRt]
  · cases o <;> simp [va_rf]
end JE
