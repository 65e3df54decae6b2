/-! ===== the law's wrappers: they catch ===== -/
def Nc (U : State) : Prop := va_Nc xIS xIA U ∧ va_Nc xUO xIA U
/-- an E thrown at fpc under the table hh goes to hpc -/
def hN (fpc : Nat) (E : String) (hpc : Nat) : List (Nat × Nat × Nat × Nat) → Prop
  | [] => False
  | (a, b, h, t) :: r => a ≤ fpc ∧ fpc < b ∧ t ≠ 0 ∧ ∃ nm, Cond.classLink RL t nm ∈ lwG ∧ ((E = nm ∧ (nm, nm) ∈ lwC ∧ h = hpc) ∨ (((E = xIS ∨ E = xUO) ∧ nm = xIA) ∧ hN fpc E hpc r))
theorem ct_of {pl : Platform} (hpl : pl.magicAccessors = ({} : Platform).magicAccessors) {s : State} {args : Array Value} {d : ClassId} {fpc hpc : Nat} {E : String} {th : ClassId} (hown : s.vm.findClass RL = some d) (hw : ∀ w ∈ lwG, w.before args s = true) (hC : ∀ q ∈ lwC, va_Nw (.castable q.1 q.2) s) (hNc : Nc s) (hcl : s.vm.findClass E = some th) :
    ∀ hh, hN fpc E hpc hh → CT pl s d fpc th (tableOf hh) hpc
  | [], h => h.elim
  | (a, b, h', t) :: r, h => by
    obtain ⟨h1, h2, h3, nm, h4, h5⟩ := h
    obtain ⟨k, hk, hl⟩ := Cond.classLink_spec hown (hw _ h4) pl hpl
    refine ⟨by simp [covers, h1, h2], h3, k, hl, ?_⟩
    rcases h5 with ⟨rfl, hc, rfl⟩ | ⟨⟨hE, rfl⟩, h6⟩
    · left
      obtain ⟨c1, t1, f1, f2, f3⟩ := Cond.castable_spec (va_Nw.use (A := args) rfl (hC _ hc))
      cases f1.symm.trans hcl
      cases f2.symm.trans hk
      exact ⟨f3, rfl⟩
    · right
      refine ⟨?_, ct_of hpl hown hw hC hNc hcl r h6⟩
      rcases hE with rfl | rfl
      · obtain ⟨c1, t1, f1, f2, f3⟩ := hNc.1
        cases f1.symm.trans hcl
        cases f2.symm.trans hk
        exact f3
      · obtain ⟨c1, t1, f1, f2, f3⟩ := hNc.2
        cases f1.symm.trans hcl
        cases f2.symm.trans hk
        exact f3
section JW
variable {p : Program} {l : Launch} {e : Env} {R : Room} {s : State} {m : MethodId} {args : Array Value} {below : List Frame} {meth : Method} {c : Code} {nL : Nat} {D : va_G} {cy : Nat → ClassId} {base : Nat} {S0 : GG} {Q : State → Prop}
variable {cc : ByteArray} {pc : Nat} {ls : List (Option AV)} {st : List AV} {G : GG} {k n : Nat}
variable {y : MethodName} {bytes : ByteArray} {maxL : Nat} {ret : Option FieldType} {rm : Room} {T : TT} {na idx : Nat}
theorem j_callVx (C : Cx p s m args c cc nL RL D cy base) (hWd : Wd D cy base s s.heap) (hNc : Nc s) {hh : List (Nat × Nat × Nat × Nat)} (htab : c.exceptionTable.toList = tableOf hh) (hM : CM l y bytes maxL ret rm T) (hI : MI y bytes maxL ret na) (hV : MV y) (hl : Cond.methodLink RL idx y ∈ lwG) {b : Nat} (hy : y.cls = RO 5) (hkb : knd G b = 5) (As : List AV) (hna : As.length = na)
    (hd : decode cc pc = .ok (.invokevirtual idx, 3)) (hR : rm.frames + 1 ≤ R.frames ∧ 8 + (maxL + 11) + rm.locals ≤ R.locals) (hst : (st.map fun v => (tV v).category).sum ≤ 8) (hc : k + rm.cells ≤ R.cells ∧ n + rm.slots ≤ R.slots)
    (hT : T (.inr (.inl (some b)) :: As) G (fun r G' => JJ p l e R s m args below meth c nL D cy base S0 Q (pc + 3) ls (r.toList ++ st) G' (k + rm.cells) (n + rm.slots)) (fun E G' => ∃ hpc, hN pc E hpc hh ∧ ∀ q, JJ p l e R s m args below meth c nL D cy base S0 Q hpc ls [.inr (.inl (some q))] G' (k + rm.cells) (n + rm.slots))) :
    JJ p l e R s m args below meth c nL D cy base S0 Q pc ls (As.reverse ++ .inr (.inl (some b)) :: st) G k n := by
  intro H locs la h1 h2 h3 h4
  have hrec : ∃ cell : Cell, H[b]? = some cell ∧ cell.vm.isStatics = false ∧ s.vm.findClass (RO 5) = some cell.cls := by
    obtain ⟨ws, q0, hP, hD, he, -⟩ := h2.at (hlt14 hkb (by omega))
    rw [enc_o cy hkb (by omega)] at he
    exact va_recv C.2.2.2.2.2.1 hP (vw_at 5 (by decide)) he
  have hr := vx_runV (p := p) (e := e) (below := below) (meth := meth) (locs := locs) (cells := k) (slots := n) (C := RO 5) (b := b) (As := As.map tV) (rest := st.map tV) (g := F0 m pc la ((As.reverse ++ .inr (.inl (some b)) :: st).map tV)) (H := H)
    ⟨C.1, C.2.1, C.2.2.1, C.2.2.2.1, C.2.2.2.2.1⟩ (hM D cy base S0 _ G _ _ hT) ⟨callB_A C hI hl hR, C.2.2.2.2.1 _ hV.1, by rw [← hy]; exact C.2.2.2.2.1 _ hV.2⟩
    ⟨PcA.blind _ _ _ _ _ _, hrec, fun U hU hW => pre_A C hWd h3 h2 U hU hW⟩ rfl (by rw [List.length_map]; exact hna) h4.1 (by simp [tV, va_rf]) (st_room hst) hd hc
  intro T0 hT0 X
  rcases hr T0 hT0 X with ⟨v, st₀, t, T', L, h0, X', hL, e1, e2, ⟨⟨r, G', hv, hq, hp⟩, hF⟩, stp⟩ | ⟨q, st₀, t, T', L, E, ce, h0, X', hL, e1, e2, ⟨⟨G', ⟨hpc, hn, hq⟩, hp⟩, hF⟩, hce, hcv, hcl, stp⟩
  · cases hv
    obtain ⟨k1, k2, k3⟩ := vx_keep h0 e1 h3 (fun _ _ h => h) (fun _ h => h) hL hF
    have kk' := hq T'.heap (locs ++ L) la h1 (by rw [e1]; exact hp) k3 h4
    have es : (r.toList ++ st).map tV = (r.map tV).toList ++ st.map tV := by cases r <;> rfl
    rw [es] at kk'
    obtain ⟨t2, a1, b1⟩ := kk' T' rfl X'
    exact ⟨t2, stp t2 a1, b1⟩
  · obtain ⟨k1, k2, k3⟩ := vx_keep h0 e1 h3 (fun _ _ h => h) (fun _ h => h) hL hF
    have hpl : e.platform.magicAccessors = ({} : Platform).magicAccessors := by rw [X.admits.platform]
    have hct : CT e.platform s m.cls pc ce.cls c.exceptionTable.toList hpc := by
      rw [htab]; exact ct_of hpl C.2.2.2.1 C.2.2.2.2.1 hWd.2.2.2.2.2.1 hNc hcl hh hn
    obtain ⟨w, X2, stc⟩ := st_catch X' (a := q) (g := F0 m pc la (st.map tV)) rfl (by rw [e1]; exact hce) hcv (by obtain ⟨k9, h9, -⟩ := Vm.findClass_spec hcl; exact ⟨k9, h9⟩) hct
    obtain ⟨t2, a1, b1⟩ := hq q T'.heap (locs ++ L) la h1 (by rw [e1]; exact hp) k3 h4 (T'.setVm w) rfl X2
    exact ⟨t2, stp.trans (stc t2 a1), b1⟩
end JW
def PcN (D : va_G) (cy : Nat → ClassId) (base : Nat) (S0 : GG) (av : List AV) (G : GG) : Array Value → State → Prop := fun v U => PcA D cy base S0 av G v U ∧ Nc U
/-- the contract of a wrapper -/
def CMW (l : Launch) (y : MethodName) (bytes : ByteArray) (maxL : Nat) (ret : Option FieldType) (hh : List (Nat × Nat × Nat × Nat)) (rm : Room) (T : TT) : Prop :=
  ∀ (D : va_G) (cy : Nat → ClassId) (base : Nat) (S0 : GG) (av : List AV) (G : GG) (Qr : Option AV → GG → Prop) (Qx : String → GG → Prop), T av G Qr Qx →
    vx_Met l y (Cond.codeWith y bytes maxL ret hh :: lwG) rm (PcN D cy base S0 av G) (QcA D cy base S0 Qr) (XcA D cy base S0 Qx) rm.cells rm.slots (Ab base)
theorem CMW.of {l : Launch} {y : MethodName} {bytes : ByteArray} {maxL : Nat} {ret : Option FieldType} {hh : List (Nat × Nat × Nat × Nat)} {rm : Room} {T : TT} (hpl : plainName y.cls = true)
    (body : ∀ (D : va_G) (cy : Nat → ClassId) (base : Nat) (S0 : GG) (av : List AV) (G : GG) (Qr : Option AV → GG → Prop) (Qx : String → GG → Prop), T av G Qr Qx → (enL av).length ≤ maxL ∧
      ∀ (p : Program) (e : Env) (s : State) (m : MethodId) (args : Array Value) (below : List Frame) (meth : Method) (c : Code), Cx p s m args c bytes maxL y.cls D cy base → Wd D cy base s s.heap → Nc s → meth.sig.returnType = ret → meth.locks = false → c.exceptionTable.toList = tableOf hh →
        JJ p l e rm s m args below meth c maxL D cy base S0 (vx_MQ below (QcA D cy base S0 Qr) (XcA D cy base S0 Qx) args s rm.cells rm.slots (Ab base)) 0 (enP av maxL) [] G 0 0) : CMW l y bytes maxL ret hh rm T := by
  intro D cy base S0 av G Qr Qx hT
  obtain ⟨hlen, body⟩ := body D cy base S0 av G Qr Qx hT
  refine vx_ofWH (cc := bytes) (maxL := maxL) (ret := ret) (hh := hh) hpl rfl ?_
  intro p e s m args below meth c s₁ B hml hv
  obtain ⟨⟨rfl, hWd, hP⟩, hNc⟩ := hv
  have hts := atoms_spec (ws := Cond.codeWith y bytes maxL ret hh :: lwG) B.pre
  have htab := vx_table (x := y) B (hts _ List.mem_cons_self)
  have hl := lv_entry (av.map tV) (n := maxL) (by rw [sl_len]; exact hlen)
  rw [lg_entry_eq]
  rw [← lsP_args av 0 (maxL - (enL av).length)] at hl
  exact body p e s m _ below meth c ⟨B.exec, B.bytes, hml, findClass_of_methodNamed B.named, fun w hw => hts w (List.mem_cons_of_mem _ hw), hWd.1, hWd.2.1⟩ hWd hNc B.returns B.notSynchronized htab s.heap [] _ (by unfold enP; rw [List.length_append, List.length_replicate]; omega) hP va_S.rf hl
