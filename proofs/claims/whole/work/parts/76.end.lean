/-! THE CLAIM OUT OF ONE WALK OF THE LAW'S BODY. Your part is whole_start (and what it stands on); all else here is the same for every law, but numbers. -/
def R_law : String := "CreditWireLaw"
def lw_P (b : Addr) (xs : List Int32) (args : Array Value) (s : State) : Prop := args = #[.ref b] ∧ s.IntsAt b xs ∧ xs.length ≤ 3072 ∧ (Jvm.Cond.and given_1 narrow_1).before args s = true
def lw_Q (_ : Array Value) (s : State) (o : Outcome) (t : State) : Prop := o = .returned (some (.int 1)) ∧ Framed s o t [] 601024 7293034
def lw_Z (below : List Frame) (a : Array Value) (s : State) : State → Prop := fun t => ∃ o, t.status = .running ∧ Ended t below o ∧ lw_Q a s o t
/-- the law's own end, with 1 on the stack, nothing written that was there before, its room as the claim has it -/
theorem lw_ret {p : Program} {l : Launch} {e : Env} {s : State} {m : MethodId} {below : List Frame} {meth : Method} {c : Code} {b : Nat} (hx : p.tables.exec = Jvm.exec) (hb : c.code = code) (hr : meth.sig.returnType = ret) (hlocks : meth.locks = false) {pc : Nat} {H : Heap} {ls : Array Slot} (hdg : decode code pc = .ok (.ireturn, 1)) : W p l e room_1 s m #[Value.ref b] below meth c H [] 601024 7293034 (lw_Z below #[Value.ref b] s) (F0 m pc ls [.int 1]) := by
  intro T hT X
  obtain ⟨fs, hret, hrun, hended, hW, hframe⟩ := X.leave (v := some (.int 1)) (hlocks := hlocks) (fun h => by rw [hr] at h; cases h)
  have hmeth' : T.vm.method? m = some meth := X.method'
  refine ⟨T.setFrames fs, ?_, .returned (some (.int 1)), hrun, hended, rfl, ⟨_, rfl⟩, hW, hframe⟩
  jvm_step X.here [X.here.top, hx, hb, hdg, hmeth', hr, ret, narrow_b1]
  (try refine ⟨rfl, ?_⟩); (try refine ⟨rfl, ?_⟩)
  first | (intro acts; rw [hret _ acts rfl rfl rfl]) | rw [hret _ _ rfl rfl rfl]
  exact Steps.refl _
/-- what holds at the law's entry: the machine, the code, the tables' words (any of lw_tbl by 'hts w (by decide +kernel)'), the script of L ints xs at the cell b, what the Statement gives of the start (any of its parts by flat_of_before) -/
def lw_At (p : Program) (s : State) (m : MethodId) (meth : Method) (c : Code) (b L : Nat) (xs : Nat → Int32) : Prop :=
  p.tables.exec = Jvm.exec ∧ c.code = code ∧ meth.sig.returnType = ret ∧ c.maxLocals = 7 ∧ s.vm.findClass R_law = some m.cls ∧ (∀ w ∈ lw_tbl, w.before #[Value.ref b] s = true) ∧ va_X b L xs s s.heap ∧ b < s.heap.size ∧ meth.locks = false ∧ (Jvm.Cond.and given_1 narrow_1).before #[Value.ref b] s = true
/-! ===== the law's entry ===== -/
theorem ws_arr {s : State} {args : Array Value} {ty : FieldType} (h : (Cond.arrayClass ty).before args s = true) (hno : ∀ C, ty ≠ .object C) : ∃ cA, ArrOfT s cA ty ∧ va_RA s cA ty := by
  obtain ⟨c, k, comp, h1, h2, h3⟩ := Cond.arrayClass_spec h
  refine ⟨c, fun n z => ⟨fun q h => (by cases h), k, h2, comp, h3⟩, ?_⟩
  unfold va_RA
  split
  · exact absurd rfl (hno _)
  · exact h1
theorem ws_arO {s : State} {args : Array Value} {C : String} (h : (Cond.arrayOver (.object C)).before args s = true) : ∃ cA, ArrOfT s cA (.object C) ∧ va_RA s cA (.object C) := by
  obtain ⟨comp, c, k, h1, h2, h3, h4, h5⟩ := Cond.arrayOver_spec h
  exact ⟨c, fun n z => ⟨fun q h => (by cases h), k, h3, comp, h4⟩, k, comp, h3, h4, h1, h5⟩
theorem ws_K {s : State} {args : Array Value} (hts : ∀ w ∈ lw_tbl, w.before args s = true) : ∃ (D : va_G) (cy : Nat → ClassId), va_K D vwCl (tysY cy) s := by
  have hg : ∀ w ∈ lwG, w.before args s = true := fun w hw => hts w (List.mem_filter.mp hw).1
  have h0 : ∀ ci : Nat, ∃ (cC : ClassId), ∃ (iS : Nat → Nat), ci < 7 → u_Kn s (RO ci) (TO ci) (nfO ci) cC iS := fun ci => by
    by_cases h : ci < 7
    · obtain ⟨cC, iS, q⟩ := u_known hg (in_ok ci h) (hg _ (inst_ok ci h))
      exact ⟨cC, iS, fun _ => q⟩
    · exact ⟨0, fun _ => 0, fun q => absurd q h⟩
  obtain ⟨dC, h1⟩ := Classical.skolem.mp h0
  obtain ⟨dI, h2⟩ := Classical.skolem.mp h1
  obtain ⟨c7, a7⟩ := ws_arr (ty := .byte) (hts _ (by decide +kernel)) (fun _ h => by cases h)
  obtain ⟨c8, a8⟩ := ws_arr (ty := .int) (hts _ (by decide +kernel)) (fun _ h => by cases h)
  obtain ⟨c9, a9⟩ := ws_arr (ty := .boolean) (hts _ (by decide +kernel)) (fun _ h => by cases h)
  obtain ⟨c10, a10⟩ := ws_arr (ty := .long) (hts _ (by decide +kernel)) (fun _ h => by cases h)
  obtain ⟨c11, a11⟩ := ws_arO (C := RX0) (hts _ (by decide +kernel))
  obtain ⟨c12, a12⟩ := ws_arO (C := RX1) (hts _ (by decide +kernel))
  obtain ⟨c13, a13⟩ := ws_arO (C := RX4) (hts _ (by decide +kernel))
  refine ⟨(dC, dI), fun k => if k = 7 then c7 else if k = 8 then c8 else if k = 9 then c9 else if k = 10 then c10 else if k = 11 then c11 else if k = 12 then c12 else c13, fun c q hq => ?_, fun k q hq => ?_⟩
  · have h7 : c < 7 := (List.getElem?_eq_some_iff.mp hq).1
    have e := (vw_at c h7).symm.trans hq
    cases e
    exact h2 c h7
  · match k, hq with
    | 0, hq => cases hq; exact a7
    | 1, hq => cases hq; exact a8
    | 2, hq => cases hq; exact a9
    | 3, hq => cases hq; exact a10
    | 4, hq => cases hq; exact a11
    | 5, hq => cases hq; exact a12
    | 6, hq => cases hq; exact a13
    | k + 7, hq => simp [tysY] at hq
theorem ws_str {s : State} {args : Array Value} {d : ClassId} (hd : s.vm.findClass RX5 = some d) {k : Nat} {tx : String} (h : (Cond.stringRef RX5 k tx).before args s = true) : ∃ a, vk_R RX5 k tx a s := by
  obtain ⟨_, _, _, a, -, -, -, -, -, h2⟩ := Cond.stringRef_spec hd h
  exact ⟨a, vk_R.of h h2⟩
theorem ws_Wd {s : State} {b : Nat} (hts : ∀ w ∈ lw_tbl, w.before #[Value.ref b] s = true) (hgv : (Jvm.Cond.and given_1 narrow_1).before #[Value.ref b] s = true) {D : va_G} {cy : Nat → ClassId} (hK : va_K D vwCl (tysY cy) s) : Wd D cy s.heap.size s s.heap := by
  have hs := flat_of_before _ hgv
  have hd : ∃ d, s.vm.findClass RX5 = some d := by
    obtain ⟨d, -, q, -⟩ := Cond.instantiable_spec (hts (.instantiable RX5 4) (by decide +kernel))
    exact ⟨d, q⟩
  obtain ⟨d, hd⟩ := hd
  have hA : ∀ a : Nat, a < s.heap.size → ¬ Ab s.heap.size a := fun a h => Nat.not_le.mpr h
  refine ⟨hK, Nat.le_refl _, ⟨va_AO.of (hts _ (by decide +kernel)), va_AO.of (hts _ (by decide +kernel)), va_AO.of (hts _ (by decide +kernel))⟩, ⟨vx_Zqof (hts _ (by decide +kernel)) (hts _ (by decide +kernel)) (hs _ (by decide +kernel)) hA, vx_Zqof (hts _ (by decide +kernel)) (hts _ (by decide +kernel)) (hs _ (by decide +kernel)) hA⟩, ?_, ?_, ?_, va_Nw.of rfl (hts _ (by decide +kernel))⟩
  · intro q hq
    have : ∀ q ∈ strs, Cond.stringRef RX5 q.1 q.2 ∈ lw_tbl := by decide +kernel
    exact ws_str hd (hts _ (this q hq))
  · intro q hq
    have : ∀ q ∈ lwC, Cond.castable q.1 q.2 ∈ lw_tbl := by decide +kernel
    exact va_Nw.of rfl (hts _ (this q hq))
  · intro q hq
    have : ∀ q ∈ lwD, Cond.declares q ∈ lw_tbl := by decide +kernel
    exact va_Nw.of rfl (hts _ (this q hq))
theorem ws_Nc {s : State} {b : Nat} (hgv : (Jvm.Cond.and given_1 narrow_1).before #[Value.ref b] s = true) : Nc s := by
  have hs := flat_of_before _ hgv
  exact ⟨va_Nc.of (hs (.not (.castable xIS xIA)) (by decide +kernel)), va_Nc.of (hs (.not (.castable xUO xIA)) (by decide +kernel))⟩
/-- the heap as the law finds it: the script, and nothing else that it speaks of -/
def G00 (b L : Nat) (xs : Nat → Int32) : GG := fun a => if a = b then (14, L, xs, fun _ => none, fun _ => 0) else (99, 0, fun _ => 0, fun _ => none, fun _ => 0)
theorem ws_Hp {D : va_G} {cy : Nat → ClassId} {base b L : Nat} {xs : Nat → Int32} {H : Heap} (hb : b < base) : Hp D cy base (G00 b L xs) (G00 b L xs) H := by
  have kd : ∀ a, knd (G00 b L xs) a = if a = b then 14 else 99 := fun a => by unfold knd G00; split <;> rfl
  refine ⟨[], fun a => ⟨fun h => absurd h List.not_mem_nil, fun h => ?_⟩, fun a h => ?_, fun k q h => (by simp [va_pl] at h), fun i j p q h => (by simp [va_pl] at h), fun k q h => (by simp [va_pl] at h)⟩
  · rw [kd] at h; split at h <;> omega
  · by_cases e : a = b
    · exact Or.inl ⟨by rw [e]; exact hb, rfl⟩
    · exact Or.inr (by rw [kd, if_neg e])
set_option maxRecDepth 20000 in
set_option maxHeartbeats 4000000 in
theorem whole_start {p : Program} {e : Env} {s : State} {m : MethodId} {below : List Frame} {meth : Method} {c : Code} (l : Launch) (hl : l.stackTraces = false) {b L : Nat} {xs : Nat → Int32} (hL : L ≤ 3072) (C0 : lw_At p s m meth c b L xs) : W p l e room_1 s m #[Value.ref b] below meth c s.heap [] 0 0 (lw_Z below #[Value.ref b] s) (entryFrame m ([Value.ref b] : List Value).toArray 7) := by
  obtain ⟨hx, hb, hr, hml, hown, hts, hX, hbl, hlocks, hgv⟩ := id C0
  obtain ⟨D, cy, hK⟩ := ws_K hts
  have hWd := ws_Wd hts hgv hK
  have hNc := ws_Nc hgv
  have C : Cx p s m #[Value.ref b] c cL_law 7 RL D cy s.heap.size := ⟨hx, hb, hml, hown, fun w hw => hts w (List.mem_filter.mp hw).1, hK, Nat.le_refl _⟩
  have hJ : EvL (JJ p l e room_1 s m #[Value.ref b] below meth c 7 D cy s.heap.size (G00 b L xs) (lw_Z below #[Value.ref b] s)) := by
    refine ev_ok (ini := false) C hWd (fun _ h => by cases h) (fun h => by cases h) nt_L_law_ok (ct_L_law_ok l) (fun h => absurd rfl h) (fun _ a ha => ?_) ?_ ?_ ?_ (fun _ _ _ _ _ _ _ _ q => q.elim)
    · by_cases q : a = b
      · subst q
        have e1 : G00 a L xs a = (14, L, xs, fun _ => none, fun _ => 0) := by unfold G00; rw [if_pos rfl]
        rw [e1]; exact hX
      · have e1 : (G00 b L xs a).1 = 99 := by unfold G00; rw [if_neg q]
        rw [e1] at ha; cases ha
    · intro pc ls x G k n hd h
      obtain ⟨h1, h2, h3, h4⟩ := h
      cases h2
      intro H locs la q1 q2 q3 q4
      refine va_forget (fun q hq => q3.2.2 q hq) (W.widen (k := 601024) (n := 7293034) h3 h4 ?_)
      exact lw_ret hx hb hr hlocks hd
    · intro pc ls x G k n hd h
      exact absurd h.2.1 (fun q => by cases q)
    · intro pc ls G k n hd h
      exact absurd h.2.1 (fun q => by cases q)
  have w_link : Wr (JJ p l e room_1 s m #[Value.ref b] below meth c 7 D cy s.heap.size (G00 b L xs) (lw_Z below #[Value.ref b] s)) 149 rm_L_link.cells rm_L_link.slots T_L_link := fun As st ls G k n h1 h2 h3 h4 =>
    j_callSW C hWd hNc (c_L_link l hl) mw_L_link lnkL_50 As (by obtain ⟨_, _, _, _, _, rfl, _⟩ := h4; rfl) dL_law_149 ⟨by decide, by decide⟩ h1 ⟨h2, h3⟩ h4
  have w_depth : Wr (JJ p l e room_1 s m #[Value.ref b] below meth c 7 D cy s.heap.size (G00 b L xs) (lw_Z below #[Value.ref b] s)) 210 rm_L_depth.cells rm_L_depth.slots T_L_depth := fun As st ls G k n h1 h2 h3 h4 =>
    j_callSW C hWd hNc (c_L_depth l hl) mw_L_depth lnkL_60 As (by obtain ⟨_, _, _, _, rfl, _⟩ := h4; rfl) dL_law_210 ⟨by decide, by decide⟩ h1 ⟨h2, h3⟩ h4
  have w_weight : Wr (JJ p l e room_1 s m #[Value.ref b] below meth c 7 D cy s.heap.size (G00 b L xs) (lw_Z below #[Value.ref b] s)) 278 rm_L_weight.cells rm_L_weight.slots T_L_weight := fun As st ls G k n h1 h2 h3 h4 =>
    j_callSW C hWd hNc (c_L_weight l hl) mw_L_weight lnkL_64 As (by obtain ⟨_, _, _, _, rfl, _⟩ := h4; rfl) dL_law_278 ⟨by decide, by decide⟩ h1 ⟨h2, h3⟩ h4
  have w_arbiter : Wr (JJ p l e room_1 s m #[Value.ref b] below meth c 7 D cy s.heap.size (G00 b L xs) (lw_Z below #[Value.ref b] s)) 340 rm_L_arbiter.cells rm_L_arbiter.slots T_L_arbiter := fun As st ls G k n h1 h2 h3 h4 =>
    j_callSW C hWd hNc (c_L_arbiter l hl) mw_L_arbiter lnkL_67 As (by obtain ⟨_, _, _, rfl, _⟩ := h4; rfl) dL_law_340 ⟨by decide, by decide⟩ h1 ⟨h2, h3⟩ h4
  have w_mask : Wr (JJ p l e room_1 s m #[Value.ref b] below meth c 7 D cy s.heap.size (G00 b L xs) (lw_Z below #[Value.ref b] s)) 396 rm_L_mask.cells rm_L_mask.slots T_L_mask := fun As st ls G k n h1 h2 h3 h4 =>
    j_callSW C hWd hNc (c_L_mask l hl) mw_L_mask lnkL_71 As (by obtain ⟨_, _, _, rfl, _⟩ := h4; rfl) dL_law_396 ⟨by decide, by decide⟩ h1 ⟨h2, h3⟩ h4
  have w_feed : Wr (JJ p l e room_1 s m #[Value.ref b] below meth c 7 D cy s.heap.size (G00 b L xs) (lw_Z below #[Value.ref b] s)) 509 rm_L_feed.cells rm_L_feed.slots T_L_feed := fun As st ls G k n h1 h2 h3 h4 =>
    j_callSW C hWd hNc (c_L_feed l hl) mw_L_feed lnkL_80 As (by obtain ⟨_, _, _, _, _, rfl, _⟩ := h4; rfl) dL_law_509 ⟨by decide, by decide⟩ h1 ⟨h2, h3⟩ h4
  have w_offer : Wr (JJ p l e room_1 s m #[Value.ref b] below meth c 7 D cy s.heap.size (G00 b L xs) (lw_Z below #[Value.ref b] s)) 609 rm_L_offer.cells rm_L_offer.slots T_L_offer := fun As st ls G k n h1 h2 h3 h4 =>
    j_callSW C hWd hNc (c_L_offer l hl) mw_L_offer lnkL_84 As (by obtain ⟨_, _, _, rfl, _⟩ := h4; rfl) dL_law_609 ⟨by decide, by decide⟩ h1 ⟨h2, h3⟩ h4
  have w_run : Wr (JJ p l e room_1 s m #[Value.ref b] below meth c 7 D cy s.heap.size (G00 b L xs) (lw_Z below #[Value.ref b] s)) 665 rm_L_run.cells rm_L_run.slots T_L_run := fun As st ls G k n h1 h2 h3 h4 =>
    j_callSW C hWd hNc (c_L_run l hl) mw_L_run lnkL_87 As (by obtain ⟨_, _, _, rfl, _⟩ := h4; rfl) dL_law_665 ⟨by decide, by decide⟩ h1 ⟨h2, h3⟩ h4
  have w_take : Wr (JJ p l e room_1 s m #[Value.ref b] below meth c 7 D cy s.heap.size (G00 b L xs) (lw_Z below #[Value.ref b] s)) 721 rm_L_take.cells rm_L_take.slots T_L_take := fun As st ls G k n h1 h2 h3 h4 =>
    j_callSW C hWd hNc (c_L_take l hl) mw_L_take lnkL_90 As (by obtain ⟨_, _, _, rfl, _⟩ := h4; rfl) dL_law_721 ⟨by decide, by decide⟩ h1 ⟨h2, h3⟩ h4
  have g1 : knd (G00 b L xs) b = 14 := by unfold knd G00; rw [if_pos rfl]
  have g2 : gn (G00 b L xs) b = L := by unfold gn G00; rw [if_pos rfl]
  have g3 : ∀ j, gi (G00 b L xs) b j = xs j := fun j => by unfold gi G00; rw [if_pos rfl]
  have hj := lw_pro hJ w_link w_depth w_weight w_arbiter w_mask w_feed w_offer w_run w_take hL g1 g2 g3 (o1 := none) (o2 := none) (o3 := none) (o4 := none) (o5 := none) (o6 := none)
  have hla := lv_entry ([rf b].map tV) (n := 7) (by rw [sl_len]; exact Nat.le_of_ble_eq_true rfl)
  rw [lg_entry_eq]
  rw [← lsP_args [rf b] 0 6] at hla
  exact hj s.heap [] _ rfl (ws_Hp hbl) va_S.rf hla
