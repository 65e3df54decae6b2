section JN
variable {p : Program} {l : Launch} {e : Env} {R : Room} {s : State} {m : MethodId} {args : Array Value} {below : List Frame} {meth : Method} {c : Code} {nL : Nat} {D : va_G} {cy : Nat → ClassId} {base : Nat} {S0 : GG} {Q : State → Prop}
variable {cc : ByteArray} {own : String} {pc : Nat} {ls : List (Option AV)} {st : List AV} {G : GG} {k n : Nat}
def zc (kd N : Nat) : Cl := (kd, N, fun _ => 0, fun _ => none, fun _ => 0)
theorem nw_up (G : GG) (a kd N : Nat) : va_up G a (zc kd N) = nw G a kd N := rfl
theorem dflt_ok : ∀ ci, ci < 7 → ∀ j, j < nfO ci → defaultValue (tyOf ci j) = encF (zc ci 0) j := by7 (by decide +kernel) (by decide +kernel) (by decide +kernel) (by decide +kernel) (by decide +kernel) (by decide +kernel) (by decide +kernel)
theorem j_new (C : Cx p s m args c cc nL own D cy base) {ci idx : Nat} (hd : decode cc pc = .ok (.new idx, 3)) (h7 : ci < 7) (hw : Cond.classLink own idx (RO ci) ∈ lwG) (hc : k + 1 ≤ R.cells) (hs : n + nfO ci ≤ R.slots)
    (kk : ∀ a, knd G a = 99 → JJ p l e R s m args below meth c nL D cy base S0 Q (pc + 3) ls (.inr (.inl (some a)) :: st) (nw G a ci 0) (k + 1) (n + nfO ci)) : JJ p l e R s m args below meth c nL D cy base S0 Q pc ls st G k n := by
  intro H locs la h1 h2 h3 h4
  obtain ⟨ws, hP, hD, hmore⟩ := h2.more
  refine va_new (ci := ci) (fs := (List.range (nfO ci)).map (encF (zc ci 0))) C.1 C.2.1 C.2.2.2.2.1 (in_ok ci h7) (tyOf ci) (ty_ok ci h7) C.2.2.2.1 (C.2.2.2.2.1 _ hw) (C.2.2.2.2.1 _ (inst_ok ci h7)) (C.2.2.2.2.1 _ (init_ok ci h7)) C.2.2.2.2.2.1 hP hD h3 (hAb C) (vw_at ci h7) (fun j hj => ?_) hc hs hd (fun q H1 g1 g2 g3 => ?_)
  · rw [dflt_ok ci h7 j hj]; unfold vp_V; rw [List.getD_eq_getElem?_getD, encF_at hj]; rfl
  · have e : enc cy (zc ci 0) = .inr (ci, (List.range (nfO ci)).map (encF (zc ci 0))) := enc_o cy rfl h7
    obtain ⟨q99, hq⟩ := hmore q (zc ci 0) H1 (show ci < 14 by omega) (by rw [e]; exact g1) (by rw [e]; exact g2)
    exact kk q q99 H1 locs la h1 hq g3 h4
theorem j_newa7 (C : Cx p s m args c cc nL own D cy base) {x : Int32} (hd : decode cc pc = .ok (.newarray .byte, 2)) (h0 : 0 ≤ x.toInt) (hN : x.toInt ≤ 60000) (hc : k + 1 ≤ R.cells) (hs : n + x.toNatClampNeg ≤ R.slots)
    (kk : ∀ a, knd G a = 99 → JJ p l e R s m args below meth c nL D cy base S0 Q (pc + 2) ls (.inr (.inl (some a)) :: st) (nw G a 7 x.toNatClampNeg) (k + 1) (n + x.toNatClampNeg)) : JJ p l e R s m args below meth c nL D cy base S0 Q pc ls (.inl x :: st) G k n := by
  intro H locs la h1 h2 h3 h4
  obtain ⟨ws, hP, hD, hmore⟩ := h2.more
  have hb : x.toNatClampNeg ≤ 60000 := by unfold Int32.toNatClampNeg; omega
  refine va_newa (atype := .byte) (ty := .byte) (a0 := (x.toNatClampNeg, .inl (fun _ => 0))) C.1 C.2.1 (C.2.2.2.2.1 _ (by decide +kernel : Cond.arrayClass .byte ∈ lwG)) rfl C.2.2.2.2.2.1 hP hD h3 (hAb C) (fun _ => rfl) (by rw [Int32.lt_iff_toInt_lt]; simp; omega) rfl (by simp [componentBytes]; omega) hc hs hd (fun q cA H1 g0 g1 g2 g3 => ?_)
  have ecA : cA = cy 7 := by
    have r1 := (g0.2 7 (cA, .byte) rfl).2
    have r2 := (g0.2 0 (cy 7, .byte) rfl).2
    exact Option.some.inj (r1.symm.trans r2)
  subst ecA
  have e : enc cy (zc 7 x.toNatClampNeg) = .inl (cy 7, x.toNatClampNeg, .inl (fun _ => 0)) := enc_i cy rfl (by omega) (by omega)
  obtain ⟨q99, hq⟩ := hmore q (zc 7 x.toNatClampNeg) H1 (show 7 < 14 by decide) (by rw [e]; exact g1) (by rw [e]; exact g2)
  exact kk q q99 H1 locs la h1 hq g3 h4
theorem j_newa8 (C : Cx p s m args c cc nL own D cy base) {x : Int32} (hd : decode cc pc = .ok (.newarray .int, 2)) (h0 : 0 ≤ x.toInt) (hN : x.toInt ≤ 60000) (hc : k + 1 ≤ R.cells) (hs : n + x.toNatClampNeg ≤ R.slots)
    (kk : ∀ a, knd G a = 99 → JJ p l e R s m args below meth c nL D cy base S0 Q (pc + 2) ls (.inr (.inl (some a)) :: st) (nw G a 8 x.toNatClampNeg) (k + 1) (n + x.toNatClampNeg)) : JJ p l e R s m args below meth c nL D cy base S0 Q pc ls (.inl x :: st) G k n := by
  intro H locs la h1 h2 h3 h4
  obtain ⟨ws, hP, hD, hmore⟩ := h2.more
  have hb : x.toNatClampNeg ≤ 60000 := by unfold Int32.toNatClampNeg; omega
  refine va_newa (atype := .int) (ty := .int) (a0 := (x.toNatClampNeg, .inl (fun _ => 0))) C.1 C.2.1 (C.2.2.2.2.1 _ (by decide +kernel : Cond.arrayClass .int ∈ lwG)) rfl C.2.2.2.2.2.1 hP hD h3 (hAb C) (fun _ => rfl) (by rw [Int32.lt_iff_toInt_lt]; simp; omega) rfl (by simp [componentBytes]; omega) hc hs hd (fun q cA H1 g0 g1 g2 g3 => ?_)
  have ecA : cA = cy 8 := by
    have r1 := (g0.2 7 (cA, .int) rfl).2
    have r2 := (g0.2 1 (cy 8, .int) rfl).2
    exact Option.some.inj (r1.symm.trans r2)
  subst ecA
  have e : enc cy (zc 8 x.toNatClampNeg) = .inl (cy 8, x.toNatClampNeg, .inl (fun _ => 0)) := enc_i cy rfl (by omega) (by omega)
  obtain ⟨q99, hq⟩ := hmore q (zc 8 x.toNatClampNeg) H1 (show 8 < 14 by decide) (by rw [e]; exact g1) (by rw [e]; exact g2)
  exact kk q q99 H1 locs la h1 hq g3 h4
theorem j_newa9 (C : Cx p s m args c cc nL own D cy base) {x : Int32} (hd : decode cc pc = .ok (.newarray .boolean, 2)) (h0 : 0 ≤ x.toInt) (hN : x.toInt ≤ 60000) (hc : k + 1 ≤ R.cells) (hs : n + x.toNatClampNeg ≤ R.slots)
    (kk : ∀ a, knd G a = 99 → JJ p l e R s m args below meth c nL D cy base S0 Q (pc + 2) ls (.inr (.inl (some a)) :: st) (nw G a 9 x.toNatClampNeg) (k + 1) (n + x.toNatClampNeg)) : JJ p l e R s m args below meth c nL D cy base S0 Q pc ls (.inl x :: st) G k n := by
  intro H locs la h1 h2 h3 h4
  obtain ⟨ws, hP, hD, hmore⟩ := h2.more
  have hb : x.toNatClampNeg ≤ 60000 := by unfold Int32.toNatClampNeg; omega
  refine va_newa (atype := .boolean) (ty := .boolean) (a0 := (x.toNatClampNeg, .inl (fun _ => 0))) C.1 C.2.1 (C.2.2.2.2.1 _ (by decide +kernel : Cond.arrayClass .boolean ∈ lwG)) rfl C.2.2.2.2.2.1 hP hD h3 (hAb C) (fun _ => rfl) (by rw [Int32.lt_iff_toInt_lt]; simp; omega) rfl (by simp [componentBytes]; omega) hc hs hd (fun q cA H1 g0 g1 g2 g3 => ?_)
  have ecA : cA = cy 9 := by
    have r1 := (g0.2 7 (cA, .boolean) rfl).2
    have r2 := (g0.2 2 (cy 9, .boolean) rfl).2
    exact Option.some.inj (r1.symm.trans r2)
  subst ecA
  have e : enc cy (zc 9 x.toNatClampNeg) = .inl (cy 9, x.toNatClampNeg, .inl (fun _ => 0)) := enc_i cy rfl (by omega) (by omega)
  obtain ⟨q99, hq⟩ := hmore q (zc 9 x.toNatClampNeg) H1 (show 9 < 14 by decide) (by rw [e]; exact g1) (by rw [e]; exact g2)
  exact kk q q99 H1 locs la h1 hq g3 h4
theorem j_newa10 (C : Cx p s m args c cc nL own D cy base) {x : Int32} (hd : decode cc pc = .ok (.newarray .long, 2)) (h0 : 0 ≤ x.toInt) (hN : x.toInt ≤ 60000) (hc : k + 1 ≤ R.cells) (hs : n + x.toNatClampNeg ≤ R.slots)
    (kk : ∀ a, knd G a = 99 → JJ p l e R s m args below meth c nL D cy base S0 Q (pc + 2) ls (.inr (.inl (some a)) :: st) (nw G a 10 x.toNatClampNeg) (k + 1) (n + x.toNatClampNeg)) : JJ p l e R s m args below meth c nL D cy base S0 Q pc ls (.inl x :: st) G k n := by
  intro H locs la h1 h2 h3 h4
  obtain ⟨ws, hP, hD, hmore⟩ := h2.more
  have hb : x.toNatClampNeg ≤ 60000 := by unfold Int32.toNatClampNeg; omega
  refine va_newa (atype := .long) (ty := .long) (a0 := (x.toNatClampNeg, .inr (.inl (fun _ => 0)))) C.1 C.2.1 (C.2.2.2.2.1 _ (by decide +kernel : Cond.arrayClass .long ∈ lwG)) rfl C.2.2.2.2.2.1 hP hD h3 (hAb C) (fun _ => rfl) (by rw [Int32.lt_iff_toInt_lt]; simp; omega) rfl (by simp [componentBytes]; omega) hc hs hd (fun q cA H1 g0 g1 g2 g3 => ?_)
  have ecA : cA = cy 10 := by
    have r1 := (g0.2 7 (cA, .long) rfl).2
    have r2 := (g0.2 3 (cy 10, .long) rfl).2
    exact Option.some.inj (r1.symm.trans r2)
  subst ecA
  have e : enc cy (zc 10 x.toNatClampNeg) = .inl (cy 10, x.toNatClampNeg, .inr (.inl (fun _ => 0))) := enc_l cy rfl
  obtain ⟨q99, hq⟩ := hmore q (zc 10 x.toNatClampNeg) H1 (show 10 < 14 by decide) (by rw [e]; exact g1) (by rw [e]; exact g2)
  exact kk q q99 H1 locs la h1 hq g3 h4
theorem j_anew11 (C : Cx p s m args c cc nL own D cy base) {idx : Nat} {x : Int32} (hd : decode cc pc = .ok (.anewarray idx, 3)) (hO : va_AO RX0 s) (hw : Cond.classLink own idx RX0 ∈ lwG) (h0 : 0 ≤ x.toInt) (hN : x.toInt ≤ 60000) (hc : k + 1 ≤ R.cells) (hs : n + x.toNatClampNeg ≤ R.slots)
    (kk : ∀ a, knd G a = 99 → JJ p l e R s m args below meth c nL D cy base S0 Q (pc + 3) ls (.inr (.inl (some a)) :: st) (nw G a 11 x.toNatClampNeg) (k + 1) (n + x.toNatClampNeg)) : JJ p l e R s m args below meth c nL D cy base S0 Q pc ls (.inl x :: st) G k n := by
  intro H locs la h1 h2 h3 h4
  obtain ⟨ws, hP, hD, hmore⟩ := h2.more
  have hb : x.toNatClampNeg ≤ 60000 := by unfold Int32.toNatClampNeg; omega
  refine va_newq (C := RX0) C.1 C.2.1 C.2.2.2.1 (C.2.2.2.2.1 _ hw) hO C.2.2.2.2.2.1 hP hD h3 (hAb C) (by rw [Int32.lt_iff_toInt_lt]; simp; omega) rfl (by omega) hc hs hd (fun q cA H1 g0 g1 g2 g3 => ?_)
  have ecA : cA = cy 11 := by
    obtain ⟨-, -, -, -, -, r1⟩ := (g0.2 7 (cA, .object RX0) rfl).2
    obtain ⟨-, -, -, -, -, r2⟩ := (g0.2 4 (cy 11, .object RX0) rfl).2
    exact Option.some.inj (r1.symm.trans r2)
  subst ecA
  have e : enc cy (zc 11 x.toNatClampNeg) = .inl (cy 11, x.toNatClampNeg, .inr (.inr (.inr (.inr (fun _ => none))))) := enc_r cy rfl (by omega)
  obtain ⟨q99, hq⟩ := hmore q (zc 11 x.toNatClampNeg) H1 (show 11 < 14 by decide) (by rw [e]; exact g1) (by rw [e]; exact g2)
  exact kk q q99 H1 locs la h1 hq g3 h4
theorem j_anew12 (C : Cx p s m args c cc nL own D cy base) {idx : Nat} {x : Int32} (hd : decode cc pc = .ok (.anewarray idx, 3)) (hO : va_AO RX1 s) (hw : Cond.classLink own idx RX1 ∈ lwG) (h0 : 0 ≤ x.toInt) (hN : x.toInt ≤ 60000) (hc : k + 1 ≤ R.cells) (hs : n + x.toNatClampNeg ≤ R.slots)
    (kk : ∀ a, knd G a = 99 → JJ p l e R s m args below meth c nL D cy base S0 Q (pc + 3) ls (.inr (.inl (some a)) :: st) (nw G a 12 x.toNatClampNeg) (k + 1) (n + x.toNatClampNeg)) : JJ p l e R s m args below meth c nL D cy base S0 Q pc ls (.inl x :: st) G k n := by
  intro H locs la h1 h2 h3 h4
  obtain ⟨ws, hP, hD, hmore⟩ := h2.more
  have hb : x.toNatClampNeg ≤ 60000 := by unfold Int32.toNatClampNeg; omega
  refine va_newq (C := RX1) C.1 C.2.1 C.2.2.2.1 (C.2.2.2.2.1 _ hw) hO C.2.2.2.2.2.1 hP hD h3 (hAb C) (by rw [Int32.lt_iff_toInt_lt]; simp; omega) rfl (by omega) hc hs hd (fun q cA H1 g0 g1 g2 g3 => ?_)
  have ecA : cA = cy 12 := by
    obtain ⟨-, -, -, -, -, r1⟩ := (g0.2 7 (cA, .object RX1) rfl).2
    obtain ⟨-, -, -, -, -, r2⟩ := (g0.2 5 (cy 12, .object RX1) rfl).2
    exact Option.some.inj (r1.symm.trans r2)
  subst ecA
  have e : enc cy (zc 12 x.toNatClampNeg) = .inl (cy 12, x.toNatClampNeg, .inr (.inr (.inr (.inr (fun _ => none))))) := enc_r cy rfl (by omega)
  obtain ⟨q99, hq⟩ := hmore q (zc 12 x.toNatClampNeg) H1 (show 12 < 14 by decide) (by rw [e]; exact g1) (by rw [e]; exact g2)
  exact kk q q99 H1 locs la h1 hq g3 h4
theorem j_anew13 (C : Cx p s m args c cc nL own D cy base) {idx : Nat} {x : Int32} (hd : decode cc pc = .ok (.anewarray idx, 3)) (hO : va_AO RX4 s) (hw : Cond.classLink own idx RX4 ∈ lwG) (h0 : 0 ≤ x.toInt) (hN : x.toInt ≤ 60000) (hc : k + 1 ≤ R.cells) (hs : n + x.toNatClampNeg ≤ R.slots)
    (kk : ∀ a, knd G a = 99 → JJ p l e R s m args below meth c nL D cy base S0 Q (pc + 3) ls (.inr (.inl (some a)) :: st) (nw G a 13 x.toNatClampNeg) (k + 1) (n + x.toNatClampNeg)) : JJ p l e R s m args below meth c nL D cy base S0 Q pc ls (.inl x :: st) G k n := by
  intro H locs la h1 h2 h3 h4
  obtain ⟨ws, hP, hD, hmore⟩ := h2.more
  have hb : x.toNatClampNeg ≤ 60000 := by unfold Int32.toNatClampNeg; omega
  refine va_newq (C := RX4) C.1 C.2.1 C.2.2.2.1 (C.2.2.2.2.1 _ hw) hO C.2.2.2.2.2.1 hP hD h3 (hAb C) (by rw [Int32.lt_iff_toInt_lt]; simp; omega) rfl (by omega) hc hs hd (fun q cA H1 g0 g1 g2 g3 => ?_)
  have ecA : cA = cy 13 := by
    obtain ⟨-, -, -, -, -, r1⟩ := (g0.2 7 (cA, .object RX4) rfl).2
    obtain ⟨-, -, -, -, -, r2⟩ := (g0.2 6 (cy 13, .object RX4) rfl).2
    exact Option.some.inj (r1.symm.trans r2)
  subst ecA
  have e : enc cy (zc 13 x.toNatClampNeg) = .inl (cy 13, x.toNatClampNeg, .inr (.inr (.inr (.inr (fun _ => none))))) := enc_r cy rfl (by omega)
  obtain ⟨q99, hq⟩ := hmore q (zc 13 x.toNatClampNeg) H1 (show 13 < 14 by decide) (by rw [e]; exact g1) (by rw [e]; exact g2)
  exact kk q q99 H1 locs la h1 hq g3 h4
theorem oi_in : Cond.instanceMethod objectInit ∈ lwG := by decide +kernel
theorem oi_code : Cond.code objectInit ⟨#[0xb1]⟩ 1 none ∈ lwG := by decide +kernel
theorem j_objInit (C : Cx p s m args c cc nL own D cy base) {idx a : Nat} (hd : decode cc pc = .ok (.invokespecial idx, 3)) (hw : Cond.methodLink own idx objectInit ∈ lwG) (hf : 1 ≤ R.frames) (hl : (st.map fun v => (tV v).category).sum + 12 ≤ R.locals)
    (kk : JJ p l e R s m args below meth c nL D cy base S0 Q (pc + 3) ls st G k n) : JJ p l e R s m args below meth c nL D cy base S0 Q pc ls (.inr (.inl (some a)) :: st) G k n := by
  intro H locs la h1 h2 h3 h4
  refine W.objInit C.1 C.2.1 C.2.2.2.1 (C.2.2.2.2.1 _ hw) (C.2.2.2.2.1 _ oi_in) (C.2.2.2.2.1 _ oi_code) rfl (by rw [C.2.2.1]; exact h4.1) (a := a) (rest := st.map tV) rfl hd hf ?_ (kk H locs la h1 h2 h3 h4)
  rw [List.map_map]
  have h0 : (F0 m pc la (List.map tV (Sum.inr (Sum.inl (some a)) :: st))).monitorRoom = 0 := by simp [JFrame.monitorRoom]
  rw [h0]
  exact Nat.le_trans (Nat.le_of_eq (by simp [Function.comp_def])) hl
-- the script: kind 14
theorem j_sld (C : Cx p s m args c cc nL own D cy base) {a : Nat} {i : Int32} (hS0 : va_X a (S0 a).2.1 (S0 a).2.2.1 s s.heap) (ha : a < base) (hd : decode cc pc = .ok (.iaload, 1)) (hk : knd G a = 14) (hi : vp_in i (gn G a)) (kk : JJ p l e R s m args below meth c nL D cy base S0 Q (pc + 1) ls (.inl (gi G a i.toNatClampNeg) :: st) G k n) : JJ p l e R s m args below meth c nL D cy base S0 Q pc ls (.inl i :: .inr (.inl (some a)) :: st) G k n := by
  intro H locs la h1 h2 h3 h4
  obtain ⟨L, hL, h14, -⟩ := id h2
  have hG : G a = S0 a := by
    rcases h14 a (by omega) with q | q
    · exact q.2
    · omega
  have hbl : a < s.heap.size := Nat.lt_of_lt_of_le ha C.2.2.2.2.2.2
  refine va_sld C.1 C.2.1 hS0 hbl (fun q => Nat.not_le.mpr ha q) h3 (by rw [← hG]; exact hi) hd ?_
  rw [← hG]
  exact kk H locs la h1 h2 h3 h4
theorem j_slen (C : Cx p s m args c cc nL own D cy base) {a : Nat} (hS0 : va_X a (S0 a).2.1 (S0 a).2.2.1 s s.heap) (ha : a < base) (hd : decode cc pc = .ok (.arraylength, 1)) (hk : knd G a = 14) (kk : JJ p l e R s m args below meth c nL D cy base S0 Q (pc + 1) ls (.inl (nI (gn G a)) :: st) G k n) : JJ p l e R s m args below meth c nL D cy base S0 Q pc ls (.inr (.inl (some a)) :: st) G k n := by
  intro H locs la h1 h2 h3 h4
  obtain ⟨L, hL, h14, -⟩ := id h2
  have hG : G a = S0 a := by
    rcases h14 a (by omega) with q | q
    · exact q.2
    · omega
  have hbl : a < s.heap.size := Nat.lt_of_lt_of_le ha C.2.2.2.2.2.2
  have kk' := kk H locs la h1 h2 h3 h4
  have e : nI (gn G a) = Int32.ofNat (S0 a).2.1 := by unfold gn; rw [hG]; rfl
  rw [e] at kk'
  exact va_slen C.1 C.2.1 hS0 hbl (fun q => Nat.not_le.mpr ha q) h3 hd kk'

end JN
