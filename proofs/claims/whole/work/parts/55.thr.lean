/-! ===== throwing ===== -/
theorem Hp.grow {D : va_G} {cy : Nat → ClassId} {base : Nat} {S0 G : GG} {H H1 : Heap} (h : Hp D cy base S0 G H) (hq : ∀ q : Nat, q < H.size → H1[q]? = H[q]?) : Hp D cy base S0 G H1 := by
  obtain ⟨L, h1, h2, h3, h4⟩ := h
  exact ⟨L, h1, h2, h3.kept (fun k q hk => hq _ (vx_lt h3 hk)), h4⟩
def xnm : List String := ["java/lang/RuntimeException", "java/lang/Exception"]
def xB (cls : String) : List Cond := .castable cls cls :: lwD.map .declares
/-- the words of throwing cls: class index ik, constructor ic -/
def XK (ik ic : Nat) (cls : String) : Prop := Bundle.fit cls = true ∧ Cond.classLink RX5 ik cls ∈ lwG ∧ Cond.initialized cls ∈ lwG ∧ (cls, cls) ∈ lwC ∧
  (∀ w ∈ (vx_atS RX5 ic cls xnm).filter goodWord, w ∈ lwG) ∧ (∀ w ∈ (vx_atS RX5 ic cls xnm).filter (fun w => !goodWord w), w ∈ xB cls) ∧ (∀ w ∈ Cond.classLink RX5 ik cls :: Cond.initialized cls :: vx_atS RX5 ic cls xnm, vx_ot w = true)
theorem xk_IA : XK 33 37 xIA := ⟨by decide +kernel, by decide +kernel, by decide +kernel, by decide +kernel, by decide +kernel, by decide +kernel, by decide +kernel⟩
theorem xk_IS : XK 53 57 xIS := ⟨by decide +kernel, by decide +kernel, by decide +kernel, by decide +kernel, by decide +kernel, by decide +kernel, by decide +kernel⟩
theorem xk_UO : XK 80 84 xUO := ⟨by decide +kernel, by decide +kernel, by decide +kernel, by decide +kernel, by decide +kernel, by decide +kernel, by decide +kernel⟩
def XTg (cc : ByteArray) (x : Nat × String) : Prop := ∃ ik is ic text, XK ik ic x.2 ∧ (is, text) ∈ strs ∧ decode cc x.1 = .ok (.new ik, 3) ∧ decode cc (x.1 + 3) = .ok (.dup, 1) ∧ decode cc (x.1 + 4) = .ok (.ldc is, 2) ∧ decode cc (x.1 + 6) = .ok (.invokespecial ic, 3) ∧ decode cc (x.1 + 9) = .ok (.athrow, 1)
section JT
variable {p : Program} {l : Launch} {e : Env} {R : Room} {s : State} {m : MethodId} {args : Array Value} {below : List Frame} {meth : Method} {c : Code} {nL : Nat} {D : va_G} {cy : Nat → ClassId} {base : Nat} {S0 : GG}
variable {cc : ByteArray} {ls : List (Option AV)} {G : GG} {k n mc ms : Nat} {Qr : Option AV → GG → Prop} {Qx : String → GG → Prop}
theorem j_throwS (C : Cx p s m args c cc nL RX5 D cy base) (hWd : Wd D cy base s s.heap) (hl : l.stackTraces = false) (hlocks : meth.locks = false) (ht : ∀ x ∈ c.exceptionTable.toList, False) {x : Nat × String} (hX : XTg cc x)
    (hf : 6 ≤ R.frames) (hlo : 100 ≤ R.locals) (hc : k + 1 ≤ R.cells) (hs : n + 6 ≤ R.slots) (hc' : k + 1 ≤ mc) (hs' : n + 6 ≤ ms) (hq : Qx x.2 G) :
    JJ p l e R s m args below meth c nL D cy base S0 (vx_MQ below (QcA D cy base S0 Qr) (XcA D cy base S0 Qx) args s mc ms (Ab base)) x.1 ls [] G k n := by
  intro H locs la h1 h2 h3 h4
  obtain ⟨ik, is, ic, text, ⟨k1, k2, k3, k4, k5, k6, k7⟩, hst, d0, d3, d4, d6, d9⟩ := hX
  obtain ⟨-, -, -, ⟨z1, z2⟩, z3, z4, z5, -⟩ := hWd
  obtain ⟨sa, hsa⟩ := z3 _ hst
  refine vx_throwS (names := xnm) (A := Ab base) C.1 C.2.1 hl C.2.2.2.1 k1 (by decide +kernel) (C.2.2.2.2.1 _ k2) (C.2.2.2.2.1 _ k3) hsa ?_ k7 z1 z2 h3 ?_ d0 d3 d4 d6 d9 (fun y hy => (ht y hy).elim) (show 2 + 3 < R.frames by omega) (show 0 + (13 * (2 + 1) + 43) ≤ R.locals by omega) hc hs hlocks (fun t hv hz hh => ?_) h3.2.2 hc' hs'
  · refine vx_hat (B := xB x.2) (fun w hw => C.2.2.2.2.1 w (k5 w hw)) k6 ?_
    intro w hw
    rcases List.mem_cons.mp hw with e | hw
    · subst e
      exact va_tabs rfl rfl (z4 _ k4)
    · obtain ⟨q, hq', rfl⟩ := List.mem_map.mp hw
      exact va_tabs rfl rfl (z5 q hq')
  · exact h4.1.trans C.2.2.1.symm
  · exact ⟨⟨G, hq, h2.grow hh⟩, Nat.le_trans h3.1 hz, fun q q1 q2 => (hh q (Nat.lt_of_lt_of_le q1 h3.1)).trans (h3.2.1 q q1 q2)⟩
end JT
/-- the hook at 'new': a throw that stands in xs -/
def xN (xs : List (Nat × String)) (R : Room) (Qx : String → GG → Prop) : Nat → Kt := fun _ pc _ st G k n => ∃ cls, lkp xs pc = some cls ∧ st = [] ∧ k + 1 ≤ R.cells ∧ n + 6 ≤ R.slots ∧ Qx cls G
theorem lkp_mem2 {α : Type} {xs : List (Nat × α)} {i : Nat} {y : α} (h : lkp xs i = some y) : (i, y) ∈ xs := by
  induction xs with
  | nil => cases h
  | cons a r ih =>
    obtain ⟨a1, a2⟩ := a
    rw [lkp_c] at h
    by_cases e : i = a1
    · rw [if_pos e] at h; cases h; rw [e]; exact List.mem_cons_self
    · rw [if_neg e] at h; exact List.mem_cons_of_mem _ (ih h)
theorem CM.evX {l : Launch} {y : MethodName} {bytes : ByteArray} {maxL : Nat} {ret : Option FieldType} {rm : Room} {T : TT} {ft : FTb} {nt : List (Nat × Nat)} {ct : List (Nat × CS)} {oi rt : Nat} {ini : Bool} (hpl : plainFor y = true) (hrt : rtT rt ret)
    (hft : ∀ x ∈ ft, FTg y.cls ini x) (hini : ini = true → y.name = "<init>") (hnt : ∀ x ∈ nt, NTg y.cls x) (hct : ∀ x ∈ ct, CTg l y.cls rm x) (hoi : oi ≠ 0 → Cond.methodLink y.cls oi objectInit ∈ lwG ∧ 1 ≤ rm.frames ∧ 20 ≤ rm.locals)
    {xs : List (Nat × String)} (hxs : ∀ x ∈ xs, XTg bytes x) (hcls : y.cls = RX5) (hl : l.stackTraces = false) (hrm : 6 ≤ rm.frames ∧ 100 ≤ rm.locals)
    (body : ∀ (av : List AV) (G : GG) (Qr : Option AV → GG → Prop) (Qx : String → GG → Prop), T av G Qr Qx → (enL av).length ≤ maxL ∧ ∀ J : Kt, EvJ bytes y.cls ft nt ct oi rm false (RTm rm rt Qr) (xN xs rm Qx) J → J 0 (enP av maxL) [] G 0 0) : CM l y bytes maxL ret rm T := by
  refine CM.of hpl (fun D cy base S0 av G Qr Qx hT => ⟨(body av G Qr Qx hT).1, fun p e s m args below meth c B => ?_⟩)
  obtain ⟨C, hWd, hr, hlk, hnm, htb⟩ := B
  refine (body av G Qr Qx hT).2 _ (ev_ok (ini := ini) C hWd hft (fun q => by rw [hnm]; exact hini q) hnt hct hoi (fun q => by cases q) ?_ ?_ ?_ ?_)
  · intro pc ls x G k n hd h
    obtain ⟨h1, h2, h3, h4⟩ := h
    rcases hrt with ⟨q1, q2⟩ | ⟨q1, q2⟩ | ⟨q1, q2⟩ | ⟨q1, t, q2, q3⟩ <;> subst q1
    · exact h3.elim
    · exact j_iret C (by rw [hr, q2]) hlk rfl hd h1 h2 h4
    · refine j_iret C (by rw [hr, q2]) hlk ?_ hd h1 h2 h4
      have h3 : x = 0 ∨ x = 1 := h3
      rcases h3 with rfl | rfl <;> rfl
    · exact h3.elim
  · intro pc ls x G k n hd h
    obtain ⟨h1, h2, h3, h4⟩ := h
    rcases hrt with ⟨q1, q2⟩ | ⟨q1, q2⟩ | ⟨q1, q2⟩ | ⟨q1, t, q2, q3⟩ <;> subst q1
    · exact h3.elim
    · exact h3.elim
    · exact h3.elim
    · exact j_aret C (by rw [hr, q2]) q3 hlk hd h1 h2 h4
  · intro pc ls G k n hd h
    obtain ⟨h1, h2, h3, h4⟩ := h
    rcases hrt with ⟨q1, q2⟩ | ⟨q1, q2⟩ | ⟨q1, q2⟩ | ⟨q1, t, q2, q3⟩ <;> subst q1
    · exact j_vret C (by rw [hr, q2]) hlk hd h1 h2 h4
    · exact h3.elim
    · exact h3.elim
    · exact h3.elim
  · intro i pc ls st G k n hd h
    obtain ⟨cls, h1, rfl, h2, h3, h4⟩ := h
    have hm := lkp_mem2 h1
    rw [hcls] at C
    exact j_throwS (x := (pc, cls)) C hWd hl hlk htb (hxs _ hm) hrm.1 hrm.2 h2 h3 h2 h3 h4
