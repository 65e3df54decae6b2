section JH
variable {p : Program} {l : Launch} {e : Env} {R : Room} {s : State} {m : MethodId} {args : Array Value} {below : List Frame} {meth : Method} {c : Code} {nL : Nat} {D : va_G} {cy : Nat → ClassId} {base : Nat} {S0 : GG} {Q : State → Prop}
variable {cc : ByteArray} {own : String} {pc : Nat} {ls : List (Option AV)} {st : List AV} {G : GG} {k n : Nat}
theorem encF_at {c0 : Cl} {N j : Nat} (hj : j < N) : ((List.range N).map (encF c0))[j]? = some (encF c0 j) := by
  rw [List.getElem?_map, List.getElem?_range hj]; rfl
theorem encF_set {c0 c1 : Cl} {N j : Nat} {v : Value} (h : ∀ i, i ≠ j → encF c1 i = encF c0 i) (hv : encF c1 j = v) : ((List.range N).map (encF c0)).set j v = (List.range N).map (encF c1) := by
  refine List.ext_getElem? fun i => ?_
  rw [List.getElem?_set]
  by_cases e : j = i
  · subst e
    rw [if_pos rfl]
    by_cases hl : j < N
    · rw [encF_at hl, hv, if_pos (by simpa using hl)]
    · rw [if_neg (by simpa using hl), List.getElem?_eq_none (by simpa using hl)]
  · rw [if_neg e]
    by_cases hl : i < N
    · rw [encF_at hl, encF_at hl, h i (fun q => e q.symm)]
    · rw [List.getElem?_eq_none (by simpa using hl), List.getElem?_eq_none (by simpa using hl)]
theorem hlt14 {G : GG} {a kd : Nat} (h : knd G a = kd) (h2 : kd < 14) : knd G a < 14 := by omega
theorem j_getI (C : Cx p s m args c cc nL own D cy base) {ci j idx a : Nat} (hd : decode cc pc = .ok (.getfield idx, 3)) (h7 : ci < 7) (hj : j < nfO ci) (hw : Cond.fieldLink own idx (TO ci j).1 (TO ci j).2.1 (TO ci j).2.2.1 ∈ lwG) (hk : knd G a = ci) (hr : isRf ci j = false)
    (kk : JJ p l e R s m args below meth c nL D cy base S0 Q (pc + 3) ls (.inl (gi G a j) :: st) G k n) : JJ p l e R s m args below meth c nL D cy base S0 Q pc ls (.inr (.inl (some a)) :: st) G k n := by
  intro H locs la h1 h2 h3 h4
  obtain ⟨ws, q0, hP, hD, he, -⟩ := h2.at (hlt14 hk (by omega))
  rw [enc_o cy hk h7] at he
  have hk' : (G a).1 = ci := hk
  exact va_get (D := D) (ci := ci) (v := .int (gi G a j)) C.1 C.2.1 C.2.2.2.2.1 (in_ok ci h7) C.2.2.2.1 C.2.2.2.2.2.1 hP q0 he (vw_at ci h7) j hj (C.2.2.2.2.1 _ hw) (fun _ h => h) (by rw [encF_at hj]; simp only [encF, hk', hr]; rfl) hd (kk H locs la h1 h2 h3 h4)
theorem j_getR (C : Cx p s m args c cc nL own D cy base) {ci j idx a : Nat} (hd : decode cc pc = .ok (.getfield idx, 3)) (h7 : ci < 7) (hj : j < nfO ci) (hw : Cond.fieldLink own idx (TO ci j).1 (TO ci j).2.1 (TO ci j).2.2.1 ∈ lwG) (hk : knd G a = ci) (hr : isRf ci j = true)
    (kk : JJ p l e R s m args below meth c nL D cy base S0 Q (pc + 3) ls (.inr (.inl (gr G a j)) :: st) G k n) : JJ p l e R s m args below meth c nL D cy base S0 Q pc ls (.inr (.inl (some a)) :: st) G k n := by
  intro H locs la h1 h2 h3 h4
  obtain ⟨ws, q0, hP, hD, he, -⟩ := h2.at (hlt14 hk (by omega))
  rw [enc_o cy hk h7] at he
  have hk' : (G a).1 = ci := hk
  exact va_get (D := D) (ci := ci) (v := va_rf (gr G a j)) C.1 C.2.1 C.2.2.2.2.1 (in_ok ci h7) C.2.2.2.1 C.2.2.2.2.2.1 hP q0 he (vw_at ci h7) j hj (C.2.2.2.2.1 _ hw) (fun _ h => h) (by rw [encF_at hj]; simp only [encF, hk', hr]; rfl) hd (kk H locs la h1 h2 h3 h4)
theorem j_putI (C : Cx p s m args c cc nL own D cy base) {ci j idx a : Nat} {x : Int32} (hd : decode cc pc = .ok (.putfield idx, 3)) (h7 : ci < 7) (hj : j < nfO ci) (hw : Cond.fieldLink own idx (TO ci j).1 (TO ci j).2.1 (TO ci j).2.2.1 ∈ lwG) (hk : knd G a = ci) (hr : isRf ci j = false) (hfin : (TO ci j).2.2.2 = false ∨ ((TO ci j).2.2.2 = true ∧ meth.name = "<init>" ∧ (TO ci j).1 = own))
    (hn : narrow (tyOf ci j) (.int x) = .int x) (hf : fits (tyOf ci j) (.int x) = true)
    (kk : JJ p l e R s m args below meth c nL D cy base S0 Q (pc + 3) ls st (sI G a j x) k n) : JJ p l e R s m args below meth c nL D cy base S0 Q pc ls (.inl x :: .inr (.inl (some a)) :: st) G k n := by
  intro H locs la h1 h2 h3 h4
  obtain ⟨ws, q0, hP, hD, he, hset⟩ := h2.at (hlt14 hk (by omega))
  rw [enc_o cy hk h7] at he
  have hk' : (G a).1 = ci := hk
  have hlen : j < ((List.range (nfO ci)).map (encF (G a))).length := by simpa using hj
  have key : ∀ (H1 : Heap), va_P D vwCl (ws.set q0 (a, .inr (ci, ((List.range (nfO ci)).map (encF (G a))).set j (.int x)))) H1 → va_D (Ab base) (ws.set q0 (a, .inr (ci, ((List.range (nfO ci)).map (encF (G a))).set j (.int x)))) → Hp D cy base S0 (sI G a j x) H1 := by
    intro H1 q1 q2
    rw [encF_set (c1 := sI G a j x a) (fun i hi => by simp [sI, encF, va_up, hi]) (by simp [sI, encF, va_up, hk', hr]), ← enc_o cy (c := sI G a j x a) (by simp [sI, va_up, hk']) h7] at q1 q2
    have := hset _ H1 (by simp [sI, va_up, knd]) q1 q2
    have e : va_up G a (sI G a j x a) = sI G a j x := by
      unfold sI; funext b; unfold va_up; split <;> simp_all
    rw [e] at this
    exact this
  rcases hfin with hfin | ⟨hfin, hin, hown⟩
  · exact va_put (D := D) (ci := ci) (v := .int x) C.1 C.2.1 C.2.2.2.2.1 (in_ok ci h7) (tyOf ci) (ty_ok ci h7) (nm_ok ci h7) C.2.2.2.1 C.2.2.2.2.2.1 hP hD h3 q0 he (vw_at ci h7) j hj (C.2.2.2.2.1 _ hw) (fun _ h => h) hfin (ty_ok ci h7 j hj) hn hf hlen hd (fun H1 locs1 q1 q2 q3 => kk H1 locs1 la h1 (key H1 q1 q2) q3 h4)
  · exact va_putF (D := D) (ci := ci) (v := .int x) C.1 C.2.1 C.2.2.2.2.1 (in_ok ci h7) (tyOf ci) (ty_ok ci h7) (nm_ok ci h7) C.2.2.2.1 C.2.2.2.2.2.1 hP hD h3 q0 he (vw_at ci h7) j hj (C.2.2.2.2.1 _ hw) (fun _ h => h) hfin hin hown (ty_ok ci h7 j hj) hn hf hlen hd (fun H1 locs1 q1 q2 q3 => kk H1 locs1 la h1 (key H1 q1 q2) q3 h4)
theorem j_putR (C : Cx p s m args c cc nL own D cy base) {ci j idx a : Nat} {x : Option Nat} (hd : decode cc pc = .ok (.putfield idx, 3)) (h7 : ci < 7) (hj : j < nfO ci) (hw : Cond.fieldLink own idx (TO ci j).1 (TO ci j).2.1 (TO ci j).2.2.1 ∈ lwG) (hk : knd G a = ci) (hr : isRf ci j = true) (hfin : (TO ci j).2.2.2 = false ∨ ((TO ci j).2.2.2 = true ∧ meth.name = "<init>" ∧ (TO ci j).1 = own))
    (hn : narrow (tyOf ci j) (va_rf x) = va_rf x) (hf : fits (tyOf ci j) (va_rf x) = true)
    (kk : JJ p l e R s m args below meth c nL D cy base S0 Q (pc + 3) ls st (sR G a j x) k n) : JJ p l e R s m args below meth c nL D cy base S0 Q pc ls (.inr (.inl x) :: .inr (.inl (some a)) :: st) G k n := by
  intro H locs la h1 h2 h3 h4
  obtain ⟨ws, q0, hP, hD, he, hset⟩ := h2.at (hlt14 hk (by omega))
  rw [enc_o cy hk h7] at he
  have hk' : (G a).1 = ci := hk
  have hlen : j < ((List.range (nfO ci)).map (encF (G a))).length := by simpa using hj
  have key : ∀ (H1 : Heap), va_P D vwCl (ws.set q0 (a, .inr (ci, ((List.range (nfO ci)).map (encF (G a))).set j (va_rf x)))) H1 → va_D (Ab base) (ws.set q0 (a, .inr (ci, ((List.range (nfO ci)).map (encF (G a))).set j (va_rf x)))) → Hp D cy base S0 (sR G a j x) H1 := by
    intro H1 q1 q2
    rw [encF_set (c1 := sR G a j x a) (fun i hi => by simp [sR, encF, va_up, hi]) (by simp [sR, encF, va_up, hk', hr]), ← enc_o cy (c := sR G a j x a) (by simp [sR, va_up, hk']) h7] at q1 q2
    have := hset _ H1 (by simp [sR, va_up, knd]) q1 q2
    have e : va_up G a (sR G a j x a) = sR G a j x := by
      unfold sR; funext b; unfold va_up; split <;> simp_all
    rw [e] at this
    exact this
  rcases hfin with hfin | ⟨hfin, hin, hown⟩
  · exact va_put (D := D) (ci := ci) (v := va_rf x) C.1 C.2.1 C.2.2.2.2.1 (in_ok ci h7) (tyOf ci) (ty_ok ci h7) (nm_ok ci h7) C.2.2.2.1 C.2.2.2.2.2.1 hP hD h3 q0 he (vw_at ci h7) j hj (C.2.2.2.2.1 _ hw) (fun _ h => h) hfin (ty_ok ci h7 j hj) hn hf hlen hd (fun H1 locs1 q1 q2 q3 => kk H1 locs1 la h1 (key H1 q1 q2) q3 h4)
  · exact va_putF (D := D) (ci := ci) (v := va_rf x) C.1 C.2.1 C.2.2.2.2.1 (in_ok ci h7) (tyOf ci) (ty_ok ci h7) (nm_ok ci h7) C.2.2.2.1 C.2.2.2.2.2.1 hP hD h3 q0 he (vw_at ci h7) j hj (C.2.2.2.2.1 _ hw) (fun _ h => h) hfin hin hown (ty_ok ci h7 j hj) hn hf hlen hd (fun H1 locs1 q1 q2 q3 => kk H1 locs1 la h1 (key H1 q1 q2) q3 h4)
theorem j_iald (C : Cx p s m args c cc nL own D cy base) {a : Nat} {i : Int32} (hd : decode cc pc = .ok (.iaload, 1)) (hk : knd G a = 8) (hi : vp_in i (gn G a)) (kk : JJ p l e R s m args below meth c nL D cy base S0 Q (pc + 1) ls (.inl (gi G a i.toNatClampNeg) :: st) G k n) : JJ p l e R s m args below meth c nL D cy base S0 Q pc ls (.inl i :: .inr (.inl (some a)) :: st) G k n := by
  intro H locs la h1 h2 h3 h4
  obtain ⟨ws, q0, hP, hD, he, -⟩ := h2.at (hlt14 hk (by omega))
  rw [enc_i cy hk (by omega) (by omega)] at he
  exact va_iald C.1 C.2.1 C.2.2.2.2.2.1 hP q0 1 he rfl hi hd (kk H locs la h1 h2 h3 h4)
theorem j_bald (C : Cx p s m args c cc nL own D cy base) {a : Nat} {i : Int32} (hd : decode cc pc = .ok (.baload, 1)) (hk : knd G a = 7) (hi : vp_in i (gn G a)) (kk : JJ p l e R s m args below meth c nL D cy base S0 Q (pc + 1) ls (.inl (gi G a i.toNatClampNeg) :: st) G k n) : JJ p l e R s m args below meth c nL D cy base S0 Q pc ls (.inl i :: .inr (.inl (some a)) :: st) G k n := by
  intro H locs la h1 h2 h3 h4
  obtain ⟨ws, q0, hP, hD, he, -⟩ := h2.at (hlt14 hk (by omega))
  rw [enc_i cy hk (by omega) (by omega)] at he
  exact va_bald C.1 C.2.1 C.2.2.2.2.2.1 hP q0 0 he rfl hi hd (kk H locs la h1 h2 h3 h4)
theorem j_zald (C : Cx p s m args c cc nL own D cy base) {a : Nat} {i : Int32} (hd : decode cc pc = .ok (.baload, 1)) (hk : knd G a = 9) (hi : vp_in i (gn G a)) (kk : JJ p l e R s m args below meth c nL D cy base S0 Q (pc + 1) ls (.inl (gi G a i.toNatClampNeg) :: st) G k n) : JJ p l e R s m args below meth c nL D cy base S0 Q pc ls (.inl i :: .inr (.inl (some a)) :: st) G k n := by
  intro H locs la h1 h2 h3 h4
  obtain ⟨ws, q0, hP, hD, he, -⟩ := h2.at (hlt14 hk (by omega))
  rw [enc_i cy hk (by omega) (by omega)] at he
  exact va_zald C.1 C.2.1 C.2.2.2.2.2.1 hP q0 2 he rfl hi hd (kk H locs la h1 h2 h3 h4)
theorem j_lald (C : Cx p s m args c cc nL own D cy base) {a : Nat} {i : Int32} (hd : decode cc pc = .ok (.laload, 1)) (hk : knd G a = 10) (hi : vp_in i (gn G a)) (kk : JJ p l e R s m args below meth c nL D cy base S0 Q (pc + 1) ls (.inr (.inr (gl G a i.toNatClampNeg)) :: st) G k n) : JJ p l e R s m args below meth c nL D cy base S0 Q pc ls (.inl i :: .inr (.inl (some a)) :: st) G k n := by
  intro H locs la h1 h2 h3 h4
  obtain ⟨ws, q0, hP, hD, he, -⟩ := h2.at (hlt14 hk (by omega))
  rw [enc_l cy hk] at he
  exact va_lald C.1 C.2.1 C.2.2.2.2.2.1 hP q0 3 he rfl hi hd (kk H locs la h1 h2 h3 h4)
theorem j_aald (C : Cx p s m args c cc nL own D cy base) {a : Nat} {i : Int32} (hd : decode cc pc = .ok (.aaload, 1)) (hk : knd G a = 11 ∨ knd G a = 12 ∨ knd G a = 13) (hi : vp_in i (gn G a)) (kk : JJ p l e R s m args below meth c nL D cy base S0 Q (pc + 1) ls (.inr (.inl (gr G a i.toNatClampNeg)) :: st) G k n) : JJ p l e R s m args below meth c nL D cy base S0 Q pc ls (.inl i :: .inr (.inl (some a)) :: st) G k n := by
  intro H locs la h1 h2 h3 h4
  obtain ⟨ws, q0, hP, hD, he, -⟩ := h2.at (a := a) (by omega)
  rcases hk with hk | hk | hk
  · rw [enc_r cy hk (by omega)] at he
    exact va_aldq C.1 C.2.1 C.2.2.2.2.2.1 hP q0 4 he rfl hi hd (kk H locs la h1 h2 h3 h4)
  · rw [enc_r cy hk (by omega)] at he
    exact va_aldq C.1 C.2.1 C.2.2.2.2.2.1 hP q0 5 he rfl hi hd (kk H locs la h1 h2 h3 h4)
  · rw [enc_r cy hk (by omega)] at he
    exact va_aldq C.1 C.2.1 C.2.2.2.2.2.1 hP q0 6 he rfl hi hd (kk H locs la h1 h2 h3 h4)
theorem j_alen (C : Cx p s m args c cc nL own D cy base) {a : Nat} (hd : decode cc pc = .ok (.arraylength, 1)) (hk : 7 ≤ knd G a ∧ knd G a < 14) (kk : JJ p l e R s m args below meth c nL D cy base S0 Q (pc + 1) ls (.inl (nI (gn G a)) :: st) G k n) : JJ p l e R s m args below meth c nL D cy base S0 Q pc ls (.inr (.inl (some a)) :: st) G k n := by
  intro H locs la h1 h2 h3 h4
  obtain ⟨ws, q0, hP, hD, he, -⟩ := h2.at (a := a) (by omega)
  have h : knd G a = 7 ∨ knd G a = 8 ∨ knd G a = 9 ∨ knd G a = 10 ∨ knd G a = 11 ∨ knd G a = 12 ∨ knd G a = 13 := by omega
  rcases h with hk | hk | hk | hk | hk | hk | hk
  · rw [enc_i cy hk (by omega) (by omega)] at he
    exact va_alen (v := nI (gn G a)) C.1 C.2.1 C.2.2.2.2.2.1 hP q0 0 he (ty := .byte) rfl rfl hd (kk H locs la h1 h2 h3 h4)
  · rw [enc_i cy hk (by omega) (by omega)] at he
    exact va_alen (v := nI (gn G a)) C.1 C.2.1 C.2.2.2.2.2.1 hP q0 1 he (ty := .int) rfl rfl hd (kk H locs la h1 h2 h3 h4)
  · rw [enc_i cy hk (by omega) (by omega)] at he
    exact va_alen (v := nI (gn G a)) C.1 C.2.1 C.2.2.2.2.2.1 hP q0 2 he (ty := .boolean) rfl rfl hd (kk H locs la h1 h2 h3 h4)
  · rw [enc_l cy hk] at he
    exact va_alen (v := nI (gn G a)) C.1 C.2.1 C.2.2.2.2.2.1 hP q0 3 he (ty := .long) rfl rfl hd (kk H locs la h1 h2 h3 h4)
  · rw [enc_r cy hk (by omega)] at he
    exact va_alen (v := nI (gn G a)) C.1 C.2.1 C.2.2.2.2.2.1 hP q0 4 he (ty := .object RX0) rfl rfl hd (kk H locs la h1 h2 h3 h4)
  · rw [enc_r cy hk (by omega)] at he
    exact va_alen (v := nI (gn G a)) C.1 C.2.1 C.2.2.2.2.2.1 hP q0 5 he (ty := .object RX1) rfl rfl hd (kk H locs la h1 h2 h3 h4)
  · rw [enc_r cy hk (by omega)] at he
    exact va_alen (v := nI (gn G a)) C.1 C.2.1 C.2.2.2.2.2.1 hP q0 6 he (ty := .object RX4) rfl rfl hd (kk H locs la h1 h2 h3 h4)
theorem j_iast (C : Cx p s m args c cc nL own D cy base) {a : Nat} {i x : Int32} (hd : decode cc pc = .ok (.iastore, 1)) (hk : knd G a = 8) (hi : vp_in i (gn G a)) (kk : JJ p l e R s m args below meth c nL D cy base S0 Q (pc + 1) ls st (sI G a i.toNatClampNeg x) k n) : JJ p l e R s m args below meth c nL D cy base S0 Q pc ls (.inl x :: .inl i :: .inr (.inl (some a)) :: st) G k n := by
  intro H locs la h1 h2 h3 h4
  obtain ⟨ws, q0, hP, hD, he, hset⟩ := h2.at (hlt14 hk (by omega))
  rw [enc_i cy hk (by omega) (by omega)] at he
  refine va_iast C.1 C.2.1 C.2.2.2.2.2.1 hP hD h3 q0 1 he rfl hi hd (fun H1 locs1 q1 q2 q3 => kk H1 locs1 la h1 ?_ q3 h4)
  have e2 : enc cy (sI G a i.toNatClampNeg x a) = .inl (cy 8, (G a).2.1, .inl (upd (G a).2.2.1 i.toNatClampNeg x)) := by
    have hk' : (G a).1 = 8 := hk
    rw [enc_i cy (c := sI G a i.toNatClampNeg x a) (kd := 8) (by simp [sI, va_up, hk']) (by omega) (by omega)]
    simp [sI, va_up, upd]
    rfl
  have e3 : va_up G a (sI G a i.toNatClampNeg x a) = sI G a i.toNatClampNeg x := by
    unfold sI; funext b; unfold va_up; split <;> simp_all
  rw [← e3]
  exact hset _ H1 (by simp [sI, va_up, knd]) (by rw [e2]; exact q1) (by rw [e2]; exact q2)
theorem j_bast (C : Cx p s m args c cc nL own D cy base) {a : Nat} {i x : Int32} (hd : decode cc pc = .ok (.bastore, 1)) (hk : knd G a = 7) (hi : vp_in i (gn G a)) (kk : JJ p l e R s m args below meth c nL D cy base S0 Q (pc + 1) ls st (sI G a i.toNatClampNeg (vp_nar .byte x)) k n) : JJ p l e R s m args below meth c nL D cy base S0 Q pc ls (.inl x :: .inl i :: .inr (.inl (some a)) :: st) G k n := by
  intro H locs la h1 h2 h3 h4
  obtain ⟨ws, q0, hP, hD, he, hset⟩ := h2.at (hlt14 hk (by omega))
  rw [enc_i cy hk (by omega) (by omega)] at he
  refine va_bast C.1 C.2.1 C.2.2.2.2.2.1 hP hD h3 q0 0 he rfl hi hd (fun H1 locs1 q1 q2 q3 => kk H1 locs1 la h1 ?_ q3 h4)
  have e2 : enc cy (sI G a i.toNatClampNeg (vp_nar .byte x) a) = .inl (cy 7, (G a).2.1, .inl (upd (G a).2.2.1 i.toNatClampNeg (vp_nar .byte x))) := by
    have hk' : (G a).1 = 7 := hk
    rw [enc_i cy (c := sI G a i.toNatClampNeg (vp_nar .byte x) a) (kd := 7) (by simp [sI, va_up, hk']) (by omega) (by omega)]
    simp [sI, va_up, upd]
    rfl
  have e3 : va_up G a (sI G a i.toNatClampNeg (vp_nar .byte x) a) = sI G a i.toNatClampNeg (vp_nar .byte x) := by
    unfold sI; funext b; unfold va_up; split <;> simp_all
  rw [← e3]
  exact hset _ H1 (by simp [sI, va_up, knd]) (by rw [e2]; exact q1) (by rw [e2]; exact q2)
theorem j_zast (C : Cx p s m args c cc nL own D cy base) {a : Nat} {i x : Int32} (hd : decode cc pc = .ok (.bastore, 1)) (hk : knd G a = 9) (hi : vp_in i (gn G a)) (kk : JJ p l e R s m args below meth c nL D cy base S0 Q (pc + 1) ls st (sI G a i.toNatClampNeg (vp_nar .boolean x)) k n) : JJ p l e R s m args below meth c nL D cy base S0 Q pc ls (.inl x :: .inl i :: .inr (.inl (some a)) :: st) G k n := by
  intro H locs la h1 h2 h3 h4
  obtain ⟨ws, q0, hP, hD, he, hset⟩ := h2.at (hlt14 hk (by omega))
  rw [enc_i cy hk (by omega) (by omega)] at he
  refine va_zast C.1 C.2.1 C.2.2.2.2.2.1 hP hD h3 q0 2 he rfl hi hd (fun H1 locs1 q1 q2 q3 => kk H1 locs1 la h1 ?_ q3 h4)
  have e2 : enc cy (sI G a i.toNatClampNeg (vp_nar .boolean x) a) = .inl (cy 9, (G a).2.1, .inl (upd (G a).2.2.1 i.toNatClampNeg (vp_nar .boolean x))) := by
    have hk' : (G a).1 = 9 := hk
    rw [enc_i cy (c := sI G a i.toNatClampNeg (vp_nar .boolean x) a) (kd := 9) (by simp [sI, va_up, hk']) (by omega) (by omega)]
    simp [sI, va_up, upd]
    rfl
  have e3 : va_up G a (sI G a i.toNatClampNeg (vp_nar .boolean x) a) = sI G a i.toNatClampNeg (vp_nar .boolean x) := by
    unfold sI; funext b; unfold va_up; split <;> simp_all
  rw [← e3]
  exact hset _ H1 (by simp [sI, va_up, knd]) (by rw [e2]; exact q1) (by rw [e2]; exact q2)
theorem j_last (C : Cx p s m args c cc nL own D cy base) {a : Nat} {i : Int32} {x : Int64} (hd : decode cc pc = .ok (.lastore, 1)) (hk : knd G a = 10) (hi : vp_in i (gn G a)) (kk : JJ p l e R s m args below meth c nL D cy base S0 Q (pc + 1) ls st (sL G a i.toNatClampNeg x) k n) : JJ p l e R s m args below meth c nL D cy base S0 Q pc ls (.inr (.inr x) :: .inl i :: .inr (.inl (some a)) :: st) G k n := by
  intro H locs la h1 h2 h3 h4
  obtain ⟨ws, q0, hP, hD, he, hset⟩ := h2.at (hlt14 hk (by omega))
  rw [enc_l cy hk] at he
  refine va_last C.1 C.2.1 C.2.2.2.2.2.1 hP hD h3 q0 3 he rfl hi hd (fun H1 locs1 q1 q2 q3 => kk H1 locs1 la h1 ?_ q3 h4)
  have e2 : enc cy (sL G a i.toNatClampNeg x a) = .inl (cy 10, (G a).2.1, .inr (.inl (vp_updL (G a).2.2.2.2 i.toNatClampNeg x))) := by
    have hk' : (G a).1 = 10 := hk
    rw [enc_l cy (c := sL G a i.toNatClampNeg x a) (by simp [sL, va_up, hk'])]
    simp only [sL, va_up, if_pos]
    rfl
  have e3 : va_up G a (sL G a i.toNatClampNeg x a) = sL G a i.toNatClampNeg x := by
    unfold sL; funext b; unfold va_up; split <;> simp_all
  rw [← e3]
  exact hset _ H1 (by simp [sL, va_up, knd]) (by rw [e2]; exact q1) (by rw [e2]; exact q2)
theorem cells_two {D : va_G} {cy : Nat → ClassId} {base : Nat} {S0 G : GG} {H : Heap} (h : Hp D cy base S0 G H) {a b : Nat} (ha : knd G a < 14) (hb : knd G b < 14) :
    ∃ (ws : va_W) (q0 q1 : Nat), va_P D vwCl ws H ∧ va_D (Ab base) ws ∧ ws[q0]? = some (a, enc cy (G a)) ∧ ws[q1]? = some (b, enc cy (G b)) ∧
      ∀ (c : Cl) (H1 : Heap), c.1 = knd G a → va_P D vwCl (ws.set q0 (a, enc cy c)) H1 → va_D (Ab base) (ws.set q0 (a, enc cy c)) → Hp D cy base S0 (va_up G a c) H1 := by
  obtain ⟨L, hL, h14, hP, hD⟩ := id h
  have haL : a ∈ L := (hL a).mpr ha
  obtain ⟨k, hk⟩ := va_pl_get (X := []) (f := fun a => enc cy (G a)) haL
  obtain ⟨k2, hk2⟩ := va_pl_get (X := []) (f := fun a => enc cy (G a)) ((hL b).mpr hb)
  refine ⟨[] ++ va_pl L (fun a => enc cy (G a)), k, k2, hP, hD, hk, hk2, fun c H1 hc hP1 hD1 => ?_⟩
  have hkk : ∀ b, knd (va_up G a c) b = knd G b := fun b => by
    unfold knd va_up at *
    by_cases hb : b = a
    · subst hb; simp [hc]
    · simp [hb]
  rw [va_pl_set (X := []) hD haL hk, plc] at hP1 hD1
  refine ⟨L, fun b => by rw [hkk]; exact hL b, fun b hb => ?_, hP1, hD1⟩
  rw [hkk] at hb
  have hne : b ≠ a := fun e => by subst e; omega
  have hu : va_up G a c b = G b := by unfold va_up; rw [if_neg hne]
  rcases h14 b hb with ⟨q1, q2⟩ | q
  · exact Or.inl ⟨q1, by rw [hu]; exact q2⟩
  · exact Or.inr (by rw [hkk]; exact q)
theorem encR_up {cy : Nat → ClassId} {G : GG} {a kd i : Nat} {x : Option Nat} (hk : knd G a = kd) (h : 10 < kd) : enc cy (sR G a i x a) = .inl (cy kd, (G a).2.1, .inr (.inr (.inr (.inr (va_up (G a).2.2.2.1 i x))))) := by
  have hk' : (G a).1 = kd := hk
  rw [enc_r cy (c := sR G a i x a) (kd := kd) (by simp [sR, va_up, hk']) h]
  simp [sR, va_up]
theorem sR_up {G : GG} {a i : Nat} {x : Option Nat} : va_up G a (sR G a i x a) = sR G a i x := by
  unfold sR; funext b; unfold va_up; split <;> simp_all
theorem j_aast11 (C : Cx p s m args c cc nL own D cy base) {a v : Nat} {i : Int32} (hd : decode cc pc = .ok (.aastore, 1)) (hk : knd G a = 11) (hv : knd G v = 0) (hi : vp_in i (gn G a)) (kk : JJ p l e R s m args below meth c nL D cy base S0 Q (pc + 1) ls st (sR G a i.toNatClampNeg (some v)) k n) : JJ p l e R s m args below meth c nL D cy base S0 Q pc ls (.inr (.inl (some v)) :: .inl i :: .inr (.inl (some a)) :: st) G k n := by
  intro H locs la h1 h2 h3 h4
  obtain ⟨ws, q0, q1, hP, hD, he, he1, hset⟩ := cells_two h2 (hlt14 hk (by omega)) (hlt14 hv (by omega))
  rw [enc_r cy hk (by omega)] at he
  rw [enc_o cy hv (by omega)] at he1
  refine va_astq C.1 C.2.1 C.2.2.2.2.2.1 hP hD h3 q0 4 q1 0 (r := (RO 0, TO 0, nfO 0)) he rfl he1 (vw_at 0 (by omega)) hi hd (fun H1 locs1 g1 g2 g3 => kk H1 locs1 la h1 ?_ g3 h4)
  rw [← sR_up]
  exact hset _ H1 (by simp [sR, va_up, knd]) (by rw [encR_up hk (by omega)]; exact g1) (by rw [encR_up hk (by omega)]; exact g2)
theorem j_aast12 (C : Cx p s m args c cc nL own D cy base) {a v : Nat} {i : Int32} (hd : decode cc pc = .ok (.aastore, 1)) (hk : knd G a = 12) (hv : knd G v = 1) (hi : vp_in i (gn G a)) (kk : JJ p l e R s m args below meth c nL D cy base S0 Q (pc + 1) ls st (sR G a i.toNatClampNeg (some v)) k n) : JJ p l e R s m args below meth c nL D cy base S0 Q pc ls (.inr (.inl (some v)) :: .inl i :: .inr (.inl (some a)) :: st) G k n := by
  intro H locs la h1 h2 h3 h4
  obtain ⟨ws, q0, q1, hP, hD, he, he1, hset⟩ := cells_two h2 (hlt14 hk (by omega)) (hlt14 hv (by omega))
  rw [enc_r cy hk (by omega)] at he
  rw [enc_o cy hv (by omega)] at he1
  refine va_astq C.1 C.2.1 C.2.2.2.2.2.1 hP hD h3 q0 5 q1 1 (r := (RO 1, TO 1, nfO 1)) he rfl he1 (vw_at 1 (by omega)) hi hd (fun H1 locs1 g1 g2 g3 => kk H1 locs1 la h1 ?_ g3 h4)
  rw [← sR_up]
  exact hset _ H1 (by simp [sR, va_up, knd]) (by rw [encR_up hk (by omega)]; exact g1) (by rw [encR_up hk (by omega)]; exact g2)
theorem j_aast13 (C : Cx p s m args c cc nL own D cy base) {a v : Nat} {i : Int32} (hd : decode cc pc = .ok (.aastore, 1)) (hk : knd G a = 13) (hv : knd G v = 4) (hi : vp_in i (gn G a)) (kk : JJ p l e R s m args below meth c nL D cy base S0 Q (pc + 1) ls st (sR G a i.toNatClampNeg (some v)) k n) : JJ p l e R s m args below meth c nL D cy base S0 Q pc ls (.inr (.inl (some v)) :: .inl i :: .inr (.inl (some a)) :: st) G k n := by
  intro H locs la h1 h2 h3 h4
  obtain ⟨ws, q0, q1, hP, hD, he, he1, hset⟩ := cells_two h2 (hlt14 hk (by omega)) (hlt14 hv (by omega))
  rw [enc_r cy hk (by omega)] at he
  rw [enc_o cy hv (by omega)] at he1
  refine va_astq C.1 C.2.1 C.2.2.2.2.2.1 hP hD h3 q0 6 q1 4 (r := (RO 4, TO 4, nfO 4)) he rfl he1 (vw_at 4 (by omega)) hi hd (fun H1 locs1 g1 g2 g3 => kk H1 locs1 la h1 ?_ g3 h4)
  rw [← sR_up]
  exact hset _ H1 (by simp [sR, va_up, knd]) (by rw [encR_up hk (by omega)]; exact g1) (by rw [encR_up hk (by omega)]; exact g2)
theorem j_aastN (C : Cx p s m args c cc nL own D cy base) {a : Nat} {i : Int32} (hd : decode cc pc = .ok (.aastore, 1)) (hk : knd G a = 12) (hi : vp_in i (gn G a)) (kk : JJ p l e R s m args below meth c nL D cy base S0 Q (pc + 1) ls st (sR G a i.toNatClampNeg none) k n) : JJ p l e R s m args below meth c nL D cy base S0 Q pc ls (.inr (.inl none) :: .inl i :: .inr (.inl (some a)) :: st) G k n := by
  intro H locs la h1 h2 h3 h4
  obtain ⟨ws, q0, hP, hD, he, hset⟩ := h2.at (hlt14 hk (by omega))
  rw [enc_r cy hk (by omega)] at he
  refine va_astqN C.1 C.2.1 C.2.2.2.2.2.1 hP hD h3 q0 5 he rfl hi hd (fun H1 locs1 g1 g2 g3 => kk H1 locs1 la h1 ?_ g3 h4)
  rw [← sR_up]
  exact hset _ H1 (by simp [sR, va_up, knd]) (by rw [encR_up hk (by omega)]; exact g1) (by rw [encR_up hk (by omega)]; exact g2)
end JH
