theorem Hp.more2 {D : va_G} {cy : Nat → ClassId} {base : Nat} {S0 G : GG} {H : Heap} (h : Hp D cy base S0 G H) :
    ∃ ws : va_W, va_P D vwCl ws H ∧ va_D (Ab base) ws ∧ (∀ a, knd G a < 14 → ∃ k : Nat, ws[k]? = some (a, enc cy (G a))) ∧
      (∀ (q : Nat) (c : Cl) (H1 : Heap), c.1 < 14 → va_P D vwCl (ws ++ [(q, enc cy c)]) H1 → va_D (Ab base) (ws ++ [(q, enc cy c)]) → knd G q = 99 ∧ Hp D cy base S0 (va_up G q c) H1) ∧
      (∀ (a k : Nat) (c : Cl) (H1 : Heap), ws[k]? = some (a, enc cy (G a)) → knd G a < 14 → c.1 = knd G a → va_P D vwCl (ws.set k (a, enc cy c)) H1 → va_D (Ab base) (ws.set k (a, enc cy c)) → Hp D cy base S0 (va_up G a c) H1) := by
  obtain ⟨L, hL, h14, hP, hD⟩ := h
  refine ⟨va_pl L (fun a => enc cy (G a)), hP, hD, fun a ha => ?_, fun q c H1 hc hP1 hD1 => ?_, fun a k c H1 hk ha hc hP1 hD1 => ?_⟩
  · exact va_pl_get (X := []) (f := fun a => enc cy (G a)) ((hL a).mpr ha)
  · have hl : (va_pl L (fun a => enc cy (G a)) ++ [(q, enc cy c)])[(va_pl L (fun a => enc cy (G a))).length]? = some (q, enc cy c) := by simp
    have hqA : base ≤ q := hD1.2 _ _ hl
    have hqL : q ∉ L := fun hq => by
      obtain ⟨k, hk⟩ := va_pl_get (X := []) (f := fun a => enc cy (G a)) hq
      rw [List.nil_append] at hk
      have hlt := (List.getElem?_eq_some_iff.mp hk).1
      have hk2 : (va_pl L (fun a => enc cy (G a)) ++ [(q, enc cy c)])[k]? = some (q, enc cy (G q)) := by rw [List.getElem?_append_left hlt]; exact hk
      have := hD1.1 _ _ _ _ hk2 hl rfl
      omega
    have hq99 : knd G q = 99 := by
      have hge : 14 ≤ knd G q := Nat.not_lt.mp fun hlt => hqL ((hL q).mpr hlt)
      rcases h14 q hge with ⟨q1, -⟩ | q
      · omega
      · exact q
    refine ⟨hq99, L ++ [q], fun b => ?_, fun b hb => ?_, ?_, ?_⟩
    · by_cases hb : b = q
      · subst hb
        have : knd (va_up G b c) b = c.1 := by unfold knd va_up; simp
        rw [this]; simp [hc]
      · have : knd (va_up G q c) b = knd G b := by unfold knd va_up; simp [hb]
        rw [this, List.mem_append, List.mem_singleton]
        exact ⟨fun h => h.elim (hL b).mp (fun e => absurd e hb), fun h => Or.inl ((hL b).mpr h)⟩
    · by_cases hbq : b = q
      · subst hbq
        have : knd (va_up G b c) b = c.1 := by unfold knd va_up; simp
        rw [this] at hb; omega
      · have e1 : va_up G q c b = G b := by unfold va_up; rw [if_neg hbq]
        have e2 : knd (va_up G q c) b = knd G b := by unfold knd; rw [e1]
        rw [e2] at hb ⊢
        rw [e1]
        exact h14 b hb
    · rw [← plc, ← va_pl_push hqL]; exact hP1
    · rw [← plc, ← va_pl_push hqL]; exact hD1
  · have haL : a ∈ L := (hL a).mpr ha
    have hkk : ∀ b, knd (va_up G a c) b = knd G b := fun b => by
      unfold knd va_up at *
      by_cases hb : b = a
      · subst hb; simp [hc]
      · simp [hb]
    have e := va_pl_set (X := []) (e := enc cy c) hD haL hk
    simp only [List.nil_append] at e
    rw [e, plc] at hP1 hD1
    refine ⟨L, fun b => by rw [hkk]; exact hL b, fun b hb => ?_, hP1, hD1⟩
    rw [hkk] at hb
    have hne : b ≠ a := fun e => by subst e; omega
    have hu : va_up G a c b = G b := by unfold va_up; rw [if_neg hne]
    rcases h14 b hb with ⟨q1, q2⟩ | q
    · exact Or.inl ⟨q1, by rw [hu]; exact q2⟩
    · exact Or.inr (by rw [hkk]; exact q)
theorem byF {x : Int32} (h : x.toInt8.toInt32 = x) : fits .byte (.int x) = true := by
  rw [← h]
  generalize x.toInt8 = y
  have h1 := Int8.le_toInt y
  have h2 := Int8.toInt_lt y
  show (decide (-128 ≤ y.toInt32) && decide (y.toInt32 ≤ 127)) = true
  rw [Bool.and_eq_true, decide_eq_true_iff, decide_eq_true_iff, Int32.le_iff_toInt_le, Int32.le_iff_toInt_le, Int8.toInt_toInt32]
  have e1 : (-128 : Int32).toInt = -128 := rfl
  have e2 : (127 : Int32).toInt = 127 := rfl
  rw [e1, e2]; omega
section JK
variable {p : Program} {l : Launch} {e : Env} {R : Room} {s : State} {m : MethodId} {args : Array Value} {below : List Frame} {meth : Method} {c : Code} {nL : Nat} {D : va_G} {cy : Nat → ClassId} {base : Nat} {S0 : GG} {Q : State → Prop}
variable {cc : ByteArray} {pc : Nat} {ls : List (Option AV)} {G : GG} {k n : Nat}
theorem j_clone7 (C : Cx p s m args c cc nL RJ7 D cy base) (hWd : Wd D cy base s s.heap) {a : Nat} (ha : knd G a = 7) (hf : ∀ j, j < gn G a → (gi G a j).toInt8.toInt32 = gi G a j) (hd : decode cc pc = .ok (.invokevirtual 310, 3)) (hfr : 1 ≤ R.frames) (hlo : 14 ≤ R.locals) (hc : k + 1 ≤ R.cells) (hs : n + gn G a ≤ R.slots)
    (kk : ∀ q, knd G q = 99 → JJ p l e R s m args below meth c nL D cy base S0 Q (pc + 3) ls [.inr (.inl (some q))] (va_up G q (G a)) (k + 1) (n + gn G a)) : JJ p l e R s m args below meth c nL D cy base S0 Q pc ls [.inr (.inl (some a))] G k n := by
  intro H locs la h1 h2 h3 h4
  obtain ⟨ws, hP, hD, hat, hmore, -⟩ := h2.more2
  obtain ⟨q0, hq0⟩ := hat a (by omega)
  have e7 : enc cy (G a) = .inl (cy 7, gn G a, .inl (gi G a)) := enc_i cy ha (by decide) (by decide)
  have hnm : s.vm.findClass "[B" = some (cy 7) := (C.2.2.2.2.2.1.2 0 (cy 7, .byte) rfl).2
  refine va_clone (own := RJ7) (ad := "[B") (q0 := q0) (t0 := 0) (ty := .byte) (tys := tysY cy) C.1 C.2.1 (C.2.2.1.trans h4.1.symm) C.2.2.2.1 (C.2.2.2.2.1 _ (by decide +kernel)) (C.2.2.2.2.1 _ (by decide +kernel)) (C.2.2.2.2.1 _ (by decide +kernel)) (C.2.2.2.2.1 _ (by decide +kernel)) (C.2.2.2.2.1 _ (by decide +kernel)) (hWd.2.2.2.2.2.1 ("[B", "java/lang/Cloneable") (by decide)) C.2.2.2.2.2.1 hP hD h3 (hAb C) (by rw [e7] at hq0; exact hq0) rfl hnm ?_ hfr (by show 0 + 14 ≤ R.locals; omega) hc hs hd (fun q H1 g0 g1 g2 g3 => ?_)
  · intro i v hv
    have hv : (Array.ofFn (n := gn G a) fun j => (Value.int (gi G a j.val)))[i]? = some v := hv
    rw [Array.getElem?_ofFn] at hv
    split at hv
    · cases hv; exact byF (hf i (by assumption))
    · cases hv
  · obtain ⟨q99, hq⟩ := hmore q (G a) H1 (show knd G a < 14 by omega) (by rw [e7]; exact g1) (by rw [e7]; exact g2)
    exact kk q q99 H1 locs la h1 hq g3 h4
theorem j_copy7 (C : Cx p s m args c cc nL RJ7 D cy base) {a b : Nat} {z : Int32} (ha : knd G a = 7) (hb : knd G b = 7) (hz : ¬ z < 0) (hf : ∀ j, j < z.toNatClampNeg → (gi G a j).toInt8.toInt32 = gi G a j) (h4' : z.toNatClampNeg ≤ gn G a) (h5' : z.toNatClampNeg ≤ gn G b) (hd : decode cc pc = .ok (.invokestatic 150, 3)) (hfr : 1 ≤ R.frames) (hlo : 40 ≤ R.locals)
    (kk : JJ p l e R s m args below meth c nL D cy base S0 Q (pc + 3) ls [] (va_up G b (7, gn G b, va_cpy (gi G a) (gi G b) 0 0 z.toNatClampNeg, (G b).2.2.2.1, (G b).2.2.2.2)) k n) : JJ p l e R s m args below meth c nL D cy base S0 Q pc ls [.inl z, .inl 0, .inr (.inl (some b)), .inl 0, .inr (.inl (some a))] G k n := by
  intro H locs la h1 h2 h3 h4
  obtain ⟨ws, hP, hD, hat, -, hset⟩ := h2.more2
  obtain ⟨q0, hq0⟩ := hat a (by omega)
  obtain ⟨q1, hq1⟩ := hat b (by omega)
  have e7 : enc cy (G a) = .inl (cy 7, gn G a, .inl (gi G a)) := enc_i cy ha (by decide) (by decide)
  have e8 : enc cy (G b) = .inl (cy 7, gn G b, .inl (gi G b)) := enc_i cy hb (by decide) (by decide)
  have e9 : enc cy (7, gn G b, va_cpy (gi G a) (gi G b) 0 0 z.toNatClampNeg, (G b).2.2.2.1, (G b).2.2.2.2) = .inl (cy 7, gn G b, .inl (va_cpy (gi G a) (gi G b) 0 0 z.toNatClampNeg)) := enc_i cy rfl (by decide) (by decide)
  have z0 : (0 : Int32).toNatClampNeg = 0 := rfl
  refine va_copyi (own := RJ7) (q0 := q0) (q1 := q1) (t0 := 0) (t1 := 0) (ty := .byte) (tys := tysY cy) (sp := 0) (dp := 0) (n := z) C.1 C.2.1 (C.2.2.1.trans h4.1.symm) C.2.2.2.1 (C.2.2.2.2.1 _ (by decide +kernel)) (C.2.2.2.2.1 _ (by decide +kernel)) (C.2.2.2.2.1 _ (by decide +kernel)) (C.2.2.2.2.1 _ (by decide +kernel)) C.2.2.2.2.2.1 hP hD h3 (by rw [e7] at hq0; exact hq0) (by rw [e8] at hq1; exact hq1) rfl rfl rfl (by decide) (by decide) hz (by rw [z0]; omega) (by rw [z0]; omega) (fun i hi => byF (by rw [z0, Nat.zero_add]; exact hf i hi)) hfr ?_ hd (fun H1 locs1 g1 g2 g3 => ?_)
  · have : nativeFrameWords "java/lang/System" "arraycopy" 5 + 11 ≤ 40 := by decide +kernel
    show 0 + _ ≤ _
    omega
  · rw [z0, ← e9] at g1 g2
    exact kk H1 locs1 la h1 (hset b q1 _ H1 hq1 (by omega) (by rw [hb]) g1 g2) g3 h4
theorem j_cast7 (C : Cx p s m args c cc nL RJ7 D cy base) {a : Nat} (ha : knd G a = 7) (hd : decode cc pc = .ok (.checkcast 311, 3))
    (kk : JJ p l e R s m args below meth c nL D cy base S0 Q (pc + 3) ls [.inr (.inl (some a))] G k n) : JJ p l e R s m args below meth c nL D cy base S0 Q pc ls [.inr (.inl (some a))] G k n := by
  intro H locs la h1 h2 h3 h4
  obtain ⟨ws, hP, hD, hat, -, -⟩ := h2.more2
  obtain ⟨q0, hq0⟩ := hat a (by omega)
  have e7 : enc cy (G a) = .inl (cy 7, gn G a, .inl (gi G a)) := enc_i cy ha (by decide) (by decide)
  have hnm : s.vm.findClass "[B" = some (cy 7) := (C.2.2.2.2.2.1.2 0 (cy 7, .byte) rfl).2
  exact va_castA (own := RJ7) (nm := "[B") C.1 C.2.1 C.2.2.2.1 (C.2.2.2.2.1 _ (by decide +kernel)) hP q0 (by rw [e7] at hq0; exact hq0) hnm hd (kk H locs la h1 h2 h3 h4)
end JK
def T_J7_copyOf_9075b : TT := fun av G Qr _ => ∃ a n, av = [rf a, .inl (nI n)] ∧ knd G a = 7 ∧ gn G a = 60 ∧ n ≤ 60 ∧ (∀ j, j < 60 → (gi G a j).toInt8.toInt32 = gi G a j) ∧ (∀ G' b, knd G b = 99 → knd G' b = 7 → gn G' b = n → (∀ j, j < n → gi G' b j = gi G a j) → (∀ y, y ≠ b → G' y = G y) → Qr (some (rf b)) G')
theorem mono_J7_copyOf_9075b : TMono T_J7_copyOf_9075b := fun av G Q1 Q2 Qx ⟨a, n, p0, p1, p2, p3, p4, q0⟩ hq => ⟨a, n, p0, p1, p2, p3, p4, fun b0 b1 c0 c1 c2 c3 c4 => hq _ _ (q0 b0 b1 c0 c1 c2 c3 c4)⟩
def rm_J7_copyOf_9075b : Room := { frames := 1, cells := 1, slots := 60, locals := 60 }
def ct_J7_copyOf_9075b : List (Nat × CS) := [(304, 8, 2, 0, 0, T_J9_min_7cf53)]
set_option maxRecDepth 20000 in
set_option maxHeartbeats 4000000 in
theorem c_J7_copyOf_9075b (l : Launch) : CM l yJ7_copyOf_9075b cJ7_copyOf_9075b 3 (some (.array .byte)) rm_J7_copyOf_9075b T_J7_copyOf_9075b := by
  refine CM.of (by decide +kernel) (fun D cy base S0 av G Qr Qx hT => ?_)
  obtain ⟨a, n, rfl, h1, h2, h3, h4, ha⟩ := hT
  refine ⟨Nat.le_of_ble_eq_true rfl, fun p e s m args below meth c B => ?_⟩
  obtain ⟨C, hWd, hr, hlk, hnm, htb⟩ := B
  have hJ := ev_ok (ft := []) (nt := []) (ct := ct_J7_copyOf_9075b) (oi := 0) (sc := false) (ini := false) (RT := RTm rm_J7_copyOf_9075b 3 Qr) (XN := noX) (S0 := S0) (Q := vx_MQ below (QcA D cy base S0 Qr) (XcA D cy base S0 Qx) args s rm_J7_copyOf_9075b.cells rm_J7_copyOf_9075b.slots (Ab base)) (R := rm_J7_copyOf_9075b) (l := l) (e := e) (below := below) (meth := meth) C hWd (fun x h => by cases h) (fun q => by cases q) (fun x h => by cases h) (List.forall_mem_cons.mpr ⟨⟨mono_J9_min_7cf53, yJ9_min_7cf53, cJ9_min_7cf53, 2, (some .int), rm_J9_min_7cf53, c_J9_min_7cf53 l, mi_J9_min_7cf53, rfl, rfl, ⟨by decide, by decide⟩, fun q => absurd q (by decide), fun _ => ⟨ms_J9_min_7cf53, lnkJ7_304⟩, fun q => absurd q (by decide), fun q => absurd q (by decide)⟩, fun x h => by cases h⟩) (fun q => absurd rfl q) (fun q => by cases q) (fun pc ls x G k n hd h => by obtain ⟨-, -, h3, -⟩ := h; exact h3.elim) (fun pc ls x G k n hd h => by
      obtain ⟨q1, q2, -, q4⟩ := h
      exact j_aret C hr rfl hlk hd q1 q2 q4) (fun pc ls G k n hd h => by obtain ⟨-, -, h3, -⟩ := h; exact h3.elim) (fun _ _ _ _ _ _ _ _ q => q.elim)
  generalize hJJ : JJ p l e rm_J7_copyOf_9075b s m args below meth c 3 D cy base S0 (vx_MQ below (QcA D cy base S0 Qr) (XcA D cy base S0 Qx) args s rm_J7_copyOf_9075b.cells rm_J7_copyOf_9075b.slots (Ab base)) = J at hJ ⊢
  by_cases e60 : n = 60
  · subst e60
    suffices hh : J 7 [some (rf a), some (.inl (nI 60)), none] [rf a] G 0 0 by
      refine hJ [(7, J 7)] 60 0 [some (rf a), some (.inl (nI 60)), none] [] G 0 0 (fun x h ls st G k n q => by cases h with | head => exact q | tail _ h => cases h) ?_
      simp (disch := omega) only [wpf_s, wpA_s, wq_c, wq_n, lkp_n, lkp_c, lk_0, lk_s, ldI_s, ldR_s, ldL_s, incI_s, gfE_I, gfE_Z, gfE_R, pfE_I, pfE_Z, pfE_R, nwE_s, anE_0, anE_1, anE_4, kE_n, kE_s, ii_s, sw_iload_n, sw_iload, sw_aload_n, sw_aload, sw_lload_n, sw_lload, sw_istore_n, sw_istore, sw_astore_n, sw_astore, sw_lstore, sw_iinc, sw_iconst, sw_bipush, sw_sipush, sw_null, sw_ldc2, sw_dup, sw_dup2, sw_iadd, sw_isub, sw_imul, sw_iand, sw_ixor, sw_ishr, sw_iushr, sw_idiv, sw_irem, sw_land, sw_lor, sw_lcmp, sw_lshl, sw_lshr, sw_lushr, sw_i2l, sw_l2i, sw_i2b, sw_goto, sw_icmp_eq, sw_if_eq, sw_icmp_ne, sw_if_ne, sw_icmp_lt, sw_if_lt, sw_icmp_ge, sw_if_ge, sw_icmp_gt, sw_if_gt, sw_icmp_le, sw_if_le, sw_ifnull, sw_ifnonnull, sw_acmp, sw_get, sw_put, sw_iaload, sw_baload, sw_laload, sw_aaload, sw_alen, sw_iastore, sw_bastore, sw_lastore, sw_aastore, sw_aastoreN, sw_newa_byte, sw_newa_int, sw_newa_boolean, sw_newa_long, sw_anew, sw_new, sw_iv, sw_is, sw_ii, sw_ireturn, sw_areturn, sw_return, sw_table, cv_0, cv_1, cv_2, cv_3, cv_4, ci_0, ci_1, ci_2, ci_3, ci_4, cs_1, cs_2, cs_3, cs_4, ic_m1, ic_0, ic_1, ic_2, ic_3, ic_4, ic_5, ic_6, bp_6, bp_7, bp_8, bp_15, bp_16, bp_31, bp_32, bp_60, sp_250, sp_255, sp_4000, sp_5000, sp_15000, sp_32000, f4_0, f4_1, f4_2, f4_3, c_nat, rtm, rok_0, rok_1, rok_2, rok_3, okS_0, okS_s, okq_n, okq_i, okq_r, stW_n, stW_i, stW_r, stW_l, cat_i, cat_r, nox, nf_0, nf_1, nf_2, nf_3, nf_4, nf_5, nf_6, true_and, and_true, Nat.zero_le, Nat.reduceAdd, Nat.reduceLT, Nat.reduceLeDiff, Nat.reduceEqDiff, Int.reduceAdd, Int.reduceToNat, Int.reduceLE, reduceIte, List.length_cons, List.length_nil, List.set_cons_zero, List.set_cons_succ, Option.some.injEq, ne_eq, not_true, not_false_eq_true, false_or, or_false, true_or, or_true, false_and, and_false, true_implies, false_implies, implies_true, not_false_eq_true, Bool.false_eq_true, reduceCtorEq, dJ7_copyOf_9075b_0, dJ7_copyOf_9075b_1, dJ7_copyOf_9075b_2, dJ7_copyOf_9075b_3, dJ7_copyOf_9075b_6, dJ7_copyOf_9075b_7, dJ7_copyOf_9075b_10, dJ7_copyOf_9075b_13, dJ7_copyOf_9075b_14, dJ7_copyOf_9075b_15, dJ7_copyOf_9075b_17, dJ7_copyOf_9075b_18, dJ7_copyOf_9075b_19, dJ7_copyOf_9075b_20, dJ7_copyOf_9075b_21, dJ7_copyOf_9075b_22, dJ7_copyOf_9075b_23, dJ7_copyOf_9075b_24, dJ7_copyOf_9075b_25, dJ7_copyOf_9075b_28, dJ7_copyOf_9075b_31, dJ7_copyOf_9075b_32, rf, h1, h2, ite_zn, ite_zm, q_max, l_neg, q_rem2, q_lt, q_le, q_eq, q_add, q_mul, q_sub, q_div, q_rem, q_in, q_cl, q_0l, q_sac, l_0, l_1, l_2, l_3, l_4, l_5, l_6, l_8, l_15, l_16, l_32, l_60, l_250, l_4000, l_5000, ct_J7_copyOf_9075b]
      exact hh
    rw [← hJJ]
    refine j_clone7 C hWd h1 (fun j hj => h4 j (by omega)) dJ7_copyOf_9075b_7 (by decide) (by decide) (by decide) (by rw [h2]; decide) (fun q hq => ?_)
    have ku : knd (va_up G q (G a)) q = 7 := by unfold knd; rw [va_up_self]; exact h1
    refine j_cast7 C ku dJ7_copyOf_9075b_10 ?_
    rw [hJJ]
    refine hJ [] 60 13 [some (rf a), some (.inl (nI 60)), none] [rf q] _ _ _ (fun x h => by cases h) ?_
    rw [h2]
    simp (disch := omega) only [wpf_s, wpA_s, wq_c, wq_n, lkp_n, lkp_c, lk_0, lk_s, ldI_s, ldR_s, ldL_s, incI_s, gfE_I, gfE_Z, gfE_R, pfE_I, pfE_Z, pfE_R, nwE_s, anE_0, anE_1, anE_4, kE_n, kE_s, ii_s, sw_iload_n, sw_iload, sw_aload_n, sw_aload, sw_lload_n, sw_lload, sw_istore_n, sw_istore, sw_astore_n, sw_astore, sw_lstore, sw_iinc, sw_iconst, sw_bipush, sw_sipush, sw_null, sw_ldc2, sw_dup, sw_dup2, sw_iadd, sw_isub, sw_imul, sw_iand, sw_ixor, sw_ishr, sw_iushr, sw_idiv, sw_irem, sw_land, sw_lor, sw_lcmp, sw_lshl, sw_lshr, sw_lushr, sw_i2l, sw_l2i, sw_i2b, sw_goto, sw_icmp_eq, sw_if_eq, sw_icmp_ne, sw_if_ne, sw_icmp_lt, sw_if_lt, sw_icmp_ge, sw_if_ge, sw_icmp_gt, sw_if_gt, sw_icmp_le, sw_if_le, sw_ifnull, sw_ifnonnull, sw_acmp, sw_get, sw_put, sw_iaload, sw_baload, sw_laload, sw_aaload, sw_alen, sw_iastore, sw_bastore, sw_lastore, sw_aastore, sw_aastoreN, sw_newa_byte, sw_newa_int, sw_newa_boolean, sw_newa_long, sw_anew, sw_new, sw_iv, sw_is, sw_ii, sw_ireturn, sw_areturn, sw_return, sw_table, cv_0, cv_1, cv_2, cv_3, cv_4, ci_0, ci_1, ci_2, ci_3, ci_4, cs_1, cs_2, cs_3, cs_4, ic_m1, ic_0, ic_1, ic_2, ic_3, ic_4, ic_5, ic_6, bp_6, bp_7, bp_8, bp_15, bp_16, bp_31, bp_32, bp_60, sp_250, sp_255, sp_4000, sp_5000, sp_15000, sp_32000, f4_0, f4_1, f4_2, f4_3, c_nat, rtm, rok_0, rok_1, rok_2, rok_3, okS_0, okS_s, okq_n, okq_i, okq_r, stW_n, stW_i, stW_r, stW_l, cat_i, cat_r, nox, nf_0, nf_1, nf_2, nf_3, nf_4, nf_5, nf_6, true_and, and_true, Nat.zero_le, Nat.reduceAdd, Nat.reduceLT, Nat.reduceLeDiff, Nat.reduceEqDiff, Int.reduceAdd, Int.reduceToNat, Int.reduceLE, reduceIte, List.length_cons, List.length_nil, List.set_cons_zero, List.set_cons_succ, Option.some.injEq, ne_eq, not_true, not_false_eq_true, false_or, or_false, true_or, or_true, false_and, and_false, true_implies, false_implies, implies_true, not_false_eq_true, Bool.false_eq_true, reduceCtorEq, dJ7_copyOf_9075b_0, dJ7_copyOf_9075b_1, dJ7_copyOf_9075b_2, dJ7_copyOf_9075b_3, dJ7_copyOf_9075b_6, dJ7_copyOf_9075b_7, dJ7_copyOf_9075b_10, dJ7_copyOf_9075b_13, dJ7_copyOf_9075b_14, dJ7_copyOf_9075b_15, dJ7_copyOf_9075b_17, dJ7_copyOf_9075b_18, dJ7_copyOf_9075b_19, dJ7_copyOf_9075b_20, dJ7_copyOf_9075b_21, dJ7_copyOf_9075b_22, dJ7_copyOf_9075b_23, dJ7_copyOf_9075b_24, dJ7_copyOf_9075b_25, dJ7_copyOf_9075b_28, dJ7_copyOf_9075b_31, dJ7_copyOf_9075b_32, rf, ite_zn, ite_zm, q_max, l_neg, q_rem2, q_lt, q_le, q_eq, q_add, q_mul, q_sub, q_div, q_rem, q_in, q_cl, q_0l, q_sac, l_0, l_1, l_2, l_3, l_4, l_5, l_6, l_8, l_15, l_16, l_32, l_60, l_250, l_4000, l_5000, ct_J7_copyOf_9075b]
    refine ⟨by decide, by decide, ha _ q hq ku (by unfold gn; rw [va_up_self]; exact h2) (fun j _ => by unfold gi; rw [va_up_self]) (fun y hy => va_up_ne _ _ hy)⟩
  · have hne : ¬ (nI n = nI 60) := fun q => e60 ((q_eq (by omega) (by decide)).mp q)
    refine hJ [(28, J 28)] 60 0 [some (rf a), some (.inl (nI n)), none] [] G 0 0 (fun x h ls st G k n q => by cases h with | head => exact q | tail _ h => cases h) ?_
    simp (disch := omega) only [wpf_s, wpA_s, wq_c, wq_n, lkp_n, lkp_c, lk_0, lk_s, ldI_s, ldR_s, ldL_s, incI_s, gfE_I, gfE_Z, gfE_R, pfE_I, pfE_Z, pfE_R, nwE_s, anE_0, anE_1, anE_4, kE_n, kE_s, ii_s, sw_iload_n, sw_iload, sw_aload_n, sw_aload, sw_lload_n, sw_lload, sw_istore_n, sw_istore, sw_astore_n, sw_astore, sw_lstore, sw_iinc, sw_iconst, sw_bipush, sw_sipush, sw_null, sw_ldc2, sw_dup, sw_dup2, sw_iadd, sw_isub, sw_imul, sw_iand, sw_ixor, sw_ishr, sw_iushr, sw_idiv, sw_irem, sw_land, sw_lor, sw_lcmp, sw_lshl, sw_lshr, sw_lushr, sw_i2l, sw_l2i, sw_i2b, sw_goto, sw_icmp_eq, sw_if_eq, sw_icmp_ne, sw_if_ne, sw_icmp_lt, sw_if_lt, sw_icmp_ge, sw_if_ge, sw_icmp_gt, sw_if_gt, sw_icmp_le, sw_if_le, sw_ifnull, sw_ifnonnull, sw_acmp, sw_get, sw_put, sw_iaload, sw_baload, sw_laload, sw_aaload, sw_alen, sw_iastore, sw_bastore, sw_lastore, sw_aastore, sw_aastoreN, sw_newa_byte, sw_newa_int, sw_newa_boolean, sw_newa_long, sw_anew, sw_new, sw_iv, sw_is, sw_ii, sw_ireturn, sw_areturn, sw_return, sw_table, cv_0, cv_1, cv_2, cv_3, cv_4, ci_0, ci_1, ci_2, ci_3, ci_4, cs_1, cs_2, cs_3, cs_4, ic_m1, ic_0, ic_1, ic_2, ic_3, ic_4, ic_5, ic_6, bp_6, bp_7, bp_8, bp_15, bp_16, bp_31, bp_32, bp_60, sp_250, sp_255, sp_4000, sp_5000, sp_15000, sp_32000, f4_0, f4_1, f4_2, f4_3, c_nat, rtm, rok_0, rok_1, rok_2, rok_3, okS_0, okS_s, okq_n, okq_i, okq_r, stW_n, stW_i, stW_r, stW_l, cat_i, cat_r, nox, nf_0, nf_1, nf_2, nf_3, nf_4, nf_5, nf_6, true_and, and_true, Nat.zero_le, Nat.reduceAdd, Nat.reduceLT, Nat.reduceLeDiff, Nat.reduceEqDiff, Int.reduceAdd, Int.reduceToNat, Int.reduceLE, reduceIte, List.length_cons, List.length_nil, List.set_cons_zero, List.set_cons_succ, Option.some.injEq, ne_eq, not_true, not_false_eq_true, false_or, or_false, true_or, or_true, false_and, and_false, true_implies, false_implies, implies_true, not_false_eq_true, Bool.false_eq_true, reduceCtorEq, dJ7_copyOf_9075b_0, dJ7_copyOf_9075b_1, dJ7_copyOf_9075b_2, dJ7_copyOf_9075b_3, dJ7_copyOf_9075b_6, dJ7_copyOf_9075b_7, dJ7_copyOf_9075b_10, dJ7_copyOf_9075b_13, dJ7_copyOf_9075b_14, dJ7_copyOf_9075b_15, dJ7_copyOf_9075b_17, dJ7_copyOf_9075b_18, dJ7_copyOf_9075b_19, dJ7_copyOf_9075b_20, dJ7_copyOf_9075b_21, dJ7_copyOf_9075b_22, dJ7_copyOf_9075b_23, dJ7_copyOf_9075b_24, dJ7_copyOf_9075b_25, dJ7_copyOf_9075b_28, dJ7_copyOf_9075b_31, dJ7_copyOf_9075b_32, rf, h1, h2, e60, nI_toInt, T_min_e, gn_nw, knd_nw, ite_zn, ite_zm, q_max, l_neg, q_rem2, q_lt, q_le, q_eq, q_add, q_mul, q_sub, q_div, q_rem, q_in, q_cl, q_0l, q_sac, l_0, l_1, l_2, l_3, l_4, l_5, l_6, l_8, l_15, l_16, l_32, l_60, l_250, l_4000, l_5000, ct_J7_copyOf_9075b]
    refine ⟨by omega, by omega, by decide, (by show 0 + n ≤ 60; omega), fun q hq => ?_⟩
    have nq : a ≠ q := fun e => by rw [e, hq] at h1; cases h1
    simp only [nq, if_false]
    have emin : (if nI n < nI 60 then nI n else nI 60) = nI n := if_pos (by rw [q_lt (by omega) (by decide)]; omega)
    have ecl : (nI n).toNatClampNeg = n := q_cl (by omega)
    refine ⟨⟨by decide, by decide⟩, by decide, (by show 0 + n + 0 ≤ 60; omega), ?_⟩
    rw [emin, ← hJJ]
    have ka : knd (nw G q 7 n) a = 7 := by rw [knd_nw, if_neg nq]; exact h1
    have kb : knd (nw G q 7 n) q = 7 := by rw [knd_nw, if_pos rfl]
    have la : gn (nw G q 7 n) a = 60 := by rw [gn_nw, if_neg nq]; exact h2
    have lb : gn (nw G q 7 n) q = n := by rw [gn_nw, if_pos rfl]
    have ga : ∀ j, gi (nw G q 7 n) a j = gi G a j := fun j => by rw [gi_nw, if_neg nq]
    refine j_copy7 (z := nI n) C ka kb (by rw [show (0 : Int32) = nI 0 from rfl, q_lt (by omega) (by decide)]; omega) (fun j hj => by rw [ga]; exact h4 j (by omega)) (by rw [ecl, la]; exact h3) (by rw [ecl, lb]; exact Nat.le_refl _) dJ7_copyOf_9075b_28 (by decide) (by decide) ?_
    rw [hJJ, ecl]
    refine hJ [] 60 31 [some (rf a), some (.inl (nI n)), some (rf q)] [] _ _ _ (fun x h => by cases h) ?_
    simp (disch := omega) only [wpf_s, wpA_s, wq_c, wq_n, lkp_n, lkp_c, lk_0, lk_s, ldI_s, ldR_s, ldL_s, incI_s, gfE_I, gfE_Z, gfE_R, pfE_I, pfE_Z, pfE_R, nwE_s, anE_0, anE_1, anE_4, kE_n, kE_s, ii_s, sw_iload_n, sw_iload, sw_aload_n, sw_aload, sw_lload_n, sw_lload, sw_istore_n, sw_istore, sw_astore_n, sw_astore, sw_lstore, sw_iinc, sw_iconst, sw_bipush, sw_sipush, sw_null, sw_ldc2, sw_dup, sw_dup2, sw_iadd, sw_isub, sw_imul, sw_iand, sw_ixor, sw_ishr, sw_iushr, sw_idiv, sw_irem, sw_land, sw_lor, sw_lcmp, sw_lshl, sw_lshr, sw_lushr, sw_i2l, sw_l2i, sw_i2b, sw_goto, sw_icmp_eq, sw_if_eq, sw_icmp_ne, sw_if_ne, sw_icmp_lt, sw_if_lt, sw_icmp_ge, sw_if_ge, sw_icmp_gt, sw_if_gt, sw_icmp_le, sw_if_le, sw_ifnull, sw_ifnonnull, sw_acmp, sw_get, sw_put, sw_iaload, sw_baload, sw_laload, sw_aaload, sw_alen, sw_iastore, sw_bastore, sw_lastore, sw_aastore, sw_aastoreN, sw_newa_byte, sw_newa_int, sw_newa_boolean, sw_newa_long, sw_anew, sw_new, sw_iv, sw_is, sw_ii, sw_ireturn, sw_areturn, sw_return, sw_table, cv_0, cv_1, cv_2, cv_3, cv_4, ci_0, ci_1, ci_2, ci_3, ci_4, cs_1, cs_2, cs_3, cs_4, ic_m1, ic_0, ic_1, ic_2, ic_3, ic_4, ic_5, ic_6, bp_6, bp_7, bp_8, bp_15, bp_16, bp_31, bp_32, bp_60, sp_250, sp_255, sp_4000, sp_5000, sp_15000, sp_32000, f4_0, f4_1, f4_2, f4_3, c_nat, rtm, rok_0, rok_1, rok_2, rok_3, okS_0, okS_s, okq_n, okq_i, okq_r, stW_n, stW_i, stW_r, stW_l, cat_i, cat_r, nox, nf_0, nf_1, nf_2, nf_3, nf_4, nf_5, nf_6, true_and, and_true, Nat.zero_le, Nat.reduceAdd, Nat.reduceLT, Nat.reduceLeDiff, Nat.reduceEqDiff, Int.reduceAdd, Int.reduceToNat, Int.reduceLE, reduceIte, List.length_cons, List.length_nil, List.set_cons_zero, List.set_cons_succ, Option.some.injEq, ne_eq, not_true, not_false_eq_true, false_or, or_false, true_or, or_true, false_and, and_false, true_implies, false_implies, implies_true, not_false_eq_true, Bool.false_eq_true, reduceCtorEq, dJ7_copyOf_9075b_0, dJ7_copyOf_9075b_1, dJ7_copyOf_9075b_2, dJ7_copyOf_9075b_3, dJ7_copyOf_9075b_6, dJ7_copyOf_9075b_7, dJ7_copyOf_9075b_10, dJ7_copyOf_9075b_13, dJ7_copyOf_9075b_14, dJ7_copyOf_9075b_15, dJ7_copyOf_9075b_17, dJ7_copyOf_9075b_18, dJ7_copyOf_9075b_19, dJ7_copyOf_9075b_20, dJ7_copyOf_9075b_21, dJ7_copyOf_9075b_22, dJ7_copyOf_9075b_23, dJ7_copyOf_9075b_24, dJ7_copyOf_9075b_25, dJ7_copyOf_9075b_28, dJ7_copyOf_9075b_31, dJ7_copyOf_9075b_32, rf, ite_zn, ite_zm, q_max, l_neg, q_rem2, q_lt, q_le, q_eq, q_add, q_mul, q_sub, q_div, q_rem, q_in, q_cl, q_0l, q_sac, l_0, l_1, l_2, l_3, l_4, l_5, l_6, l_8, l_15, l_16, l_32, l_60, l_250, l_4000, l_5000, ct_J7_copyOf_9075b]
    refine ⟨by decide, (by show 0 + n + 0 ≤ 60; omega), ha _ q hq ?_ ?_ (fun j hj => ?_) (fun y hy => ?_)⟩
    · unfold knd; rw [va_up_self]
    · unfold gn; rw [va_up_self]; exact lb
    · refine (congrFun (congrArg (fun c : Cl => c.2.2.1) (va_up_self _ _ _)) j).trans ?_
      show va_cpy (gi (nw G q 7 n) a) (gi (nw G q 7 n) q) 0 0 n j = gi G a j
      unfold va_cpy
      rw [if_pos (by omega), ga]; congr 1; omega
    · rw [va_up_ne _ _ hy, knd_nw_o hy]
