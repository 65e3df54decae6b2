theorem cyc_o {S : St} {k j : Nat} (h : k ∉ [24, 33, 11, 31, 34, 28, 32, 21, 50, 12, 10, 27, 20, 30, 9, 8, 7]) : cyc S k j = S k j := by
  simp at h
  obtain ⟨a1, a2, a3, a4, a5, a6, a7, a8, a9, a10, a11, a12, a13, a14, a15, a16, a17⟩ := h
  unfold cyc; rw [up_o (Or.inl a17)]
  unfold cy5; rw [sds_o a11 a12 a13 a14 a15 a16]
  unfold cy4; rw [itr_o (fun _ _ => drs_o a6 a7 a8 a9 a10), up_o (Or.inl a9)]
  unfold cy3; rw [itr_o (fun _ _ => cms_o a3 a4 a5)]
  unfold cy2; rw [itr_o (fun _ _ => cbs_o a2)]
  exact cy1_o a1
theorem ff_min {p : Nat → Bool} : ∀ {n i : Nat}, ff p i n ≠ NN → ∀ j, i ≤ j → j < ff p i n → p j = false
  | 0, _, h => absurd rfl h
  | n + 1, i, h => by
    intro j h1 h2
    by_cases e : p i = true
    · rw [ff_t e] at h2; omega
    · rw [ff_n e] at h h2
      by_cases q : j = i
      · subst q; simpa using e
      · exact ff_min h j (by omega) h2
theorem ff_no {p : Nat → Bool} : ∀ {n i : Nat}, i + n ≤ NN → ff p i n = NN → ∀ j, i ≤ j → j < i + n → p j = false
  | 0, _, _, _ => fun j h1 h2 => by omega
  | n + 1, i, hb, h => by
    intro j h1 h2
    by_cases e : p i = true
    · rw [ff_t e] at h; omega
    · rw [ff_n e] at h
      by_cases q : j = i
      · subst q; simpa using e
      · exact ff_no (by omega) h j (by omega) (by omega)
theorem itr_ans {p : Nat} {S : St} : ∀ n c i, n ≤ 60 → itr (ansS p) n S c i = if c = 37 ∧ i < n then S 18 (60 * p + i) else S c i
  | 0, c, i, _ => by rw [itr, if_neg (by omega)]
  | n + 1, c, i, hn => by
    have e : itr (ansS p) n S 18 (60 * p + n) = S 18 (60 * p + n) := by rw [itr_ans n _ _ (by omega), if_neg (by omega)]
    rw [itr, ansS, e, up_n, itr_ans n _ _ (by omega)]
    by_cases q : c = 37 ∧ i = n
    · rw [if_pos q, if_pos (by omega), q.2]
    · rw [if_neg q]
      by_cases q2 : c = 37 ∧ i < n
      · rw [if_pos q2, if_pos (by omega)]
      · rw [if_neg q2, if_neg (by omega)]
theorem WF_23 {S : St} (h : WF S) {p : Nat} : WF (up S 23 p 1) := by
  obtain ⟨h1, h2, h3, h4⟩ := h
  have k : ∀ a j, a ≠ 23 → up S 23 p 1 a j = S a j := fun a j ha => up_o (Or.inl ha)
  refine ⟨?_, fun u hu => ?_, fun q hp => ?_, fun u hu f hf => ?_⟩
  · unfold Ws at h1 ⊢; simp only [k 1 _ (by decide), k 2 _ (by decide), k 3 _ (by decide), k 4 _ (by decide), k 5 _ (by decide), k 6 _ (by decide), k 7 _ (by decide), k 8 _ (by decide), k 9 _ (by decide), k 10 _ (by decide), k 11 _ (by decide), k 12 _ (by decide), k 36 _ (by decide), k 38 _ (by decide)]; exact h1
  · have q := h2 u hu
    unfold Wc at q ⊢
    simp only [k 13 _ (by decide), k 14 _ (by decide), k 33 _ (by decide), k 32 _ (by decide), k 31 _ (by decide), k 30 _ (by decide), k 29 _ (by decide), k 6 _ (by decide), k 34 _ (by decide)]
    exact q
  · rw [k 6 _ (by decide)] at hp
    have z := h3 q hp
    unfold Wp at z ⊢
    simp only [k 16 _ (by decide), k 17 _ (by decide), k 19 _ (by decide), k 20 _ (by decide), k 21 _ (by decide), k 22 _ (by decide), k 24 _ (by decide), k 1 _ (by decide), k 7 _ (by decide)]
    refine ⟨z.1, z.2.1, z.2.2.1, z.2.2.2.1, z.2.2.2.2.1, z.2.2.2.2.2.1, ?_, z.2.2.2.2.2.2.2⟩
    rw [up_n]; split <;> omega
  · rw [k 29 _ (by decide)] at hf
    have q := h4 u hu f hf
    unfold Wf at q ⊢
    simp only [k 25 _ (by decide), k 26 _ (by decide), k 17 _ (by decide), k 6 _ (by decide), k 27 _ (by decide), k 28 _ (by decide), k 30 _ (by decide), k 32 _ (by decide), k 7 _ (by decide)]
    exact q
theorem WF_cg {S S' : St} (h : WF S) (hS : ∀ c i, c ∉ [15, 18, 35, 37, 50, 0] → S' c i = S c i) : WF S' := by
  unfold WF Ws Wc Wp Wf at h ⊢
  simpa only [hS 1 _ (by decide), hS 2 _ (by decide), hS 3 _ (by decide), hS 4 _ (by decide), hS 5 _ (by decide), hS 6 _ (by decide), hS 7 _ (by decide), hS 8 _ (by decide), hS 9 _ (by decide), hS 10 _ (by decide), hS 11 _ (by decide), hS 12 _ (by decide), hS 13 _ (by decide), hS 14 _ (by decide), hS 16 _ (by decide), hS 17 _ (by decide), hS 19 _ (by decide), hS 20 _ (by decide), hS 21 _ (by decide), hS 22 _ (by decide), hS 23 _ (by decide), hS 24 _ (by decide), hS 25 _ (by decide), hS 26 _ (by decide), hS 27 _ (by decide), hS 28 _ (by decide), hS 29 _ (by decide), hS 30 _ (by decide), hS 31 _ (by decide), hS 32 _ (by decide), hS 33 _ (by decide), hS 34 _ (by decide), hS 36 _ (by decide), hS 38 _ (by decide)] using h
theorem tkS_o {S : St} {p c i : Nat} (h17 : S 17 p ≤ 60) (h : c ∉ [23, 37, 38]) : tkS p S c i = S c i := by
  simp at h
  unfold tkS
  rw [itr_ans _ _ _ h17, if_neg (by omega), up_o (by omega), up_o (by omega)]
theorem Sim.tk {S C : St} (h : Sim S C) {v p : Nat} (hv : v < S 1 0) (hp : p < S 6 0) (ht : tkB S v p) : Sim (tkS p S) (up (up C 23 p 1) 42 v (C 42 v + 1)) := by
  have hq := h.wf.2.2.1 p hp
  unfold Wp at hq
  have h17 : S 17 p ≤ 60 := hq.2.1
  obtain ⟨t1, t2, t3⟩ := ht
  have ko : ∀ c i, c ∉ [23, 37, 38] → tkS p S c i = S c i := fun c i hc => tkS_o h17 hc
  have k23 : ∀ i, tkS p S 23 i = if i = p then 1 else S 23 i := fun i => by
    unfold tkS; rw [itr_ans _ _ _ h17, if_neg (by omega), up_o (by omega), up_n]; simp
  have hwf : WF (tkS p S) := by
    refine WF_cg (S := up (up S 23 p 1) 38 0 (S 17 p)) (WF_sc (WF_23 h.wf) (by omega)) (fun c i hc => ?_)
    unfold tkS; rw [itr_ans _ _ _ h17, if_neg]; simp at hc; omega
  refine ⟨fun c i hc => ?_, hwf, ?_, fun u hu => ?_, fun q hq' => ?_, ?_⟩
  · rw [ko 5 0 (by decide)] at hc
    have c42 : c ≠ 42 := fun q => by rw [q] at hc; rcases hc with hc | hc; (cases hc); omega
    rw [up_o (Or.inl c42)]
    by_cases q : c = 23
    · subst q; rw [k23, up_n]
      by_cases q2 : i = p
      · rw [if_pos ⟨rfl, q2⟩, if_pos q2]
      · rw [if_neg (fun z => q2 z.2), if_neg q2]; exact h.c rfl
    · have c2 : c ≠ 37 ∧ c ≠ 38 := by
        refine ⟨fun q => ?_, fun q => ?_⟩ <;> (rw [q] at hc; rcases hc with hc | hc; (cases hc); omega)
      rw [up_o (Or.inl q), ko c i (by simp; omega)]
      exact h.1 c i hc
  · rw [ko 1 _ (by decide), ko 6 _ (by decide), ko 7 _ (by decide)]; simpa [up_n] using h.2.2.1
  · rw [ko 1 _ (by decide)] at hu
    have hnu := h.nums hu
    obtain ⟨a1, a2, a3⟩ := h.2.2.2.1 u hu
    refine ⟨?_, a2.cg (ko _ _ (by decide)) (ko _ _ (by decide)) (fun c i hc => ko _ _ (by simp at hc ⊢; omega)) (fun f hf => ko _ _ (by decide)) (by omega), a3.cg (fun c hc => ko _ _ (by simp at hc ⊢; omega)) (fun f hf => ko _ _ (by decide)) (fun f hf => ko _ _ (by decide))⟩
    have eT : ∀ f, toF (tkS p S) u f = toF S u f := fun f => by unfold toF fbN; simp only [ko 21 _ (by decide), ko 25 _ (by decide), ko 17 _ (by decide), ko 26 _ (by decide)]
    have eR : ∀ k f, rtB (tkS p S) u k f = rtB S u k f := fun k f => by unfold rtB; rw [ko 28 _ (by decide), ko 3 _ (by decide)]
    have e0 : ∀ i, arB (tkS p S) u 0 i = arB S u 0 i := fun i => by
      unfold arB; rw [ko 16 _ (by decide), ko 21 _ (by decide)]; simp
    have e1 : ∀ i, i ≠ p → arB (tkS p S) u 1 i = arB S u 1 i := fun i hi => by
      unfold arB; rw [ko 16 _ (by decide), ko 21 _ (by decide), k23, if_neg hi]
    by_cases q : u = v
    · subst q
      unfold SimV cr at a1 ⊢
      obtain ⟨b1, b2, b3, b4, b5, b6, b7, b8, b9, b10⟩ := a1
      rw [ko 13 _ (by decide), ko 33 _ (by decide), ko 30 _ (by decide), ko 31 _ (by decide), ko 29 _ (by decide), ko 32 _ (by decide), ko 6 _ (by decide)]
      simp only [up_n, Nat.reduceEqDiff, false_and, if_false, true_and, if_true]
      have o1 : ctn (arB S u 1) (S 6 0) = ctn (arB (tkS p S) u 1) (S 6 0) + 1 := ctn_one (j := p) (by unfold arB; rw [k23, if_pos rfl]; simp) (by unfold arB; simp [t1, t2, t3]) (fun i _ hi => e1 i hi) hp
      refine ⟨b1, b2, b3, b4, b5, b6, ?_, by omega, ?_, fun k hk => ?_⟩
      · rw [b7]; exact ctn_cg (fun i _ => (e0 i).symm)
      · rw [b9]; exact smn_cg (fun i _ => (eT i).symm)
      · rw [b10 k hk]; exact ctF_cg (fun i _ _ => (eR k i).symm)
    · refine a1.cg (fun c hc => ?_) (fun k hk2 => by simp [up_n]) (fun c hc => ko _ _ (by simp at hc ⊢; omega)) (ko _ _ (by decide)) (fun i hi l => ?_) (fun f hf => eT f) (fun k f hf => eR k f)
      · simp at hc; rw [up_o (Or.inr q), up_o (by omega)]
      · by_cases q2 : i = p
        · subst q2
          have q3 : ¬ v = u := fun z => q z.symm
          unfold arB; rw [ko 16 _ (by decide), t1]; simp [q3]
        · unfold arB; rw [ko 16 _ (by decide), ko 21 _ (by decide), k23, if_neg q2]
  · rw [ko 6 _ (by decide)] at hq'
    have z := h.p hq'
    unfold SimP at z ⊢
    rw [ko 17 _ (by decide), ko 21 _ (by decide), ko 24 _ (by decide), ko 19 _ (by decide), k23]
    simp only [up_n, Nat.reduceEqDiff, false_and, if_false]
    refine ⟨z.1, z.2.1, z.2.2.1, fun q => ?_⟩
    split
    · rename_i q2; rw [q2] at q; exact absurd q t2
    · exact z.2.2.2 q
  · exact h.2.2.2.2.2.cg (fun c i hc => ko _ _ (by simp at hc ⊢; omega)) (fun i => by simp [up_n])
theorem Iv.same' {S C : St} (h : Iv S C) {v p x : Nat} (h17 : S 17 p ≤ 60) : Iv (tkS p S) (up (up C 23 p 1) 42 v x) := by
  obtain ⟨a1, a2, a3, a4, a5, a6⟩ := h
  have ko : ∀ c i, c ∉ [23, 37, 38] → tkS p S c i = S c i := fun c i hc => tkS_o h17 hc
  unfold Iv Tw Tb Zr BB WB
  rw [ko 7 0 (by decide), ko 1 0 (by decide), ko 2 0 (by decide), ko 3 0 (by decide), ko 9 0 (by decide), ko 10 0 (by decide), ko 11 0 (by decide), ko 12 0 (by decide)]
  refine ⟨fun v f q1 q2 q3 => ?_, fun v f q1 q2 q3 => ?_, fun q v hv => ?_, by simpa [up_n] using a4, a5, fun k hk j => ?_⟩
  · rw [ko 31 _ (by decide)] at q2; rw [ko 30 _ (by decide)] at q3; rw [ko 27 _ (by decide)]; exact a1 v f q1 q2 q3
  · rw [ko 33 _ (by decide)] at q2; rw [ko 32 _ (by decide)] at q3; rw [ko 28 _ (by decide)]; exact a2 v f q1 q2 q3
  · rw [ko 30 _ (by decide)]; exact a3 q v hv
  · rcases hk with rfl | rfl | rfl
    · rw [ko 18 _ (by decide)]; exact a6 18 (by simp) j
    · rw [ko 35 _ (by decide)]; exact a6 35 (by simp) j
    · unfold tkS; rw [itr_ans _ _ _ h17]
      by_cases q : j < S 17 p
      · rw [if_pos ⟨rfl, q⟩, up_o (by omega), up_o (by omega)]; exact a6 18 (by simp) _
      · rw [if_neg (fun z => q z.2), up_o (by omega), up_o (by omega)]; exact a6 37 (by simp) j
def T_X5_run : TT := fun av G Qr Qx => ∃ K x tp tk ad C S a, av = [rf x, .inl a] ∧ XI G K x tp tk ad C S ∧ S 7 0 + 5000 < 9000000 ∧ (∀ n G' C', 1 ≤ n → n ≤ 5000 → a = nI n → XI G' K x tp tk ad C' (cyN n S) → FrX K x tp G G' → Qr (some (.inl (nI (cyT n S)))) G') ∧ (¬ (1 ≤ a ∧ a ≤ 5000) → Qx xIA G)
theorem mono_X5_run : TMono T_X5_run := fun av G Q1 Q2 Qx ⟨K, x, tp, tk, ad, C, S, a, p0, p1, p2, q0, y0⟩ hq => ⟨K, x, tp, tk, ad, C, S, a, p0, p1, p2, fun b0 b1 b2 c0 c1 c2 c3 c4 => hq _ _ (q0 b0 b1 b2 c0 c1 c2 c3 c4), y0⟩
def rm_X5_run : Room := { frames := 6, cells := 1, slots := 6, locals := 114 }
def ct_X5_run : List (Nat × CS) := [(29, 8, 2, 0, 0, T_X5_isWithin), (115, 3, 0, 0, 0, T_X3_passCycle)]
def xs_X5_run : List (Nat × String) := [(10, xIA)]
set_option maxRecDepth 20000 in
set_option maxHeartbeats 4000000 in
theorem c_X5_run (l : Launch) (hl : l.stackTraces = false) : CM l yX5_run cX5_run 4 (some .int) rm_X5_run T_X5_run := by
  refine CM.evX (ft := ftX5) (nt := ntX5) (ct := ct_X5_run) (oi := 0) (rt := 1) (ini := false) (by decide +kernel) (Or.inr (Or.inl ⟨rfl, rfl⟩)) ftX5_ok (fun q => by cases q) ntX5_ok (List.forall_mem_cons.mpr ⟨⟨mono_X5_isWithin, yX5_isWithin, cX5_isWithin, 2, (some .boolean), rm_X5_isWithin, c_X5_isWithin l, mi_X5_isWithin, rfl, rfl, ⟨by decide, by decide⟩, fun q => absurd q (by decide), fun _ => ⟨ms_X5_isWithin, lnkX5_29⟩, fun q => absurd q (by decide), fun q => absurd q (by decide)⟩, List.forall_mem_cons.mpr ⟨⟨mono_X3_passCycle, yX3_passCycle, cX3_passCycle, 5, (some .int), rm_X3_passCycle, c_X3_passCycle l, mi_X3_passCycle, rfl, rfl, ⟨by decide, by decide⟩, fun _ => ⟨mv_X3_passCycle, lnkX5_115, rfl⟩, fun q => absurd q (by decide), fun q => absurd q (by decide), fun q => absurd q (by decide)⟩, fun x h => by cases h⟩⟩) (fun q => absurd rfl q) (xs := xs_X5_run) (List.forall_mem_cons.mpr ⟨⟨33, 113, 37, "1 to 5000 cycles are run", xk_IA, by decide +kernel, dX5_run_10, dX5_run_13, dX5_run_14, dX5_run_16, dX5_run_19⟩, fun x h => by cases h⟩) rfl hl ⟨by decide, by decide⟩ ?_
  intro av G Qr Qx hT
  obtain ⟨K, x, tp, tk, ad, C, S, a, rfl, hXI, h7, ha, hb⟩ := hT
  refine ⟨Nat.le_of_ble_eq_true rfl, fun J hJ => ?_⟩
  by_cases h1 : 1 ≤ a ∧ a ≤ 5000
  · obtain ⟨n, n1, n2, rfl⟩ := q_rg (a := 1) (b := 5000) (x := a) (by decide) h1 (by decide)
    have k7 : ∀ i, i ≤ n → ∀ Cx, Sim (cyN i S) Cx → BB (cyN i S) → True := fun _ _ _ _ _ => trivial
    have loop : ∀ (d i : Nat) (G1 : GG) (C1 : St), i + d = n → XI G1 K x tp tk ad C1 (cyN i S) → cyN i S 7 0 = S 7 0 + i → FrK K G G1 → J 24 [some (rf x), some (.inl (nI n)), some (.inl (nI (cyT i S))), some (.inl (nI i))] [] G1 0 0 := by
      intro d
      induction d with
      | zero =>
        intro i G1 C1 hi hX1 e7 f1
        have : i = n := by omega
        subst this
        refine hJ [] 60 24 [some (rf x), some (.inl (nI i)), some (.inl (nI (cyT i S))), some (.inl (nI i))] [] G1 0 0 (fun x h => by cases h) ?_
        simp (disch := omega) only [wpf_s, wpA_s, wq_c, wq_n, lkp_n, lkp_c, lk_0, lk_s, ldI_s, ldR_s, ldL_s, incI_s, gfE_I, gfE_Z, gfE_R, pfE_I, pfE_Z, pfE_R, nwE_s, anE_0, anE_1, anE_4, kE_n, kE_s, ii_s, sw_iload_n, sw_iload, sw_aload_n, sw_aload, sw_lload_n, sw_lload, sw_istore_n, sw_istore, sw_astore_n, sw_astore, sw_lstore, sw_iinc, sw_iconst, sw_bipush, sw_sipush, sw_null, sw_ldc2, sw_dup, sw_dup2, sw_iadd, sw_isub, sw_imul, sw_iand, sw_ixor, sw_ishr, sw_iushr, sw_idiv, sw_irem, sw_land, sw_lor, sw_lcmp, sw_lshl, sw_lshr, sw_lushr, sw_i2l, sw_l2i, sw_i2b, sw_goto, sw_icmp_eq, sw_if_eq, sw_icmp_ne, sw_if_ne, sw_icmp_lt, sw_if_lt, sw_icmp_ge, sw_if_ge, sw_icmp_gt, sw_if_gt, sw_icmp_le, sw_if_le, sw_ifnull, sw_ifnonnull, sw_acmp, sw_get, sw_put, sw_iaload, sw_baload, sw_laload, sw_aaload, sw_alen, sw_iastore, sw_bastore, sw_lastore, sw_aastore, sw_aastoreN, sw_newa_byte, sw_newa_int, sw_newa_boolean, sw_newa_long, sw_anew, sw_new, sw_iv, sw_is, sw_ii, sw_ireturn, sw_areturn, sw_return, sw_table, cv_0, cv_1, cv_2, cv_3, cv_4, ci_0, ci_1, ci_2, ci_3, ci_4, cs_1, cs_2, cs_3, cs_4, ic_m1, ic_0, ic_1, ic_2, ic_3, ic_4, ic_5, ic_6, bp_6, bp_7, bp_8, bp_15, bp_16, bp_31, bp_32, bp_60, sp_250, sp_255, sp_4000, sp_5000, sp_15000, sp_32000, f4_0, f4_1, f4_2, f4_3, c_nat, rtm, rok_0, rok_1, rok_2, rok_3, okS_0, okS_s, okq_n, okq_i, okq_r, stW_n, stW_i, stW_r, stW_l, cat_i, cat_r, nox, nf_0, nf_1, nf_2, nf_3, nf_4, nf_5, nf_6, true_and, and_true, Nat.zero_le, Nat.reduceAdd, Nat.reduceLT, Nat.reduceLeDiff, Nat.reduceEqDiff, Int.reduceAdd, Int.reduceToNat, Int.reduceLE, reduceIte, List.length_cons, List.length_nil, List.set_cons_zero, List.set_cons_succ, Option.some.injEq, ne_eq, not_true, not_false_eq_true, false_or, or_false, true_or, or_true, false_and, and_false, true_implies, false_implies, implies_true, not_false_eq_true, Bool.false_eq_true, reduceCtorEq, dX5_run_0, dX5_run_1, dX5_run_4, dX5_run_7, dX5_run_10, dX5_run_13, dX5_run_14, dX5_run_16, dX5_run_19, dX5_run_20, dX5_run_21, dX5_run_22, dX5_run_23, dX5_run_24, dX5_run_25, dX5_run_26, dX5_run_29, dX5_run_30, dX5_run_31, dX5_run_34, dX5_run_37, dX5_run_38, dX5_run_39, dX5_run_42, dX5_run_45, dX5_run_46, ftX5_25, rf, xN, true_and, ite_zn, ite_zm, q_max, l_neg, q_rem2, q_lt, q_le, q_eq, q_add, q_mul, q_sub, q_div, q_rem, q_in, q_cl, q_0l, q_sac, l_0, l_1, l_2, l_3, l_4, l_5, l_6, l_8, l_15, l_16, l_32, l_60, l_250, l_4000, l_5000, ct_X5_run]
        exact ⟨fun _ => ha i G1 C1 n1 n2 rfl hX1 (FrX.rf.k f1), fun q => absurd (Nat.le_refl _) q⟩
      | succ d ih =>
        intro i G1 C1 hi hX1 e7 f1
        obtain ⟨⟨x1, x2, x3, x4, x5, x6, x7, x8, x9, x10, x11, x12⟩, hR, hS, hI, hKx, hKt, hKk⟩ := id hX1
        obtain ⟨tw, tb, zr, h40, bb, wb⟩ := id hI
        have hlt : cyN i S 7 0 < 9000000 := by omega
        refine hJ [(24, J 24)] 60 24 [some (rf x), some (.inl (nI n)), some (.inl (nI (cyT i S))), some (.inl (nI i))] [] G1 0 0 (fun x h ls st G k n q => by cases h with | head => exact q | tail _ h => cases h) ?_
        simp (disch := omega) only [wpf_s, wpA_s, wq_c, wq_n, lkp_n, lkp_c, lk_0, lk_s, ldI_s, ldR_s, ldL_s, incI_s, gfE_I, gfE_Z, gfE_R, pfE_I, pfE_Z, pfE_R, nwE_s, anE_0, anE_1, anE_4, kE_n, kE_s, ii_s, sw_iload_n, sw_iload, sw_aload_n, sw_aload, sw_lload_n, sw_lload, sw_istore_n, sw_istore, sw_astore_n, sw_astore, sw_lstore, sw_iinc, sw_iconst, sw_bipush, sw_sipush, sw_null, sw_ldc2, sw_dup, sw_dup2, sw_iadd, sw_isub, sw_imul, sw_iand, sw_ixor, sw_ishr, sw_iushr, sw_idiv, sw_irem, sw_land, sw_lor, sw_lcmp, sw_lshl, sw_lshr, sw_lushr, sw_i2l, sw_l2i, sw_i2b, sw_goto, sw_icmp_eq, sw_if_eq, sw_icmp_ne, sw_if_ne, sw_icmp_lt, sw_if_lt, sw_icmp_ge, sw_if_ge, sw_icmp_gt, sw_if_gt, sw_icmp_le, sw_if_le, sw_ifnull, sw_ifnonnull, sw_acmp, sw_get, sw_put, sw_iaload, sw_baload, sw_laload, sw_aaload, sw_alen, sw_iastore, sw_bastore, sw_lastore, sw_aastore, sw_aastoreN, sw_newa_byte, sw_newa_int, sw_newa_boolean, sw_newa_long, sw_anew, sw_new, sw_iv, sw_is, sw_ii, sw_ireturn, sw_areturn, sw_return, sw_table, cv_0, cv_1, cv_2, cv_3, cv_4, ci_0, ci_1, ci_2, ci_3, ci_4, cs_1, cs_2, cs_3, cs_4, ic_m1, ic_0, ic_1, ic_2, ic_3, ic_4, ic_5, ic_6, bp_6, bp_7, bp_8, bp_15, bp_16, bp_31, bp_32, bp_60, sp_250, sp_255, sp_4000, sp_5000, sp_15000, sp_32000, f4_0, f4_1, f4_2, f4_3, c_nat, rtm, rok_0, rok_1, rok_2, rok_3, okS_0, okS_s, okq_n, okq_i, okq_r, stW_n, stW_i, stW_r, stW_l, cat_i, cat_r, nox, nf_0, nf_1, nf_2, nf_3, nf_4, nf_5, nf_6, true_and, and_true, Nat.zero_le, Nat.reduceAdd, Nat.reduceLT, Nat.reduceLeDiff, Nat.reduceEqDiff, Int.reduceAdd, Int.reduceToNat, Int.reduceLE, reduceIte, List.length_cons, List.length_nil, List.set_cons_zero, List.set_cons_succ, Option.some.injEq, ne_eq, not_true, not_false_eq_true, false_or, or_false, true_or, or_true, false_and, and_false, true_implies, false_implies, implies_true, not_false_eq_true, Bool.false_eq_true, reduceCtorEq, dX5_run_0, dX5_run_1, dX5_run_4, dX5_run_7, dX5_run_10, dX5_run_13, dX5_run_14, dX5_run_16, dX5_run_19, dX5_run_20, dX5_run_21, dX5_run_22, dX5_run_23, dX5_run_24, dX5_run_25, dX5_run_26, dX5_run_29, dX5_run_30, dX5_run_31, dX5_run_34, dX5_run_37, dX5_run_38, dX5_run_39, dX5_run_42, dX5_run_45, dX5_run_46, ftX5_25, rf, x1, x4, hR.k1, xN, true_and, ite_zn, ite_zm, q_max, l_neg, q_rem2, q_lt, q_le, q_eq, q_add, q_mul, q_sub, q_div, q_rem, q_in, q_cl, q_0l, q_sac, l_0, l_1, l_2, l_3, l_4, l_5, l_6, l_8, l_15, l_16, l_32, l_60, l_250, l_4000, l_5000, ct_X5_run]
        refine ⟨fun q => by omega, fun _ => ⟨K, ad, C1, cyN i S, rfl, hR, hS, tw, tb, bb, hlt, fun G2 C2 r1 r2 r3 r4 r5 r6 => ?_⟩⟩
        obtain ⟨-, -, -, -, -, -, w7, -, -, w10, -⟩ := cyc_ok hS.wf bb hlt
        have hX2 : XI G2 K x tp tk ad C2 (cyc (cyN i S)) := hX1.step r1 rfl r2 ⟨r4, r5, fun q => by rw [w10] at q; omega, r3, w7, fun k hk j => by
            rw [cyc_o (by rcases hk with rfl | rfl | rfl <;> decide)]; exact wb k hk j⟩ r6 (fun c j hc => cyc_o (by simp at hc; rcases hc with rfl | rfl | rfl | rfl <;> decide))
        simp (disch := omega) only [wpf_s, wpA_s, wq_c, wq_n, lkp_n, lkp_c, lk_0, lk_s, ldI_s, ldR_s, ldL_s, incI_s, gfE_I, gfE_Z, gfE_R, pfE_I, pfE_Z, pfE_R, nwE_s, anE_0, anE_1, anE_4, kE_n, kE_s, ii_s, sw_iload_n, sw_iload, sw_aload_n, sw_aload, sw_lload_n, sw_lload, sw_istore_n, sw_istore, sw_astore_n, sw_astore, sw_lstore, sw_iinc, sw_iconst, sw_bipush, sw_sipush, sw_null, sw_ldc2, sw_dup, sw_dup2, sw_iadd, sw_isub, sw_imul, sw_iand, sw_ixor, sw_ishr, sw_iushr, sw_idiv, sw_irem, sw_land, sw_lor, sw_lcmp, sw_lshl, sw_lshr, sw_lushr, sw_i2l, sw_l2i, sw_i2b, sw_goto, sw_icmp_eq, sw_if_eq, sw_icmp_ne, sw_if_ne, sw_icmp_lt, sw_if_lt, sw_icmp_ge, sw_if_ge, sw_icmp_gt, sw_if_gt, sw_icmp_le, sw_if_le, sw_ifnull, sw_ifnonnull, sw_acmp, sw_get, sw_put, sw_iaload, sw_baload, sw_laload, sw_aaload, sw_alen, sw_iastore, sw_bastore, sw_lastore, sw_aastore, sw_aastoreN, sw_newa_byte, sw_newa_int, sw_newa_boolean, sw_newa_long, sw_anew, sw_new, sw_iv, sw_is, sw_ii, sw_ireturn, sw_areturn, sw_return, sw_table, cv_0, cv_1, cv_2, cv_3, cv_4, ci_0, ci_1, ci_2, ci_3, ci_4, cs_1, cs_2, cs_3, cs_4, ic_m1, ic_0, ic_1, ic_2, ic_3, ic_4, ic_5, ic_6, bp_6, bp_7, bp_8, bp_15, bp_16, bp_31, bp_32, bp_60, sp_250, sp_255, sp_4000, sp_5000, sp_15000, sp_32000, f4_0, f4_1, f4_2, f4_3, c_nat, rtm, rok_0, rok_1, rok_2, rok_3, okS_0, okS_s, okq_n, okq_i, okq_r, stW_n, stW_i, stW_r, stW_l, cat_i, cat_r, nox, nf_0, nf_1, nf_2, nf_3, nf_4, nf_5, nf_6, true_and, and_true, Nat.zero_le, Nat.reduceAdd, Nat.reduceLT, Nat.reduceLeDiff, Nat.reduceEqDiff, Int.reduceAdd, Int.reduceToNat, Int.reduceLE, reduceIte, List.length_cons, List.length_nil, List.set_cons_zero, List.set_cons_succ, Option.some.injEq, ne_eq, not_true, not_false_eq_true, false_or, or_false, true_or, or_true, false_and, and_false, true_implies, false_implies, implies_true, not_false_eq_true, Bool.false_eq_true, reduceCtorEq, dX5_run_0, dX5_run_1, dX5_run_4, dX5_run_7, dX5_run_10, dX5_run_13, dX5_run_14, dX5_run_16, dX5_run_19, dX5_run_20, dX5_run_21, dX5_run_22, dX5_run_23, dX5_run_24, dX5_run_25, dX5_run_26, dX5_run_29, dX5_run_30, dX5_run_31, dX5_run_34, dX5_run_37, dX5_run_38, dX5_run_39, dX5_run_42, dX5_run_45, dX5_run_46, ftX5_25, rf, xN, true_and, ite_zn, ite_zm, q_max, l_neg, q_rem2, q_lt, q_le, q_eq, q_add, q_mul, q_sub, q_div, q_rem, q_in, q_cl, q_0l, q_sac, l_0, l_1, l_2, l_3, l_4, l_5, l_6, l_8, l_15, l_16, l_32, l_60, l_250, l_4000, l_5000, ct_X5_run]
        have := ih (i + 1) G2 C2 (by omega) hX2 (by show cyc (cyN i S) 7 0 = _; rw [w10, e7]; omega) (f1.tr r6)
        exact this
    refine hJ [(24, J 24)] 60 0 [some (rf x), some (.inl (nI n)), none, none] [] G 0 0 (fun x h ls st G k n q => by cases h with | head => exact q | tail _ h => cases h) ?_
    simp (disch := omega) only [wpf_s, wpA_s, wq_c, wq_n, lkp_n, lkp_c, lk_0, lk_s, ldI_s, ldR_s, ldL_s, incI_s, gfE_I, gfE_Z, gfE_R, pfE_I, pfE_Z, pfE_R, nwE_s, anE_0, anE_1, anE_4, kE_n, kE_s, ii_s, sw_iload_n, sw_iload, sw_aload_n, sw_aload, sw_lload_n, sw_lload, sw_istore_n, sw_istore, sw_astore_n, sw_astore, sw_lstore, sw_iinc, sw_iconst, sw_bipush, sw_sipush, sw_null, sw_ldc2, sw_dup, sw_dup2, sw_iadd, sw_isub, sw_imul, sw_iand, sw_ixor, sw_ishr, sw_iushr, sw_idiv, sw_irem, sw_land, sw_lor, sw_lcmp, sw_lshl, sw_lshr, sw_lushr, sw_i2l, sw_l2i, sw_i2b, sw_goto, sw_icmp_eq, sw_if_eq, sw_icmp_ne, sw_if_ne, sw_icmp_lt, sw_if_lt, sw_icmp_ge, sw_if_ge, sw_icmp_gt, sw_if_gt, sw_icmp_le, sw_if_le, sw_ifnull, sw_ifnonnull, sw_acmp, sw_get, sw_put, sw_iaload, sw_baload, sw_laload, sw_aaload, sw_alen, sw_iastore, sw_bastore, sw_lastore, sw_aastore, sw_aastoreN, sw_newa_byte, sw_newa_int, sw_newa_boolean, sw_newa_long, sw_anew, sw_new, sw_iv, sw_is, sw_ii, sw_ireturn, sw_areturn, sw_return, sw_table, cv_0, cv_1, cv_2, cv_3, cv_4, ci_0, ci_1, ci_2, ci_3, ci_4, cs_1, cs_2, cs_3, cs_4, ic_m1, ic_0, ic_1, ic_2, ic_3, ic_4, ic_5, ic_6, bp_6, bp_7, bp_8, bp_15, bp_16, bp_31, bp_32, bp_60, sp_250, sp_255, sp_4000, sp_5000, sp_15000, sp_32000, f4_0, f4_1, f4_2, f4_3, c_nat, rtm, rok_0, rok_1, rok_2, rok_3, okS_0, okS_s, okq_n, okq_i, okq_r, stW_n, stW_i, stW_r, stW_l, cat_i, cat_r, nox, nf_0, nf_1, nf_2, nf_3, nf_4, nf_5, nf_6, true_and, and_true, Nat.zero_le, Nat.reduceAdd, Nat.reduceLT, Nat.reduceLeDiff, Nat.reduceEqDiff, Int.reduceAdd, Int.reduceToNat, Int.reduceLE, reduceIte, List.length_cons, List.length_nil, List.set_cons_zero, List.set_cons_succ, Option.some.injEq, ne_eq, not_true, not_false_eq_true, false_or, or_false, true_or, or_true, false_and, and_false, true_implies, false_implies, implies_true, not_false_eq_true, Bool.false_eq_true, reduceCtorEq, dX5_run_0, dX5_run_1, dX5_run_4, dX5_run_7, dX5_run_10, dX5_run_13, dX5_run_14, dX5_run_16, dX5_run_19, dX5_run_20, dX5_run_21, dX5_run_22, dX5_run_23, dX5_run_24, dX5_run_25, dX5_run_26, dX5_run_29, dX5_run_30, dX5_run_31, dX5_run_34, dX5_run_37, dX5_run_38, dX5_run_39, dX5_run_42, dX5_run_45, dX5_run_46, ftX5_25, rf, T_isWithin_e, xN, true_and, ite_zn, ite_zm, q_max, l_neg, q_rem2, q_lt, q_le, q_eq, q_add, q_mul, q_sub, q_div, q_rem, q_in, q_cl, q_0l, q_sac, l_0, l_1, l_2, l_3, l_4, l_5, l_6, l_8, l_15, l_16, l_32, l_60, l_250, l_4000, l_5000, ct_X5_run]
    refine ⟨fun q => absurd ⟨n1, n2⟩ q, fun _ => ?_⟩
    exact loop n 0 G C (by omega) hXI (by show S 7 0 = _; omega) FrK.rf
  · refine hJ [] 60 0 [some (rf x), some (.inl a), none, none] [] G 0 0 (fun x h => by cases h) ?_
    simp only [wpf_s, wpA_s, wq_c, wq_n, lkp_n, lkp_c, lk_0, lk_s, ldI_s, ldR_s, ldL_s, incI_s, gfE_I, gfE_Z, gfE_R, pfE_I, pfE_Z, pfE_R, nwE_s, anE_0, anE_1, anE_4, kE_n, kE_s, ii_s, sw_iload_n, sw_iload, sw_aload_n, sw_aload, sw_lload_n, sw_lload, sw_istore_n, sw_istore, sw_astore_n, sw_astore, sw_lstore, sw_iinc, sw_iconst, sw_bipush, sw_sipush, sw_null, sw_ldc2, sw_dup, sw_dup2, sw_iadd, sw_isub, sw_imul, sw_iand, sw_ixor, sw_ishr, sw_iushr, sw_idiv, sw_irem, sw_land, sw_lor, sw_lcmp, sw_lshl, sw_lshr, sw_lushr, sw_i2l, sw_l2i, sw_i2b, sw_goto, sw_icmp_eq, sw_if_eq, sw_icmp_ne, sw_if_ne, sw_icmp_lt, sw_if_lt, sw_icmp_ge, sw_if_ge, sw_icmp_gt, sw_if_gt, sw_icmp_le, sw_if_le, sw_ifnull, sw_ifnonnull, sw_acmp, sw_get, sw_put, sw_iaload, sw_baload, sw_laload, sw_aaload, sw_alen, sw_iastore, sw_bastore, sw_lastore, sw_aastore, sw_aastoreN, sw_newa_byte, sw_newa_int, sw_newa_boolean, sw_newa_long, sw_anew, sw_new, sw_iv, sw_is, sw_ii, sw_ireturn, sw_areturn, sw_return, sw_table, cv_0, cv_1, cv_2, cv_3, cv_4, ci_0, ci_1, ci_2, ci_3, ci_4, cs_1, cs_2, cs_3, cs_4, ic_m1, ic_0, ic_1, ic_2, ic_3, ic_4, ic_5, ic_6, bp_6, bp_7, bp_8, bp_15, bp_16, bp_31, bp_32, bp_60, sp_250, sp_255, sp_4000, sp_5000, sp_15000, sp_32000, f4_0, f4_1, f4_2, f4_3, c_nat, rtm, rok_0, rok_1, rok_2, rok_3, okS_0, okS_s, okq_n, okq_i, okq_r, stW_n, stW_i, stW_r, stW_l, cat_i, cat_r, nox, nf_0, nf_1, nf_2, nf_3, nf_4, nf_5, nf_6, true_and, and_true, Nat.zero_le, Nat.reduceAdd, Nat.reduceLT, Nat.reduceLeDiff, Nat.reduceEqDiff, Int.reduceAdd, Int.reduceToNat, Int.reduceLE, reduceIte, List.length_cons, List.length_nil, List.set_cons_zero, List.set_cons_succ, Option.some.injEq, ne_eq, not_true, not_false_eq_true, false_or, or_false, true_or, or_true, false_and, and_false, true_implies, false_implies, implies_true, not_false_eq_true, Bool.false_eq_true, reduceCtorEq, dX5_run_0, dX5_run_1, dX5_run_4, dX5_run_7, dX5_run_10, dX5_run_13, dX5_run_14, dX5_run_16, dX5_run_19, dX5_run_20, dX5_run_21, dX5_run_22, dX5_run_23, dX5_run_24, dX5_run_25, dX5_run_26, dX5_run_29, dX5_run_30, dX5_run_31, dX5_run_34, dX5_run_37, dX5_run_38, dX5_run_39, dX5_run_42, dX5_run_45, dX5_run_46, ftX5_25, rf, T_isWithin_e, eq_false h1, if_false, ite_z, not_false_eq_true, true_implies, false_implies, xN, true_and, ct_X5_run]
    exact Or.inl ⟨_, rfl, (by decide), (by decide), hb h1⟩

def T_X5_take : TT := fun av G Qr Qx => ∃ K x tp tk ad C S a, av = [rf x, .inl a] ∧ XI G K x tp tk ad C S ∧ (∀ v, v < S 1 0 → a = nI v → (∀ p, p < S 6 0 → ¬ tkB S v p) → Qr (some (.inl (-1))) G) ∧ (∀ v p G' C', v < S 1 0 → a = nI v → p < S 6 0 → tkB S v p → (∀ q, q < p → ¬ tkB S v q) → XI G' K x tp (ad 13 p) ad C' (tkS p S) → FrX K x tp G G' → Qr (some (.inl (nI p))) G') ∧ (¬ chx S a → Qx xIA G)
theorem mono_X5_take : TMono T_X5_take := fun av G Q1 Q2 Qx ⟨K, x, tp, tk, ad, C, S, a, p0, p1, q0, q1, y0⟩ hq => ⟨K, x, tp, tk, ad, C, S, a, p0, p1, fun b0 c0 c1 c2 => hq _ _ (q0 b0 c0 c1 c2), fun b0 b1 b2 b3 c0 c1 c2 c3 c4 c5 c6 => hq _ _ (q1 b0 b1 b2 b3 c0 c1 c2 c3 c4 c5 c6), y0⟩
def rm_X5_take : Room := { frames := 6, cells := 1, slots := 6, locals := 100 }
def ct_X5_take : List (Nat × CS) := [(44, 3, 1, 0, 0, T_X3_channelAt), (119, 3, 1, 0, 0, T_X3_earliestToTake)]
def xs_X5_take : List (Nat × String) := [(13, xIA)]
set_option maxRecDepth 20000 in
set_option maxHeartbeats 4000000 in
theorem c_X5_take (l : Launch) (hl : l.stackTraces = false) : CM l yX5_take cX5_take 4 (some .int) rm_X5_take T_X5_take := by
  refine CM.evX (ft := ftX5) (nt := ntX5) (ct := ct_X5_take) (oi := 0) (rt := 1) (ini := false) (by decide +kernel) (Or.inr (Or.inl ⟨rfl, rfl⟩)) ftX5_ok (fun q => by cases q) ntX5_ok (List.forall_mem_cons.mpr ⟨⟨mono_X3_channelAt, yX3_channelAt, cX3_channelAt, 2, (some (.object "CreditWire$Channel")), rm_X3_channelAt, c_X3_channelAt l, mi_X3_channelAt, rfl, rfl, ⟨by decide, by decide⟩, fun _ => ⟨mv_X3_channelAt, lnkX5_44, rfl⟩, fun q => absurd q (by decide), fun q => absurd q (by decide), fun q => absurd q (by decide)⟩, List.forall_mem_cons.mpr ⟨⟨mono_X3_earliestToTake, yX3_earliestToTake, cX3_earliestToTake, 4, (some (.object "CreditWire$Packet")), rm_X3_earliestToTake, c_X3_earliestToTake l, mi_X3_earliestToTake, rfl, rfl, ⟨by decide, by decide⟩, fun _ => ⟨mv_X3_earliestToTake, lnkX5_119, rfl⟩, fun q => absurd q (by decide), fun q => absurd q (by decide), fun q => absurd q (by decide)⟩, fun x h => by cases h⟩⟩) (fun q => absurd rfl q) (xs := xs_X5_take) (List.forall_mem_cons.mpr ⟨⟨33, 96, 37, "no such channel", xk_IA, by decide +kernel, dX5_take_13, dX5_take_16, dX5_take_17, dX5_take_19, dX5_take_22⟩, fun x h => by cases h⟩) rfl hl ⟨by decide, by decide⟩ ?_
  intro av G Qr Qx hT
  obtain ⟨K, x, tp, tk, ad, C, S, a, rfl, hXI, ha, hb, hc⟩ := hT
  refine ⟨Nat.le_of_ble_eq_true rfl, fun J hJ => ?_⟩
  obtain ⟨⟨x1, x2, x3, x4, x5, x6, x7, x8, x9, x10, x11, x12⟩, hR, hS, hI, hKx, hKt, hKk⟩ := id hXI
  have hN := NN_v
  have hr := hS.wf.rows
  have hw := hS.wl
  have hws := hw.s
  have e1 := hS.c (c := 1) (i := 0) rfl
  refine hJ [] 90 0 [some (rf x), some (.inl a), none, none] [] G 0 0 (fun x h => by cases h) ?_
  have e6 := hS.c (c := 6) (i := 0) rfl
  simp (disch := omega) only [wpf_s, wpA_s, wq_c, wq_n, lkp_n, lkp_c, lk_0, lk_s, ldI_s, ldR_s, ldL_s, incI_s, gfE_I, gfE_Z, gfE_R, pfE_I, pfE_Z, pfE_R, nwE_s, anE_0, anE_1, anE_4, kE_n, kE_s, ii_s, sw_iload_n, sw_iload, sw_aload_n, sw_aload, sw_lload_n, sw_lload, sw_istore_n, sw_istore, sw_astore_n, sw_astore, sw_lstore, sw_iinc, sw_iconst, sw_bipush, sw_sipush, sw_null, sw_ldc2, sw_dup, sw_dup2, sw_iadd, sw_isub, sw_imul, sw_iand, sw_ixor, sw_ishr, sw_iushr, sw_idiv, sw_irem, sw_land, sw_lor, sw_lcmp, sw_lshl, sw_lshr, sw_lushr, sw_i2l, sw_l2i, sw_i2b, sw_goto, sw_icmp_eq, sw_if_eq, sw_icmp_ne, sw_if_ne, sw_icmp_lt, sw_if_lt, sw_icmp_ge, sw_if_ge, sw_icmp_gt, sw_if_gt, sw_icmp_le, sw_if_le, sw_ifnull, sw_ifnonnull, sw_acmp, sw_get, sw_put, sw_iaload, sw_baload, sw_laload, sw_aaload, sw_alen, sw_iastore, sw_bastore, sw_lastore, sw_aastore, sw_aastoreN, sw_newa_byte, sw_newa_int, sw_newa_boolean, sw_newa_long, sw_anew, sw_new, sw_iv, sw_is, sw_ii, sw_ireturn, sw_areturn, sw_return, sw_table, cv_0, cv_1, cv_2, cv_3, cv_4, ci_0, ci_1, ci_2, ci_3, ci_4, cs_1, cs_2, cs_3, cs_4, ic_m1, ic_0, ic_1, ic_2, ic_3, ic_4, ic_5, ic_6, bp_6, bp_7, bp_8, bp_15, bp_16, bp_31, bp_32, bp_60, sp_250, sp_255, sp_4000, sp_5000, sp_15000, sp_32000, f4_0, f4_1, f4_2, f4_3, c_nat, rtm, rok_0, rok_1, rok_2, rok_3, okS_0, okS_s, okq_n, okq_i, okq_r, stW_n, stW_i, stW_r, stW_l, cat_i, cat_r, nox, nf_0, nf_1, nf_2, nf_3, nf_4, nf_5, nf_6, true_and, and_true, Nat.zero_le, Nat.reduceAdd, Nat.reduceLT, Nat.reduceLeDiff, Nat.reduceEqDiff, Int.reduceAdd, Int.reduceToNat, Int.reduceLE, reduceIte, List.length_cons, List.length_nil, List.set_cons_zero, List.set_cons_succ, Option.some.injEq, ne_eq, not_true, not_false_eq_true, false_or, or_false, true_or, or_true, false_and, and_false, true_implies, false_implies, implies_true, not_false_eq_true, Bool.false_eq_true, reduceCtorEq, dX5_take_0, dX5_take_1, dX5_take_4, dX5_take_5, dX5_take_8, dX5_take_9, dX5_take_10, dX5_take_13, dX5_take_16, dX5_take_17, dX5_take_19, dX5_take_22, dX5_take_23, dX5_take_24, dX5_take_27, dX5_take_28, dX5_take_31, dX5_take_32, dX5_take_33, dX5_take_36, dX5_take_37, dX5_take_38, dX5_take_39, dX5_take_40, dX5_take_43, dX5_take_44, dX5_take_45, dX5_take_48, dX5_take_49, dX5_take_50, dX5_take_53, dX5_take_54, dX5_take_55, dX5_take_58, dX5_take_61, dX5_take_62, dX5_take_65, ftX5_25, ftX5_123, ftX5_129, ftX5_132, ftX5_17, ftX5_135, rf, x1, x4, hR.k1, xN, true_and, ite_zn, ite_zm, q_max, l_neg, q_rem2, q_lt, q_le, q_eq, q_add, q_mul, q_sub, q_div, q_rem, q_in, q_cl, q_0l, q_sac, l_0, l_1, l_2, l_3, l_4, l_5, l_6, l_8, l_15, l_16, l_32, l_60, l_250, l_4000, l_5000, ct_X5_take]
  refine ⟨K, ad, C, _, rfl, hR, hws.1.symm, by omega, fun q => ?_, fun v hv ev => ?_⟩
  · simp (disch := omega) only [wpf_s, wpA_s, wq_c, wq_n, lkp_n, lkp_c, lk_0, lk_s, ldI_s, ldR_s, ldL_s, incI_s, gfE_I, gfE_Z, gfE_R, pfE_I, pfE_Z, pfE_R, nwE_s, anE_0, anE_1, anE_4, kE_n, kE_s, ii_s, sw_iload_n, sw_iload, sw_aload_n, sw_aload, sw_lload_n, sw_lload, sw_istore_n, sw_istore, sw_astore_n, sw_astore, sw_lstore, sw_iinc, sw_iconst, sw_bipush, sw_sipush, sw_null, sw_ldc2, sw_dup, sw_dup2, sw_iadd, sw_isub, sw_imul, sw_iand, sw_ixor, sw_ishr, sw_iushr, sw_idiv, sw_irem, sw_land, sw_lor, sw_lcmp, sw_lshl, sw_lshr, sw_lushr, sw_i2l, sw_l2i, sw_i2b, sw_goto, sw_icmp_eq, sw_if_eq, sw_icmp_ne, sw_if_ne, sw_icmp_lt, sw_if_lt, sw_icmp_ge, sw_if_ge, sw_icmp_gt, sw_if_gt, sw_icmp_le, sw_if_le, sw_ifnull, sw_ifnonnull, sw_acmp, sw_get, sw_put, sw_iaload, sw_baload, sw_laload, sw_aaload, sw_alen, sw_iastore, sw_bastore, sw_lastore, sw_aastore, sw_aastoreN, sw_newa_byte, sw_newa_int, sw_newa_boolean, sw_newa_long, sw_anew, sw_new, sw_iv, sw_is, sw_ii, sw_ireturn, sw_areturn, sw_return, sw_table, cv_0, cv_1, cv_2, cv_3, cv_4, ci_0, ci_1, ci_2, ci_3, ci_4, cs_1, cs_2, cs_3, cs_4, ic_m1, ic_0, ic_1, ic_2, ic_3, ic_4, ic_5, ic_6, bp_6, bp_7, bp_8, bp_15, bp_16, bp_31, bp_32, bp_60, sp_250, sp_255, sp_4000, sp_5000, sp_15000, sp_32000, f4_0, f4_1, f4_2, f4_3, c_nat, rtm, rok_0, rok_1, rok_2, rok_3, okS_0, okS_s, okq_n, okq_i, okq_r, stW_n, stW_i, stW_r, stW_l, cat_i, cat_r, nox, nf_0, nf_1, nf_2, nf_3, nf_4, nf_5, nf_6, true_and, and_true, Nat.zero_le, Nat.reduceAdd, Nat.reduceLT, Nat.reduceLeDiff, Nat.reduceEqDiff, Int.reduceAdd, Int.reduceToNat, Int.reduceLE, reduceIte, List.length_cons, List.length_nil, List.set_cons_zero, List.set_cons_succ, Option.some.injEq, ne_eq, not_true, not_false_eq_true, false_or, or_false, true_or, or_true, false_and, and_false, true_implies, false_implies, implies_true, not_false_eq_true, Bool.false_eq_true, reduceCtorEq, dX5_take_0, dX5_take_1, dX5_take_4, dX5_take_5, dX5_take_8, dX5_take_9, dX5_take_10, dX5_take_13, dX5_take_16, dX5_take_17, dX5_take_19, dX5_take_22, dX5_take_23, dX5_take_24, dX5_take_27, dX5_take_28, dX5_take_31, dX5_take_32, dX5_take_33, dX5_take_36, dX5_take_37, dX5_take_38, dX5_take_39, dX5_take_40, dX5_take_43, dX5_take_44, dX5_take_45, dX5_take_48, dX5_take_49, dX5_take_50, dX5_take_53, dX5_take_54, dX5_take_55, dX5_take_58, dX5_take_61, dX5_take_62, dX5_take_65, ftX5_25, ftX5_123, ftX5_129, ftX5_132, ftX5_17, ftX5_135, rf, xN, true_and, ite_zn, ite_zm, q_max, l_neg, q_rem2, q_lt, q_le, q_eq, q_add, q_mul, q_sub, q_div, q_rem, q_in, q_cl, q_0l, q_sac, l_0, l_1, l_2, l_3, l_4, l_5, l_6, l_8, l_15, l_16, l_32, l_60, l_250, l_4000, l_5000, ct_X5_take]
    exact Or.inl ⟨_, rfl, (by decide), (by decide), hc (fun q2 => q (by rw [e1]; exact q2))⟩
  · subst ev
    have hv' : v < S 1 0 := by omega
    have etk : ∀ p, tkC C v p = true ↔ tkB S v p := fun p => by
      unfold tkC tkB; rw [decide_eq_true_iff, hS.c (c := 16) rfl, hS.c (c := 21) rfl, hS.c (c := 23) rfl]
    simp (disch := omega) only [wpf_s, wpA_s, wq_c, wq_n, lkp_n, lkp_c, lk_0, lk_s, ldI_s, ldR_s, ldL_s, incI_s, gfE_I, gfE_Z, gfE_R, pfE_I, pfE_Z, pfE_R, nwE_s, anE_0, anE_1, anE_4, kE_n, kE_s, ii_s, sw_iload_n, sw_iload, sw_aload_n, sw_aload, sw_lload_n, sw_lload, sw_istore_n, sw_istore, sw_astore_n, sw_astore, sw_lstore, sw_iinc, sw_iconst, sw_bipush, sw_sipush, sw_null, sw_ldc2, sw_dup, sw_dup2, sw_iadd, sw_isub, sw_imul, sw_iand, sw_ixor, sw_ishr, sw_iushr, sw_idiv, sw_irem, sw_land, sw_lor, sw_lcmp, sw_lshl, sw_lshr, sw_lushr, sw_i2l, sw_l2i, sw_i2b, sw_goto, sw_icmp_eq, sw_if_eq, sw_icmp_ne, sw_if_ne, sw_icmp_lt, sw_if_lt, sw_icmp_ge, sw_if_ge, sw_icmp_gt, sw_if_gt, sw_icmp_le, sw_if_le, sw_ifnull, sw_ifnonnull, sw_acmp, sw_get, sw_put, sw_iaload, sw_baload, sw_laload, sw_aaload, sw_alen, sw_iastore, sw_bastore, sw_lastore, sw_aastore, sw_aastoreN, sw_newa_byte, sw_newa_int, sw_newa_boolean, sw_newa_long, sw_anew, sw_new, sw_iv, sw_is, sw_ii, sw_ireturn, sw_areturn, sw_return, sw_table, cv_0, cv_1, cv_2, cv_3, cv_4, ci_0, ci_1, ci_2, ci_3, ci_4, cs_1, cs_2, cs_3, cs_4, ic_m1, ic_0, ic_1, ic_2, ic_3, ic_4, ic_5, ic_6, bp_6, bp_7, bp_8, bp_15, bp_16, bp_31, bp_32, bp_60, sp_250, sp_255, sp_4000, sp_5000, sp_15000, sp_32000, f4_0, f4_1, f4_2, f4_3, c_nat, rtm, rok_0, rok_1, rok_2, rok_3, okS_0, okS_s, okq_n, okq_i, okq_r, stW_n, stW_i, stW_r, stW_l, cat_i, cat_r, nox, nf_0, nf_1, nf_2, nf_3, nf_4, nf_5, nf_6, true_and, and_true, Nat.zero_le, Nat.reduceAdd, Nat.reduceLT, Nat.reduceLeDiff, Nat.reduceEqDiff, Int.reduceAdd, Int.reduceToNat, Int.reduceLE, reduceIte, List.length_cons, List.length_nil, List.set_cons_zero, List.set_cons_succ, Option.some.injEq, ne_eq, not_true, not_false_eq_true, false_or, or_false, true_or, or_true, false_and, and_false, true_implies, false_implies, implies_true, not_false_eq_true, Bool.false_eq_true, reduceCtorEq, dX5_take_0, dX5_take_1, dX5_take_4, dX5_take_5, dX5_take_8, dX5_take_9, dX5_take_10, dX5_take_13, dX5_take_16, dX5_take_17, dX5_take_19, dX5_take_22, dX5_take_23, dX5_take_24, dX5_take_27, dX5_take_28, dX5_take_31, dX5_take_32, dX5_take_33, dX5_take_36, dX5_take_37, dX5_take_38, dX5_take_39, dX5_take_40, dX5_take_43, dX5_take_44, dX5_take_45, dX5_take_48, dX5_take_49, dX5_take_50, dX5_take_53, dX5_take_54, dX5_take_55, dX5_take_58, dX5_take_61, dX5_take_62, dX5_take_65, ftX5_25, ftX5_123, ftX5_129, ftX5_132, ftX5_17, ftX5_135, rf, x1, x4, hR.k1, xN, true_and, ite_zn, ite_zm, q_max, l_neg, q_rem2, q_lt, q_le, q_eq, q_add, q_mul, q_sub, q_div, q_rem, q_in, q_cl, q_0l, q_sac, l_0, l_1, l_2, l_3, l_4, l_5, l_6, l_8, l_15, l_16, l_32, l_60, l_250, l_4000, l_5000, ct_X5_take]
    refine ⟨K, ad, C, v, rfl, hw, hv, hR, fun q => ?_, fun p hp q ht => ?_⟩
    · simp (disch := omega) only [wpf_s, wpA_s, wq_c, wq_n, lkp_n, lkp_c, lk_0, lk_s, ldI_s, ldR_s, ldL_s, incI_s, gfE_I, gfE_Z, gfE_R, pfE_I, pfE_Z, pfE_R, nwE_s, anE_0, anE_1, anE_4, kE_n, kE_s, ii_s, sw_iload_n, sw_iload, sw_aload_n, sw_aload, sw_lload_n, sw_lload, sw_istore_n, sw_istore, sw_astore_n, sw_astore, sw_lstore, sw_iinc, sw_iconst, sw_bipush, sw_sipush, sw_null, sw_ldc2, sw_dup, sw_dup2, sw_iadd, sw_isub, sw_imul, sw_iand, sw_ixor, sw_ishr, sw_iushr, sw_idiv, sw_irem, sw_land, sw_lor, sw_lcmp, sw_lshl, sw_lshr, sw_lushr, sw_i2l, sw_l2i, sw_i2b, sw_goto, sw_icmp_eq, sw_if_eq, sw_icmp_ne, sw_if_ne, sw_icmp_lt, sw_if_lt, sw_icmp_ge, sw_if_ge, sw_icmp_gt, sw_if_gt, sw_icmp_le, sw_if_le, sw_ifnull, sw_ifnonnull, sw_acmp, sw_get, sw_put, sw_iaload, sw_baload, sw_laload, sw_aaload, sw_alen, sw_iastore, sw_bastore, sw_lastore, sw_aastore, sw_aastoreN, sw_newa_byte, sw_newa_int, sw_newa_boolean, sw_newa_long, sw_anew, sw_new, sw_iv, sw_is, sw_ii, sw_ireturn, sw_areturn, sw_return, sw_table, cv_0, cv_1, cv_2, cv_3, cv_4, ci_0, ci_1, ci_2, ci_3, ci_4, cs_1, cs_2, cs_3, cs_4, ic_m1, ic_0, ic_1, ic_2, ic_3, ic_4, ic_5, ic_6, bp_6, bp_7, bp_8, bp_15, bp_16, bp_31, bp_32, bp_60, sp_250, sp_255, sp_4000, sp_5000, sp_15000, sp_32000, f4_0, f4_1, f4_2, f4_3, c_nat, rtm, rok_0, rok_1, rok_2, rok_3, okS_0, okS_s, okq_n, okq_i, okq_r, stW_n, stW_i, stW_r, stW_l, cat_i, cat_r, nox, nf_0, nf_1, nf_2, nf_3, nf_4, nf_5, nf_6, true_and, and_true, Nat.zero_le, Nat.reduceAdd, Nat.reduceLT, Nat.reduceLeDiff, Nat.reduceEqDiff, Int.reduceAdd, Int.reduceToNat, Int.reduceLE, reduceIte, List.length_cons, List.length_nil, List.set_cons_zero, List.set_cons_succ, Option.some.injEq, ne_eq, not_true, not_false_eq_true, false_or, or_false, true_or, or_true, false_and, and_false, true_implies, false_implies, implies_true, not_false_eq_true, Bool.false_eq_true, reduceCtorEq, dX5_take_0, dX5_take_1, dX5_take_4, dX5_take_5, dX5_take_8, dX5_take_9, dX5_take_10, dX5_take_13, dX5_take_16, dX5_take_17, dX5_take_19, dX5_take_22, dX5_take_23, dX5_take_24, dX5_take_27, dX5_take_28, dX5_take_31, dX5_take_32, dX5_take_33, dX5_take_36, dX5_take_37, dX5_take_38, dX5_take_39, dX5_take_40, dX5_take_43, dX5_take_44, dX5_take_45, dX5_take_48, dX5_take_49, dX5_take_50, dX5_take_53, dX5_take_54, dX5_take_55, dX5_take_58, dX5_take_61, dX5_take_62, dX5_take_65, ftX5_25, ftX5_123, ftX5_129, ftX5_132, ftX5_17, ftX5_135, rf, xN, true_and, ite_zn, ite_zm, q_max, l_neg, q_rem2, q_lt, q_le, q_eq, q_add, q_mul, q_sub, q_div, q_rem, q_in, q_cl, q_0l, q_sac, l_0, l_1, l_2, l_3, l_4, l_5, l_6, l_8, l_15, l_16, l_32, l_60, l_250, l_4000, l_5000, ct_X5_take]
      refine ha v hv' rfl (fun p hp ht => ?_)
      have := ff_no (by omega) q p (by omega) (by omega)
      rw [(etk p).mpr ht] at this; cases this
    · have hp' : p < S 6 0 := by omega
      have ht' := (etk p).mp ht
      have hwp := hw.p hp
      have e18 : ∀ i, C 18 i = S 18 i := fun i => hS.c (c := 18) rfl
      have e17 := hS.c (c := 17) (i := p) rfl
      have h17 : S 17 p ≤ 60 := by omega
      have hR1 := hR.setO (c := 23) (i := p) (x := 1) rfl hp rfl
      have hR2 := hR1.setO (c := 42) (i := v) (x := C 42 v + 1) rfl (by simpa [cs, vld, up_n] using hv) rfl
      have f1 : FrK K G (sI G (ad 4 p) 8 (nI 1)) := FrK.rf.i (hR.n4 hp)
      have f2 : FrK K G (sI (sI G (ad 4 p) 8 (nI 1)) (ad 2 v) 10 (nI (C 42 v + 1))) := f1.i (by rw [knd_sI]; exact hR.n2 hv)
      have n13 : ad 13 p ≠ x := fun e => by have := hR.k13 hp; rw [e, x1] at this; cases this
      have n13t : ad 13 p ≠ tp := fun e => (hR.nK (s := 13) (i := p) hp) (e ▸ hKt)
      have nx : ∀ s i, vld C s i → ad s i ≠ x := fun s i h e => hR.nK h (e ▸ hKx)
      have hR3 : RepL (sR (sI (sI G (ad 4 p) 8 (nI 1)) (ad 2 v) 10 (nI (C 42 v + 1))) x 2 (some (ad 13 p))) K ad (up (up C 23 p 1) 42 v (C 42 v + 1)) := by
        refine hR2.same (fun b hb => by rw [knd_sR]; exact hR2.1 b hb) (fun s i h => sR_o (fun e => hR2.nK h (e ▸ hKx))) (fun s i h => hR2.nK h)
      have kx : x ≠ tp := fun e => by rw [e, x6] at x1; cases x1
      have g1 := f2 x (Or.inl hKx)
      have g2 := f2 tp (Or.inl hKt)
      have g3 := f2 (ad 13 p) (Or.inr (hR.k13 hp))
      have hRX : RepX (sR (sI (sI G (ad 4 p) 8 (nI 1)) (ad 2 v) 10 (nI (C 42 v + 1))) x 2 (some (ad 13 p))) x tp (ad 13 p) (ad 1 0) (tkS p S) := by
        refine ⟨?_, ?_, ?_, ?_, ?_, ?_, ?_, fun j hj => ?_, ?_, ?_, fun j hj => ?_, n13t⟩
        · rw [knd_sR]; unfold knd; rw [g1]; exact x1
        · rw [gr_sR, if_neg (by omega)]; unfold gr; rw [g1]; exact x2
        · rw [gr_sR, if_pos ⟨rfl, rfl⟩]
        · rw [gr_sR, if_neg (by omega)]; unfold gr; rw [g1]; exact x4
        · rw [gi_sR, tkS_o h17 (by decide)]; unfold gi; rw [g1]; exact x5
        · rw [knd_sR]; unfold knd; rw [g2]; exact x6
        · rw [gn_sR]; unfold gn; rw [g2]; exact x7
        · rw [gi_sR, tkS_o h17 (by decide)]; unfold gi; rw [g2]; exact x8 j hj
        · rw [knd_sR]; unfold knd; rw [g3]; exact hR.k13 hp
        · rw [gn_sR]; unfold gn; rw [g3]
          have : tkS p S 38 0 = S 17 p := by unfold tkS; rw [itr_ans _ _ _ h17, if_neg (by omega), up_s]
          rw [this, ← e17]; exact hR.l13 hp
        · have e38 : tkS p S 38 0 = S 17 p := by unfold tkS; rw [itr_ans _ _ _ h17, if_neg (by omega), up_s]
          rw [e38] at hj
          have e37 : tkS p S 37 j = S 18 (60 * p + j) := by unfold tkS; rw [itr_ans _ _ _ h17, if_pos ⟨rfl, hj⟩, up_o (by omega), up_o (by omega)]
          rw [gi_sR, e37, ← e18]; unfold gi; rw [g3]; exact hR.e18 hp (by omega)
      have e55 : C 55 p = p := hwp.2.1
      have hz := hb v p _ _ hv' rfl hp' ht' (fun q' hq' ht2 => by
          have := ff_min (p := tkC C v) (n := C 6 0) (i := 0) (by omega) q' (by omega) (by omega)
          rw [(etk q').mpr ht2] at this; cases this) ⟨hRX, hR3, hS.tk hv' hp' ht', hI.same' h17, hKx, hKt, hR.nK (s := 13) hp⟩ (fun b a1 a2 hb => by rw [sR_o a1]; exact f2 b (Or.inl hb))
      simp (disch := omega) only [wpf_s, wpA_s, wq_c, wq_n, lkp_n, lkp_c, lk_0, lk_s, ldI_s, ldR_s, ldL_s, incI_s, gfE_I, gfE_Z, gfE_R, pfE_I, pfE_Z, pfE_R, nwE_s, anE_0, anE_1, anE_4, kE_n, kE_s, ii_s, sw_iload_n, sw_iload, sw_aload_n, sw_aload, sw_lload_n, sw_lload, sw_istore_n, sw_istore, sw_astore_n, sw_astore, sw_lstore, sw_iinc, sw_iconst, sw_bipush, sw_sipush, sw_null, sw_ldc2, sw_dup, sw_dup2, sw_iadd, sw_isub, sw_imul, sw_iand, sw_ixor, sw_ishr, sw_iushr, sw_idiv, sw_irem, sw_land, sw_lor, sw_lcmp, sw_lshl, sw_lshr, sw_lushr, sw_i2l, sw_l2i, sw_i2b, sw_goto, sw_icmp_eq, sw_if_eq, sw_icmp_ne, sw_if_ne, sw_icmp_lt, sw_if_lt, sw_icmp_ge, sw_if_ge, sw_icmp_gt, sw_if_gt, sw_icmp_le, sw_if_le, sw_ifnull, sw_ifnonnull, sw_acmp, sw_get, sw_put, sw_iaload, sw_baload, sw_laload, sw_aaload, sw_alen, sw_iastore, sw_bastore, sw_lastore, sw_aastore, sw_aastoreN, sw_newa_byte, sw_newa_int, sw_newa_boolean, sw_newa_long, sw_anew, sw_new, sw_iv, sw_is, sw_ii, sw_ireturn, sw_areturn, sw_return, sw_table, cv_0, cv_1, cv_2, cv_3, cv_4, ci_0, ci_1, ci_2, ci_3, ci_4, cs_1, cs_2, cs_3, cs_4, ic_m1, ic_0, ic_1, ic_2, ic_3, ic_4, ic_5, ic_6, bp_6, bp_7, bp_8, bp_15, bp_16, bp_31, bp_32, bp_60, sp_250, sp_255, sp_4000, sp_5000, sp_15000, sp_32000, f4_0, f4_1, f4_2, f4_3, c_nat, rtm, rok_0, rok_1, rok_2, rok_3, okS_0, okS_s, okq_n, okq_i, okq_r, stW_n, stW_i, stW_r, stW_l, cat_i, cat_r, nox, nf_0, nf_1, nf_2, nf_3, nf_4, nf_5, nf_6, true_and, and_true, Nat.zero_le, Nat.reduceAdd, Nat.reduceLT, Nat.reduceLeDiff, Nat.reduceEqDiff, Int.reduceAdd, Int.reduceToNat, Int.reduceLE, reduceIte, List.length_cons, List.length_nil, List.set_cons_zero, List.set_cons_succ, Option.some.injEq, ne_eq, not_true, not_false_eq_true, false_or, or_false, true_or, or_true, false_and, and_false, true_implies, false_implies, implies_true, not_false_eq_true, Bool.false_eq_true, reduceCtorEq, dX5_take_0, dX5_take_1, dX5_take_4, dX5_take_5, dX5_take_8, dX5_take_9, dX5_take_10, dX5_take_13, dX5_take_16, dX5_take_17, dX5_take_19, dX5_take_22, dX5_take_23, dX5_take_24, dX5_take_27, dX5_take_28, dX5_take_31, dX5_take_32, dX5_take_33, dX5_take_36, dX5_take_37, dX5_take_38, dX5_take_39, dX5_take_40, dX5_take_43, dX5_take_44, dX5_take_45, dX5_take_48, dX5_take_49, dX5_take_50, dX5_take_53, dX5_take_54, dX5_take_55, dX5_take_58, dX5_take_61, dX5_take_62, dX5_take_65, ftX5_25, ftX5_123, ftX5_129, ftX5_132, ftX5_17, ftX5_135, rf, hR.k4 hp, hR.k2 hv, hR.o42 hv, hR.r4_2 hp, hR.o55 hp, e55, x1, knd_sI, knd_sR, gr_sI, gi_sI, gi_sR, hR.d2_4 hv hp, hR.d4_2 hp hv, nx 4 p hp, nx 2 v hv, false_and, if_false, Nat.reduceEqDiff, and_false, xN, true_and, ite_zn, ite_zm, q_max, l_neg, q_rem2, q_lt, q_le, q_eq, q_add, q_mul, q_sub, q_div, q_rem, q_in, q_cl, q_0l, q_sac, l_0, l_1, l_2, l_3, l_4, l_5, l_6, l_8, l_15, l_16, l_32, l_60, l_250, l_4000, l_5000, ct_X5_take]
      exact hz
