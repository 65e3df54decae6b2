theorem ntw_8 : lkp nt_L_law 8 = some 5 := rfl
theorem ntw_47 : lkp nt_L_law 47 = some 6 := rfl
/-- what is protected grows by what is new -/
theorem XI.wide {G G' : GG} {K K' : Nat → Prop} {x tp tk : Nat} {ad C S : St} (h : XI G K x tp tk ad C S) (ho : ∀ y, knd G y ≠ 99 → G' y = G y) (hk : ∀ y, K' y → knd G' y ≠ 99) (hK : ∀ y, K' y → K y ∨ knd G y = 99) (k1 : K' x) (k2 : K' tp) : XI G' K' x tp tk ad C S := by
  obtain ⟨a1, a2, a3, a4, a5, a6, a7⟩ := h
  obtain ⟨x1, -, -, -, -, x6, -, -, x9, -⟩ := id a1
  have sk9 : ∀ s i, vld C s i → sk s ≠ 99 := fun s i hv => by unfold vld at hv; split at hv <;> first | exact absurd hv id | (unfold sk; decide)
  have nk : ∀ y, ¬ K y → knd G y ≠ 99 → ¬ K' y := fun y h1 h2 h3 => (hK y h3).elim h1 h2
  refine ⟨a1.same (ho x (by rw [x1]; decide)) (ho tp (by rw [x6]; decide)) (ho tk (by rw [x9]; decide)), a2.same hk (fun s i hv => ho _ (by rw [(a2.2.1 s i hv).1]; exact sk9 s i hv)) (fun s i hv => nk _ (a2.nK hv) (by rw [(a2.2.1 s i hv).1]; exact sk9 s i hv)), a3, a4, k1, k2, nk tk a7 (by rw [x9]; decide)⟩
set_option maxRecDepth 20000 in
set_option maxHeartbeats 8000000 in
theorem lw_pro {J : Kt} (hJ : EvL J) (w_link : Wr J 149 38 608 T_L_link) (w_depth : Wr J 210 1 6 T_L_depth) (w_weight : Wr J 278 1 6 T_L_weight) (w_arbiter : Wr J 340 1 6 T_L_arbiter) (w_mask : Wr J 396 1 6 T_L_mask) (w_feed : Wr J 509 1 6 T_L_feed) (w_offer : Wr J 609 18 120 T_L_offer) (w_run : Wr J 665 1 6 T_L_run) (w_take : Wr J 721 1 6 T_L_take) {b L : Nat} {xs : Nat → Int32} {G : GG} (hL : L ≤ 3072) (b1 : knd G b = 14) (b2 : gn G b = L) (b3 : ∀ j, gi G b j = xs j) {o1 o2 o3 o4 o5 o6 : Option AV} : J 0 [some (rf b), o1, o2, o3, o4, o5, o6] [] G 0 0 := by
  refine hJ [(23, J 23)] 60 0 [some (rf b), o1, o2, o3, o4, o5, o6] [] G 0 0 (fun x h ls st G k n q => by cases h with | head => exact q | tail _ h => cases h) ?_
  simp (maxSteps := 2000000) (disch := omega) only [wpf_s, wpA_s, wq_c, wq_n, lkp_n, lkp_c, lk_0, lk_s, ldI_s, ldR_s, ldL_s, incI_s, gfE_I, gfE_Z, gfE_R, pfE_I, pfE_Z, pfE_R, nwE_s, anE_0, anE_1, anE_4, kE_n, kE_s, ii_s, sw_iload_n, sw_iload, sw_aload_n, sw_aload, sw_lload_n, sw_lload, sw_istore_n, sw_istore, sw_astore_n, sw_astore, sw_lstore, sw_iinc, sw_iconst, sw_bipush, sw_sipush, sw_null, sw_ldc2, sw_dup, sw_dup2, sw_iadd, sw_isub, sw_imul, sw_iand, sw_ixor, sw_ishr, sw_iushr, sw_idiv, sw_irem, sw_land, sw_lor, sw_lcmp, sw_lshl, sw_lshr, sw_lushr, sw_i2l, sw_l2i, sw_i2b, sw_goto, sw_icmp_eq, sw_if_eq, sw_icmp_ne, sw_if_ne, sw_icmp_lt, sw_if_lt, sw_icmp_ge, sw_if_ge, sw_icmp_gt, sw_if_gt, sw_icmp_le, sw_if_le, sw_ifnull, sw_ifnonnull, sw_acmp, sw_get, sw_put, sw_iaload, sw_baload, sw_laload, sw_aaload, sw_alen, sw_iastore, sw_bastore, sw_lastore, sw_aastore, sw_aastoreN, sw_newa_byte, sw_newa_int, sw_newa_boolean, sw_newa_long, sw_anew, sw_new, sw_iv, sw_is, sw_ii, sw_ireturn, sw_areturn, sw_return, sw_table, cv_0, cv_1, cv_2, cv_3, cv_4, ci_0, ci_1, ci_2, ci_3, ci_4, cs_1, cs_2, cs_3, cs_4, ic_m1, ic_0, ic_1, ic_2, ic_3, ic_4, ic_5, ic_6, bp_6, bp_7, bp_8, bp_15, bp_16, bp_31, bp_32, bp_60, sp_250, sp_255, sp_4000, sp_5000, sp_15000, sp_32000, f4_0, f4_1, f4_2, f4_3, c_nat, rtm, rok_0, rok_1, rok_2, rok_3, okS_0, okS_s, okq_n, okq_i, okq_r, stW_n, stW_i, stW_r, stW_l, cat_i, cat_r, nox, nf_0, nf_1, nf_2, nf_3, nf_4, nf_5, nf_6, true_and, and_true, Nat.zero_le, Nat.reduceAdd, Nat.reduceLT, Nat.reduceLeDiff, Nat.reduceEqDiff, Int.reduceAdd, Int.reduceToNat, Int.reduceLE, reduceIte, List.length_cons, List.length_nil, List.set_cons_zero, List.set_cons_succ, Option.some.injEq, ne_eq, not_true, not_false_eq_true, false_or, or_false, true_or, or_true, false_and, and_false, true_implies, false_implies, implies_true, not_false_eq_true, Bool.false_eq_true, reduceCtorEq, dL_law_0, dL_law_3, dL_law_4, ctl_46, rf, b1, b2, b3, ntw_8, ntw_47, ite_zn, ite_zm, q_max, l_neg, q_rem2, q_lt, q_le, q_eq, q_add, q_mul, q_sub, q_div, q_rem, q_in, q_cl, q_0l, q_sac, l_0, l_1, l_2, l_3, l_4, l_5, l_6, l_8, l_15, l_16, l_32, l_60, l_250, l_4000, l_5000]
  refine ⟨(by have e1 : room_1.cells = 601024 := rfl; omega), (by have e1 : room_1.slots = 7293034 := rfl; omega), fun x hx => ?_⟩
  have nb : b ≠ x := fun e => by rw [e, hx] at b1; cases b1
  have g1 : ∀ y, y ≠ x → nw G x 5 0 y = G y := fun y hy => knd_nw_o hy
  have e0 : knd (nw G x 5 0) x = 5 := by rw [knd_nw, if_pos rfl]
  have eb : knd (nw G x 5 0) b = 14 := by rw [knd_nw, if_neg nb]; exact b1
  refine ⟨(by have e1 : room_1.cells = 601024 := rfl; omega), (by have e1 : room_1.slots = 7293034 := rfl; omega), (fun y => y = x ∨ y = b), x, rfl, e0, Or.inl rfl, fun y hy => ?_, fun G1 tp tk ad C t1 X1 f1 => ?_⟩
  · rcases hy with rfl | rfl
    · rw [e0]; decide
    · rw [eb]; decide
  simp (maxSteps := 2000000) (disch := omega) only [wpf_s, wpA_s, wq_c, wq_n, lkp_n, lkp_c, lk_0, lk_s, ldI_s, ldR_s, ldL_s, incI_s, gfE_I, gfE_Z, gfE_R, pfE_I, pfE_Z, pfE_R, nwE_s, anE_0, anE_1, anE_4, kE_n, kE_s, ii_s, sw_iload_n, sw_iload, sw_aload_n, sw_aload, sw_lload_n, sw_lload, sw_istore_n, sw_istore, sw_astore_n, sw_astore, sw_lstore, sw_iinc, sw_iconst, sw_bipush, sw_sipush, sw_null, sw_ldc2, sw_dup, sw_dup2, sw_iadd, sw_isub, sw_imul, sw_iand, sw_ixor, sw_ishr, sw_iushr, sw_idiv, sw_irem, sw_land, sw_lor, sw_lcmp, sw_lshl, sw_lshr, sw_lushr, sw_i2l, sw_l2i, sw_i2b, sw_goto, sw_icmp_eq, sw_if_eq, sw_icmp_ne, sw_if_ne, sw_icmp_lt, sw_if_lt, sw_icmp_ge, sw_if_ge, sw_icmp_gt, sw_if_gt, sw_icmp_le, sw_if_le, sw_ifnull, sw_ifnonnull, sw_acmp, sw_get, sw_put, sw_iaload, sw_baload, sw_laload, sw_aaload, sw_alen, sw_iastore, sw_bastore, sw_lastore, sw_aastore, sw_aastoreN, sw_newa_byte, sw_newa_int, sw_newa_boolean, sw_newa_long, sw_anew, sw_new, sw_iv, sw_is, sw_ii, sw_ireturn, sw_areturn, sw_return, sw_table, cv_0, cv_1, cv_2, cv_3, cv_4, ci_0, ci_1, ci_2, ci_3, ci_4, cs_1, cs_2, cs_3, cs_4, ic_m1, ic_0, ic_1, ic_2, ic_3, ic_4, ic_5, ic_6, bp_6, bp_7, bp_8, bp_15, bp_16, bp_31, bp_32, bp_60, sp_250, sp_255, sp_4000, sp_5000, sp_15000, sp_32000, f4_0, f4_1, f4_2, f4_3, c_nat, rtm, rok_0, rok_1, rok_2, rok_3, okS_0, okS_s, okq_n, okq_i, okq_r, stW_n, stW_i, stW_r, stW_l, cat_i, cat_r, nox, nf_0, nf_1, nf_2, nf_3, nf_4, nf_5, nf_6, true_and, and_true, Nat.zero_le, Nat.reduceAdd, Nat.reduceLT, Nat.reduceLeDiff, Nat.reduceEqDiff, Int.reduceAdd, Int.reduceToNat, Int.reduceLE, reduceIte, List.length_cons, List.length_nil, List.set_cons_zero, List.set_cons_succ, Option.some.injEq, ne_eq, not_true, not_false_eq_true, false_or, or_false, true_or, or_true, false_and, and_false, true_implies, false_implies, implies_true, not_false_eq_true, Bool.false_eq_true, reduceCtorEq, dL_law_7, dL_law_8, dL_law_11, dL_law_12, ctl_49, rf, ntw_8, ntw_47, ite_zn, ite_zm, q_max, l_neg, q_rem2, q_lt, q_le, q_eq, q_add, q_mul, q_sub, q_div, q_rem, q_in, q_cl, q_0l, q_sac, l_0, l_1, l_2, l_3, l_4, l_5, l_6, l_8, l_15, l_16, l_32, l_60, l_250, l_4000, l_5000]
  refine ⟨(by have e1 : room_1.cells = 601024 := rfl; omega), (by have e1 : room_1.slots = 7293034 := rfl; omega), fun m hm => ?_⟩
  have f1b : G1 b = G b := (f1 b nb (by rw [eb]; decide)).trans (g1 b nb)
  have x1 := X1.1.1
  have x6 : knd G1 tp = 7 := X1.1.2.2.2.2.2.1
  have n1 : ∀ y, knd G1 y ≠ 99 → y ≠ m := fun y h1 h2 => h1 (by rw [h2]; exact hm)
  have e6 : knd (nw G1 m 6 0) m = 6 := by rw [knd_nw, if_pos rfl]
  refine ⟨(by have e1 : room_1.cells = 601024 := rfl; omega), (by have e1 : room_1.slots = 7293034 := rfl; omega), m, rfl, e6, fun j => by rw [gi_nw, if_pos rfl], fun G2 ar M2 f2 f3 => ?_⟩
  have f2' : ∀ y, knd G1 y ≠ 99 → G2 y = G1 y := fun y hy => by
    have hn := n1 y hy
    rw [f2 y hn (by rw [knd_nw, if_neg hn]; exact hy), knd_nw_o hn]
  have f3' : ∀ k, aK k ≠ 99 → knd G1 (ar k) = 99 := fun k hk => by
    have q := f3 k hk
    rw [knd_nw] at q
    split at q
    · cases q
    · exact q
  simp (maxSteps := 2000000) (disch := omega) only [wpf_s, wpA_s, wq_c, wq_n, lkp_n, lkp_c, lk_0, lk_s, ldI_s, ldR_s, ldL_s, incI_s, gfE_I, gfE_Z, gfE_R, pfE_I, pfE_Z, pfE_R, nwE_s, anE_0, anE_1, anE_4, kE_n, kE_s, ii_s, sw_iload_n, sw_iload, sw_aload_n, sw_aload, sw_lload_n, sw_lload, sw_istore_n, sw_istore, sw_astore_n, sw_astore, sw_lstore, sw_iinc, sw_iconst, sw_bipush, sw_sipush, sw_null, sw_ldc2, sw_dup, sw_dup2, sw_iadd, sw_isub, sw_imul, sw_iand, sw_ixor, sw_ishr, sw_iushr, sw_idiv, sw_irem, sw_land, sw_lor, sw_lcmp, sw_lshl, sw_lshr, sw_lushr, sw_i2l, sw_l2i, sw_i2b, sw_goto, sw_icmp_eq, sw_if_eq, sw_icmp_ne, sw_if_ne, sw_icmp_lt, sw_if_lt, sw_icmp_ge, sw_if_ge, sw_icmp_gt, sw_if_gt, sw_icmp_le, sw_if_le, sw_ifnull, sw_ifnonnull, sw_acmp, sw_get, sw_put, sw_iaload, sw_baload, sw_laload, sw_aaload, sw_alen, sw_iastore, sw_bastore, sw_lastore, sw_aastore, sw_aastoreN, sw_newa_byte, sw_newa_int, sw_newa_boolean, sw_newa_long, sw_anew, sw_new, sw_iv, sw_is, sw_ii, sw_ireturn, sw_areturn, sw_return, sw_table, cv_0, cv_1, cv_2, cv_3, cv_4, ci_0, ci_1, ci_2, ci_3, ci_4, cs_1, cs_2, cs_3, cs_4, ic_m1, ic_0, ic_1, ic_2, ic_3, ic_4, ic_5, ic_6, bp_6, bp_7, bp_8, bp_15, bp_16, bp_31, bp_32, bp_60, sp_250, sp_255, sp_4000, sp_5000, sp_15000, sp_32000, f4_0, f4_1, f4_2, f4_3, c_nat, rtm, rok_0, rok_1, rok_2, rok_3, okS_0, okS_s, okq_n, okq_i, okq_r, stW_n, stW_i, stW_r, stW_l, cat_i, cat_r, nox, nf_0, nf_1, nf_2, nf_3, nf_4, nf_5, nf_6, true_and, and_true, Nat.zero_le, Nat.reduceAdd, Nat.reduceLT, Nat.reduceLeDiff, Nat.reduceEqDiff, Int.reduceAdd, Int.reduceToNat, Int.reduceLE, reduceIte, List.length_cons, List.length_nil, List.set_cons_zero, List.set_cons_succ, Option.some.injEq, ne_eq, not_true, not_false_eq_true, false_or, or_false, true_or, or_true, false_and, and_false, true_implies, false_implies, implies_true, not_false_eq_true, Bool.false_eq_true, reduceCtorEq, dL_law_15, dL_law_16, dL_law_17, dL_law_19, dL_law_20, dL_law_21, rf, ntw_8, ntw_47, ite_zn, ite_zm, q_max, l_neg, q_rem2, q_lt, q_le, q_eq, q_add, q_mul, q_sub, q_div, q_rem, q_in, q_cl, q_0l, q_sac, l_0, l_1, l_2, l_3, l_4, l_5, l_6, l_8, l_15, l_16, l_32, l_60, l_250, l_4000, l_5000]
  refine ⟨by decide, by decide, (by have e1 : room_1.cells = 601024 := rfl; omega), (by have e1 : room_1.slots = 7293034 := rfl; omega), fun res hr => ?_⟩
  have n2 : ∀ y, knd G2 y ≠ 99 → y ≠ res := fun y h1 h2 => h1 (by rw [h2]; exact hr)
  have o2 : ∀ y, y ≠ res → nw G2 res 10 1 y = G2 y := fun y hy => knd_nw_o hy
  have kk : ∀ {A B : GG} {y : Nat}, A y = B y → knd A y = knd B y := fun h => by unfold knd; rw [h]
  have o3 : ∀ y, knd G1 y ≠ 99 → nw G2 res 10 1 y = G1 y := fun y hy => by
    have q := f2' y hy
    rw [o2 y (n2 y (by rw [kk q]; exact hy)), q]
  have kb : knd G1 b = 14 := by rw [kk f1b]; exact b1
  have ka : ∀ k, aK k ≠ 99 → knd G2 (ar k) ≠ 99 := fun k hk => by rw [(M2.2.1 k hk).2.1]; exact hk
  have km : knd G2 m ≠ 99 := by rw [M2.1]; decide
  have kr : knd (nw G2 res 10 1) res = 10 := by rw [knd_nw, if_pos rfl]
  have ob := o3 b (by rw [kb]; decide)
  have hr1 : knd G1 res = 99 := by
    by_cases e : knd G1 res = 99
    · exact e
    · have q := f2' res e; rw [kk q] at hr; exact absurd hr e
  refine lw_loop hJ w_link w_depth w_weight w_arbiter w_mask w_feed w_offer w_run w_take hL (K := fun y => y = x ∨ y = tp ∨ y = m ∨ (∃ k, aK k ≠ 99 ∧ y = ar k) ∨ y = res ∨ y = b) (xs := xs) (ar := ar) (tp := tp) 512 0 0 rfl (by omega) (by omega) tk _ ad C SI0 o5 o6 66 145922 ⟨?_, ?_, ⟨Or.inr (Or.inr (Or.inl rfl)), fun k hk => Or.inr (Or.inr (Or.inr (Or.inl ⟨k, hk, rfl⟩))), Or.inr (Or.inr (Or.inr (Or.inr (Or.inl rfl)))), Or.inr (Or.inr (Or.inr (Or.inr (Or.inr rfl))))⟩, fun k hk e => ?_, kr, by rw [gn_nw, if_pos rfl], by rw [kk ob]; exact kb, ?_, fun j => ?_⟩ (by decide) (by omega) (by omega)
  · exact M2.same (o2 m (n2 m km)) (fun k hk => o2 _ (n2 _ (ka k hk)))
  · refine X1.wide o3 (fun y hy => ?_) (fun y hy => ?_) (Or.inl rfl) (Or.inr (Or.inl rfl))
    · rcases hy with rfl | rfl | rfl | ⟨k, hk, rfl⟩ | rfl | rfl
      · rw [kk (o3 _ (by rw [x1]; decide)), x1]; decide
      · rw [kk (o3 _ (by rw [x6]; decide)), x6]; decide
      · rw [kk (o2 _ (n2 _ km))]; exact km
      · rw [kk (o2 _ (n2 _ (ka k hk)))]; exact ka k hk
      · rw [kr]; decide
      · rw [kk ob, kb]; decide
    · rcases hy with rfl | rfl | rfl | ⟨k, hk, rfl⟩ | rfl | rfl
      · exact Or.inl (Or.inl (Or.inl rfl))
      · exact Or.inl (Or.inr rfl)
      · exact Or.inr hm
      · exact Or.inr (f3' k hk)
      · exact Or.inr hr1
      · exact Or.inl (Or.inl (Or.inr rfl))
  · have q := f3' k hk; rw [← e, x6] at q; cases q
  · unfold gn; rw [ob, f1b]; exact b2
  · unfold gi; rw [ob, f1b]; exact b3 j
