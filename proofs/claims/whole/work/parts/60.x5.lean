theorem itr_lkv {d : Nat} {S : St} : ∀ n c v, itr (lkv d) n S c v = if v < n ∧ (c = 13 ∨ c = 14 ∨ c = 29 ∨ c = 30 ∨ c = 31 ∨ c = 32 ∨ c = 33 ∨ c = 34) then (if c = 13 then d else if c = 14 then 1 else 0) else S c v
  | 0, c, v => by rw [itr, if_neg (by omega)]
  | n + 1, c, v => by
    rw [itr, lkv]
    simp only [up_n]
    rw [itr_lkv n]
    by_cases e : v = n
    · subst e
      by_cases h34 : c = 34
      · subst h34; simp
      by_cases h33 : c = 33
      · subst h33; simp
      by_cases h32 : c = 32
      · subst h32; simp
      by_cases h31 : c = 31
      · subst h31; simp
      by_cases h30 : c = 30
      · subst h30; simp
      by_cases h29 : c = 29
      · subst h29; simp
      by_cases h14 : c = 14
      · subst h14; simp
      by_cases h13 : c = 13
      · subst h13; simp
      simp [h34, h33, h32, h31, h30, h29, h14, h13]
    · simp only [e, and_false, if_false]
      by_cases q : v < n
      · have q' : v < n + 1 := by omega
        simp only [q, q', true_and]
      · have q' : ¬ v < n + 1 := by omega
        simp only [q, q', false_and, if_false]
/-- the class's state of a new link: as the model's, and what only the class keeps -/
def lnC (c w b d : Nat) (S : St) : St := fun k i =>
  if k = 54 then i else if k = 44 then d else if k = 45 ∨ k = 46 ∨ k = 41 ∨ k = 42 ∨ k = 43 ∨ k = 51 ∨ k = 52 ∨ k = 47 ∨ k = 48 ∨ k = 49 ∨ k = 56 ∨ k = 15 then 0 else if k = 57 then c else if k = 40 then NN else lkS c w b d S k i
theorem lk0_at {c w b : Nat} {S : St} {k i : Nat} : lk0 c w b S k i = if i = 0 ∧ k < 13 then (if k = 0 then 0 else if k = 1 then c else if k = 2 then w else if k = 3 then b else if k = 8 then NN else 0) else S k i := by
  unfold lk0
  by_cases hi : i = 0
  · subst hi
    simp only [up_n, and_true, true_and]
    by_cases hk : k < 13
    · have : k = 0 ∨ k = 1 ∨ k = 2 ∨ k = 3 ∨ k = 4 ∨ k = 5 ∨ k = 6 ∨ k = 7 ∨ k = 8 ∨ k = 9 ∨ k = 10 ∨ k = 11 ∨ k = 12 := by omega
      rcases this with rfl | rfl | rfl | rfl | rfl | rfl | rfl | rfl | rfl | rfl | rfl | rfl | rfl <;> rfl
    · rw [if_neg hk, if_neg (by omega), if_neg (by omega), if_neg (by omega), if_neg (by omega), if_neg (by omega), if_neg (by omega), if_neg (by omega), if_neg (by omega), if_neg (by omega), if_neg (by omega), if_neg (by omega), if_neg (by omega), if_neg (by omega)]
  · simp only [up_n, hi, and_false, false_and, if_false]
theorem lkS_at {c w b d : Nat} {S : St} {k i : Nat} : lkS c w b d S k i = if i < 8 ∧ (k = 13 ∨ k = 14 ∨ k = 29 ∨ k = 30 ∨ k = 31 ∨ k = 32 ∨ k = 33 ∨ k = 34) then (if k = 13 then d else if k = 14 then 1 else 0) else if i = 0 ∧ k < 13 then (if k = 0 then 0 else if k = 1 then c else if k = 2 then w else if k = 3 then b else if k = 8 then NN else 0) else S k i := by
  unfold lkS; rw [itr_lkv, lk0_at]
theorem lkS_s {c w b d : Nat} {S : St} : lkS c w b d S 1 0 = c ∧ lkS c w b d S 2 0 = w ∧ lkS c w b d S 3 0 = b ∧ lkS c w b d S 4 0 = 0 ∧ lkS c w b d S 5 0 = 0 ∧ lkS c w b d S 6 0 = 0 ∧ lkS c w b d S 7 0 = 0 ∧ lkS c w b d S 8 0 = NN ∧ lkS c w b d S 9 0 = 0 ∧ lkS c w b d S 10 0 = 0 ∧ lkS c w b d S 11 0 = 0 ∧ lkS c w b d S 12 0 = 0 := by
  refine ⟨?_, ?_, ?_, ?_, ?_, ?_, ?_, ?_, ?_, ?_, ?_, ?_⟩ <;> (rw [lkS_at]; rfl)
theorem lkS_c {c w b d : Nat} {S : St} {v : Nat} (hv : v < 8) : lkS c w b d S 13 v = d ∧ lkS c w b d S 14 v = 1 ∧ lkS c w b d S 29 v = 0 ∧ lkS c w b d S 30 v = 0 ∧ lkS c w b d S 31 v = 0 ∧ lkS c w b d S 32 v = 0 ∧ lkS c w b d S 33 v = 0 ∧ lkS c w b d S 34 v = 0 := by
  refine ⟨?_, ?_, ?_, ?_, ?_, ?_, ?_, ?_⟩ <;> (rw [lkS_at, if_pos ⟨hv, by simp⟩]; rfl)
theorem lkS_o {c w b d : Nat} {S : St} {k i : Nat} (hk : k ∈ [18, 35, 36, 37, 38]) : lkS c w b d S k i = S k i := by
  simp at hk
  rw [lkS_at, if_neg (by omega), if_neg (by omega)]
theorem lk_sim {c w b d : Nat} {S : St} (hc : 1 ≤ c ∧ c ≤ 8) (hw : 1 ≤ w ∧ w ≤ 16) (hb : 1 ≤ b ∧ b ≤ 16) (hd : 1 ≤ d ∧ d ≤ 16) (h36 : S 36 0 ≤ 60) (h38 : S 38 0 ≤ 60) (hWB : WB S) : Sim (lkS c w b d S) (lnC c w b d S) ∧ Iv (lkS c w b d S) (lnC c w b d S) ∧ PreL (lnC c w b d S) c w b d := by
  obtain ⟨s1, s2, s3, s4, s5, s6, s7, s8, s9, s10, s11, s12⟩ := lkS_s (c := c) (w := w) (b := b) (d := d) (S := S)
  have hN := NN_v
  have hwf : WF (lkS c w b d S) := by
    refine ⟨?_, fun v hv => ?_, fun p hp => ?_, fun v hv f hf => ?_⟩
    · unfold Ws
      rw [s1, s2, s3, s4, s5, s6, s7, s8, s9, s10, s11, s12, lkS_o (by decide), lkS_o (by decide)]
      omega
    · obtain ⟨q1, q2, q3, q4, q5, q6, q7, q8⟩ := lkS_c (c := c) (w := w) (b := b) (d := d) (S := S) hv
      unfold Wc; rw [q1, q2, q3, q4, q5, q6, q7, q8]; omega
    · rw [s6] at hp; omega
    · obtain ⟨q1, q2, q3, q4, q5, q6, q7, q8⟩ := lkS_c (c := c) (w := w) (b := b) (d := d) (S := S) hv
      rw [q3] at hf; omega
  have cl : ∀ k i, k ∉ [54, 44, 45, 46, 41, 42, 43, 51, 52, 47, 48, 49, 56, 57, 40, 15] → lnC c w b d S k i = lkS c w b d S k i := fun k i hk => by
    simp at hk; unfold lnC; rw [if_neg (by omega), if_neg (by omega), if_neg (by omega), if_neg (by omega), if_neg (by omega)]
  have c0 : ∀ k i, k ∈ [45, 46, 41, 42, 43, 51, 52, 47, 48, 49, 56, 15] → lnC c w b d S k i = 0 := fun k i hk => by
    simp at hk; unfold lnC; rw [if_neg (by omega), if_neg (by omega), if_pos (by omega)]
  have c54 : ∀ i, lnC c w b d S 54 i = i := fun i => by unfold lnC; rfl
  have c44 : ∀ i, lnC c w b d S 44 i = d := fun i => by unfold lnC; rfl
  have c57 : lnC c w b d S 57 0 = c := by unfold lnC; rfl
  have c40 : lnC c w b d S 40 0 = NN := by unfold lnC; rfl
  refine ⟨⟨fun k i hk => ?_, hwf, ?_, fun v hv => ?_, fun p hp => ?_, ?_⟩, ?_, ?_⟩
  · rw [s5] at hk
    refine cl k i ?_
    rcases hk with hk | hk
    · simp; refine ⟨?_, ?_, ?_, ?_, ?_, ?_, ?_, ?_, ?_, ?_, ?_, ?_, ?_, ?_, ?_, ?_⟩ <;> (intro q; rw [q] at hk; cases hk)
    · omega
  · rw [c57, c0 49 0 (by decide), c0 56 0 (by decide), c40, s1, s6]; simp
  · rw [s1] at hv
    have hv8 : v < 8 := by omega
    obtain ⟨q1, q2, q3, q4, q5, q6, q7, q8⟩ := lkS_c (c := c) (w := w) (b := b) (d := d) (S := S) hv8
    refine ⟨?_, ?_, ?_⟩
    · unfold SimV cr
      rw [c54, c44, c0 45 v (by decide), c0 46 v (by decide), c0 51 v (by decide), c0 52 v (by decide), c0 41 v (by decide), c0 42 v (by decide), c0 43 v (by decide), q1, q3, q4, q5, q6, q7, s6]
      refine ⟨rfl, by omega, rfl, rfl, rfl, rfl, rfl, rfl, rfl, fun k hk => ?_⟩
      rw [c0 47 _ (by decide)]; rfl
    · unfold OrV; rw [q3, q6]
      exact ⟨fun f hf => by omega, fun f g h1 h2 => by omega, fun f hf => by omega, fun f h1 h2 => by omega, fun g hg => by omega⟩
    · unfold Mn; rw [q4, q5, q6, q7]
      exact ⟨fun f g h1 h2 h3 => by omega, fun f g h1 h2 h3 => by omega⟩
  · rw [s6] at hp; omega
  · refine ⟨fun v f hv h1 h2 => ?_, fun k hk q => ?_⟩
    · rw [s1] at hv
      obtain ⟨q1, q2, q3, q4, q5, q6, q7, q8⟩ := lkS_c (c := c) (w := w) (b := b) (d := d) (S := S) (show v < 8 by omega)
      rw [q4] at h2; omega
    · exact absurd (c0 48 k (by decide)) q
  · unfold Iv Tw Tb Zr BB
    rw [s1, s7, s9, s10, s11, s12, c40]
    refine ⟨fun v f hv h1 h2 => ?_, fun v f hv h1 h2 => ?_, fun _ v hv => (lkS_c (by omega)).2.2.2.1, Or.inl rfl, by omega, fun k hk j => ?_⟩
    · obtain ⟨q1, q2, q3, q4, q5, q6, q7, q8⟩ := lkS_c (c := c) (w := w) (b := b) (d := d) (S := S) (show v < 8 by omega)
      rw [q4] at h2; omega
    · obtain ⟨q1, q2, q3, q4, q5, q6, q7, q8⟩ := lkS_c (c := c) (w := w) (b := b) (d := d) (S := S) (show v < 8 by omega)
      rw [q6] at h2; omega
    · rw [lkS_o (by simp; omega)]; exact hWB k hk j
  · refine ⟨by rw [cl 1 0 (by decide)]; exact s1, c57, by rw [cl 2 0 (by decide)]; exact s2, by rw [cl 3 0 (by decide)]; exact s3, by rw [cl 5 0 (by decide)]; exact s5, c0 49 0 (by decide), by rw [cl 7 0 (by decide)]; exact s7, by rw [cl 4 0 (by decide)]; exact s4, by rw [cl 8 0 (by decide)]; exact s8, by rw [cl 9 0 (by decide)]; exact s9, by rw [cl 10 0 (by decide)]; exact s10, by rw [cl 11 0 (by decide)]; exact s11, by rw [cl 12 0 (by decide)]; exact s12, c40, by rw [cl 6 0 (by decide)]; exact s6, c0 56 0 (by decide), fun k _ => c0 48 k (by decide), fun k _ => c0 15 k (by decide), fun v hv => ?_⟩
    obtain ⟨q1, q2, q3, q4, q5, q6, q7, q8⟩ := lkS_c (c := c) (w := w) (b := b) (d := d) (S := S) hv
    exact ⟨c54 v, by rw [cl 13 v (by decide)]; exact q1, by rw [cl 14 v (by decide)]; exact q2, c44 v, c0 45 v (by decide), c0 46 v (by decide), c0 41 v (by decide), c0 42 v (by decide), c0 43 v (by decide), by rw [cl 34 v (by decide)]; exact q8, c0 51 v (by decide), c0 52 v (by decide), by rw [cl 29 v (by decide)]; exact q3, by rw [cl 30 v (by decide)]; exact q4, by rw [cl 31 v (by decide)]; exact q5, by rw [cl 32 v (by decide)]; exact q6, fun k _ => c0 47 _ (by decide)⟩
def T_X5_link : TT := fun av G Qr Qx => ∃ K x tp tk ad C S c w b d, av = [rf x, .inl c, .inl w, .inl b, .inl d] ∧ XI G K x tp tk ad C S ∧ (∀ c' w' b' d' G' ad' C', 1 ≤ c' → c' ≤ 8 → 1 ≤ w' → w' ≤ 16 → 1 ≤ b' → b' ≤ 16 → 1 ≤ d' → d' ≤ 16 → c = nI c' → w = nI w' → b = nI b' → d = nI d' → XI G' K x tp tk ad' C' (lkS c' w' b' d' S) → FrX K x tp G G' → Qr none G') ∧ (¬ lkOK c w b d → Qx xIA G)
theorem mono_X5_link : TMono T_X5_link := fun av G Q1 Q2 Qx ⟨K, x, tp, tk, ad, C, S, c, w, b, d, p0, p1, q0, y0⟩ hq => ⟨K, x, tp, tk, ad, C, S, c, w, b, d, p0, p1, fun b0 b1 b2 b3 b4 b5 b6 c0 c1 c2 c3 c4 c5 c6 c7 c8 c9 c10 c11 c12 c13 => hq _ _ (q0 b0 b1 b2 b3 b4 b5 b6 c0 c1 c2 c3 c4 c5 c6 c7 c8 c9 c10 c11 c12 c13), y0⟩
def rm_X5_link : Room := { frames := 6, cells := 38, slots := 608, locals := 100 }
def ct_X5_link : List (Nat × CS) := [(29, 8, 2, 0, 0, T_X5_isWithin), (22, 7, 4, 36, 586, T_X3_init)]
def xs_X5_link : List (Nat × String) := [(9, xIA), (37, xIA), (57, xIA)]
set_option maxRecDepth 20000 in
set_option maxHeartbeats 4000000 in
theorem c_X5_link (l : Launch) (hl : l.stackTraces = false) : CM l yX5_link cX5_link 5 none rm_X5_link T_X5_link := by
  refine CM.evX (ft := ftX5) (nt := ntX5) (ct := ct_X5_link) (oi := 0) (rt := 0) (ini := false) (by decide +kernel) (Or.inl ⟨rfl, rfl⟩) ftX5_ok (fun q => by cases q) ntX5_ok (List.forall_mem_cons.mpr ⟨⟨mono_X5_isWithin, yX5_isWithin, cX5_isWithin, 2, (some .boolean), rm_X5_isWithin, c_X5_isWithin l, mi_X5_isWithin, rfl, rfl, ⟨by decide, by decide⟩, fun q => absurd q (by decide), fun _ => ⟨ms_X5_isWithin, lnkX5_29⟩, fun q => absurd q (by decide), fun q => absurd q (by decide)⟩, List.forall_mem_cons.mpr ⟨⟨mono_X3_init, yX3_init, cX3_init, 6, none, rm_X3_init, c_X3_init l, mi_X3_init, rfl, rfl, ⟨by decide, by decide⟩, fun q => absurd q (by decide), fun q => absurd q (by decide), fun _ => ⟨mn_X3_init, lnkX5_22, rfl, rfl⟩, fun q => absurd q (by decide)⟩, fun x h => by cases h⟩⟩) (fun q => absurd rfl q) (xs := xs_X5_link) (List.forall_mem_cons.mpr ⟨⟨33, 35, 37, "channels are 1 to 8", xk_IA, by decide +kernel, dX5_link_9, dX5_link_12, dX5_link_13, dX5_link_15, dX5_link_18⟩, List.forall_mem_cons.mpr ⟨⟨33, 40, 37, "wire and back are 1 to 16", xk_IA, by decide +kernel, dX5_link_37, dX5_link_40, dX5_link_41, dX5_link_43, dX5_link_46⟩, List.forall_mem_cons.mpr ⟨⟨33, 42, 37, "depth is 1 to 16", xk_IA, by decide +kernel, dX5_link_57, dX5_link_60, dX5_link_61, dX5_link_63, dX5_link_66⟩, fun x h => by cases h⟩⟩⟩) rfl hl ⟨by decide, by decide⟩ ?_
  intro av G Qr Qx hT
  obtain ⟨K, x, tp, tk, ad, C, S, c, w, b, d, rfl, hXI, ha, hb⟩ := hT
  refine ⟨Nat.le_of_ble_eq_true rfl, fun J hJ => ?_⟩
  obtain ⟨⟨x1, x2, x3, x4, x5, x6, x7, x8, x9, x10, x11, x12⟩, hR, hS, hI, hKx, hKt, hKk⟩ := id hXI
  refine hJ [] 90 0 [some (rf x), some (.inl c), some (.inl w), some (.inl b), some (.inl d)] [] G 0 0 (fun x h => by cases h) ?_
  by_cases h1 : 1 ≤ c ∧ c ≤ 8
  · by_cases h2 : 1 ≤ w ∧ w ≤ 16
    · by_cases h3 : 1 ≤ b ∧ b ≤ 16
      · by_cases h4 : 1 ≤ d ∧ d ≤ 16
        · obtain ⟨c', i1, i2, rfl⟩ := q_rg (a := 1) (b := 8) (x := c) (by decide) h1 (by decide)
          obtain ⟨w', j1, j2, rfl⟩ := q_rg (a := 1) (b := 16) (x := w) (by decide) h2 (by decide)
          obtain ⟨b', k1, k2, rfl⟩ := q_rg (a := 1) (b := 16) (x := b) (by decide) h3 (by decide)
          obtain ⟨d', l1, l2, rfl⟩ := q_rg (a := 1) (b := 16) (x := d) (by decide) h4 (by decide)
          have w3 := hS.wf.1
          unfold Ws at w3
          obtain ⟨z1, z2, z3⟩ := lk_sim (S := S) ⟨i1, i2⟩ ⟨j1, j2⟩ ⟨k1, k2⟩ ⟨l1, l2⟩ (by omega) (by omega) hI.2.2.2.2.2
          simp (disch := omega) only [wpf_s, wpA_s, wq_c, wq_n, lkp_n, lkp_c, lk_0, lk_s, ldI_s, ldR_s, ldL_s, incI_s, gfE_I, gfE_Z, gfE_R, pfE_I, pfE_Z, pfE_R, nwE_s, anE_0, anE_1, anE_4, kE_n, kE_s, ii_s, sw_iload_n, sw_iload, sw_aload_n, sw_aload, sw_lload_n, sw_lload, sw_istore_n, sw_istore, sw_astore_n, sw_astore, sw_lstore, sw_iinc, sw_iconst, sw_bipush, sw_sipush, sw_null, sw_ldc2, sw_dup, sw_dup2, sw_iadd, sw_isub, sw_imul, sw_iand, sw_ixor, sw_ishr, sw_iushr, sw_idiv, sw_irem, sw_land, sw_lor, sw_lcmp, sw_lshl, sw_lshr, sw_lushr, sw_i2l, sw_l2i, sw_i2b, sw_goto, sw_icmp_eq, sw_if_eq, sw_icmp_ne, sw_if_ne, sw_icmp_lt, sw_if_lt, sw_icmp_ge, sw_if_ge, sw_icmp_gt, sw_if_gt, sw_icmp_le, sw_if_le, sw_ifnull, sw_ifnonnull, sw_acmp, sw_get, sw_put, sw_iaload, sw_baload, sw_laload, sw_aaload, sw_alen, sw_iastore, sw_bastore, sw_lastore, sw_aastore, sw_aastoreN, sw_newa_byte, sw_newa_int, sw_newa_boolean, sw_newa_long, sw_anew, sw_new, sw_iv, sw_is, sw_ii, sw_ireturn, sw_areturn, sw_return, sw_table, cv_0, cv_1, cv_2, cv_3, cv_4, ci_0, ci_1, ci_2, ci_3, ci_4, cs_1, cs_2, cs_3, cs_4, ic_m1, ic_0, ic_1, ic_2, ic_3, ic_4, ic_5, ic_6, bp_6, bp_7, bp_8, bp_15, bp_16, bp_31, bp_32, bp_60, sp_250, sp_255, sp_4000, sp_5000, sp_15000, sp_32000, f4_0, f4_1, f4_2, f4_3, c_nat, rtm, rok_0, rok_1, rok_2, rok_3, okS_0, okS_s, okq_n, okq_i, okq_r, stW_n, stW_i, stW_r, stW_l, cat_i, cat_r, nox, nf_0, nf_1, nf_2, nf_3, nf_4, nf_5, nf_6, true_and, and_true, Nat.zero_le, Nat.reduceAdd, Nat.reduceLT, Nat.reduceLeDiff, Nat.reduceEqDiff, Int.reduceAdd, Int.reduceToNat, Int.reduceLE, reduceIte, List.length_cons, List.length_nil, List.set_cons_zero, List.set_cons_succ, Option.some.injEq, ne_eq, not_true, not_false_eq_true, false_or, or_false, true_or, or_true, false_and, and_false, true_implies, false_implies, implies_true, not_false_eq_true, Bool.false_eq_true, reduceCtorEq, dX5_link_0, dX5_link_1, dX5_link_3, dX5_link_6, dX5_link_9, dX5_link_12, dX5_link_13, dX5_link_15, dX5_link_18, dX5_link_19, dX5_link_20, dX5_link_22, dX5_link_25, dX5_link_28, dX5_link_29, dX5_link_31, dX5_link_34, dX5_link_37, dX5_link_40, dX5_link_41, dX5_link_43, dX5_link_46, dX5_link_47, dX5_link_49, dX5_link_51, dX5_link_54, dX5_link_57, dX5_link_60, dX5_link_61, dX5_link_63, dX5_link_66, dX5_link_67, dX5_link_68, dX5_link_71, dX5_link_72, dX5_link_73, dX5_link_74, dX5_link_75, dX5_link_77, dX5_link_80, dX5_link_83, ntX5_20, ftX5_25, rf, T_isWithin_e, nfO, x1, xN, true_and, ite_zn, ite_zm, q_max, l_neg, q_rem2, q_lt, q_le, q_eq, q_add, q_mul, q_sub, q_div, q_rem, q_in, q_cl, q_0l, q_sac, l_0, l_1, l_2, l_3, l_4, l_5, l_6, l_8, l_15, l_16, l_32, l_60, l_250, l_4000, l_5000, ct_X5_link]
          refine ⟨fun q => absurd ⟨i1, i2⟩ q, fun _ => ⟨fun q => absurd ⟨j1, j2⟩ q, fun _ => ⟨fun q => absurd ⟨k1, k2⟩ q, fun _ => ⟨fun q => absurd ⟨l1, l2⟩ q, fun _ => ?_⟩⟩⟩⟩
          refine Or.inr ⟨by decide, by decide, fun a g => ⟨by decide, by decide, K, a, c', w', b', d', lnC c' w' b' d' S, rfl, by rw [knd_nw, if_pos rfl], fun q => hR.1 a q g, fun y hy => ?_, i1, i2, z3, fun G1 ad1 r1 r2 r3 => ?_⟩⟩
          · have := hR.1 y hy
            rw [knd_nw]; split
            · decide
            · exact this
          have z : ∀ y, knd G y ≠ 99 → G1 y = G y := fun y hy => by
            have n : y ≠ a := fun e => hy (e ▸ g)
            rw [r3 y n (by rw [knd_nw, if_neg n]; exact hy), knd_nw_o n]
          have ex := z x (by rw [x1]; decide)
          have et := z tp (by rw [x6]; decide)
          have ek := z tk (by rw [x9]; decide)
          have y1 : knd G1 x = 5 := by unfold knd; rw [ex]; exact x1
          have nt : tp ≠ x := fun e => by rw [e, x1] at x6; cases x6
          have nk : tk ≠ x := fun e => by rw [e, x1] at x9; cases x9
          have hX : XI (sR G1 x 3 (some a)) K x tp tk ad1 (lnC c' w' b' d' S) (lkS c' w' b' d' S) := by
            refine ⟨⟨?_, ?_, ?_, ?_, ?_, ?_, ?_, fun j hj => ?_, ?_, ?_, fun j hj => ?_, x12⟩, ?_, z1, z2, hKx, hKt, hKk⟩
            · rw [knd_sR]; exact y1
            · rw [gr_sR, if_neg (by omega)]; unfold gr; rw [ex]; exact x2
            · rw [gr_sR, if_neg (by omega)]; unfold gr; rw [ex]; exact x3
            · rw [gr_sR, if_pos ⟨rfl, rfl⟩, r2]
            · rw [gi_sR, lkS_o (by decide)]; unfold gi; rw [ex]; exact x5
            · rw [knd_sR]; unfold knd; rw [et]; exact x6
            · rw [gn_sR]; unfold gn; rw [et]; exact x7
            · rw [gi_sR, lkS_o (by decide)]; unfold gi; rw [et]; exact x8 j hj
            · rw [knd_sR]; unfold knd; rw [ek]; exact x9
            · rw [gn_sR, lkS_o (by decide)]; unfold gn; rw [ek]; exact x10
            · rw [lkS_o (by decide)] at hj; rw [gi_sR, lkS_o (by decide)]; unfold gi; rw [ek]; exact x11 j hj
            · refine r1.same (fun y hy => by rw [knd_sR]; exact r1.1 y hy) (fun s i h => ?_) (fun s i h => r1.nK h)
              have n1 : ad1 s i ≠ x := fun e => r1.nK h (by rw [e]; exact hKx)
              rw [sR_o n1]
          simp (disch := omega) only [wpf_s, wpA_s, wq_c, wq_n, lkp_n, lkp_c, lk_0, lk_s, ldI_s, ldR_s, ldL_s, incI_s, gfE_I, gfE_Z, gfE_R, pfE_I, pfE_Z, pfE_R, nwE_s, anE_0, anE_1, anE_4, kE_n, kE_s, ii_s, sw_iload_n, sw_iload, sw_aload_n, sw_aload, sw_lload_n, sw_lload, sw_istore_n, sw_istore, sw_astore_n, sw_astore, sw_lstore, sw_iinc, sw_iconst, sw_bipush, sw_sipush, sw_null, sw_ldc2, sw_dup, sw_dup2, sw_iadd, sw_isub, sw_imul, sw_iand, sw_ixor, sw_ishr, sw_iushr, sw_idiv, sw_irem, sw_land, sw_lor, sw_lcmp, sw_lshl, sw_lshr, sw_lushr, sw_i2l, sw_l2i, sw_i2b, sw_goto, sw_icmp_eq, sw_if_eq, sw_icmp_ne, sw_if_ne, sw_icmp_lt, sw_if_lt, sw_icmp_ge, sw_if_ge, sw_icmp_gt, sw_if_gt, sw_icmp_le, sw_if_le, sw_ifnull, sw_ifnonnull, sw_acmp, sw_get, sw_put, sw_iaload, sw_baload, sw_laload, sw_aaload, sw_alen, sw_iastore, sw_bastore, sw_lastore, sw_aastore, sw_aastoreN, sw_newa_byte, sw_newa_int, sw_newa_boolean, sw_newa_long, sw_anew, sw_new, sw_iv, sw_is, sw_ii, sw_ireturn, sw_areturn, sw_return, sw_table, cv_0, cv_1, cv_2, cv_3, cv_4, ci_0, ci_1, ci_2, ci_3, ci_4, cs_1, cs_2, cs_3, cs_4, ic_m1, ic_0, ic_1, ic_2, ic_3, ic_4, ic_5, ic_6, bp_6, bp_7, bp_8, bp_15, bp_16, bp_31, bp_32, bp_60, sp_250, sp_255, sp_4000, sp_5000, sp_15000, sp_32000, f4_0, f4_1, f4_2, f4_3, c_nat, rtm, rok_0, rok_1, rok_2, rok_3, okS_0, okS_s, okq_n, okq_i, okq_r, stW_n, stW_i, stW_r, stW_l, cat_i, cat_r, nox, nf_0, nf_1, nf_2, nf_3, nf_4, nf_5, nf_6, true_and, and_true, Nat.zero_le, Nat.reduceAdd, Nat.reduceLT, Nat.reduceLeDiff, Nat.reduceEqDiff, Int.reduceAdd, Int.reduceToNat, Int.reduceLE, reduceIte, List.length_cons, List.length_nil, List.set_cons_zero, List.set_cons_succ, Option.some.injEq, ne_eq, not_true, not_false_eq_true, false_or, or_false, true_or, or_true, false_and, and_false, true_implies, false_implies, implies_true, not_false_eq_true, Bool.false_eq_true, reduceCtorEq, dX5_link_0, dX5_link_1, dX5_link_3, dX5_link_6, dX5_link_9, dX5_link_12, dX5_link_13, dX5_link_15, dX5_link_18, dX5_link_19, dX5_link_20, dX5_link_22, dX5_link_25, dX5_link_28, dX5_link_29, dX5_link_31, dX5_link_34, dX5_link_37, dX5_link_40, dX5_link_41, dX5_link_43, dX5_link_46, dX5_link_47, dX5_link_49, dX5_link_51, dX5_link_54, dX5_link_57, dX5_link_60, dX5_link_61, dX5_link_63, dX5_link_66, dX5_link_67, dX5_link_68, dX5_link_71, dX5_link_72, dX5_link_73, dX5_link_74, dX5_link_75, dX5_link_77, dX5_link_80, dX5_link_83, ntX5_20, ftX5_25, rf, y1, xN, true_and, ite_zn, ite_zm, q_max, l_neg, q_rem2, q_lt, q_le, q_eq, q_add, q_mul, q_sub, q_div, q_rem, q_in, q_cl, q_0l, q_sac, l_0, l_1, l_2, l_3, l_4, l_5, l_6, l_8, l_15, l_16, l_32, l_60, l_250, l_4000, l_5000, ct_X5_link]
          exact ⟨by decide, by decide, ha c' w' b' d' _ ad1 _ i1 i2 j1 j2 k1 k2 l1 l2 rfl rfl rfl rfl hX (fun y a1 a2 hy => by rw [sR_o a1]; exact z y (hR.1 y hy))⟩
        · simp only [wpf_s, wpA_s, wq_c, wq_n, lkp_n, lkp_c, lk_0, lk_s, ldI_s, ldR_s, ldL_s, incI_s, gfE_I, gfE_Z, gfE_R, pfE_I, pfE_Z, pfE_R, nwE_s, anE_0, anE_1, anE_4, kE_n, kE_s, ii_s, sw_iload_n, sw_iload, sw_aload_n, sw_aload, sw_lload_n, sw_lload, sw_istore_n, sw_istore, sw_astore_n, sw_astore, sw_lstore, sw_iinc, sw_iconst, sw_bipush, sw_sipush, sw_null, sw_ldc2, sw_dup, sw_dup2, sw_iadd, sw_isub, sw_imul, sw_iand, sw_ixor, sw_ishr, sw_iushr, sw_idiv, sw_irem, sw_land, sw_lor, sw_lcmp, sw_lshl, sw_lshr, sw_lushr, sw_i2l, sw_l2i, sw_i2b, sw_goto, sw_icmp_eq, sw_if_eq, sw_icmp_ne, sw_if_ne, sw_icmp_lt, sw_if_lt, sw_icmp_ge, sw_if_ge, sw_icmp_gt, sw_if_gt, sw_icmp_le, sw_if_le, sw_ifnull, sw_ifnonnull, sw_acmp, sw_get, sw_put, sw_iaload, sw_baload, sw_laload, sw_aaload, sw_alen, sw_iastore, sw_bastore, sw_lastore, sw_aastore, sw_aastoreN, sw_newa_byte, sw_newa_int, sw_newa_boolean, sw_newa_long, sw_anew, sw_new, sw_iv, sw_is, sw_ii, sw_ireturn, sw_areturn, sw_return, sw_table, cv_0, cv_1, cv_2, cv_3, cv_4, ci_0, ci_1, ci_2, ci_3, ci_4, cs_1, cs_2, cs_3, cs_4, ic_m1, ic_0, ic_1, ic_2, ic_3, ic_4, ic_5, ic_6, bp_6, bp_7, bp_8, bp_15, bp_16, bp_31, bp_32, bp_60, sp_250, sp_255, sp_4000, sp_5000, sp_15000, sp_32000, f4_0, f4_1, f4_2, f4_3, c_nat, rtm, rok_0, rok_1, rok_2, rok_3, okS_0, okS_s, okq_n, okq_i, okq_r, stW_n, stW_i, stW_r, stW_l, cat_i, cat_r, nox, nf_0, nf_1, nf_2, nf_3, nf_4, nf_5, nf_6, true_and, and_true, Nat.zero_le, Nat.reduceAdd, Nat.reduceLT, Nat.reduceLeDiff, Nat.reduceEqDiff, Int.reduceAdd, Int.reduceToNat, Int.reduceLE, reduceIte, List.length_cons, List.length_nil, List.set_cons_zero, List.set_cons_succ, Option.some.injEq, ne_eq, not_true, not_false_eq_true, false_or, or_false, true_or, or_true, false_and, and_false, true_implies, false_implies, implies_true, not_false_eq_true, Bool.false_eq_true, reduceCtorEq, dX5_link_0, dX5_link_1, dX5_link_3, dX5_link_6, dX5_link_9, dX5_link_12, dX5_link_13, dX5_link_15, dX5_link_18, dX5_link_19, dX5_link_20, dX5_link_22, dX5_link_25, dX5_link_28, dX5_link_29, dX5_link_31, dX5_link_34, dX5_link_37, dX5_link_40, dX5_link_41, dX5_link_43, dX5_link_46, dX5_link_47, dX5_link_49, dX5_link_51, dX5_link_54, dX5_link_57, dX5_link_60, dX5_link_61, dX5_link_63, dX5_link_66, dX5_link_67, dX5_link_68, dX5_link_71, dX5_link_72, dX5_link_73, dX5_link_74, dX5_link_75, dX5_link_77, dX5_link_80, dX5_link_83, ntX5_20, ftX5_25, rf, T_isWithin_e, eq_true h1, eq_true h2, eq_true h3, eq_false h4, if_false, if_true, z10, ite_z, not_false_eq_true, not_true_eq_false, true_implies, false_implies, true_and, and_true, xN, true_and, ct_X5_link]
          exact Or.inl ⟨_, rfl, (by decide), (by decide), hb (fun q => h4 q.2.2)⟩
      · simp only [wpf_s, wpA_s, wq_c, wq_n, lkp_n, lkp_c, lk_0, lk_s, ldI_s, ldR_s, ldL_s, incI_s, gfE_I, gfE_Z, gfE_R, pfE_I, pfE_Z, pfE_R, nwE_s, anE_0, anE_1, anE_4, kE_n, kE_s, ii_s, sw_iload_n, sw_iload, sw_aload_n, sw_aload, sw_lload_n, sw_lload, sw_istore_n, sw_istore, sw_astore_n, sw_astore, sw_lstore, sw_iinc, sw_iconst, sw_bipush, sw_sipush, sw_null, sw_ldc2, sw_dup, sw_dup2, sw_iadd, sw_isub, sw_imul, sw_iand, sw_ixor, sw_ishr, sw_iushr, sw_idiv, sw_irem, sw_land, sw_lor, sw_lcmp, sw_lshl, sw_lshr, sw_lushr, sw_i2l, sw_l2i, sw_i2b, sw_goto, sw_icmp_eq, sw_if_eq, sw_icmp_ne, sw_if_ne, sw_icmp_lt, sw_if_lt, sw_icmp_ge, sw_if_ge, sw_icmp_gt, sw_if_gt, sw_icmp_le, sw_if_le, sw_ifnull, sw_ifnonnull, sw_acmp, sw_get, sw_put, sw_iaload, sw_baload, sw_laload, sw_aaload, sw_alen, sw_iastore, sw_bastore, sw_lastore, sw_aastore, sw_aastoreN, sw_newa_byte, sw_newa_int, sw_newa_boolean, sw_newa_long, sw_anew, sw_new, sw_iv, sw_is, sw_ii, sw_ireturn, sw_areturn, sw_return, sw_table, cv_0, cv_1, cv_2, cv_3, cv_4, ci_0, ci_1, ci_2, ci_3, ci_4, cs_1, cs_2, cs_3, cs_4, ic_m1, ic_0, ic_1, ic_2, ic_3, ic_4, ic_5, ic_6, bp_6, bp_7, bp_8, bp_15, bp_16, bp_31, bp_32, bp_60, sp_250, sp_255, sp_4000, sp_5000, sp_15000, sp_32000, f4_0, f4_1, f4_2, f4_3, c_nat, rtm, rok_0, rok_1, rok_2, rok_3, okS_0, okS_s, okq_n, okq_i, okq_r, stW_n, stW_i, stW_r, stW_l, cat_i, cat_r, nox, nf_0, nf_1, nf_2, nf_3, nf_4, nf_5, nf_6, true_and, and_true, Nat.zero_le, Nat.reduceAdd, Nat.reduceLT, Nat.reduceLeDiff, Nat.reduceEqDiff, Int.reduceAdd, Int.reduceToNat, Int.reduceLE, reduceIte, List.length_cons, List.length_nil, List.set_cons_zero, List.set_cons_succ, Option.some.injEq, ne_eq, not_true, not_false_eq_true, false_or, or_false, true_or, or_true, false_and, and_false, true_implies, false_implies, implies_true, not_false_eq_true, Bool.false_eq_true, reduceCtorEq, dX5_link_0, dX5_link_1, dX5_link_3, dX5_link_6, dX5_link_9, dX5_link_12, dX5_link_13, dX5_link_15, dX5_link_18, dX5_link_19, dX5_link_20, dX5_link_22, dX5_link_25, dX5_link_28, dX5_link_29, dX5_link_31, dX5_link_34, dX5_link_37, dX5_link_40, dX5_link_41, dX5_link_43, dX5_link_46, dX5_link_47, dX5_link_49, dX5_link_51, dX5_link_54, dX5_link_57, dX5_link_60, dX5_link_61, dX5_link_63, dX5_link_66, dX5_link_67, dX5_link_68, dX5_link_71, dX5_link_72, dX5_link_73, dX5_link_74, dX5_link_75, dX5_link_77, dX5_link_80, dX5_link_83, ntX5_20, ftX5_25, rf, T_isWithin_e, eq_true h1, eq_true h2, eq_false h3, if_false, if_true, z10, ite_z, not_false_eq_true, not_true_eq_false, true_implies, false_implies, true_and, and_true, xN, true_and, ct_X5_link]
        exact Or.inl ⟨_, rfl, (by decide), (by decide), hb (fun q => h3 q.2.1)⟩
    · simp only [wpf_s, wpA_s, wq_c, wq_n, lkp_n, lkp_c, lk_0, lk_s, ldI_s, ldR_s, ldL_s, incI_s, gfE_I, gfE_Z, gfE_R, pfE_I, pfE_Z, pfE_R, nwE_s, anE_0, anE_1, anE_4, kE_n, kE_s, ii_s, sw_iload_n, sw_iload, sw_aload_n, sw_aload, sw_lload_n, sw_lload, sw_istore_n, sw_istore, sw_astore_n, sw_astore, sw_lstore, sw_iinc, sw_iconst, sw_bipush, sw_sipush, sw_null, sw_ldc2, sw_dup, sw_dup2, sw_iadd, sw_isub, sw_imul, sw_iand, sw_ixor, sw_ishr, sw_iushr, sw_idiv, sw_irem, sw_land, sw_lor, sw_lcmp, sw_lshl, sw_lshr, sw_lushr, sw_i2l, sw_l2i, sw_i2b, sw_goto, sw_icmp_eq, sw_if_eq, sw_icmp_ne, sw_if_ne, sw_icmp_lt, sw_if_lt, sw_icmp_ge, sw_if_ge, sw_icmp_gt, sw_if_gt, sw_icmp_le, sw_if_le, sw_ifnull, sw_ifnonnull, sw_acmp, sw_get, sw_put, sw_iaload, sw_baload, sw_laload, sw_aaload, sw_alen, sw_iastore, sw_bastore, sw_lastore, sw_aastore, sw_aastoreN, sw_newa_byte, sw_newa_int, sw_newa_boolean, sw_newa_long, sw_anew, sw_new, sw_iv, sw_is, sw_ii, sw_ireturn, sw_areturn, sw_return, sw_table, cv_0, cv_1, cv_2, cv_3, cv_4, ci_0, ci_1, ci_2, ci_3, ci_4, cs_1, cs_2, cs_3, cs_4, ic_m1, ic_0, ic_1, ic_2, ic_3, ic_4, ic_5, ic_6, bp_6, bp_7, bp_8, bp_15, bp_16, bp_31, bp_32, bp_60, sp_250, sp_255, sp_4000, sp_5000, sp_15000, sp_32000, f4_0, f4_1, f4_2, f4_3, c_nat, rtm, rok_0, rok_1, rok_2, rok_3, okS_0, okS_s, okq_n, okq_i, okq_r, stW_n, stW_i, stW_r, stW_l, cat_i, cat_r, nox, nf_0, nf_1, nf_2, nf_3, nf_4, nf_5, nf_6, true_and, and_true, Nat.zero_le, Nat.reduceAdd, Nat.reduceLT, Nat.reduceLeDiff, Nat.reduceEqDiff, Int.reduceAdd, Int.reduceToNat, Int.reduceLE, reduceIte, List.length_cons, List.length_nil, List.set_cons_zero, List.set_cons_succ, Option.some.injEq, ne_eq, not_true, not_false_eq_true, false_or, or_false, true_or, or_true, false_and, and_false, true_implies, false_implies, implies_true, not_false_eq_true, Bool.false_eq_true, reduceCtorEq, dX5_link_0, dX5_link_1, dX5_link_3, dX5_link_6, dX5_link_9, dX5_link_12, dX5_link_13, dX5_link_15, dX5_link_18, dX5_link_19, dX5_link_20, dX5_link_22, dX5_link_25, dX5_link_28, dX5_link_29, dX5_link_31, dX5_link_34, dX5_link_37, dX5_link_40, dX5_link_41, dX5_link_43, dX5_link_46, dX5_link_47, dX5_link_49, dX5_link_51, dX5_link_54, dX5_link_57, dX5_link_60, dX5_link_61, dX5_link_63, dX5_link_66, dX5_link_67, dX5_link_68, dX5_link_71, dX5_link_72, dX5_link_73, dX5_link_74, dX5_link_75, dX5_link_77, dX5_link_80, dX5_link_83, ntX5_20, ftX5_25, rf, T_isWithin_e, eq_true h1, eq_false h2, if_false, if_true, z10, ite_z, not_false_eq_true, not_true_eq_false, true_implies, false_implies, true_and, and_true, xN, true_and, ct_X5_link]
      exact Or.inl ⟨_, rfl, (by decide), (by decide), hb (fun q => h2 q.1.2)⟩
  · simp only [wpf_s, wpA_s, wq_c, wq_n, lkp_n, lkp_c, lk_0, lk_s, ldI_s, ldR_s, ldL_s, incI_s, gfE_I, gfE_Z, gfE_R, pfE_I, pfE_Z, pfE_R, nwE_s, anE_0, anE_1, anE_4, kE_n, kE_s, ii_s, sw_iload_n, sw_iload, sw_aload_n, sw_aload, sw_lload_n, sw_lload, sw_istore_n, sw_istore, sw_astore_n, sw_astore, sw_lstore, sw_iinc, sw_iconst, sw_bipush, sw_sipush, sw_null, sw_ldc2, sw_dup, sw_dup2, sw_iadd, sw_isub, sw_imul, sw_iand, sw_ixor, sw_ishr, sw_iushr, sw_idiv, sw_irem, sw_land, sw_lor, sw_lcmp, sw_lshl, sw_lshr, sw_lushr, sw_i2l, sw_l2i, sw_i2b, sw_goto, sw_icmp_eq, sw_if_eq, sw_icmp_ne, sw_if_ne, sw_icmp_lt, sw_if_lt, sw_icmp_ge, sw_if_ge, sw_icmp_gt, sw_if_gt, sw_icmp_le, sw_if_le, sw_ifnull, sw_ifnonnull, sw_acmp, sw_get, sw_put, sw_iaload, sw_baload, sw_laload, sw_aaload, sw_alen, sw_iastore, sw_bastore, sw_lastore, sw_aastore, sw_aastoreN, sw_newa_byte, sw_newa_int, sw_newa_boolean, sw_newa_long, sw_anew, sw_new, sw_iv, sw_is, sw_ii, sw_ireturn, sw_areturn, sw_return, sw_table, cv_0, cv_1, cv_2, cv_3, cv_4, ci_0, ci_1, ci_2, ci_3, ci_4, cs_1, cs_2, cs_3, cs_4, ic_m1, ic_0, ic_1, ic_2, ic_3, ic_4, ic_5, ic_6, bp_6, bp_7, bp_8, bp_15, bp_16, bp_31, bp_32, bp_60, sp_250, sp_255, sp_4000, sp_5000, sp_15000, sp_32000, f4_0, f4_1, f4_2, f4_3, c_nat, rtm, rok_0, rok_1, rok_2, rok_3, okS_0, okS_s, okq_n, okq_i, okq_r, stW_n, stW_i, stW_r, stW_l, cat_i, cat_r, nox, nf_0, nf_1, nf_2, nf_3, nf_4, nf_5, nf_6, true_and, and_true, Nat.zero_le, Nat.reduceAdd, Nat.reduceLT, Nat.reduceLeDiff, Nat.reduceEqDiff, Int.reduceAdd, Int.reduceToNat, Int.reduceLE, reduceIte, List.length_cons, List.length_nil, List.set_cons_zero, List.set_cons_succ, Option.some.injEq, ne_eq, not_true, not_false_eq_true, false_or, or_false, true_or, or_true, false_and, and_false, true_implies, false_implies, implies_true, not_false_eq_true, Bool.false_eq_true, reduceCtorEq, dX5_link_0, dX5_link_1, dX5_link_3, dX5_link_6, dX5_link_9, dX5_link_12, dX5_link_13, dX5_link_15, dX5_link_18, dX5_link_19, dX5_link_20, dX5_link_22, dX5_link_25, dX5_link_28, dX5_link_29, dX5_link_31, dX5_link_34, dX5_link_37, dX5_link_40, dX5_link_41, dX5_link_43, dX5_link_46, dX5_link_47, dX5_link_49, dX5_link_51, dX5_link_54, dX5_link_57, dX5_link_60, dX5_link_61, dX5_link_63, dX5_link_66, dX5_link_67, dX5_link_68, dX5_link_71, dX5_link_72, dX5_link_73, dX5_link_74, dX5_link_75, dX5_link_77, dX5_link_80, dX5_link_83, ntX5_20, ftX5_25, rf, T_isWithin_e, eq_false h1, if_false, if_true, z10, ite_z, not_false_eq_true, not_true_eq_false, true_implies, false_implies, true_and, and_true, xN, true_and, ct_X5_link]
    exact Or.inl ⟨_, rfl, (by decide), (by decide), hb (fun q => h1 q.1.1)⟩

def T_X5_init : TT := fun av G Qr _ => ∃ (K : Nat → Prop) (x : Nat), av = [rf x] ∧ knd G x = 5 ∧ K x ∧ (∀ y, K y → knd G y ≠ 99) ∧
  (∀ G' tp tk ad C, knd G tp = 99 → XI G' (fun y => K y ∨ y = tp) x tp tk ad C SI0 → (∀ y, y ≠ x → knd G y ≠ 99 → G' y = G y) → Qr none G')
theorem mono_X5_init : TMono T_X5_init := fun av G Q1 Q2 Qx ⟨K, x, p0, p1, p2, p3, q0⟩ hq => ⟨K, x, p0, p1, p2, p3, fun a b c d e f g h => hq _ _ (q0 a b c d e f g h)⟩
def rm_X5_init : Room := { frames := 4, cells := 39, slots := 662, locals := 87 }
def ct_X5_init : List (Nat × CS) := [(22, 7, 4, 36, 586, T_X3_init)]
set_option maxRecDepth 20000 in
set_option maxHeartbeats 4000000 in
theorem c_X5_init (l : Launch) : CM l yX5_init cX5_init 1 none rm_X5_init T_X5_init := by
  refine CM.ev (ft := ftX5i) (nt := ntX5) (ct := ct_X5_init) (oi := 3) (rt := 0) (ini := true) (by decide +kernel) (Or.inl ⟨rfl, rfl⟩) ftX5i_ok (fun _ => rfl) ntX5_ok (List.forall_mem_cons.mpr ⟨⟨mono_X3_init, yX3_init, cX3_init, 6, none, rm_X3_init, c_X3_init l, mi_X3_init, rfl, rfl, ⟨by decide, by decide⟩, fun q => absurd q (by decide), fun q => absurd q (by decide), fun _ => ⟨mn_X3_init, lnkX5_22, rfl, rfl⟩, fun q => absurd q (by decide)⟩, fun x h => by cases h⟩) (fun _ => ⟨oiX5, by decide, by decide⟩) ?_
  intro av G Qr Qx hT
  obtain ⟨K, x, rfl, h1, hKx, hK9, ha⟩ := hT
  refine ⟨Nat.le_of_ble_eq_true rfl, fun J hJ => ?_⟩
  suffices hh : J 4 [some (rf x)] [] G 0 0 by
    refine hJ [(4, J 4)] 90 0 [some (rf x)] [] G 0 0 (fun x h ls st G k n q => by cases h with | head => exact q | tail _ h => cases h) ?_
    simp (disch := omega) only [wpf_s, wpA_s, wq_c, wq_n, lkp_n, lkp_c, lk_0, lk_s, ldI_s, ldR_s, ldL_s, incI_s, gfE_I, gfE_Z, gfE_R, pfE_I, pfE_Z, pfE_R, nwE_s, anE_0, anE_1, anE_4, kE_n, kE_s, ii_s, sw_iload_n, sw_iload, sw_aload_n, sw_aload, sw_lload_n, sw_lload, sw_istore_n, sw_istore, sw_astore_n, sw_astore, sw_lstore, sw_iinc, sw_iconst, sw_bipush, sw_sipush, sw_null, sw_ldc2, sw_dup, sw_dup2, sw_iadd, sw_isub, sw_imul, sw_iand, sw_ixor, sw_ishr, sw_iushr, sw_idiv, sw_irem, sw_land, sw_lor, sw_lcmp, sw_lshl, sw_lshr, sw_lushr, sw_i2l, sw_l2i, sw_i2b, sw_goto, sw_icmp_eq, sw_if_eq, sw_icmp_ne, sw_if_ne, sw_icmp_lt, sw_if_lt, sw_icmp_ge, sw_if_ge, sw_icmp_gt, sw_if_gt, sw_icmp_le, sw_if_le, sw_ifnull, sw_ifnonnull, sw_acmp, sw_get, sw_put, sw_iaload, sw_baload, sw_laload, sw_aaload, sw_alen, sw_iastore, sw_bastore, sw_lastore, sw_aastore, sw_aastoreN, sw_newa_byte, sw_newa_int, sw_newa_boolean, sw_newa_long, sw_anew, sw_new, sw_iv, sw_is, sw_ii, sw_ireturn, sw_areturn, sw_return, sw_table, cv_0, cv_1, cv_2, cv_3, cv_4, ci_0, ci_1, ci_2, ci_3, ci_4, cs_1, cs_2, cs_3, cs_4, ic_m1, ic_0, ic_1, ic_2, ic_3, ic_4, ic_5, ic_6, bp_6, bp_7, bp_8, bp_15, bp_16, bp_31, bp_32, bp_60, sp_250, sp_255, sp_4000, sp_5000, sp_15000, sp_32000, f4_0, f4_1, f4_2, f4_3, c_nat, rtm, rok_0, rok_1, rok_2, rok_3, okS_0, okS_s, okq_n, okq_i, okq_r, stW_n, stW_i, stW_r, stW_l, cat_i, cat_r, nox, nf_0, nf_1, nf_2, nf_3, nf_4, nf_5, nf_6, true_and, and_true, Nat.zero_le, Nat.reduceAdd, Nat.reduceLT, Nat.reduceLeDiff, Nat.reduceEqDiff, Int.reduceAdd, Int.reduceToNat, Int.reduceLE, reduceIte, List.length_cons, List.length_nil, List.set_cons_zero, List.set_cons_succ, Option.some.injEq, ne_eq, not_true, not_false_eq_true, false_or, or_false, true_or, or_true, false_and, and_false, true_implies, false_implies, implies_true, not_false_eq_true, Bool.false_eq_true, reduceCtorEq, dX5_init_0, dX5_init_1, dX5_init_4, dX5_init_5, dX5_init_7, dX5_init_9, dX5_init_12, dX5_init_13, dX5_init_14, dX5_init_17, dX5_init_18, dX5_init_19, dX5_init_21, dX5_init_24, dX5_init_25, dX5_init_28, dX5_init_29, dX5_init_30, dX5_init_31, dX5_init_32, dX5_init_33, dX5_init_36, dX5_init_39, ftX5i_9, ftX5i_13, ftX5i_17, ntX5_20, ftX5i_25, rf, ite_zn, ite_zm, q_max, l_neg, q_rem2, q_lt, q_le, q_eq, q_add, q_mul, q_sub, q_div, q_rem, q_in, q_cl, q_0l, q_sac, l_0, l_1, l_2, l_3, l_4, l_5, l_6, l_8, l_15, l_16, l_32, l_60, l_250, l_4000, l_5000, ct_X5_init]
    exact hh
  refine hJ [] 90 4 [some (rf x)] [] G 0 0 (fun x h => by cases h) ?_
  simp (disch := omega) only [wpf_s, wpA_s, wq_c, wq_n, lkp_n, lkp_c, lk_0, lk_s, ldI_s, ldR_s, ldL_s, incI_s, gfE_I, gfE_Z, gfE_R, pfE_I, pfE_Z, pfE_R, nwE_s, anE_0, anE_1, anE_4, kE_n, kE_s, ii_s, sw_iload_n, sw_iload, sw_aload_n, sw_aload, sw_lload_n, sw_lload, sw_istore_n, sw_istore, sw_astore_n, sw_astore, sw_lstore, sw_iinc, sw_iconst, sw_bipush, sw_sipush, sw_null, sw_ldc2, sw_dup, sw_dup2, sw_iadd, sw_isub, sw_imul, sw_iand, sw_ixor, sw_ishr, sw_iushr, sw_idiv, sw_irem, sw_land, sw_lor, sw_lcmp, sw_lshl, sw_lshr, sw_lushr, sw_i2l, sw_l2i, sw_i2b, sw_goto, sw_icmp_eq, sw_if_eq, sw_icmp_ne, sw_if_ne, sw_icmp_lt, sw_if_lt, sw_icmp_ge, sw_if_ge, sw_icmp_gt, sw_if_gt, sw_icmp_le, sw_if_le, sw_ifnull, sw_ifnonnull, sw_acmp, sw_get, sw_put, sw_iaload, sw_baload, sw_laload, sw_aaload, sw_alen, sw_iastore, sw_bastore, sw_lastore, sw_aastore, sw_aastoreN, sw_newa_byte, sw_newa_int, sw_newa_boolean, sw_newa_long, sw_anew, sw_new, sw_iv, sw_is, sw_ii, sw_ireturn, sw_areturn, sw_return, sw_table, cv_0, cv_1, cv_2, cv_3, cv_4, ci_0, ci_1, ci_2, ci_3, ci_4, cs_1, cs_2, cs_3, cs_4, ic_m1, ic_0, ic_1, ic_2, ic_3, ic_4, ic_5, ic_6, bp_6, bp_7, bp_8, bp_15, bp_16, bp_31, bp_32, bp_60, sp_250, sp_255, sp_4000, sp_5000, sp_15000, sp_32000, f4_0, f4_1, f4_2, f4_3, c_nat, rtm, rok_0, rok_1, rok_2, rok_3, okS_0, okS_s, okq_n, okq_i, okq_r, stW_n, stW_i, stW_r, stW_l, cat_i, cat_r, nox, nf_0, nf_1, nf_2, nf_3, nf_4, nf_5, nf_6, true_and, and_true, Nat.zero_le, Nat.reduceAdd, Nat.reduceLT, Nat.reduceLeDiff, Nat.reduceEqDiff, Int.reduceAdd, Int.reduceToNat, Int.reduceLE, reduceIte, List.length_cons, List.length_nil, List.set_cons_zero, List.set_cons_succ, Option.some.injEq, ne_eq, not_true, not_false_eq_true, false_or, or_false, true_or, or_true, false_and, and_false, true_implies, false_implies, implies_true, not_false_eq_true, Bool.false_eq_true, reduceCtorEq, dX5_init_0, dX5_init_1, dX5_init_4, dX5_init_5, dX5_init_7, dX5_init_9, dX5_init_12, dX5_init_13, dX5_init_14, dX5_init_17, dX5_init_18, dX5_init_19, dX5_init_21, dX5_init_24, dX5_init_25, dX5_init_28, dX5_init_29, dX5_init_30, dX5_init_31, dX5_init_32, dX5_init_33, dX5_init_36, dX5_init_39, ftX5i_9, ftX5i_13, ftX5i_17, ntX5_20, ftX5i_25, rf, h1, knd_nw, knd_sR, knd_sI, nfO, ite_zn, ite_zm, q_max, l_neg, q_rem2, q_lt, q_le, q_eq, q_add, q_mul, q_sub, q_div, q_rem, q_in, q_cl, q_0l, q_sac, l_0, l_1, l_2, l_3, l_4, l_5, l_6, l_8, l_15, l_16, l_32, l_60, l_250, l_4000, l_5000, ct_X5_init]
  refine ⟨by decide, by decide, by decide, by decide, fun tp g1 => ?_⟩
  have n1 : x ≠ tp := fun e => by rw [e, g1] at h1; cases h1
  rw [if_neg n1]
  refine ⟨rfl, rfl, by decide, by decide, by decide, by decide, fun tk g2 => ?_⟩
  have n2 : tk ≠ tp := fun e => by rw [if_pos e] at g2; cases g2
  rw [if_neg n2] at g2
  have n3 : x ≠ tk := fun e => by rw [e, g2] at h1; cases h1
  rw [if_neg n3]
  refine ⟨rfl, by decide, by decide, fun L g3 => ?_⟩
  have n4 : L ≠ tk := fun e => by rw [if_pos e] at g3; cases g3
  rw [if_neg n4] at g3
  have n5 : L ≠ tp := fun e => by rw [if_pos e] at g3; cases g3
  rw [if_neg n5] at g3
  have n6 : x ≠ L := fun e => by rw [e, g3] at h1; cases h1
  have hz : ∀ y, y ≠ x → y ≠ tp → y ≠ tk → y ≠ L → nw (sR (nw (sI (sR (nw G tp 7 60) x 0 (some tp)) x 1 (nI 0)) tk 7 0) x 2 (some tk)) L 3 0 y = G y := fun y a1 a2 a3 a4 => by
    rw [knd_nw_o a4, sR_o a1, knd_nw_o a3, sI_o a1, sR_o a1, knd_nw_o a2]
  have f1 : knd (nw (sR (nw (sI (sR (nw G tp 7 60) x 0 (some tp)) x 1 (nI 0)) tk 7 0) x 2 (some tk)) L 3 0) x = 5 ∧ gr (nw (sR (nw (sI (sR (nw G tp 7 60) x 0 (some tp)) x 1 (nI 0)) tk 7 0) x 2 (some tk)) L 3 0) x 0 = some tp ∧ gr (nw (sR (nw (sI (sR (nw G tp 7 60) x 0 (some tp)) x 1 (nI 0)) tk 7 0) x 2 (some tk)) L 3 0) x 2 = some tk ∧ gi (nw (sR (nw (sI (sR (nw G tp 7 60) x 0 (some tp)) x 1 (nI 0)) tk 7 0) x 2 (some tk)) L 3 0) x 1 = nI 0 := by
    simp [knd_nw, knd_sR, knd_sI, gr_nw, gr_sR, gr_sI, gi_nw, gi_sR, gi_sI, n1, n3, n6, h1]
  have f2 : knd (nw (sR (nw (sI (sR (nw G tp 7 60) x 0 (some tp)) x 1 (nI 0)) tk 7 0) x 2 (some tk)) L 3 0) tp = 7 ∧ gn (nw (sR (nw (sI (sR (nw G tp 7 60) x 0 (some tp)) x 1 (nI 0)) tk 7 0) x 2 (some tk)) L 3 0) tp = 60 ∧ ∀ j, gi (nw (sR (nw (sI (sR (nw G tp 7 60) x 0 (some tp)) x 1 (nI 0)) tk 7 0) x 2 (some tk)) L 3 0) tp j = 0 := by
    simp [knd_nw, knd_sR, knd_sI, gn_nw, gn_sR, gn_sI, gi_nw, gi_sR, gi_sI, n1.symm, n2.symm, n5.symm]
  have f3 : knd (nw (sR (nw (sI (sR (nw G tp 7 60) x 0 (some tp)) x 1 (nI 0)) tk 7 0) x 2 (some tk)) L 3 0) tk = 7 ∧ gn (nw (sR (nw (sI (sR (nw G tp 7 60) x 0 (some tp)) x 1 (nI 0)) tk 7 0) x 2 (some tk)) L 3 0) tk = 0 := by
    simp [knd_nw, knd_sR, knd_sI, gn_nw, gn_sR, gn_sI, n4.symm]
  have f4 : knd (nw (sR (nw (sI (sR (nw G tp 7 60) x 0 (some tp)) x 1 (nI 0)) tk 7 0) x 2 (some tk)) L 3 0) L = 3 := by simp [knd_nw]
  generalize nw (sR (nw (sI (sR (nw G tp 7 60) x 0 (some tp)) x 1 (nI 0)) tk 7 0) x 2 (some tk)) L 3 0 = G3 at *
  have hKL : ¬ K L := fun q => hK9 L q g3
  have hKk : ¬ K tk := fun q => hK9 tk q g2
  have hKt : ¬ K tp := fun q => hK9 tp q g1
  have s00 : ∀ k i, k ∈ [18, 35, 36, 37, 38] → SI0 k i = 0 := fun k i hk => lkS_o hk
  obtain ⟨z1, z2, z3⟩ := lk_sim (S := S00) (c := 4) (w := 3) (b := 2) (d := 4) (by decide) (by decide) (by decide) (by decide) (by decide) (by decide) (fun k hk j => rfl)
  refine ⟨by decide, by decide, (fun y => K y ∨ y = tp), L, 4, 3, 2, 4, lnC 4 3 2 4 S00, rfl, f4, fun q => q.elim hKL n5, fun y hy => ?_, by decide, by decide, z3, fun G4 ad1 r1 r2 r3 => ?_⟩
  · rcases hy with hy | rfl
    · by_cases e1 : y = x
      · rw [e1, f1.1]; decide
      · have q := hK9 y hy
        have := hz y e1 (fun e => hKt (e ▸ hy)) (fun e => hKk (e ▸ hy)) (fun e => hKL (e ▸ hy))
        unfold knd at q ⊢; rw [this]; exact q
    · rw [f2.1]; decide
  have ex := r3 x n6 (by rw [f1.1]; decide)
  have et := r3 tp n5.symm (by rw [f2.1]; decide)
  have ek := r3 tk n4.symm (by rw [f3.1]; decide)
  have y1 : knd G4 x = 5 := by unfold knd; rw [ex]; exact f1.1
  have hX : XI (sR G4 x 3 (some L)) (fun y => K y ∨ y = tp) x tp tk ad1 (lnC 4 3 2 4 S00) SI0 := by
    refine ⟨⟨?_, ?_, ?_, ?_, ?_, ?_, ?_, fun j hj => ?_, ?_, ?_, fun j hj => ?_, n2⟩, ?_, z1, z2, Or.inl hKx, Or.inr rfl, fun q => q.elim hKk n2⟩
    · rw [knd_sR]; exact y1
    · rw [gr_sR, if_neg (by omega)]; unfold gr; rw [ex]; exact f1.2.1
    · rw [gr_sR, if_neg (by omega)]; unfold gr; rw [ex]; exact f1.2.2.1
    · rw [gr_sR, if_pos ⟨rfl, rfl⟩, r2]
    · rw [gi_sR, s00 36 0 (by decide)]; unfold gi; rw [ex]; exact f1.2.2.2
    · rw [knd_sR]; unfold knd; rw [et]; exact f2.1
    · rw [gn_sR]; unfold gn; rw [et]; exact f2.2.1
    · rw [gi_sR, s00 35 j (by decide)]; unfold gi; rw [et]; exact f2.2.2 j
    · rw [knd_sR]; unfold knd; rw [ek]; exact f3.1
    · rw [gn_sR, s00 38 0 (by decide)]; unfold gn; rw [ek]; exact f3.2
    · rw [s00 38 0 (by decide)] at hj; omega
    · refine r1.same (fun y hy => by rw [knd_sR]; exact r1.1 y hy) (fun s i h => ?_) (fun s i h => r1.nK h)
      have n1 : ad1 s i ≠ x := fun e => r1.nK h (Or.inl (by rw [e]; exact hKx))
      rw [sR_o n1]
  simp (disch := omega) only [wpf_s, wpA_s, wq_c, wq_n, lkp_n, lkp_c, lk_0, lk_s, ldI_s, ldR_s, ldL_s, incI_s, gfE_I, gfE_Z, gfE_R, pfE_I, pfE_Z, pfE_R, nwE_s, anE_0, anE_1, anE_4, kE_n, kE_s, ii_s, sw_iload_n, sw_iload, sw_aload_n, sw_aload, sw_lload_n, sw_lload, sw_istore_n, sw_istore, sw_astore_n, sw_astore, sw_lstore, sw_iinc, sw_iconst, sw_bipush, sw_sipush, sw_null, sw_ldc2, sw_dup, sw_dup2, sw_iadd, sw_isub, sw_imul, sw_iand, sw_ixor, sw_ishr, sw_iushr, sw_idiv, sw_irem, sw_land, sw_lor, sw_lcmp, sw_lshl, sw_lshr, sw_lushr, sw_i2l, sw_l2i, sw_i2b, sw_goto, sw_icmp_eq, sw_if_eq, sw_icmp_ne, sw_if_ne, sw_icmp_lt, sw_if_lt, sw_icmp_ge, sw_if_ge, sw_icmp_gt, sw_if_gt, sw_icmp_le, sw_if_le, sw_ifnull, sw_ifnonnull, sw_acmp, sw_get, sw_put, sw_iaload, sw_baload, sw_laload, sw_aaload, sw_alen, sw_iastore, sw_bastore, sw_lastore, sw_aastore, sw_aastoreN, sw_newa_byte, sw_newa_int, sw_newa_boolean, sw_newa_long, sw_anew, sw_new, sw_iv, sw_is, sw_ii, sw_ireturn, sw_areturn, sw_return, sw_table, cv_0, cv_1, cv_2, cv_3, cv_4, ci_0, ci_1, ci_2, ci_3, ci_4, cs_1, cs_2, cs_3, cs_4, ic_m1, ic_0, ic_1, ic_2, ic_3, ic_4, ic_5, ic_6, bp_6, bp_7, bp_8, bp_15, bp_16, bp_31, bp_32, bp_60, sp_250, sp_255, sp_4000, sp_5000, sp_15000, sp_32000, f4_0, f4_1, f4_2, f4_3, c_nat, rtm, rok_0, rok_1, rok_2, rok_3, okS_0, okS_s, okq_n, okq_i, okq_r, stW_n, stW_i, stW_r, stW_l, cat_i, cat_r, nox, nf_0, nf_1, nf_2, nf_3, nf_4, nf_5, nf_6, true_and, and_true, Nat.zero_le, Nat.reduceAdd, Nat.reduceLT, Nat.reduceLeDiff, Nat.reduceEqDiff, Int.reduceAdd, Int.reduceToNat, Int.reduceLE, reduceIte, List.length_cons, List.length_nil, List.set_cons_zero, List.set_cons_succ, Option.some.injEq, ne_eq, not_true, not_false_eq_true, false_or, or_false, true_or, or_true, false_and, and_false, true_implies, false_implies, implies_true, not_false_eq_true, Bool.false_eq_true, reduceCtorEq, dX5_init_0, dX5_init_1, dX5_init_4, dX5_init_5, dX5_init_7, dX5_init_9, dX5_init_12, dX5_init_13, dX5_init_14, dX5_init_17, dX5_init_18, dX5_init_19, dX5_init_21, dX5_init_24, dX5_init_25, dX5_init_28, dX5_init_29, dX5_init_30, dX5_init_31, dX5_init_32, dX5_init_33, dX5_init_36, dX5_init_39, ftX5i_9, ftX5i_13, ftX5i_17, ntX5_20, ftX5i_25, rf, y1, ite_zn, ite_zm, q_max, l_neg, q_rem2, q_lt, q_le, q_eq, q_add, q_mul, q_sub, q_div, q_rem, q_in, q_cl, q_0l, q_sac, l_0, l_1, l_2, l_3, l_4, l_5, l_6, l_8, l_15, l_16, l_32, l_60, l_250, l_4000, l_5000, ct_X5_init]
  refine ⟨by decide, by decide, ha _ tp tk ad1 _ g1 hX (fun y a1 hy => ?_)⟩
  have b1 : y ≠ tp := fun e => hy (e ▸ g1)
  have b2 : y ≠ tk := fun e => hy (e ▸ g2)
  have b3 : y ≠ L := fun e => hy (e ▸ g3)
  have e0 := hz y a1 b1 b2 b3
  rw [sR_o a1, r3 y b3 (by unfold knd at hy ⊢; rw [e0]; exact hy), e0]
