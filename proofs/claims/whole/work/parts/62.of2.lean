theorem Sim.of {S C : St} (h : Sim S C) (hI : Iv S C) {v : Nat} (hv : v < S 1 0) (h6 : S 6 0 < 250) :
    Sim (ofS v S) (apC v (S 36 0) (fun j => S 35 j) C) ∧ Iv (ofS v S) (apC v (S 36 0) (fun j => S 35 j) C) := by
  have hr := h.wf.rows
  have hn := h.nums hv
  have hN := NN_v
  have hwf := h.wf
  have hs := hwf.1
  unfold Ws at hs
  have h36 : S 36 0 ≤ 60 := by omega
  have hF := fo_le h36
  have hF1 := fo_pos (S 36 0)
  have hcv := hwf.2.1 v (by omega)
  unfold Wc at hcv
  have c6 := h.c (c := 6) (i := 0) rfl
  have c7 := h.c (c := 7) (i := 0) rfl
  have c29 := h.c (c := 29) (i := v) rfl
  have hla : laC v (ap4 v (S 36 0) (fun j => S 35 j) C) = laN v S := by
    have e51 : ap4 v (S 36 0) (fun j => S 35 j) C 51 v = C 51 v + fo (S 36 0) := by
      unfold ap4; rw [itr_apf, if_neg (by omega), if_pos ⟨rfl, rfl⟩, up_o (by omega), ap3_o (Or.inl (by decide))]
    have eo : ∀ c i, c ∈ [7, 2, 3, 13, 57] → ap4 v (S 36 0) (fun j => S 35 j) C c i = C c i := fun c i hc => by
      simp at hc
      unfold ap4; rw [itr_apf, if_neg (by omega), if_neg (by omega), if_neg (by omega), if_neg (by omega), up_o (by omega), ap3_o (Or.inl (by simp; omega))]
    unfold laC laN
    rw [e51, eo 7 _ (by decide), eo 2 _ (by decide), eo 3 _ (by decide), eo 13 _ (by decide), eo 57 _ (by decide), c7, h.c (c := 2) rfl, h.c (c := 3) rfl, h.c (c := 13) rfl, h.2.2.1.1, (h.v hv).2.2.2.2.1]
    congr 2; omega
  have hlb : laN v S ≤ 1000000000 := by
    unfold laN
    have : (S 29 v + fo (S 36 0) - S 30 v) * (S 2 0 + S 3 0 + S 1 0) ≤ 4020 * 40 := Nat.mul_le_mul (by omega) (by omega)
    omega
  have sA : ∀ c i, c ≠ 24 → c ≠ 36 → c ≠ 0 → ofS v S c i = nwp v (S 6 0) (S 36 0) (4000 * v + S 29 v) (fo (S 36 0)) (laN v S) (S 7 0) (fun j => S 35 j) S c i := fun c i a1 a2 a3 => ofS_at a1 a2 a3
  have cA : ∀ c i, c ∉ [53, 55, 51, 56, 49] → apC v (S 36 0) (fun j => S 35 j) C c i = nwp v (S 6 0) (S 36 0) (4000 * v + S 29 v) (fo (S 36 0)) (laN v S) (S 7 0) (fun j => S 35 j) C c i := fun c i hc => by
    rw [apC_at hc, c6, c29, hla, c7]
  have sO : ∀ c i, c ∉ [22, 29, 25, 26, 16, 17, 19, 20, 21, 23, 18, 6, 24, 36, 0] → ofS v S c i = S c i := fun c i hc => by
    simp at hc; rw [sA c i (by omega) (by omega) (by omega), nwp_o (by simp; omega)]
  have sP : ∀ c i, c ∈ [22, 16, 17, 19, 20, 21, 23] → i ≠ S 6 0 → ofS v S c i = S c i := fun c i hc hi => by
    rw [sA c i (by simp at hc; omega) (by simp at hc; omega) (by simp at hc; omega), nwp_p hc hi]
  obtain ⟨m22, m16, m17, m19, m20, m21, m23, m6, m29⟩ := nwp_new (v := v) (p := S 6 0) (n := S 36 0) (i0 := 4000 * v + S 29 v) (F := fo (S 36 0)) (la := laN v S) (t := S 7 0) (T := fun j => S 35 j) (R := S)
  rw [← sA _ _ (by decide) (by decide) (by decide)] at m22 m16 m17 m19 m20 m21 m23 m6 m29
  have s29 : ∀ u, u ≠ v → ofS v S 29 u = S 29 u := fun u hu => by rw [sA _ _ (by decide) (by decide) (by decide), nwp_29 hu]
  have s25 : ∀ i, ofS v S 25 i = if 4000 * v + S 29 v ≤ i ∧ i < 4000 * v + S 29 v + fo (S 36 0) then S 6 0 else S 25 i := fun i => by rw [sA _ _ (by decide) (by decide) (by decide), nwp_f.1]
  have s26 : ∀ i, ofS v S 26 i = if 4000 * v + S 29 v ≤ i ∧ i < 4000 * v + S 29 v + fo (S 36 0) then i - (4000 * v + S 29 v) else S 26 i := fun i => by rw [sA _ _ (by decide) (by decide) (by decide), nwp_f.2]
  have s24 : ∀ i, ofS v S 24 i = if i = S 6 0 then 1 else S 24 i := fun i => by
    unfold ofS of4; rw [up_o (by omega), itr_flS, if_neg (by omega), if_neg (by omega), if_neg (by omega)]
    unfold of3 of2 of1; simp only [up_n, itr_cpS]; simp
  have s36 : ofS v S 36 0 = 0 := by
    unfold ofS of4; rw [up_o (by omega), itr_flS, if_neg (by omega), if_neg (by omega), if_neg (by omega)]
    unfold of3 of2 of1; simp only [up_n, itr_cpS]; simp
  have s18 : ∀ i, ofS v S 18 i = if 60 * S 6 0 ≤ i ∧ i < 60 * S 6 0 + S 36 0 then S 35 (i - 60 * S 6 0) else S 18 i := fun i => by
    rw [sA _ _ (by decide) (by decide) (by decide)]; unfold nwp; simp
  have cO : ∀ c i, c ∉ [22, 29, 25, 26, 16, 17, 19, 20, 21, 23, 18, 6, 53, 55, 51, 56, 49] → apC v (S 36 0) (fun j => S 35 j) C c i = C c i := fun c i hc => by
    simp at hc; rw [cA c i (by simp; omega), nwp_o (by simp; omega)]
  have c53 : ∀ i, apC v (S 36 0) (fun j => S 35 j) C 53 i = if i = S 6 0 then fo (S 36 0) else C 53 i := fun i => by
    unfold apC ap4; rw [up_o (by omega), up_o (by omega), up_o (by omega), itr_apf, if_neg (by omega), if_neg (by omega), if_neg (by omega), if_neg (by omega), up_o (by omega)]
    unfold ap3 ap2 ap1; simp only [up_n, itr_cpC, c6]; simp
  have c55 : ∀ i, apC v (S 36 0) (fun j => S 35 j) C 55 i = if i = S 6 0 then S 6 0 else C 55 i := fun i => by
    unfold apC ap4; rw [up_o (by omega), up_o (by omega), up_o (by omega), itr_apf, if_neg (by omega), if_neg (by omega), if_neg (by omega), if_neg (by omega), up_o (by omega)]
    unfold ap3 ap2 ap1; simp only [up_n, itr_cpC, c6]; simp
  have c51 : ∀ u, apC v (S 36 0) (fun j => S 35 j) C 51 u = if u = v then C 51 v + fo (S 36 0) else C 51 u := fun u => by
    unfold apC ap4; rw [up_o (by omega), up_o (by omega), up_o (by omega), itr_apf, if_neg (by omega), up_o (by omega), ap3_o (Or.inl (by decide))]
    by_cases q : u = v
    · rw [if_pos ⟨rfl, q⟩, if_pos q]
    · rw [if_neg (fun z => q z.2), if_neg q, if_neg (by omega), if_neg (by omega), up_o (by omega), ap3_o (Or.inl (by decide))]
  have c49 : apC v (S 36 0) (fun j => S 35 j) C 49 0 = S 6 0 + 1 := by unfold apC; rw [up_s, c6]
  have c56 : apC v (S 36 0) (fun j => S 35 j) C 56 0 = S 6 0 + 1 := by unfold apC; rw [up_o (by omega), up_s, c6]
  have hE : Eq1 (ofS v S) (apC v (S 36 0) (fun j => S 35 j) C) := fun c i hc => by
    rw [sO 5 0 (by decide)] at hc
    have k1 : c ∉ [53, 55, 51, 56, 49] ∧ c ≠ 24 ∧ c ≠ 36 ∧ c ≠ 0 := by
      rcases hc with hc | hc
      · simp; refine ⟨⟨?_, ?_, ?_, ?_, ?_⟩, ?_, ?_, ?_⟩ <;> (intro q; rw [q] at hc; cases hc)
      · simp; omega
    rw [cA c i k1.1, sA c i k1.2.1 k1.2.2.1 k1.2.2.2]
    unfold nwp
    rw [h.1 c i hc, c29]
  -- the flits of a channel that were there
  have f25 : ∀ u f, u < S 1 0 → f < S 29 u → ofS v S 25 (4000 * u + f) = S 25 (4000 * u + f) ∧ ofS v S 26 (4000 * u + f) = S 26 (4000 * u + f) ∧ S 25 (4000 * u + f) < S 6 0 := fun u f hu hf => by
    have hnu := h.nums hu
    have q := hwf.2.2.2 u (by omega) f hf
    unfold Wf at q
    have : ¬ (4000 * v + S 29 v ≤ 4000 * u + f ∧ 4000 * u + f < 4000 * v + S 29 v + fo (S 36 0)) := by
      by_cases e : u = v
      · subst e; omega
      · omega
    rw [s25, s26, if_neg this, if_neg this]
    exact ⟨rfl, rfl, q.1⟩
  have hWF : WF (ofS v S) := by
    refine ⟨?_, fun u hu => ?_, fun q hq => ?_, fun u hu f hf => ?_⟩
    · unfold Ws
      rw [sO 1 _ (by decide), sO 2 _ (by decide), sO 3 _ (by decide), sO 4 _ (by decide), sO 5 _ (by decide), m6, sO 7 _ (by decide), sO 8 _ (by decide), sO 9 _ (by decide), sO 10 _ (by decide), sO 11 _ (by decide), sO 12 _ (by decide), s36, sO 38 _ (by decide)]
      omega
    · have q := hwf.2.1 u hu
      unfold Wc at q ⊢
      rw [sO 13 _ (by decide), sO 14 _ (by decide), sO 33 _ (by decide), sO 32 _ (by decide), sO 31 _ (by decide), sO 30 _ (by decide), sO 34 _ (by decide), m6]
      by_cases e : u = v
      · subst e; rw [m29]; omega
      · rw [s29 u e]; omega
    · rw [m6] at hq
      unfold Wp
      rw [sO 1 _ (by decide), sO 7 _ (by decide), s24]
      by_cases e : q = S 6 0
      · subst e; rw [m16, m17, m19, m20, m21, m22, m23, if_pos rfl]; omega
      · have z := hwf.2.2.1 q (by omega)
        unfold Wp at z
        rw [sP 16 q (by decide) e, sP 17 q (by decide) e, sP 19 q (by decide) e, sP 20 q (by decide) e, sP 21 q (by decide) e, sP 22 q (by decide) e, sP 23 q (by decide) e, if_neg e]; exact z
    · unfold Wf
      rw [m6, sO 27 _ (by decide), sO 28 _ (by decide), sO 30 _ (by decide), sO 32 _ (by decide), sO 7 _ (by decide)]
      by_cases old : f < S 29 u
      · have z := hwf.2.2.2 u hu f old
        unfold Wf at z
        have : ¬ (4000 * v + S 29 v ≤ 4000 * u + f ∧ 4000 * u + f < 4000 * v + S 29 v + fo (S 36 0)) := by
          have hcu := hwf.2.1 u hu
          unfold Wc at hcu
          by_cases e : u = v
          · subst e; omega
          · omega
        rw [s25, s26, if_neg this, if_neg this, sP 17 _ (by decide) (by omega)]
        exact ⟨by omega, z.2⟩
      · by_cases e : u = v
        · subst e
          rw [m29] at hf
          have : 4000 * u + S 29 u ≤ 4000 * u + f ∧ 4000 * u + f < 4000 * u + S 29 u + fo (S 36 0) := by omega
          rw [s25, s26, if_pos this, if_pos this, m17]
          exact ⟨by omega, by omega, fun q => by omega, fun q => by omega⟩
        · rw [s29 u e] at hf; omega
  refine ⟨⟨hE, hWF, ?_, fun u hu => ?_, fun q hq => ?_, ?_⟩, ?_⟩
  · rw [cO 57 0 (by decide), c49, c56, cO 40 0 (by decide), sO 1 0 (by decide), m6, sO 7 0 (by decide)]
    exact ⟨h.2.2.1.1, rfl, rfl, h.2.2.1.2.2.2⟩
  · rw [sO 1 0 (by decide)] at hu
    have hnu := h.nums hu
    obtain ⟨a1, a2, a3⟩ := h.2.2.2.1 u hu
    have ar : ∀ l, ctn (arB (ofS v S) u l) (ofS v S 6 0) = ctn (arB S u l) (S 6 0) := fun l => by
      rw [m6, ctn]
      have e1 : arB (ofS v S) u l (S 6 0) = false := by unfold arB; rw [m21]; simp
      rw [e1, ctn_cg (q := arB S u l) (fun i hi => by unfold arB; rw [sP 16 i (by decide) (by omega), sP 21 i (by decide) (by omega), sP 23 i (by decide) (by omega)])]
      simp
    have eT : ∀ f, f < S 32 u → toF (ofS v S) u f = toF S u f := fun f hf => by
      obtain ⟨q1, q2, q3⟩ := f25 u f hu (by omega)
      unfold toF fbN
      rw [q1, q2, sP 21 _ (by decide) (by omega), sP 17 _ (by decide) (by omega)]
    refine ⟨?_, ?_, a3.cg (fun c hc => sO _ _ (by simp at hc ⊢; omega)) (fun f hf => sO _ _ (by decide)) (fun f hf => sO _ _ (by decide))⟩
    · unfold SimV cr at a1 ⊢
      obtain ⟨b1, b2, b3, b4, b5, b6, b7, b8, b9, b10⟩ := a1
      rw [cO 54 u (by decide), cO 44 u (by decide), cO 45 u (by decide), cO 46 u (by decide), c51, cO 52 u (by decide), cO 41 u (by decide), cO 42 u (by decide), cO 43 u (by decide), ar, ar, sO 13 u (by decide), sO 33 u (by decide), sO 30 u (by decide), sO 31 u (by decide), sO 32 u (by decide), smn_cg eT]
      refine ⟨b1, b2, b3, b4, ?_, b6, b7, b8, b9, fun k hk => ?_⟩
      · by_cases e : u = v
        · subst e; rw [if_pos rfl, m29]; omega
        · rw [if_neg e, s29 u e]; exact b5
      · rw [cO 47 _ (by decide), b10 k hk]
        exact ctF_cg (fun i _ _ => by unfold rtB; rw [sO 28 _ (by decide), sO 3 _ (by decide)])
    · obtain ⟨o1, o2, o3, o4, o5⟩ := a2
      have nf : ∀ f, u = v → S 29 u ≤ f → f < S 29 u + fo (S 36 0) → ofS v S 25 (4000 * u + f) = S 6 0 ∧ ofS v S 26 (4000 * u + f) = f - S 29 u := fun f e h1 h2 => by
        subst e
        have : 4000 * u + S 29 u ≤ 4000 * u + f ∧ 4000 * u + f < 4000 * u + S 29 u + fo (S 36 0) := by omega
        rw [s25, s26, if_pos this, if_pos this]
        exact ⟨rfl, by omega⟩
      have lim : ∀ f, f < ofS v S 29 u → f < S 29 u ∨ (u = v ∧ S 29 u ≤ f ∧ f < S 29 u + fo (S 36 0)) := fun f hf => by
        by_cases e : u = v
        · subst e; rw [m29] at hf; omega
        · rw [s29 u e] at hf; exact Or.inl hf
      have mon : S 29 u ≤ ofS v S 29 u := by
        by_cases e : u = v
        · subst e; rw [m29]; omega
        · rw [s29 u e]; exact Nat.le_refl _
      refine ⟨fun f hf => ?_, fun f g h1 h2 h3 => ?_, fun f hf h1 => ?_, fun f h1 hf => ?_, fun g hg => ?_⟩
      · rcases lim f hf with q | ⟨q1, q2, q3⟩
        · obtain ⟨z1, z2, z3⟩ := f25 u f hu q
          rw [z1, sP 16 _ (by decide) (by omega)]; exact o1 f q
        · rw [(nf f q1 q2 q3).1, m16, q1]
      · rcases lim g h2 with q | ⟨q1, q2, q3⟩
        · obtain ⟨z1, z2, z3⟩ := f25 u g hu q
          obtain ⟨y1, y2, y3⟩ := f25 u f hu (by omega)
          rw [z1, y1] at h3
          rw [z2, y2]; exact o2 f g h1 q h3
        · rw [(nf g q1 q2 q3).1] at h3
          rw [(nf g q1 q2 q3).2]
          rcases lim f (by omega) with p | ⟨p1, p2, p3⟩
          · obtain ⟨y1, y2, y3⟩ := f25 u f hu p
            rw [y1] at h3; omega
          · rw [(nf f p1 p2 p3).2]; omega
      · rcases lim f hf with q | ⟨q1, q2, q3⟩
        · obtain ⟨z1, z2, z3⟩ := f25 u f hu q
          rw [z1, z2, sP 17 _ (by decide) (by omega)] at h1
          obtain ⟨w1, w2⟩ := o3 f q h1
          obtain ⟨y1, y2, y3⟩ := f25 u (f + 1) hu w1
          rw [y1, z1]; exact ⟨by omega, w2⟩
        · obtain ⟨z1, z2⟩ := nf f q1 q2 q3
          rw [z1, z2, m17] at h1
          have q4 : f + 1 < S 29 u + fo (S 36 0) := by omega
          rw [z1, (nf (f + 1) q1 (by omega) q4).1]
          refine ⟨?_, rfl⟩
          subst q1; rw [m29]; exact q4
      · rw [sO 32 u (by decide)] at h1
        rcases lim f hf with q | ⟨q1, q2, q3⟩
        · obtain ⟨z1, z2, z3⟩ := f25 u f hu q
          rw [z1, sP 21 _ (by decide) (by omega)]; exact o4 f h1 q
        · rw [(nf f q1 q2 q3).1, m21]
      · rw [sO 32 u (by decide)] at hg ⊢
        obtain ⟨z1, z2, z3⟩ := f25 u g hu (by omega)
        rw [z1, sP 21 _ (by decide) (by omega)]
        rcases o5 g hg with q | ⟨q1, q2⟩
        · exact Or.inl q
        · obtain ⟨y1, y2, y3⟩ := f25 u (S 32 u) hu q1
          rw [y1]; exact Or.inr ⟨by omega, q2⟩
  · rw [m6] at hq
    unfold SimP
    rw [c53, c55, cO 40 0 (by decide), s24]
    by_cases e : q = S 6 0
    · subst e
      rw [if_pos rfl, if_pos rfl, if_pos rfl, m17, m19, m21, m23]
      exact ⟨rfl, rfl, fun _ => ⟨fun _ => hI.2.2.2.1, fun _ => rfl⟩, fun _ => rfl⟩
    · rw [if_neg e, if_neg e, if_neg e, sP 17 q (by decide) e, sP 19 q (by decide) e, sP 21 q (by decide) e, sP 23 q (by decide) e]
      exact h.p (by omega)
  · exact h.2.2.2.2.2.cg (fun c i hc => sO _ _ (by simp at hc ⊢; omega)) (fun i => cO 48 i (by decide))
  · obtain ⟨a1, a2, a3, a4, a5, a6⟩ := hI
    unfold Iv Tw Tb Zr BB WB
    rw [sO 7 0 (by decide), sO 1 0 (by decide), sO 2 0 (by decide), sO 3 0 (by decide), sO 9 0 (by decide), sO 10 0 (by decide), sO 11 0 (by decide), sO 12 0 (by decide), cO 40 0 (by decide)]
    refine ⟨fun v f q1 q2 q3 => ?_, fun v f q1 q2 q3 => ?_, fun q v hv => ?_, a4, a5, fun k hk j => ?_⟩
    · rw [sO 31 _ (by decide)] at q2; rw [sO 30 _ (by decide)] at q3; rw [sO 27 _ (by decide)]; exact a1 v f q1 q2 q3
    · rw [sO 33 _ (by decide)] at q2; rw [sO 32 _ (by decide)] at q3; rw [sO 28 _ (by decide)]; exact a2 v f q1 q2 q3
    · rw [sO 30 _ (by decide)]; exact a3 q v hv
    · rcases hk with rfl | rfl | rfl
      · rw [s18]; split
        · exact a6 35 (by simp) _
        · exact a6 18 (by simp) j
      · rw [sO 35 _ (by decide)]; exact a6 35 (by simp) j
      · rw [sO 37 _ (by decide)]; exact a6 37 (by simp) j
