def dnC (M v : Nat) (C : St) : St := if M.testBit v = true ∧ C 32 v < C 31 v then (if lst C (4000 * v + C 32 v) then naC (C 25 (4000 * v + C 32 v)) (drC v (C 7 0) (C 3 0) C) else drC v (C 7 0) (C 3 0) C) else C
theorem fo_lt {n k : Nat} (h : k + 1 < fo n) : 4 * k + 5 ≤ n := by unfold fo at h; split at h <;> omega
theorem Sim.dr {S C : St} (h : Sim S C) {v : Nat} (hv : v < S 1 0) (hb : Tb S (fun _ => 1) (fun w => if w < v then 1 else 0)) (h12 : S 12 0 < 100000000) (M : Nat) :
    Sim (drs M v S) (dnC M v C) ∧ Tb (drs M v S) (fun _ => 1) (fun w => if w < v + 1 then 1 else 0) := by
  have hn := h.nums hv
  have hr := h.wf.rows
  have hN := NN_v
  have h3 : 1 ≤ S 3 0 := h.wf.1.2.2.2.2.1
  have s32 := h.c (c := 32) (i := v) rfl
  have s31 := h.c (c := 31) (i := v) rfl
  by_cases e : drb M v = false ∨ S 32 v = S 31 v
  · have eS : drs M v S = S := if_pos e
    have eC : dnC M v C = C := if_neg (by rw [s32, s31]; intro q; exact e.elim (fun e => by unfold drb at e; rw [e] at q; cases q.1) (fun e => by omega))
    rw [eS, eC]
    refine ⟨h, fun u f hu g1 g2 => ?_⟩
    have := hb u f hu g1 g2
    simp only at this ⊢
    by_cases q2 : u < v
    · rw [if_pos q2] at this; rw [if_pos (by omega)]; exact this
    · rw [if_neg q2] at this; split <;> omega
  have hwf := WF_drs h.wf M v (by omega) h12
  have e1 : M.testBit v = true := by
    cases hh : drb M v with
    | true => exact hh
    | false => exact absurd (Or.inl hh) e
  have e2 : S 32 v < S 31 v := by omega
  have hff : S 32 v < S 29 v := by omega
  have hf4 : S 32 v < 4000 := by omega
  have hfl := h.wf.2.2.2 v (by omega) (S 32 v) hff
  have hor := h.o hv
  have hsv := h.v hv
  have hmn := h.m hv
  have h16 := hor.1 (S 32 v) hff
  have h21 := hor.2.2.2.1 (S 32 v) (by omega) hff
  have s26 := h.c (c := 26) (i := 4000 * v + S 32 v) rfl
  have s25 := h.c (c := 25) (i := 4000 * v + S 32 v) rfl
  have s17 := fun p => h.c (c := 17) (i := p) rfl
  have s7 := h.c (c := 7) (i := 0) rfl
  have s3 := h.c (c := 3) (i := 0) rfl
  have hbv : ∀ f, S 33 v ≤ f → f < S 32 v → S 28 (4000 * v + f) < S 7 0 := fun f g1 g2 => by
    have := hb v f hv g1 g2; simp at this; exact this.2
  have hix : ∀ u g, u < 8 → g < 4000 → (4000 * u + g = 4000 * v + S 32 v ↔ u = v ∧ g = S 32 v) := fun u g _ _ => by omega
  unfold Wf at hfl
  have hel : lst C (4000 * v + C 32 v) ↔ S 26 (4000 * v + S 32 v) + 1 = fo (S 17 (S 25 (4000 * v + S 32 v))) := by rw [s32]; unfold lst; rw [s26, s25, s17]
  have hp6 := hfl.1
  generalize hp : S 25 (4000 * v + S 32 v) = p at *
  have hcnt : ∀ (T : St), (∀ g, g < 4000 → T 28 (4000 * v + g) = if g = S 32 v then S 7 0 else S 28 (4000 * v + g)) → T 3 0 = S 3 0 → ∀ k, k < 16 → (if (S 7 0 + S 3 0) % 16 = k then C 47 (16 * v + k) + 1 else C 47 (16 * v + k)) = ctF (rtB T v k) (S 33 v) (S 32 v + 1 - S 33 v) := fun T hT hT3 k hk => by
    rw [show S 32 v + 1 - S 33 v = (S 32 v - S 33 v) + 1 by omega, ctF, hsv.2.2.2.2.2.2.2.2.2 k hk]
    have c1 : ctF (rtB T v k) (S 33 v) (S 32 v - S 33 v) = ctF (rtB S v k) (S 33 v) (S 32 v - S 33 v) := ctF_cg (fun i g1 g2 => by
      unfold rtB; rw [hT i (by omega), if_neg (by omega), hT3])
    rw [c1, show S 33 v + (S 32 v - S 33 v) = S 32 v by omega]
    have c2 : (rtB T v k (S 32 v) = true) = ((S 7 0 + S 3 0) % 16 = k) := by
      unfold rtB; rw [hT _ hf4, if_pos rfl, hT3]; simp
    simp only [c2]
    split <;> rfl
  by_cases el : S 26 (4000 * v + S 32 v) + 1 < fo (S 17 p)
  · have eS : drs M v S = up (up S 28 (4000 * v + S 32 v) (S 7 0)) 32 v (S 32 v + 1) := by unfold drs; rw [if_neg e, if_pos (by rw [hp]; exact el)]
    have eC : dnC M v C = up (up (up (up C 32 v (S 32 v + 1)) 52 v (C 52 v - 1)) 47 (16 * v + (S 7 0 + S 3 0) % 16) (C 47 (16 * v + (S 7 0 + S 3 0) % 16) + 1)) 43 v (C 43 v + 4) := by
      unfold dnC; rw [if_pos ⟨e1, by rw [s32, s31]; exact e2⟩, if_neg (by rw [hel]; omega)]
      unfold drC
      simp only [if_neg (show ¬ lst C (4000 * v + C 32 v) by rw [hel]; omega), szC]
      rw [s7, s3, s32]
    rw [eS] at hwf ⊢
    rw [eC]
    refine ⟨⟨?_, hwf, ?_, fun u hu => ?_, fun p' hp' => ?_, ?_⟩, ?_⟩
    · exact ((((h.1.r rfl).b rfl).l rfl).l rfl).l rfl
    · simpa [up_n] using h.2.2.1
    · have hu : u < S 1 0 := by simpa [up_n] using hu
      have hnu := h.nums hu
      obtain ⟨a1, a2, a3⟩ := h.2.2.2.1 u hu
      by_cases q : u = v
      · subst q
        refine ⟨?_, ?_, ?_⟩
        · unfold SimV cr at a1 ⊢
          obtain ⟨b1, b2, b3, b4, b5, b6, b7, b8, b9, b10⟩ := a1
          simp only [up_n, Nat.reduceEqDiff, false_and, if_false, true_and, if_true]
          refine ⟨b1, b2, b3, b4, b5, by omega, ?_, ?_, ?_, fun k hk2 => ?_⟩
          · rw [b7]; exact ctn_cg (fun p hp => by simp [arB, up_n])
          · rw [b8]; exact congrArg _ (ctn_cg (fun p hp => by simp [arB, up_n]))
          · rw [smn, b9]
            have t1 : toF (up (up S 28 (4000 * u + S 32 u) (S 7 0)) 32 u (S 32 u + 1)) u (S 32 u) = 4 := by
              have := fo_lt el
              simp only [toF, fbN, up_n, Nat.reduceEqDiff, false_and, if_false, hp, h21, if_true]; omega
            rw [t1, smn_cg (fun g hg => show toF S u g = toF (up (up S 28 (4000 * u + S 32 u) (S 7 0)) 32 u (S 32 u + 1)) u g by simp [toF, fbN, up_n])]
          · have := hcnt (up (up S 28 (4000 * u + S 32 u) (S 7 0)) 32 u (S 32 u + 1)) (fun g hg => by simp only [up_n, Nat.reduceEqDiff, false_and, if_false, true_and, Nat.add_left_cancel_iff]) (by simp [up_n]) k hk2
            rw [← this]
            by_cases qk : (S 7 0 + S 3 0) % 16 = k
            · rw [if_pos (by omega), if_pos qk, qk]
            · rw [if_neg (by omega), if_neg qk]
        · unfold OrV at a2 ⊢
          simp only [up_n, Nat.reduceEqDiff, false_and, if_false, true_and, if_true]
          obtain ⟨o1, o2, o3, o4, o5⟩ := a2
          obtain ⟨c1, c2⟩ := o3 (S 32 u) hff (by rw [hp]; omega)
          refine ⟨o1, o2, o3, fun f g1 g2 => o4 f (by omega) g2, fun g hg => ?_⟩
          by_cases qg : g = S 32 u
          · subst qg; exact Or.inr ⟨c1, c2.symm⟩
          · rcases o5 g (by omega) with q | q
            · exact Or.inl q
            · exact Or.inr ⟨c1, by rw [c2]; exact q.2⟩
        · unfold Mn at a3 ⊢
          simp only [up_n, Nat.reduceEqDiff, false_and, if_false, true_and, if_true, Nat.add_left_cancel_iff]
          refine ⟨a3.1, fun f g g1 g2 g3 => ?_⟩
          rw [if_neg (by omega)]
          by_cases qg : g = S 32 u
          · rw [if_pos qg]; exact hbv f g1 (by omega)
          · rw [if_neg qg]; exact a3.2 f g g1 g2 (by omega)
      · have i8 : u < 8 := by omega
        refine ⟨a1.cg (fun c hc => ?_) (fun k hk2 => ?_) (fun c hc => ?_) (by simp [up_n]) (fun p hp l => by simp [arB, up_n]) (fun f hf => by simp [toF, fbN, up_n]) (fun k f hf => ?_), a2.cg (by simp [up_n]) (by simp [up_n, q]) (fun c i hc => by simp at hc; rw [up_n, if_neg (by omega), up_n, if_neg (by omega)]) (fun f hf => by simp [up_n]) (by omega), a3.cg (fun c hc => ?_) (fun f hf => by simp [up_n]) (fun f hf => ?_)⟩
        · simp at hc; simp only [up_n, q, and_false, if_false]; rw [if_neg (by omega)]
        · simp only [up_n, q, and_false, if_false, Nat.reduceEqDiff, false_and]; rw [if_neg (by omega)]
        · simp at hc; simp only [up_n, q, and_false, if_false]; rw [if_neg (by omega)]
        · unfold rtB; simp only [up_n, Nat.reduceEqDiff, false_and, if_false, true_and]; rw [if_neg (by rw [hix u f i8 (by omega)]; omega)]
        · simp at hc; simp only [up_n, q, and_false, if_false]; rw [if_neg (by omega)]
        · simp only [up_n, Nat.reduceEqDiff, false_and, if_false, true_and]; rw [if_neg (by rw [hix u f i8 (by omega)]; omega)]
    · exact (h.p (by simpa [up_n] using hp')).cg (fun c hc => by simp at hc; rw [up_n, if_neg (by omega), up_n, if_neg (by omega)]) (fun c hc => by simp at hc; rw [up_n, if_neg (by omega), up_n, if_neg (by omega), up_n, if_neg (by omega), up_n, if_neg (by omega)]) (by simp [up_n])
    · exact h.2.2.2.2.2.cg (fun c i hc => by simp at hc; rw [up_n, if_neg (by omega), up_n, if_neg (by omega)]) (fun i => by simp [up_n])
    · intro u f hu g1 g2
      simp only [up_n, Nat.reduceEqDiff, false_and, if_false, true_and] at hu g1 g2 ⊢
      have hnu := h.nums hu
      by_cases q : u = v
      · subst q
        rw [if_pos rfl] at g2
        simp only [Nat.add_left_cancel_iff]
        rw [if_pos (show u < u + 1 by omega)]
        by_cases qf : f = S 32 u
        · rw [if_pos qf]; omega
        · rw [if_neg qf]
          have := hb u f hu g1 (by omega)
          simp at this; omega
      · rw [if_neg q] at g2
        have := hb u f hu g1 g2
        simp only at this
        rw [if_neg (by rw [hix u f (by omega) (by omega)]; omega)]
        by_cases q2 : u < v
        · rw [if_pos q2] at this; rw [if_pos (by omega)]; exact this
        · rw [if_neg q2] at this; rw [if_neg (by omega)]; exact this
  · have eq1 : S 26 (4000 * v + S 32 v) + 1 = fo (S 17 p) := by omega
    have hP := h.p hp6
    unfold SimP at hP
    have hlt := hP.2.2.1 h21
    have h23 := hP.2.2.2 h21
    have eS : drs M v S = up (up (up (up (up S 28 (4000 * v + S 32 v) (S 7 0)) 32 v (S 32 v + 1)) 21 p (S 7 0)) 50 0 (S 50 0 + 1)) 12 0 (S 12 0 + if S 24 p = 1 ∧ S 22 p < S 7 0 then 1 else 0) := by
      unfold drs; rw [if_neg e, if_neg (by rw [hp]; exact el), hp]
    have eD : drC v (S 7 0) (S 3 0) C = up (up (up (up (up C 32 v (S 32 v + 1)) 52 v (C 52 v - 1)) 47 (16 * v + (S 7 0 + S 3 0) % 16) (C 47 (16 * v + (S 7 0 + S 3 0) % 16) + 1)) 43 v 0) 41 v (C 41 v + 1) := by
      unfold drC
      simp only [if_pos (show lst C (4000 * v + C 32 v) by rw [hel]; exact eq1)]
      rw [s32]
    have eC : dnC M v C = up (up (up (up (up (up (up C 32 v (S 32 v + 1)) 52 v (C 52 v - 1)) 47 (16 * v + (S 7 0 + S 3 0) % 16) (C 47 (16 * v + (S 7 0 + S 3 0) % 16) + 1)) 43 v 0) 41 v (C 41 v + 1)) 21 p (S 7 0)) 12 0 (S 12 0 + if S 24 p = 1 ∧ S 22 p < S 7 0 then 1 else 0) := by
      have s12 := h.c (c := 12) (i := 0) rfl
      unfold dnC; rw [if_pos ⟨e1, by rw [s32, s31]; exact e2⟩, if_pos (by rw [hel]; exact eq1), s7, s3, eD, s32, s25]
      unfold naC
      have t22 := h.c (c := 22) (i := p) rfl
      have t19 := h.c (c := 19) (i := p) rfl
      simp only [up_n, Nat.reduceEqDiff, false_and, if_false, s7, s12, t22, t19]
      by_cases q : S 24 p = 1 ∧ S 22 p < S 7 0
      · rw [if_pos ⟨q.2, hlt.mp q.1⟩, if_pos q]
      · rw [if_neg (fun q2 => q ⟨hlt.mpr q2.2, q2.1⟩), if_neg q, Nat.add_zero]
        symm; apply up_id; simp [up_n, s12]
    have hpu : ∀ u g, u < S 1 0 → u ≠ v → g < S 29 u → S 25 (4000 * u + g) ≠ p := fun u g hu q hg q2 => by
      have := (h.o hu).1 g hg
      rw [q2, h16] at this
      exact q this.symm
    rw [eS] at hwf ⊢
    rw [eC]
    refine ⟨⟨?_, hwf, ?_, fun u hu => ?_, fun p' hp' => ?_, ?_⟩, ?_⟩
    · exact ((((((((h.1.r rfl).b rfl).l rfl).l rfl).l rfl).l rfl).b rfl).r rfl).b rfl
    · simpa [up_n] using h.2.2.1
    · have hu : u < S 1 0 := by simpa [up_n] using hu
      have hnu := h.nums hu
      obtain ⟨a1, a2, a3⟩ := h.2.2.2.1 u hu
      by_cases q : u = v
      · subst q
        refine ⟨?_, ?_, ?_⟩
        · unfold SimV cr at a1 ⊢
          obtain ⟨b1, b2, b3, b4, b5, b6, b7, b8, b9, b10⟩ := a1
          generalize hS1 : up (up (up (up (up S 28 (4000 * u + S 32 u) (S 7 0)) 32 u (S 32 u + 1)) 21 p (S 7 0)) 50 0 (S 50 0 + 1)) 12 0 (S 12 0 + if S 24 p = 1 ∧ S 22 p < S 7 0 then 1 else 0) = S1
          have k : ∀ c i, c ∈ [13, 33, 30, 31, 29, 6, 16, 23, 25, 17, 26, 3] → S1 c i = S c i := fun c i hc => by
            rw [← hS1]; simp at hc; rw [up_n, if_neg (by omega), up_n, if_neg (by omega), up_n, if_neg (by omega), up_n, if_neg (by omega), up_n, if_neg (by omega)]
          have k32 : S1 32 u = S 32 u + 1 := by rw [← hS1]; simp [up_n]
          have k21 : ∀ i, S1 21 i = if i = p then S 7 0 else S 21 i := fun i => by rw [← hS1]; simp [up_n]
          have k28 : ∀ g, g < 4000 → S1 28 (4000 * u + g) = if g = S 32 u then S 7 0 else S 28 (4000 * u + g) := fun g _ => by rw [← hS1]; simp only [up_n, Nat.reduceEqDiff, false_and, if_false, true_and, Nat.add_left_cancel_iff]
          rw [k 13 _ (by decide), k 33 _ (by decide), k 30 _ (by decide), k 31 _ (by decide), k 29 _ (by decide), k 6 _ (by decide), k32]
          have o1 : ∀ l, l ≤ 1 → ctn (arB S1 u l) (S 6 0) = ctn (arB S u l) (S 6 0) + 1 := fun l hl => ctn_one (j := p) (by unfold arB; simp [h21]) (by
              unfold arB; rw [k 16 _ (by decide), k21, if_pos rfl, k 23 _ (by decide), h16, h23]; simp; omega) (fun i hi q => by unfold arB; rw [k 16 _ (by decide), k21, if_neg q, k 23 _ (by decide)]) hp6
          simp only [up_n, Nat.reduceEqDiff, false_and, if_false, true_and, if_true]
          refine ⟨b1, b2, b3, b4, b5, by omega, ?_, ?_, ?_, fun k' hk2 => ?_⟩
          · rw [o1 0 (by omega), b7]
          · rw [o1 1 (by omega), b8]; omega
          · symm; apply smn_z; intro g hg
            have : S1 21 (S1 25 (4000 * u + g)) ≠ NN := by
              rw [k 25 _ (by decide), k21]
              by_cases qg : S 25 (4000 * u + g) = p
              · rw [if_pos qg]; omega
              · rw [if_neg qg]
                have hg2 : g ≠ S 32 u := fun q => qg (by rw [q]; exact hp)
                rcases a2.2.2.2.2 g (by omega) with q | q
                · exact q
                · exact absurd (q.2.trans hp) qg
            unfold toF; rw [if_neg this]
          · have := hcnt S1 k28 (k 3 0 (by decide)) k' hk2
            rw [← this]
            by_cases qk : (S 7 0 + S 3 0) % 16 = k'
            · rw [if_pos (by omega), if_pos qk, qk]
            · rw [if_neg (by omega), if_neg qk]
        · unfold OrV at a2 ⊢
          simp only [up_n, Nat.reduceEqDiff, false_and, if_false, true_and, if_true]
          obtain ⟨o1, o2, o3, o4, o5⟩ := a2
          refine ⟨o1, o2, o3, fun f g1 g2 => ?_, fun g hg => Or.inl ?_⟩
          · rw [if_neg, o4 f (by omega) g2]
            intro q
            have c1 := o2 (S 32 u) f (by omega) g2 (by rw [hp, q])
            have c2 := h.wf.2.2.2 u (by omega) f g2
            unfold Wf at c2
            have c3 := c2.2.1
            rw [q] at c3
            omega
          · by_cases qg : S 25 (4000 * u + g) = p
            · rw [if_pos qg]; omega
            · rw [if_neg qg]
              have hg2 : g ≠ S 32 u := fun q => qg (by rw [q]; exact hp)
              rcases o5 g (by omega) with q | q
              · exact q
              · exact absurd (q.2.trans hp) qg
        · unfold Mn at a3 ⊢
          simp only [up_n, Nat.reduceEqDiff, false_and, if_false, true_and, if_true, Nat.add_left_cancel_iff]
          refine ⟨a3.1, fun f g g1 g2 g3 => ?_⟩
          rw [if_neg (by omega)]
          by_cases qg : g = S 32 u
          · rw [if_pos qg]; exact hbv f g1 (by omega)
          · rw [if_neg qg]; exact a3.2 f g g1 g2 (by omega)
      · have i8 : u < 8 := by omega
        refine ⟨a1.cg (fun c hc => ?_) (fun k hk2 => ?_) (fun c hc => ?_) (by simp [up_n]) (fun p' hp' l => ?_) (fun f hf => ?_) (fun k f hf => ?_), a2.cg (by simp [up_n]) (by simp [up_n, q]) (fun c i hc => by simp at hc; rw [up_n, if_neg (by omega), up_n, if_neg (by omega), up_n, if_neg (by omega), up_n, if_neg (by omega), up_n, if_neg (by omega)]) (fun f hf => ?_) (by omega), a3.cg (fun c hc => ?_) (fun f hf => by simp [up_n]) (fun f hf => ?_)⟩
        · simp at hc; simp only [up_n, q, and_false, if_false]; rw [if_neg (by omega), if_neg (by omega), if_neg (by omega)]
        · simp only [up_n, q, and_false, if_false, Nat.reduceEqDiff, false_and]; rw [if_neg (by omega)]
        · simp at hc; simp only [up_n, q, and_false, if_false]; rw [if_neg (by omega), if_neg (by omega), if_neg (by omega), if_neg (by omega)]
        · unfold arB; simp only [up_n, Nat.reduceEqDiff, false_and, if_false, true_and]
          by_cases qp : p' = p
          · subst qp; rw [h16]; have q3 : ¬ v = u := fun q2 => q q2.symm; simp [q3]
          · rw [if_neg qp]
        · unfold toF fbN; simp only [up_n, Nat.reduceEqDiff, false_and, if_false, true_and]
          rw [if_neg (hpu u f hu q (by omega))]
        · unfold rtB; simp only [up_n, Nat.reduceEqDiff, false_and, if_false, true_and]; rw [if_neg (by rw [hix u f i8 (by omega)]; omega)]
        · simp only [up_n, Nat.reduceEqDiff, false_and, if_false, true_and]; rw [if_neg (hpu u f hu q hf)]
        · simp at hc; simp only [up_n, q, and_false, if_false]; rw [if_neg (by omega), if_neg (by omega), if_neg (by omega), if_neg (by omega)]
        · simp only [up_n, Nat.reduceEqDiff, false_and, if_false, true_and]; rw [if_neg (by rw [hix u f i8 (by omega)]; omega)]
    · have hp' : p' < S 6 0 := by simpa [up_n] using hp'
      have hq := h.p hp'
      unfold SimP at hq ⊢
      simp only [up_n, Nat.reduceEqDiff, false_and, if_false, true_and]
      by_cases qp : p' = p
      · rw [if_pos qp]
        exact ⟨hq.1, hq.2.1, fun q => by omega, fun q => by omega⟩
      · rw [if_neg qp]; exact hq
    · exact h.2.2.2.2.2.cg (fun c i hc => by simp at hc; rw [up_n, if_neg (by omega), up_n, if_neg (by omega), up_n, if_neg (by omega), up_n, if_neg (by omega), up_n, if_neg (by omega)]) (fun i => by simp [up_n])
    · intro u f hu g1 g2
      simp only [up_n, Nat.reduceEqDiff, false_and, if_false, true_and] at hu g1 g2 ⊢
      have hnu := h.nums hu
      by_cases q : u = v
      · subst q
        rw [if_pos rfl] at g2
        simp only [Nat.add_left_cancel_iff]
        rw [if_pos (show u < u + 1 by omega)]
        by_cases qf : f = S 32 u
        · rw [if_pos qf]; omega
        · rw [if_neg qf]
          have := hb u f hu g1 (by omega)
          simp at this; omega
      · rw [if_neg q] at g2
        have := hb u f hu g1 g2
        simp only at this
        rw [if_neg (by rw [hix u f (by omega) (by omega)]; omega)]
        by_cases q2 : u < v
        · rw [if_pos q2] at this; rw [if_pos (by omega)]; exact this
        · rw [if_neg q2] at this; rw [if_neg (by omega)]; exact this
