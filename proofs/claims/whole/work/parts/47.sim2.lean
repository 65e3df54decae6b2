theorem SimP.cg {S C S' C' : St} {p : Nat} (h : SimP S C p) (hS : ∀ c, c ∈ [17, 19, 21, 23, 24] → S' c p = S c p) (hC : ∀ c, c ∈ [53, 55] → C' c p = C c p) (h40 : C' 40 0 = C 40 0) : SimP S' C' p := by
  unfold SimP at h ⊢
  rwa [hS 17 (by decide), hS 19 (by decide), hS 21 (by decide), hS 24 (by decide), hS 23 (by decide), hC 53 (by decide), hC 55 (by decide), h40]
theorem SimW.cg {S C S' C' : St} (h : SimW S C) (hS : ∀ c i, c ∈ [1, 2, 27, 30, 31] → S' c i = S c i) (hC : ∀ i, C' 48 i = C 48 i) : SimW S' C' := by
  unfold SimW at h ⊢
  simpa only [hS 1 _ (by decide), hS 2 _ (by decide), hS 27 _ (by decide), hS 30 _ (by decide), hS 31 _ (by decide), hC] using h
theorem Mn.cg {S S' : St} {v : Nat} (h : Mn S v) (hS : ∀ c, c ∈ [30, 31, 32, 33] → S' c v = S c v) (h27 : ∀ f, f < S 30 v → S' 27 (4000 * v + f) = S 27 (4000 * v + f)) (h28 : ∀ f, f < S 32 v → S' 28 (4000 * v + f) = S 28 (4000 * v + f)) : Mn S' v := by
  unfold Mn at h ⊢
  rw [hS 30 (by decide), hS 31 (by decide), hS 32 (by decide), hS 33 (by decide)]
  refine ⟨fun f g h1 h2 h3 => ?_, fun f g h1 h2 h3 => ?_⟩
  · rw [h27 f (by omega), h27 g h3]; exact h.1 f g h1 h2 h3
  · rw [h28 f (by omega), h28 g h3]; exact h.2 f g h1 h2 h3
theorem Sim.nums {S C : St} (h : Sim S C) {v : Nat} (hv : v < S 1 0) : v < 8 ∧ S 33 v ≤ S 32 v ∧ S 32 v ≤ S 31 v ∧ S 31 v ≤ S 30 v ∧ S 30 v ≤ S 29 v ∧ S 29 v < 4000 ∧ S 30 v ≤ S 13 v + S 33 v := by
  have hw := h.wf
  have hr := hw.rows
  have h1 := hw.2.1 v (by omega)
  unfold Wc at h1
  omega
theorem Sim.cb {S C : St} (h : Sim S C) {v : Nat} (hv : v < S 1 0) (hb : Tb S (fun w => if w < v then 1 else 0) (fun _ => 0)) : Sim (cbs v S) (gcb v (S 7 0) C) ∧ Tb (cbs v S) (fun w => if w < v + 1 then 1 else 0) (fun _ => 0) := by
  have hn := h.nums hv
  have hs := h.v hv
  have hm := (h.m hv).2
  have hr := h.wf.rows
  have hk : S 7 0 % 16 < 16 := by omega
  have hbv : ∀ f, S 33 v ≤ f → f < S 32 v → S 7 0 ≤ S 28 (4000 * v + f) + S 3 0 ∧ S 28 (4000 * v + f) < S 7 0 := fun f h1 h2 => by
    have := hb v f hv h1 h2; simp at this; exact this
  have hrt : ∀ f, S 33 v ≤ f → f < S 32 v → (rtB S v (S 7 0 % 16) f = true ↔ S 28 (4000 * v + f) + S 3 0 = S 7 0) := fun f h1 h2 => by
    have := hbv f h1 h2
    unfold rtB; rw [decide_eq_true_iff]; omega
  by_cases e : S 33 v < S 32 v ∧ S 28 (4000 * v + S 33 v) + S 3 0 = S 7 0
  · have eS : cbs v S = up S 33 v (S 33 v + 1) := if_pos e
    have hlt : ∀ f, S 33 v + 1 ≤ f → f < S 32 v → S 7 0 < S 28 (4000 * v + f) + S 3 0 := fun f h1 h2 => by
      have := hm (S 33 v) f (by omega) (by omega) h2; omega
    have hz : ctF (rtB S v (S 7 0 % 16)) (S 33 v + 1) (S 32 v - (S 33 v + 1)) = 0 := ctF_z (fun i h1 h2 => by
      cases hh : rtB S v (S 7 0 % 16) i with
      | false => rfl
      | true => have := (hrt i (by omega) (by omega)).mp hh; have := hlt i h1 (by omega); omega)
    have hsp : S 32 v - S 33 v = (S 32 v - (S 33 v + 1)) + 1 := by omega
    have h1 : ctF (rtB S v (S 7 0 % 16)) (S 33 v) (S 32 v - S 33 v) = 1 := by
      rw [hsp, ctF_fr, hz, if_pos ((hrt _ (by omega) e.1).mpr e.2)]
    refine ⟨⟨?_, WF_cbs h.wf v, ?_, fun u hu => ?_, fun p hp => ?_, ?_⟩, ?_⟩
    · rw [eS]; exact ((h.1.r rfl).l rfl).l rfl
    · rw [eS]; simpa [gcb, up_n] using h.2.2.1
    · rw [eS] at hu ⊢
      have hu : u < S 1 0 := by simpa [up_n] using hu
      have hnu := h.nums hu
      obtain ⟨a1, a2, a3⟩ := h.2.2.2.1 u hu
      refine ⟨?_, a2.cg (by simp [up_n]) (by simp [up_n]) (fun c i hc => by simp at hc; rw [up_n, if_neg (by omega)]) (fun f hf => by simp [up_n]) (by omega), ?_⟩
      · by_cases q : u = v
        · subst q
          unfold SimV cr at a1 ⊢
          obtain ⟨b1, b2, b3, b4, b5, b6, b7, b8, b9, b10⟩ := a1
          have k0 := b10 _ hk
          simp only [gcb, up_n, Nat.reduceEqDiff, false_and, if_false, true_and, if_true]
          refine ⟨b1, by omega, b3, b4, b5, b6, b7, b8, b9, fun k hk2 => ?_⟩
          have er : rtB (up S 33 u (S 33 u + 1)) u k = rtB S u k := by funext f; simp [rtB, up_n]
          rw [er]
          by_cases q2 : k = S 7 0 % 16
          · subst q2; rw [if_pos rfl, hz]
          · rw [if_neg (by omega), b10 k hk2, hsp, ctF_fr, if_neg, Nat.zero_add]
            unfold rtB; rw [decide_eq_true_iff]; omega
        · refine a1.cg (fun c hc => ?_) (fun k hk2 => ?_) (fun c hc => by simp at hc; rw [up_n, if_neg (by omega)]) (by simp [up_n]) (fun p hp l => by simp [arB, up_n]) (fun f hf => by simp [toF, fbN, up_n]) (fun k f hf => by simp [rtB, up_n])
          · simp at hc; unfold gcb; rw [up_n, if_neg (by omega), up_n, if_neg (by omega)]
          · unfold gcb; rw [up_n, if_neg (by omega), up_n, if_neg (by omega)]
      · unfold Mn at a3 ⊢
        by_cases q : u = v
        · subst q
          simp only [up_n, Nat.reduceEqDiff, false_and, if_false, true_and, if_true]
          exact ⟨a3.1, fun f g h1 h2 h3 => a3.2 f g (by omega) h2 h3⟩
        · simpa only [up_n, Nat.reduceEqDiff, false_and, if_false, true_and, q] using a3
    · rw [eS] at hp ⊢
      exact (h.p (by simpa [up_n] using hp)).cg (fun c hc => by simp at hc; rw [up_n, if_neg (by omega)]) (fun c hc => by simp at hc; unfold gcb; rw [up_n, if_neg (by omega), up_n, if_neg (by omega)]) (by simp [gcb, up_n])
    · rw [eS]; exact h.2.2.2.2.2.cg (fun c i hc => by simp at hc; rw [up_n, if_neg (by omega)]) (fun i => by simp [gcb, up_n])
    · rw [eS]
      intro u f hu h1 h2
      simp only [up_n, Nat.reduceEqDiff, false_and, if_false, true_and] at hu h1 h2 ⊢
      by_cases q : u = v
      · subst q
        rw [if_pos rfl] at h1
        have g1 := hlt f h1 h2
        have g2 := hbv f (by omega) h2
        rw [if_pos (by omega)]; omega
      · rw [if_neg q] at h1
        have := hb u f hu h1 h2
        simp only at this
        by_cases q2 : u < v
        · rw [if_pos q2] at this; rw [if_pos (by omega)]; exact this
        · rw [if_neg q2] at this; rw [if_neg (by omega)]; exact this
  · have eS : cbs v S = S := if_neg e
    have hlt : ∀ f, S 33 v ≤ f → f < S 32 v → S 7 0 < S 28 (4000 * v + f) + S 3 0 := fun f h1 h2 => by
      have g0 := hbv (S 33 v) (by omega) (by omega)
      have g1 := hbv f h1 h2
      by_cases q : f = S 33 v
      · subst q; omega
      · have := hm (S 33 v) f (by omega) (by omega) h2; omega
    have hz : ctF (rtB S v (S 7 0 % 16)) (S 33 v) (S 32 v - S 33 v) = 0 := ctF_z (fun i h1 h2 => by
      cases hh : rtB S v (S 7 0 % 16) i with
      | false => rfl
      | true => have := (hrt i (by omega) (by omega)).mp hh; have := hlt i h1 (by omega); omega)
    have k0 := hs.2.2.2.2.2.2.2.2.2 _ hk
    rw [hz] at k0
    rw [eS]
    have eC : gcb v (S 7 0) C = C := by
      unfold gcb
      funext c i
      simp only [up_n, k0, Nat.add_zero]
      by_cases q : c = 47 ∧ i = 16 * v + S 7 0 % 16
      · rw [if_pos q, q.1, q.2, k0]
      · rw [if_neg q]; split
        · rename_i q; rw [q.1, q.2]
        · rfl
    rw [eC]
    refine ⟨h, ?_⟩
    intro u f hu h1 h2
    have := hb u f hu h1 h2
    simp only at this ⊢
    by_cases q : u = v
    · subst q
      have g1 := hlt f h1 h2
      have g2 := hbv f (by omega) h2
      rw [if_pos (by omega)]; omega
    · by_cases q2 : u < v
      · rw [if_pos q2] at this; rw [if_pos (by omega)]; exact this
      · rw [if_neg q2] at this; rw [if_neg (by omega)]; exact this
/-- nothing lands -/
theorem cms_id {S C : St} (h : Sim S C) {v : Nat} (hv : v < S 1 0) (h0 : ¬ (S 31 v < S 30 v ∧ S 27 (4000 * v + S 31 v) + S 2 0 = S 7 0)) : cms v S = S := by
  have := h.nums hv
  unfold cms; rw [if_pos]
  by_cases e : S 31 v = S 30 v
  · exact Or.inl e
  · exact Or.inr (fun q => h0 ⟨by omega, q⟩)
theorem Sim.ld0 {S C : St} (h : Sim S C) (hT : Tw S 0 0) (h0 : C 48 (S 7 0 % 16) = 0) : (∀ n, n ≤ S 1 0 → itr cms n S = S) ∧ Tw S 1 0 := by
  have hne : ∀ v f, v < S 1 0 → S 31 v ≤ f → f < S 30 v → S 27 (4000 * v + f) + S 2 0 ≠ S 7 0 := fun v f hv h1 h2 q => by
    have := h.2.2.2.2.2.1 v f hv h1 h2
    rw [q, h0] at this; omega
  refine ⟨fun n => ?_, fun v f hv h1 h2 => ?_⟩
  · induction n with
    | zero => intro _; rfl
    | succ n ih =>
      intro hn
      rw [itr, ih (by omega)]
      exact cms_id h (by omega) (fun q => hne n _ (by omega) (by omega) q.1 q.2)
  · have := hT v f hv h1 h2
    have := hne v f hv h1 h2
    omega
theorem up_id {S : St} {k j x : Nat} (h : x = S k j) : up S k j x = S := by
  funext c i; rw [up_n]; split
  · rename_i q; rw [q.1, q.2, h]
  · rfl
theorem Sim.ld1 {S C : St} (h : Sim S C) (hT : Tw S 0 0) (h11 : S 11 0 < 100000000) (h0 : C 48 (S 7 0 % 16) ≠ 0) : ∃ v, v < S 1 0 ∧ S 31 v < S 30 v ∧ C 48 (S 7 0 % 16) = 4000 * v + S 31 v + 1 ∧ itr cms (S 1 0) S = cms v S ∧ Sim (cms v S) (ldC v C) ∧ Tw (cms v S) 1 0 := by
  have hr := h.wf.rows
  obtain ⟨v, f, hv, h1, h2, h3, h4⟩ := h.2.2.2.2.2.2 (S 7 0 % 16) (by omega) h0
  have hn := h.nums hv
  have ht := hT v f hv h1 h2
  have ht' := hT v (S 31 v) hv (by omega) (by omega)
  have hm := (h.m hv).1 (S 31 v) f (by omega) h1 h2
  have e7 : S 27 (4000 * v + f) + S 2 0 = S 7 0 := by omega
  have e7' : S 27 (4000 * v + S 31 v) + S 2 0 = S 7 0 := by omega
  have w1 := h.2.2.2.2.2.1 v f hv h1 h2
  have w2 := h.2.2.2.2.2.1 v (S 31 v) hv (by omega) (by omega)
  rw [e7] at w1; rw [e7'] at w2
  have ef : f = S 31 v := by omega
  subst ef
  have hu : ∀ u g, u < S 1 0 → S 31 u ≤ g → g < S 30 u → S 27 (4000 * u + g) + S 2 0 = S 7 0 → u = v ∧ g = S 31 v := fun u g hu g1 g2 q => by
    have w3 := h.2.2.2.2.2.1 u g hu g1 g2
    rw [q] at w3
    have := h.nums hu
    omega
  have hc : cms v S = up (up (up S 11 0 (if S 13 v ≤ S 31 v - S 32 v then S 11 0 + 1 else S 11 0)) 31 v (S 31 v + 1)) 34 v (max (S 34 v) (S 31 v + 1 - S 32 v)) := by
    unfold cms; rw [if_neg (by omega)]
    by_cases q : S 13 v ≤ S 31 v - S 32 v
    · rw [if_pos q, if_pos q]
    · rw [if_neg q, if_neg q, up_id (k := 11) (j := 0) rfl]
  have hid : ∀ u, u < S 1 0 → u ≠ v → cms u S = S ∧ cms u (cms v S) = cms v S := fun u hu' q => by
    have q1 : ¬ (S 31 u < S 30 u ∧ S 27 (4000 * u + S 31 u) + S 2 0 = S 7 0) := fun q2 => q (hu u _ hu' (by omega) q2.1 q2.2).1
    have := h.nums hu'
    refine ⟨cms_id h hu' q1, ?_⟩
    generalize hG : cms v S = S1 at hc
    have e : S1 31 u = S 31 u ∧ S1 30 u = S 30 u ∧ S1 2 0 = S 2 0 ∧ S1 7 0 = S 7 0 := by rw [hc]; simp [up_n, q]
    have e27 : S1 27 (4000 * u + S 31 u) = S 27 (4000 * u + S 31 u) := by rw [hc]; simp [up_n]
    have q3 : S1 31 u = S1 30 u ∨ S1 27 (4000 * u + S1 31 u) + S1 2 0 ≠ S1 7 0 := by
      rw [e.1, e.2.1, e.2.2.1, e.2.2.2, e27]; omega
    unfold cms; rw [if_pos q3]
  have hi : ∀ n, n ≤ S 1 0 → itr cms n S = if v < n then cms v S else S := fun n => by
    induction n with
    | zero => intro _; rfl
    | succ n ih =>
      intro hn'
      rw [itr, ih (by omega)]
      by_cases q : v < n
      · rw [if_pos q, if_pos (by omega), (hid n (by omega) (by omega)).2]
      · rw [if_neg q]
        by_cases q2 : n = v
        · subst q2; rw [if_pos (by omega)]
        · rw [if_neg (by omega), (hid n (by omega) q2).1]
  refine ⟨v, hv, by omega, w2, by rw [hi _ (Nat.le_refl _), if_pos hv], ?_, ?_⟩
  · have s7 := h.c (c := 7) (i := 0) rfl
    have s13 := h.c (c := 13) (i := v) rfl
    have s11 := h.c (c := 11) (i := 0) rfl
    have s31 := h.c (c := 31) (i := v) rfl
    have s34 := h.c (c := 34) (i := v) rfl
    have sv := h.v hv
    unfold SimV at sv
    have s52 : C 52 v = S 31 v - S 32 v := sv.2.2.2.2.2.1
    have s45 : C 45 v = S 30 v - S 31 v := sv.2.2.1
    have ec : ldC v C = up (up (up (up (up (up C 48 (S 7 0 % 16) 0) 11 0 (if S 13 v ≤ S 31 v - S 32 v then S 11 0 + 1 else S 11 0)) 45 v (C 45 v - 1)) 31 v (S 31 v + 1)) 52 v (C 52 v + 1)) 34 v (max (S 34 v) (S 31 v + 1 - S 32 v)) := by
      unfold ldC lndC
      rw [s7, s13, s52, s11]
      have e2 : max (S 34 v) (S 31 v + 1 - S 32 v) = max (C 34 v) (C 52 v + 1) := by rw [s34, s52]; congr 1; omega
      rw [e2]
      by_cases q : S 13 v ≤ S 31 v - S 32 v
      · rw [if_pos q, if_pos q]; simp only [up_n, Nat.reduceEqDiff, false_and, if_false, s31, s52]
      · rw [if_neg q, if_neg q, up_id (S := up C 48 (S 7 0 % 16) 0) (k := 11) (j := 0) (by simp [up_n, s11])]; simp only [up_n, Nat.reduceEqDiff, false_and, if_false, s31, s52]
    have hwf := WF_cms h.wf v (by omega) h11
    rw [ec]
    rw [hc] at hwf ⊢
    refine ⟨?_, hwf, ?_, fun u hu' => ?_, fun p hp => ?_, ?_⟩
    · exact ((((((h.1.l rfl).b rfl).l rfl).b rfl).l rfl).b rfl)
    · simpa [up_n] using h.2.2.1
    · have hu' : u < S 1 0 := by simpa [up_n] using hu'
      have hnu := h.nums hu'
      obtain ⟨a1, a2, a3⟩ := h.2.2.2.1 u hu'
      refine ⟨?_, a2.cg (by simp [up_n]) (by simp [up_n]) (fun c i hc => by simp at hc; rw [up_n, if_neg (by omega), up_n, if_neg (by omega), up_n, if_neg (by omega)]) (fun f hf => by simp [up_n]) (by omega), ?_⟩
      · by_cases q : u = v
        · subst q
          unfold SimV cr at a1 ⊢
          obtain ⟨b1, b2, b3, b4, b5, b6, b7, b8, b9, b10⟩ := a1
          simp only [up_n, Nat.reduceEqDiff, false_and, if_false, true_and, if_true]
          refine ⟨b1, by omega, by omega, b4, b5, by omega, ?_, ?_, ?_, fun k hk2 => ?_⟩
          · rw [b7]; exact ctn_cg (fun p hp => by simp [arB, up_n])
          · rw [b8]; congr 1
          · rw [b9]; exact smn_cg (fun p hp => by simp [toF, fbN, up_n])
          · rw [b10 k hk2]; exact ctF_cg (fun i _ _ => by simp [rtB, up_n])
        · refine a1.cg (fun c hc => ?_) (fun k hk2 => by simp [up_n]) (fun c hc => ?_) (by simp [up_n]) (fun p hp l => by simp [arB, up_n]) (fun f hf => by simp [toF, fbN, up_n]) (fun k f hf => by simp [rtB, up_n])
          · simp at hc; simp only [up_n, q, and_false, if_false]; rw [if_neg (by omega), if_neg (by omega)]
          · simp at hc; simp only [up_n, q, and_false, if_false]; rw [if_neg (by omega)]
      · unfold Mn at a3 ⊢
        by_cases q : u = v
        · subst q
          simp only [up_n, Nat.reduceEqDiff, false_and, if_false, true_and, if_true]
          exact ⟨fun f g h1 h2 h3 => a3.1 f g (by omega) h2 h3, a3.2⟩
        · simpa only [up_n, Nat.reduceEqDiff, false_and, if_false, true_and, q] using a3
    · exact (h.p (by simpa [up_n] using hp)).cg (fun c hc => by simp at hc; rw [up_n, if_neg (by omega), up_n, if_neg (by omega), up_n, if_neg (by omega)]) (fun c hc => by simp at hc; rw [up_n, if_neg (by omega), up_n, if_neg (by omega), up_n, if_neg (by omega), up_n, if_neg (by omega), up_n, if_neg (by omega), up_n, if_neg (by omega)]) (by simp [up_n])
    · refine ⟨fun u g hu' g1 g2 => ?_, fun k hk q => ?_⟩
      · simp only [up_n, Nat.reduceEqDiff, false_and, if_false, true_and] at hu' g1 g2 ⊢
        have g1' : S 31 u ≤ g := by split at g1 <;> rename_i qq <;> (try subst qq) <;> omega
        have w3 := h.2.2.2.2.2.1 u g hu' g1' g2
        rw [if_neg, w3]
        intro q
        rw [q, w2] at w3
        have := h.nums hu'
        have : u = v := by omega
        subst this
        rw [if_pos rfl] at g1
        omega
      · simp only [up_n, Nat.reduceEqDiff, false_and, if_false, true_and] at q ⊢
        by_cases qk : k = S 7 0 % 16
        · rw [if_pos qk] at q; exact absurd rfl q
        · rw [if_neg qk] at q ⊢
          obtain ⟨u, g, hu', g1, g2, g3, g4⟩ := h.2.2.2.2.2.2 k hk q
          refine ⟨u, g, hu', ?_, g2, g3, g4⟩
          split
          · rename_i q2; subst q2
            have : g ≠ S 31 u := fun q3 => qk (by rw [← g4, q3, e7'])
            omega
          · exact g1
  · rw [hc]
    intro u g hu' g1 g2
    simp only [up_n, Nat.reduceEqDiff, false_and, if_false, true_and] at hu' g1 g2 ⊢
    have g1' : S 31 u ≤ g := by split at g1 <;> rename_i qq <;> (try subst qq) <;> omega
    have t1 := hT u g hu' g1' g2
    refine ⟨?_, by omega⟩
    by_cases q : S 27 (4000 * u + g) + S 2 0 = S 7 0
    · obtain ⟨q1, q2⟩ := hu u g hu' g1' g2 q
      subst q1
      rw [if_pos rfl] at g1
      omega
    · omega
