theorem ff_cg {p q : Nat → Bool} : ∀ {n a : Nat}, (∀ i, a ≤ i → i < a + n → p i = q i) → ff p a n = ff q a n
  | 0, _, _ => rfl
  | n + 1, a, h => by rw [ff, ff, h a (by omega) (by omega), ff_cg (fun i h1 h2 => h i (by omega) (by omega))]
theorem ff_sh {p : Nat → Bool} : ∀ {n a : Nat}, a + n < NN → ff p (a + 1) n = if ff (fun i => p (i + 1)) a n = NN then NN else ff (fun i => p (i + 1)) a n + 1
  | 0, a, h => by simp [ff]
  | n + 1, a, h => by
    rw [ff, ff]
    by_cases e : p (a + 1) = true
    · rw [if_pos e, if_pos e, if_neg (by omega)]
    · rw [if_neg e, if_neg e, ff_sh (by omega)]
section SD
variable {S C : St}
theorem Sim.ablE (h : Sim S C) {v : Nat} (hv : v < S 1 0) : ablC C v = abl S v := by
  have h1 := h.v hv
  have hn := h.nums hv
  unfold SimV at h1
  unfold ablC abl
  rw [h1.2.1, h1.2.2.2.2.1]
  congr 1; apply propext; omega
theorem Sim.begE (h : Sim S C) {v : Nat} : begC C v = beg S v := by
  unfold begC beg
  rw [h.c (c := 30) rfl, h.c (c := 29) rfl, h.c (c := 26) rfl]
theorem Sim.waiE (h : Sim S C) {v : Nat} (hv : v < S 1 0) : waiC C v = wai S v := by
  have h1 := h.v hv
  have hn := h.nums hv
  unfold SimV at h1
  unfold waiC wai
  rw [h1.2.2.2.2.1]
  congr 1; apply propext; omega
theorem Sim.fa (h : Sim S C) {s : Nat} (hs : s ≤ S 1 0) (t : Nat → Nat) (ht : ∀ i, i < S 1 0 → t (i + 1) = (if s + i < S 1 0 then s + i else s + i - S 1 0)) :
    faC C s 0 (C 1 0) = if ff (fun k => abl S (t k)) 1 (S 1 0) = NN then NN else t (ff (fun k => abl S (t k)) 1 (S 1 0)) := by
  have hr := h.wf.rows
  have hN := NN_v
  have c1 := h.c (c := 1) (i := 0) rfl
  have ec : ∀ i, i < S 1 0 → cix C s i = t (i + 1) := fun i hi => by unfold cix; rw [c1, ht i hi]
  unfold faC
  rw [c1]
  have e1 : ff (fun i => ablC C (cix C s i)) 0 (S 1 0) = ff (fun i => abl S (t (i + 1))) 0 (S 1 0) := ff_cg (fun i _ hi => by
    rw [ec i (by omega), h.ablE]
    rw [ht i (by omega)]; split <;> omega)
  rw [e1]
  have e2 := ff_sh (p := fun k => abl S (t k)) (n := S 1 0) (a := 0) (by omega)
  rw [Nat.zero_add] at e2
  rw [e2]
  by_cases q : ff (fun i => abl S (t (i + 1))) 0 (S 1 0) = NN
  · rw [if_pos q]; simp [q]
  · obtain ⟨q1, q2, q3⟩ := ff_some (p := fun i => abl S (t (i + 1))) (n := S 1 0) (i := 0) (by omega) q
    rw [if_neg q, if_neg q, if_neg (by omega), ec _ (by omega)]
theorem Sim.goE (h : Sim S C) : goC C = goB S := by
  have c8 := h.c (c := 8) (i := 0) rfl
  have c4 := h.c (c := 4) (i := 0) rfl
  have c9 := h.c (c := 9) (i := 0) rfl
  have w8 := h.wf.1.2.2.2.2.2.2.2.2.2.2.1
  unfold goC goB lmgB
  rw [c8, c4, c9, h.c (c := 14) rfl]
  by_cases e : S 8 0 = NN
  · simp [e]
  · rw [h.ablE (w8.resolve_left e)]; simp
theorem Sim.sdE (h : Sim S C) : sdC C = sdN S := by
  have hr := h.wf.rows
  have hN := NN_v
  have c8 := h.c (c := 8) (i := 0) rfl
  have c4 := h.c (c := 4) (i := 0) rfl
  have c1 := h.c (c := 1) (i := 0) rfl
  have w8 := h.wf.1.2.2.2.2.2.2.2.2.2.2.1
  have eb : begN C = whN S := by
    unfold begN whN; rw [c4, c1, show begC C = beg S from funext fun v => h.begE]
  have el : faC C 0 0 (C 1 0) = ff (abl S) 0 (S 1 0) := by
    rw [h.fa (s := 0) (by omega) (fun k => k - 1) (fun i hi => by rw [if_pos (by omega)]; omega)]
    have e2 := ff_sh (p := fun k => abl S (k - 1)) (n := S 1 0) (a := 0) (by omega)
    rw [Nat.zero_add] at e2
    have e3 : (fun i => abl S (i + 1 - 1)) = abl S := funext fun i => by rw [Nat.add_sub_cancel]
    rw [e2, e3]
    by_cases q : ff (abl S) 0 (S 1 0) = NN
    · rw [if_pos q]; simp [q]
    · obtain ⟨q1, q2, q3⟩ := ff_some (p := abl S) (n := S 1 0) (i := 0) (by omega) q
      rw [if_neg q, if_neg (by omega)]; omega
  have et : faC C (ch0 C) 0 (C 1 0) = tuN S := by
    have hs : ch0 C ≤ S 1 0 := by rw [← c1]; exact ch0_le h.wl
    unfold tuN
    refine h.fa hs (trn S) (fun i hi => ?_)
    unfold ch0 trn
    rw [c8]
    by_cases e : S 8 0 = NN
    · rw [if_pos e, if_pos e, if_pos (by omega)]; omega
    · have := w8.resolve_left e
      rw [if_neg e, if_neg e]
      by_cases q : S 8 0 + 1 + i < S 1 0
      · rw [if_pos q, Nat.mod_eq_of_lt (by omega)]; omega
      · rw [if_neg q, Nat.mod_eq_sub_mod (by omega), Nat.mod_eq_of_lt (by omega)]; omega
  unfold sdC sdN choC
  rw [h.goE, c8, c4, el, et, eb]
  by_cases e1 : S 4 0 = 1
  · have : goB S = false := decide_eq_false (by omega)
    simp [e1, this]
  · by_cases e2 : goB S = true
    · simp [e1, e2]
    · by_cases e3 : whN S = NN
      · simp [e1, e2, e3]
      · have hw : whN S < S 1 0 := by
          have := (begN_ok h.wl).resolve_left (by rw [eb]; exact e3)
          rw [eb, c1] at this; exact this
        rw [h.ablE hw]
        simp [e1, e2, e3]
theorem Sim.sd (h : Sim S C) (hT : Tw S 1 0) (h9 : S 9 0 < 10000000) (h10 : S 10 0 < 10000000) : Sim (sds S) (seC C) ∧ Tw (sds S) 1 1 := by
  have hr := h.wf.rows
  have hN := NN_v
  have hwf := WF_sds h.wf h9 h10
  have c8 := h.c (c := 8) (i := 0) rfl
  have c4 := h.c (c := 4) (i := 0) rfl
  have c9 := h.c (c := 9) (i := 0) rfl
  have c1 := h.c (c := 1) (i := 0) rfl
  have c7 := h.c (c := 7) (i := 0) rfl
  have c2 := h.c (c := 2) (i := 0) rfl
  have c10 := h.c (c := 10) (i := 0) rfl
  unfold seC
  unfold sds at hwf ⊢
  rw [h.sdE]
  by_cases e : sdN S = NN
  · rw [if_pos e] at hwf
    rw [if_pos e, if_pos e]
    have ew : ff (waiC C) 0 (C 1 0) = ff (wai S) 0 (S 1 0) := by rw [c1]; exact ff_cg (fun i _ hi => h.waiE (by omega))
    have es : stC C = up C 10 0 (S 10 0 + wt S) := by
      unfold stC wt; rw [ew, c10]; split
      · rw [Nat.add_zero, up_id c10.symm]
      · rfl
    rw [es]
    refine ⟨⟨h.1.b rfl, hwf, by simpa [up_n] using h.2.2.1, fun u hu => ?_, fun p hp => ?_, ?_⟩, ?_⟩
    · have hu : u < S 1 0 := by simpa [up_n] using hu
      have hnu := h.nums hu
      obtain ⟨a1, a2, a3⟩ := h.2.2.2.1 u hu
      exact ⟨a1.cg (fun c hc => by simp at hc; rw [up_n, if_neg (by omega)]) (fun k hk => by simp [up_n]) (fun c hc => by simp at hc; rw [up_n, if_neg (by omega)]) (by simp [up_n]) (fun p hp l => by simp [arB, up_n]) (fun f hf => by simp [toF, fbN, up_n]) (fun k f hf => by simp [rtB, up_n]), a2.cg (by simp [up_n]) (by simp [up_n]) (fun c i hc => by simp at hc; rw [up_n, if_neg (by omega)]) (fun f hf => by simp [up_n]) (by omega), a3.cg (fun c hc => by simp at hc; rw [up_n, if_neg (by omega)]) (fun f hf => by simp [up_n]) (fun f hf => by simp [up_n])⟩
    · exact (h.p (by simpa [up_n] using hp)).cg (fun c hc => by simp at hc; rw [up_n, if_neg (by omega)]) (fun c hc => by simp at hc; rw [up_n, if_neg (by omega)]) (by simp [up_n])
    · exact h.2.2.2.2.2.cg (fun c i hc => by simp at hc; rw [up_n, if_neg (by omega)]) (fun i => by simp [up_n])
    · intro u f hu g1 g2
      simp only [up_n, Nat.reduceEqDiff, false_and, if_false] at hu g1 g2 ⊢
      have := hT u f hu g1 g2; omega
  · rw [if_neg e] at hwf
    rw [if_neg e, if_neg e]
    obtain ⟨hv, ha⟩ := (sdN_ok h.wf).resolve_left e
    generalize hvv : sdN S = v at *
    have hrow : rwN S = if v = C 8 0 ∧ ¬ (C 4 0 = 2 ∧ goC C = false) then C 9 0 + 1 else 1 := by
      unfold rwN; rw [hvv, c8, c4, h.goE, c9]
    have hn := h.nums hv
    have hab := of_decide_eq_true ha
    have hsv := h.v hv
    have i26 := h.c (c := 26) (i := 4000 * v + S 30 v) rfl
    have i25 := h.c (c := 25) (i := 4000 * v + S 30 v) rfl
    have i30 := h.c (c := 30) (i := v) rfl
    have h2 : 1 ≤ S 2 0 := h.wf.1.2.2.1
    -- the two states, in one order
    have eS : sdT v (rwN S) S = up (up (up (up (up S 27 (4000 * v + S 30 v) (S 7 0)) 30 v (S 30 v + 1)) 20 (S 25 (4000 * v + S 30 v)) (if S 26 (4000 * v + S 30 v) = 0 then S 7 0 else S 20 (S 25 (4000 * v + S 30 v)))) 9 0 (rwN S)) 8 0 v := by
      unfold sdT
      by_cases q : S 26 (4000 * v + S 30 v) = 0
      · rw [if_pos q, if_pos q, up_cm (a := 20) (b := 30) (by decide)]
      · rw [if_neg q, if_neg q, up_id (k := 20) (by simp [up_n])]
    have eC : snC v C = up (up (up (up (up (up (up (up (up C 30 v (S 30 v + 1)) 51 v (C 51 v - 1)) 44 v (C 44 v - 1)) 46 v (C 46 v + 1)) 45 v (C 45 v + 1)) 20 (S 25 (4000 * v + S 30 v)) (if S 26 (4000 * v + S 30 v) = 0 then S 7 0 else S 20 (S 25 (4000 * v + S 30 v)))) 48 ((S 7 0 + S 2 0) % 16) (4000 * v + S 30 v + 1)) 9 0 (rwN S)) 8 0 v := by
      unfold snC sndC
      simp only [i30, i26, i25, c7, c2, ← hrow]
      by_cases q : S 26 (4000 * v + S 30 v) = 0
      · rw [if_pos q, if_pos q]
      · rw [if_neg q, if_neg q, up_id (k := 20) (by simp [up_n, h.c (c := 20) rfl])]
    rw [eS] at hwf ⊢
    rw [eC]
    have hsl : ∀ u g, u < S 1 0 → S 31 u ≤ g → g < S 30 u → (S 27 (4000 * u + g) + S 2 0) % 16 ≠ (S 7 0 + S 2 0) % 16 := fun u g hu g1 g2 => by
      have := hT u g hu g1 g2; omega
    have hix : ∀ u g, u < 8 → g < 4000 → (4000 * u + g = 4000 * v + S 30 v ↔ u = v ∧ g = S 30 v) := fun u g _ _ => by omega
    refine ⟨⟨?_, hwf, ?_, fun u hu => ?_, fun p' hp' => ?_, ?_⟩, ?_⟩
    · exact ((((((((((h.1.r rfl).b rfl).l rfl).l rfl).l rfl).l rfl).b rfl).l rfl).b rfl).b rfl)
    · simpa [up_n] using h.2.2.1
    · have hu : u < S 1 0 := by simpa [up_n] using hu
      have hnu := h.nums hu
      have i8 : u < 8 := by omega
      obtain ⟨a1, a2, a3⟩ := h.2.2.2.1 u hu
      refine ⟨?_, a2.cg (by simp [up_n]) (by simp [up_n]) (fun c i hc => by simp at hc; rw [up_n, if_neg (by omega), up_n, if_neg (by omega), up_n, if_neg (by omega), up_n, if_neg (by omega), up_n, if_neg (by omega)]) (fun f hf => by simp [up_n]) (by omega), ?_⟩
      · by_cases q : u = v
        · subst q
          unfold SimV at a1 ⊢
          unfold cr at a1 hab ⊢
          obtain ⟨b1, b2, b3, b4, b5, b6, b7, b8, b9, b10⟩ := a1
          simp only [up_n, Nat.reduceEqDiff, false_and, if_false, true_and, if_true]
          refine ⟨b1, by omega, by omega, by omega, by omega, b6, ?_, ?_, ?_, fun k' hk2 => ?_⟩
          · rw [b7]; exact ctn_cg (fun p hp => by simp [arB, up_n])
          · rw [b8]; exact congrArg _ (ctn_cg (fun p hp => by simp [arB, up_n]))
          · rw [b9]; exact smn_cg (fun p hp => by simp [toF, fbN, up_n])
          · rw [b10 k' hk2]; exact ctF_cg (fun i _ _ => by simp [rtB, up_n])
        · refine a1.cg (fun c hc => ?_) (fun k hk2 => by simp [up_n]) (fun c hc => ?_) (by simp [up_n]) (fun p hp l => by simp [arB, up_n]) (fun f hf => by simp [toF, fbN, up_n]) (fun k f hf => by simp [rtB, up_n])
          · simp at hc; simp only [up_n, q, and_false, if_false]; rw [if_neg (by omega), if_neg (by omega), if_neg (by omega), if_neg (by omega)]
          · simp at hc; simp only [up_n, q, and_false, if_false]; rw [if_neg (by omega), if_neg (by omega), if_neg (by omega), if_neg (by omega)]
      · unfold Mn at a3 ⊢
        simp only [up_n, Nat.reduceEqDiff, false_and, if_false, true_and]
        refine ⟨fun f g g1 g2 g3 => ?_, a3.2⟩
        by_cases q : u = v
        · subst q
          rw [if_pos rfl] at g3
          simp only [Nat.add_left_cancel_iff]
          by_cases qg : g = S 30 u
          · rw [if_pos qg]
            by_cases qf : f = S 30 u
            · rw [if_pos qf]; omega
            · rw [if_neg qf]
              have := hT u f hu g1 (by omega); omega
          · rw [if_neg qg, if_neg (by omega)]; exact a3.1 f g g1 g2 (by omega)
        · rw [if_neg q] at g3
          rw [if_neg (by rw [hix u f i8 (by omega)]; omega), if_neg (by rw [hix u g i8 (by omega)]; omega)]
          exact a3.1 f g g1 g2 g3
    · exact (h.p (by simpa [up_n] using hp')).cg (fun c hc => by simp at hc; rw [up_n, if_neg (by omega), up_n, if_neg (by omega), up_n, if_neg (by omega), up_n, if_neg (by omega), up_n, if_neg (by omega)]) (fun c hc => by simp at hc; rw [up_n, if_neg (by omega), up_n, if_neg (by omega), up_n, if_neg (by omega), up_n, if_neg (by omega), up_n, if_neg (by omega), up_n, if_neg (by omega), up_n, if_neg (by omega), up_n, if_neg (by omega), up_n, if_neg (by omega)]) (by simp [up_n])
    · have hw := h.2.2.2.2.2
      refine ⟨fun u g hu g1 g2 => ?_, fun k hk q => ?_⟩
      · simp only [up_n, Nat.reduceEqDiff, false_and, if_false, true_and] at hu g1 g2 ⊢
        have hnu := h.nums hu
        by_cases q : u = v ∧ g = S 30 v
        · obtain ⟨rfl, rfl⟩ := q
          rw [if_pos rfl, if_pos rfl]
        · have g2' : g < S 30 u := by
            split at g2
            · rename_i q2; subst q2; have : g ≠ S 30 u := fun q3 => q ⟨rfl, q3⟩; omega
            · exact g2
          have hne : ¬ (4000 * u + g = 4000 * v + S 30 v) := by rw [hix u g (by omega) (by omega)]; exact q
          simp only [hne, if_false]
          rw [if_neg (hsl u g hu g1 g2')]
          exact hw.1 u g hu g1 g2'
      · simp only [up_n, Nat.reduceEqDiff, false_and, if_false, true_and] at q ⊢
        by_cases qk : k = (S 7 0 + S 2 0) % 16
        · rw [if_pos qk]
          exact ⟨v, S 30 v, hv, by omega, by rw [if_pos rfl]; omega, rfl, by rw [if_pos rfl]; exact qk.symm⟩
        · rw [if_neg qk] at q ⊢
          obtain ⟨u, g, hu, g1, g2, g3, g4⟩ := hw.2 k hk q
          have hnu := h.nums hu
          refine ⟨u, g, hu, g1, ?_, g3, ?_⟩
          · split
            · rename_i q2; subst q2; omega
            · exact g2
          · rw [if_neg]
            · exact g4
            · rw [hix u g (by omega) (by omega)]
              rintro ⟨rfl, q3⟩; omega
    · intro u g hu g1 g2
      simp only [up_n, Nat.reduceEqDiff, false_and, if_false, true_and] at hu g1 g2 ⊢
      have hnu := h.nums hu
      by_cases q : u = v ∧ g = S 30 v
      · obtain ⟨rfl, rfl⟩ := q
        rw [if_pos rfl]; omega
      · have g2' : g < S 30 u := by
          split at g2
          · rename_i q2; subst q2; have : g ≠ S 30 u := fun q3 => q ⟨rfl, q3⟩; omega
          · exact g2
        rw [if_neg (by rw [hix u g (by omega) (by omega)]; exact q)]
        have := hT u g hu g1 g2'; omega
theorem Sim.ck (h : Sim S C) (h7 : S 7 0 < 10000000) : Sim (up S 7 0 (S 7 0 + 1)) (up C 7 0 (C 7 0 + 1)) := by
  have c7 := h.c (c := 7) (i := 0) rfl
  have hr := h.wf.rows
  have h3 := h.2.2.1
  refine ⟨h.1.b (by rw [c7]), WF_up7 h.wf (by omega) (by omega), by simp only [up_n, Nat.reduceEqDiff, false_and, if_false, true_and, if_true]; omega, fun u hu => ?_, fun p hp => ?_, ?_⟩
  · have hu : u < S 1 0 := by simpa [up_n] using hu
    have hnu := h.nums hu
    obtain ⟨a1, a2, a3⟩ := h.2.2.2.1 u hu
    exact ⟨a1.cg (fun c hc => by simp at hc; rw [up_n, if_neg (by omega)]) (fun k hk => by simp [up_n]) (fun c hc => by simp at hc; rw [up_n, if_neg (by omega)]) (by simp [up_n]) (fun p hp l => by simp [arB, up_n]) (fun f hf => by simp [toF, fbN, up_n]) (fun k f hf => by simp [rtB, up_n]), a2.cg (by simp [up_n]) (by simp [up_n]) (fun c i hc => by simp at hc; rw [up_n, if_neg (by omega)]) (fun f hf => by simp [up_n]) (by omega), a3.cg (fun c hc => by simp at hc; rw [up_n, if_neg (by omega)]) (fun f hf => by simp [up_n]) (fun f hf => by simp [up_n])⟩
  · exact (h.p (by simpa [up_n] using hp)).cg (fun c hc => by simp at hc; rw [up_n, if_neg (by omega)]) (fun c hc => by simp at hc; rw [up_n, if_neg (by omega)]) (by simp [up_n])
  · exact h.2.2.2.2.2.cg (fun c i hc => by simp at hc; rw [up_n, if_neg (by omega)]) (fun i => by simp [up_n])
end SD
