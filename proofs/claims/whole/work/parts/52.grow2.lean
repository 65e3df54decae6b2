/-- a new flit, last of what waits -/
theorem RepL.addF {G : GG} {K : Nat → Prop} {ad C : St} {a v p k : Nat} (h : RepL G (fun x => K x ∨ x = a) ad C) (hq : ∀ u, u < C 1 0 → Wq C u) (hv : v < C 1 0) (h29 : C 29 v + 1 < 4000) (h48 : ∀ k, k < 16 → C 48 k ≠ 4000 * v + C 29 v + 1)
    (hK : ¬ K a) (hka : knd G a = 1) (r0 : gr G a 0 = some (ad 4 p)) (r2 : gr G a 2 = none) (i1 : gi G a 1 = nI k) :
    RepL (addG G (ad 3 v) a) K (up ad 5 (4000 * v + C 29 v) a) (apf v p k C) := by
  have hqv := hq v hv
  unfold Wq at hqv
  have hda : ∀ s i, vld C s i → ad s i ≠ a := fun s i hv e => h.nK hv (Or.inr e)
  have hl4 : C 29 v - 1 < 4000 := by omega
  have q3 : gr G (ad 3 v) 1 = if C 30 v < C 29 v then some (ad 5 (4000 * v + (C 29 v - 1))) else none := h.r3_1 hv
  -- the new heap, the size aside
  have key : ∃ G', adH G (ad 3 v) a = G' ∧ (∀ b, knd G' b = knd G b) ∧ (∀ b k, gi G' b k = gi G b k) ∧ (∀ b, gn G' b = gn G b) ∧
      gr G' (ad 3 v) 1 = some a ∧ gr G' (ad 3 v) 0 = (if C 30 v < C 29 v then gr G (ad 3 v) 0 else some a) ∧
      (∀ u g, u < C 1 0 → g < C 29 u → g < 4000 → gr G' (ad 5 (4000 * u + g)) 2 = if u = v ∧ g + 1 = C 29 v ∧ C 30 v < C 29 v then some a else gr G (ad 5 (4000 * u + g)) 2) ∧
      (∀ u g, u < C 1 0 → g < C 29 u → g < 4000 → gr G' (ad 5 (4000 * u + g)) 0 = gr G (ad 5 (4000 * u + g)) 0) ∧
      (∀ s i j, vld C s i → s ≠ 3 → s ≠ 5 → gr G' (ad s i) j = gr G (ad s i) j) ∧ (∀ i j, i < C 1 0 → i ≠ v → gr G' (ad 3 i) j = gr G (ad 3 i) j) ∧ (∀ j, gr G' a j = gr G a j) := by
    have n3 : a ≠ ad 3 v := fun e => hda 3 v hv e.symm
    have ns : ∀ s i, vld C s i → s ≠ 3 → ad s i ≠ ad 3 v := fun s i hs h3 e => by
      by_cases h13 : s = 13
      · have := (h.2.1 s i hs).1; rw [e, h.k3 hv, h13] at this; cases this
      · exact h3 (h.2.2.1 s 3 i v hs hv h13 e).1
    by_cases e : C 30 v < C 29 v
    · rw [if_pos e] at q3
      have hl : C 29 v - 1 < C 29 v := by omega
      have nl : ∀ s i, vld C s i → s ≠ 5 → ad s i ≠ ad 5 (4000 * v + (C 29 v - 1)) := fun s i hs h5 e => by
        by_cases h13 : s = 13
        · have := (h.2.1 s i hs).1; rw [e, h.k5 hv hl hl4, h13] at this; cases this
        · exact h5 (h.2.2.1 s 5 i _ hs (vF hv hl hl4) h13 e).1
      refine ⟨_, rfl, ?_⟩
      unfold adH
      rw [q3]
      simp only [knd_sR, gi_sR, gn_sR, gr_sR, e, if_true, and_true, true_and]
      refine ⟨fun _ => trivial, fun _ _ => trivial, fun _ => trivial, ?_, fun u g hu hg h4 => ?_, fun u g hu hg h4 => ?_, fun s i j hs a1 a2 => ?_, fun i j hi hn => ?_, fun j => ?_⟩
      · rw [if_neg (by omega), if_neg (by omega)]
      · simp only [h.d5_3 hu hg h4 hv, h.d5_5 hu hg h4 hv hl hl4, false_and, if_false]
        by_cases q : u = v ∧ g = C 29 v - 1
        · rw [if_pos q, if_pos ⟨q.1, by omega⟩]
        · rw [if_neg q, if_neg]; rintro ⟨z1, z2⟩; exact q ⟨z1, by omega⟩
      · simp [h.d5_3 hu hg h4 hv]
      · rw [if_neg (fun q => ns s i hs a1 q.1), if_neg (fun q => nl s i hs a2 q.1)]
      · simp only [h.d3_3 hi hv]; rw [if_neg (fun q => hn q.1), if_neg (fun q => nl 3 i hi (by decide) q.1)]
      · rw [if_neg (fun q => n3 q.1), if_neg (fun q => hda 5 _ (vF hv hl hl4) q.1.symm)]
    · rw [if_neg e] at q3
      refine ⟨_, rfl, ?_⟩
      unfold adH
      rw [q3]
      simp only [knd_sR, gi_sR, gn_sR, gr_sR, e, if_true, if_false, and_true, true_and, and_false]
      refine ⟨fun _ => trivial, fun _ _ => trivial, fun _ => trivial, ?_, fun u g hu hg h4 => ?_, fun u g hu hg h4 => ?_, fun s i j hs a1 a2 => ?_, fun i j hi hn => ?_, fun j => ?_⟩
      · rw [if_neg (by omega)]
      · simp [h.d5_3 hu hg h4 hv]
      · simp [h.d5_3 hu hg h4 hv]
      · rw [if_neg (fun q => ns s i hs a1 q.1), if_neg (fun q => ns s i hs a1 q.1)]
      · simp only [h.d3_3 hi hv]; rw [if_neg (fun q => hn q.1), if_neg (fun q => hn q.1)]
      · rw [if_neg (fun q => n3 q.1), if_neg (fun q => n3 q.1)]
  obtain ⟨G', eG, kk, ki, kn, k1, k0, k52, k50, kr, k3, ka⟩ := key
  unfold addG apf
  rw [eG, h.o51 hv]
  have co : ∀ c i, c ≠ 25 → c ≠ 26 → c ≠ 29 → up (up (up C 25 (4000 * v + C 29 v) p) 26 (4000 * v + C 29 v) k) 29 v (C 29 v + 1) c i = C c i := fun c i a1 a2 a3 => by
    rw [up_o (Or.inl a3), up_o (Or.inl a2), up_o (Or.inl a1)]
  have c29 : ∀ i, up (up (up C 25 (4000 * v + C 29 v) p) 26 (4000 * v + C 29 v) k) 29 v (C 29 v + 1) 29 i = if i = v then C 29 v + 1 else C 29 i := fun i => by
    simp [up_n]
  have c25 : ∀ i, up (up (up C 25 (4000 * v + C 29 v) p) 26 (4000 * v + C 29 v) k) 29 v (C 29 v + 1) 25 i = if i = 4000 * v + C 29 v then p else C 25 i := fun i => by
    simp [up_n]
  have c26 : ∀ i, up (up (up C 25 (4000 * v + C 29 v) p) 26 (4000 * v + C 29 v) k) 29 v (C 29 v + 1) 26 i = if i = 4000 * v + C 29 v then k else C 26 i := fun i => by
    simp [up_n]
  have ao : ∀ s i, s ≠ 5 ∨ i ≠ 4000 * v + C 29 v → up ad 5 (4000 * v + C 29 v) a s i = ad s i := fun s i hh => by rw [up_o (by omega)]
  have a5 : up ad 5 (4000 * v + C 29 v) a 5 (4000 * v + C 29 v) = a := by rw [up_s]
  have e51 : up (up (up C 25 (4000 * v + C 29 v) p) 26 (4000 * v + C 29 v) k) 29 v (C 29 v + 1) 51 v = C 51 v := co 51 v (by decide) (by decide) (by decide)
  generalize hC : up (up (up C 25 (4000 * v + C 29 v) p) 26 (4000 * v + C 29 v) k) 29 v (C 29 v + 1) = C' at *
  generalize hA : up ad 5 (4000 * v + C 29 v) a = ad' at *
  have eq3 : ad 3 v = ad' 3 v := (ao 3 v (by omega)).symm
  rw [eq3]
  refine RepL.setO (c := 51) (C := C') ?_ rfl (show v < C' 1 0 by rw [co 1 0 (by decide) (by decide) (by decide)]; exact hv) (by rw [l_1, nI_add])
  have ix : ∀ u g, g < 4000 → (4000 * u + g = 4000 * v + C 29 v ↔ u = v ∧ g = C 29 v) := fun u g _ => by omega
  have vo : ∀ s i, vld C' s i → (s = 5 ∧ i = 4000 * v + C 29 v) ∨ vld C s i := fun s i hs => by
    rcases vldC hs with ⟨rfl, rfl⟩ | ⟨rfl, rfl⟩ | ⟨rfl, rfl⟩ | ⟨rfl, rfl⟩ | ⟨rfl, rfl⟩ | ⟨rfl, hi⟩ | ⟨rfl, hi⟩ | ⟨rfl, hi⟩ | ⟨rfl, hi⟩ | ⟨rfl, hi⟩ | ⟨rfl, hi⟩ | ⟨rfl, u, g, rfl, hu, hg, h4⟩
    · exact Or.inr rfl
    · exact Or.inr rfl
    · exact Or.inr rfl
    · exact Or.inr rfl
    · exact Or.inr rfl
    · rw [co 1 0 (by decide) (by decide) (by decide)] at hi; exact Or.inr hi
    · rw [co 1 0 (by decide) (by decide) (by decide)] at hi; exact Or.inr hi
    · rw [co 1 0 (by decide) (by decide) (by decide)] at hi; exact Or.inr hi
    · rw [co 1 0 (by decide) (by decide) (by decide)] at hi; exact Or.inr hi
    · rw [co 6 0 (by decide) (by decide) (by decide)] at hi; exact Or.inr hi
    · rw [co 6 0 (by decide) (by decide) (by decide)] at hi; exact Or.inr hi
    · rw [co 1 0 (by decide) (by decide) (by decide)] at hu
      rw [c29] at hg
      by_cases q : u = v ∧ g = C 29 v
      · exact Or.inl ⟨rfl, by rw [q.1, q.2]⟩
      · refine Or.inr (vF hu ?_ h4)
        split at hg
        · rename_i q2; subst q2; have : g ≠ C 29 u := fun q3 => q ⟨rfl, q3⟩; omega
        · exact hg
  have vi : ∀ s i, vld C s i → s ≠ 5 ∨ i ≠ 4000 * v + C 29 v := fun s i hs => by
    rcases vldC hs with ⟨rfl, rfl⟩ | ⟨rfl, rfl⟩ | ⟨rfl, rfl⟩ | ⟨rfl, rfl⟩ | ⟨rfl, rfl⟩ | ⟨rfl, hi⟩ | ⟨rfl, hi⟩ | ⟨rfl, hi⟩ | ⟨rfl, hi⟩ | ⟨rfl, hi⟩ | ⟨rfl, hi⟩ | ⟨rfl, u, g, rfl, hu, hg, h4⟩ <;> first | (left; decide) | skip
    right; rw [Ne, ix u g h4]; rintro ⟨rfl, rfl⟩; omega
  have af : ∀ u g, g < 4000 → ¬ (u = v ∧ g = C 29 v) → ad' 5 (4000 * u + g) = ad 5 (4000 * u + g) := fun u g h4 hn => ao _ _ (Or.inr (by rw [Ne, ix u g h4]; exact hn))
  refine h.grow (fun b hb => Or.inl hb) (fun x hx => by rw [kk]; exact h.1 x (Or.inl hx)) (fun s i => s = 5 ∧ i = 4000 * v + C 29 v) (fun _ _ _ => kk _) (fun _ _ _ _ => ki _ _) (fun s i hs => ?_) (fun s i hN => ?_) (fun s i hs e hr => ?_) (fun s t i j hN ht h13 e => ?_) (fun c hc i => ⟨fun hN => ?_, fun hs e hN => ?_⟩) (fun c hc i k' hk => ⟨fun hN => ?_, fun hs hN => ?_⟩)
  · rcases vo s i hs with q | q
    · exact Or.inl q
    · exact Or.inr ⟨q, ao s i (vi s i q)⟩
  · obtain ⟨rfl, rfl⟩ := hN
    rw [a5]
    refine ⟨by rw [kk]; exact hka, hK, ?_⟩
    simp only [Ref]
    rw [a5, ka, ka, r0, r2, c25, if_pos rfl, ao 4 p (by omega)]
    refine ⟨rfl, ?_⟩
    unfold nxo
    rw [(dv4 v (C 29 v) (by omega)).1, (dv4 v (C 29 v) (by omega)).2, if_neg]
    rw [c29, if_pos rfl, co 31 v (by decide) (by decide) (by decide)]; omega
  · rcases vldC hs with ⟨rfl, rfl⟩ | ⟨rfl, rfl⟩ | ⟨rfl, rfl⟩ | ⟨rfl, rfl⟩ | ⟨rfl, rfl⟩ | ⟨rfl, hi⟩ | ⟨rfl, hi⟩ | ⟨rfl, hi⟩ | ⟨rfl, hi⟩ | ⟨rfl, hi⟩ | ⟨rfl, hi⟩ | ⟨rfl, u, g, rfl, hu, hg, h4⟩
    · simp only [Ref] at hr ⊢
      rw [ao 1 0 (by omega), ao 8 0 (by omega), ao 9 0 (by omega), ao 10 0 (by omega), ao 7 0 (by omega), kr 1 0 _ rfl (by decide) (by decide), kr 1 0 _ rfl (by decide) (by decide), kr 1 0 _ rfl (by decide) (by decide), kr 1 0 _ rfl (by decide) (by decide)]; exact hr
    · simp only [Ref] at hr ⊢; rw [ao 7 0 (by omega), kn]; exact hr
    · simp only [Ref] at hr ⊢
      rw [ao 8 0 (by omega), kn, co 57 0 (by decide) (by decide) (by decide), co 1 0 (by decide) (by decide) (by decide)]
      exact ⟨hr.1, fun v hv => by rw [ao 2 v (by omega), kr 8 0 _ rfl (by decide) (by decide)]; exact hr.2 v hv⟩
    · simp only [Ref] at hr ⊢
      rw [ao 9 0 (by omega), kn]
      refine ⟨hr.1, fun k hk => ?_⟩
      rw [kr 9 0 _ rfl (by decide) (by decide), hr.2 k hk, co 48 k (by decide) (by decide) (by decide)]
      unfold wc
      by_cases e0 : C 48 k = 0
      · rw [if_pos e0, if_pos e0]
      · rw [if_neg e0, if_neg e0, ao 5 _ (Or.inr (by have := h48 k hk; omega))]
    · simp only [Ref] at hr ⊢
      rw [ao 10 0 (by omega), kn, co 56 0 (by decide) (by decide) (by decide)]
      exact ⟨hr.1, fun p hp => by rw [ao 4 p (by omega), kr 10 0 _ rfl (by decide) (by decide)]; exact hr.2 p hp⟩
    · simp only [Ref] at hr ⊢
      rw [ao 2 i (by omega), ao 3 i (by omega), ao 14 i (by omega), ao 11 i (by omega), kr 2 i _ hi (by decide) (by decide), kr 2 i _ hi (by decide) (by decide), kr 2 i _ hi (by decide) (by decide)]; exact hr
    · simp only [Ref] at hr ⊢
      have hqi := hq i hi
      unfold Wq at hqi
      unfold qf ql at hr ⊢
      rw [ao 3 i (by omega), co 30 i (by decide) (by decide) (by decide), c29]
      by_cases q : i = v
      · subst q
        have hl : C 30 i < C 29 i + 1 := by omega
        rw [if_pos rfl, k1, k0, Nat.add_sub_cancel, a5]
        refine ⟨?_, by rw [if_pos hl]⟩
        rw [if_pos hl]
        by_cases q2 : C 30 i < C 29 i
        · rw [if_pos q2, hr.1, if_pos q2, af i (C 30 i) (by omega) (by omega)]
        · rw [if_neg q2, show C 30 i = C 29 i by omega, a5]
      · rw [if_neg q, k3 i _ hi q, k3 i _ hi q, hr.1, hr.2]
        constructor
        · by_cases q2 : C 30 i < C 29 i
          · rw [if_pos q2, if_pos q2, af i (C 30 i) (by omega) (by omega)]
          · rw [if_neg q2, if_neg q2]
        · by_cases q2 : C 30 i < C 29 i
          · rw [if_pos q2, if_pos q2, af i (C 29 i - 1) (by omega) (by omega)]
          · rw [if_neg q2, if_neg q2]
    · simp only [Ref] at hr ⊢
      have hqi := hq i hi
      unfold Wq at hqi
      unfold qf ql at hr ⊢
      rw [ao 14 i (by omega), co 32 i (by decide) (by decide) (by decide), co 31 i (by decide) (by decide) (by decide), kr 14 i _ hi (by decide) (by decide), kr 14 i _ hi (by decide) (by decide), hr.1, hr.2]
      constructor
      · by_cases q2 : C 32 i < C 31 i
        · rw [if_pos q2, if_pos q2, af i (C 32 i) (by omega) (by rintro ⟨rfl, q⟩; omega)]
        · rw [if_neg q2, if_neg q2]
      · by_cases q2 : C 32 i < C 31 i
        · rw [if_pos q2, if_pos q2, af i (C 31 i - 1) (by omega) (by rintro ⟨rfl, q⟩; omega)]
        · rw [if_neg q2, if_neg q2]
    · simp only [Ref] at hr ⊢; rw [ao 11 i (by omega), kn]; exact hr
    · simp only [Ref] at hr ⊢
      rw [ao 4 i (by omega), ao 13 i (by omega), co 16 i (by decide) (by decide) (by decide), ao 2 _ (by omega), kr 4 i _ hi (by decide) (by decide), kr 4 i _ hi (by decide) (by decide)]; exact hr
    · simp only [Ref] at hr ⊢
      rw [ao 13 i (by omega), kn, co 17 i (by decide) (by decide) (by decide)]; exact hr
    · simp only [Ref] at hr ⊢
      have hqu := hq u hu
      unfold Wq at hqu
      have hne : ¬ (u = v ∧ g = C 29 v) := by rintro ⟨rfl, rfl⟩; omega
      rw [af u g h4 hne, k50 u g hu hg h4, k52 u g hu hg h4, c25, if_neg (by rw [ix u g h4]; exact hne), ao 4 _ (by omega)]
      refine ⟨hr.1, ?_⟩
      rw [hr.2, nxo_e h4, nxo_e h4]
      unfold nxf
      rw [co 30 u (by decide) (by decide) (by decide), co 31 u (by decide) (by decide) (by decide), co 32 u (by decide) (by decide) (by decide), c29, Nat.add_assoc]
      by_cases q : u = v
      · subst q
        rw [if_pos rfl]
        by_cases q2 : g + 1 = C 29 u ∧ C 30 u < C 29 u
        · rw [if_pos ⟨rfl, q2⟩, if_pos (by omega), q2.1, a5]
        · rw [if_neg (fun z => q2 z.2)]
          by_cases q3 : (C 30 u ≤ g ∧ g + 1 < C 29 u) ∨ (C 32 u ≤ g ∧ g + 1 < C 31 u)
          · rw [if_pos q3, if_pos (by omega), af u (g + 1) (by omega) (by omega)]
          · rw [if_neg q3, if_neg (by omega)]
      · rw [if_neg q, if_neg (fun z => q z.1)]
        by_cases q3 : (C 30 u ≤ g ∧ g + 1 < C 29 u) ∨ (C 32 u ≤ g ∧ g + 1 < C 31 u)
        · rw [if_pos q3, if_pos q3, af u (g + 1) (by omega) (by omega)]
        · rw [if_neg q3, if_neg q3]
  · obtain ⟨rfl, rfl⟩ := hN
    rw [a5] at e
    rcases vo t j ht with ⟨rfl, rfl⟩ | q
    · exact ⟨rfl, rfl⟩
    · rw [ao t j (vi t j q)] at e; exact absurd e.symm (hda t j q)
  · obtain ⟨hcs, rfl⟩ := hN
    have hc' : c = 26 := by
      unfold isO at hc; split at hc <;> first | (cases hc; done) | rfl | (simp [cs] at hcs)
    subst hc'
    simp only [cs, cf]
    rw [a5, ki, c26, if_pos rfl]; exact i1
  · have hi := vi _ _ hs
    by_cases q : c = 26
    · subst q
      rw [c26, if_neg (hi.elim (fun q => absurd rfl q) id)]
    · exact co c i (fun q => by rw [q] at hc; cases hc) q (fun q => by rw [q] at hc; cases hc)
  · obtain ⟨hcs, rfl⟩ := hN
    unfold isA at hc; split at hc <;> first | (cases hc; done) | (simp [cs] at hcs)
  · have hc' : c = 15 ∨ c = 47 ∨ c = 18 := by
      unfold isA at hc; split at hc <;> first | (cases hc; done) | simp
    rcases hc' with rfl | rfl | rfl
    · exact ⟨hk, co 15 _ (by decide) (by decide) (by decide)⟩
    · exact ⟨hk, co 47 _ (by decide) (by decide) (by decide)⟩
    · simp only [aL] at hk ⊢
      rw [co 17 _ (by decide) (by decide) (by decide)] at hk
      exact ⟨hk, co 18 _ (by decide) (by decide) (by decide)⟩
/-- the packet is put into the table -/
theorem RepL.reg {G : GG} {K : Nat → Prop} {ad C : St} {p : Nat} (h : RepL G K ad C) (hp : C 56 0 = p) (hp6 : p < C 6 0) : RepL (sR G (ad 10 0) p (some (ad 4 p))) K ad (up C 56 0 (p + 1)) := by
  refine h.shape (fun b => knd_sR ..) (fun b k => gi_sR ..) (vld_eq (by simp [up_n]) (by simp [up_n]) (fun _ => by simp [up_n])) (fun c i hc => by rw [up_n, if_neg]; rintro ⟨rfl, -⟩; simp [isO, isA] at hc) (fun s i hs hr => ?_)
  have nn : ∀ s i, vld C s i → s ≠ 10 → ad s i ≠ ad 10 0 := fun s i hs h10 e => by
    by_cases h13 : s = 13
    · have := (h.2.1 s i hs).1; rw [e, h.k10, h13] at this; cases this
    · exact h10 (h.2.2.1 s 10 i 0 hs rfl h13 e).1
  by_cases h10 : s = 10
  · subst h10
    have hi : i = 0 := hs
    subst hi
    simp only [Ref, gr_sR, gn_sR, up_n, true_and, and_self, if_true] at hr ⊢
    refine ⟨hr.1, fun q hq => ?_⟩
    by_cases e : q = p
    · rw [if_pos e, e]
    · rw [if_neg e]; exact hr.2 q (by omega)
  · have n1 := nn s i hs h10
    rcases vldC hs with ⟨rfl, rfl⟩ | ⟨rfl, rfl⟩ | ⟨rfl, rfl⟩ | ⟨rfl, rfl⟩ | ⟨rfl, rfl⟩ | ⟨rfl, hi⟩ | ⟨rfl, hi⟩ | ⟨rfl, hi⟩ | ⟨rfl, hi⟩ | ⟨rfl, hi⟩ | ⟨rfl, hi⟩ | ⟨rfl, u, g, rfl, hu, hg, h4⟩ <;> first | (exact absurd rfl h10) | (simp only [Ref, gr_sR, gn_sR, n1, false_and, if_false, up_n, Nat.reduceEqDiff, nxo] at hr ⊢; exact hr)
