/-- values preset for all channels: what a new link tells -/
def Pre (C : St) (d : Nat) : Prop := ∀ v, v < 8 → C 54 v = v ∧ C 13 v = d ∧ C 14 v = 1 ∧ C 44 v = d ∧ C 45 v = 0 ∧ C 46 v = 0 ∧ C 41 v = 0 ∧ C 42 v = 0 ∧ C 43 v = 0 ∧ C 34 v = 0 ∧ C 51 v = 0 ∧ C 52 v = 0 ∧ C 29 v = 0 ∧ C 30 v = 0 ∧ C 31 v = 0 ∧ C 32 v = 0 ∧ (∀ k, k < 16 → C 47 (16 * v + k) = 0)
theorem vld_h {C : St} {x s i : Nat} (h : vld (up C 1 0 (x + 1)) s i) (hx : C 1 0 = x) (h29 : C 29 x = 0) : ((s = 2 ∨ s = 3 ∨ s = 14 ∨ s = 11) ∧ i = x) ∨ vld C s i := by
  rcases vldC h with ⟨rfl, rfl⟩ | ⟨rfl, rfl⟩ | ⟨rfl, rfl⟩ | ⟨rfl, rfl⟩ | ⟨rfl, rfl⟩ | ⟨rfl, hi⟩ | ⟨rfl, hi⟩ | ⟨rfl, hi⟩ | ⟨rfl, hi⟩ | ⟨rfl, hi⟩ | ⟨rfl, hi⟩ | ⟨rfl, u, g, rfl, hu, hg, h4⟩
  · exact Or.inr rfl
  · exact Or.inr rfl
  · exact Or.inr rfl
  · exact Or.inr rfl
  · exact Or.inr rfl
  · rw [up_s] at hi; by_cases e : i = x
    · exact Or.inl ⟨by simp, e⟩
    · exact Or.inr (show i < C 1 0 by omega)
  · rw [up_s] at hi; by_cases e : i = x
    · exact Or.inl ⟨by simp, e⟩
    · exact Or.inr (show i < C 1 0 by omega)
  · rw [up_s] at hi; by_cases e : i = x
    · exact Or.inl ⟨by simp, e⟩
    · exact Or.inr (show i < C 1 0 by omega)
  · rw [up_s] at hi; by_cases e : i = x
    · exact Or.inl ⟨by simp, e⟩
    · exact Or.inr (show i < C 1 0 by omega)
  · rw [up_o (by omega)] at hi; exact Or.inr hi
  · rw [up_o (by omega)] at hi; exact Or.inr hi
  · rw [up_s] at hu; rw [up_o (by omega)] at hg
    refine Or.inr (vF ?_ hg h4)
    by_cases e : u = x
    · subst e; omega
    · omega
/-- a new channel -/
theorem RepL.addC {G G' : GG} {K : Nat → Prop} {ad C : St} {x d a2 a3 a14 a11 : Nat} (h : RepL G K ad C) (hx : C 1 0 = x) (hx8 : x < 8) (h6 : C 6 0 = 0) (hP : Pre C d) (h99 : knd G a2 = 99 ∧ knd G a3 = 99 ∧ knd G a14 = 99 ∧ knd G a11 = 99) (hne : a3 ≠ a14)
    (k2 : knd G' a2 = 0) (k3 : knd G' a3 = 2) (k14 : knd G' a14 = 2) (k11 : knd G' a11 = 8) (hr : gr G' a2 1 = some a3 ∧ gr G' a2 2 = some a14 ∧ gr G' a2 3 = some a11)
    (hi2 : gi G' a2 0 = nI x ∧ gi G' a2 4 = nI d ∧ gi G' a2 5 = nI 1 ∧ gi G' a2 6 = nI d ∧ gi G' a2 7 = nI 0 ∧ gi G' a2 8 = nI 0 ∧ gi G' a2 9 = nI 0 ∧ gi G' a2 10 = nI 0 ∧ gi G' a2 11 = nI 0 ∧ gi G' a2 12 = nI 0)
    (hq3 : gr G' a3 0 = none ∧ gr G' a3 1 = none ∧ gi G' a3 2 = nI 0) (hq14 : gr G' a14 0 = none ∧ gr G' a14 1 = none ∧ gi G' a14 2 = nI 0) (h11 : gn G' a11 = 16 ∧ ∀ k, gi G' a11 k = nI 0)
    (hs : ∀ b, knd G b ≠ 99 → b ≠ ad 8 0 → G' b = G b) (h8 : knd G' (ad 8 0) = 11 ∧ gn G' (ad 8 0) = gn G (ad 8 0) ∧ (∀ j, gr G' (ad 8 0) j = if j = x then some a2 else gr G (ad 8 0) j) ∧ (∀ j, gi G' (ad 8 0) j = gi G (ad 8 0) j)) :
    RepL G' K (up (up (up (up ad 2 x a2) 3 x a3) 14 x a14) 11 x a11) (up C 1 0 (x + 1)) := by
  have hp := hP x hx8
  have n99 : ∀ s i, vld C s i → knd G (ad s i) ≠ 99 := fun s i hv e => by
    have := (h.2.1 s i hv).1; rw [e] at this; unfold sk at this; unfold vld at hv; split at hv <;> simp at this hv
  have n8 : ∀ s i, vld C s i → s ≠ 8 → ad s i ≠ ad 8 0 := fun s i hv h8 e => by
    by_cases h13 : s = 13
    · have := (h.2.1 s i hv).1; rw [e, h.k8, h13] at this; cases this
    · exact h8 (h.2.2.1 s 8 i 0 hv rfl h13 e).1
  have hsm : ∀ s i, vld C s i → s ≠ 8 → G' (ad s i) = G (ad s i) := fun s i hv q => hs _ (n99 s i hv) (n8 s i hv q)
  have ao : ∀ s i, (s ≠ 2 ∧ s ≠ 3 ∧ s ≠ 14 ∧ s ≠ 11) ∨ i ≠ x → up (up (up (up ad 2 x a2) 3 x a3) 14 x a14) 11 x a11 s i = ad s i := fun s i hh => by
    rw [up_o (by omega), up_o (by omega), up_o (by omega), up_o (by omega)]
  have b2 : up (up (up (up ad 2 x a2) 3 x a3) 14 x a14) 11 x a11 2 x = a2 := by rw [up_o (by omega), up_o (by omega), up_o (by omega), up_s]
  have b3 : up (up (up (up ad 2 x a2) 3 x a3) 14 x a14) 11 x a11 3 x = a3 := by rw [up_o (by omega), up_o (by omega), up_s]
  have b14 : up (up (up (up ad 2 x a2) 3 x a3) 14 x a14) 11 x a11 14 x = a14 := by rw [up_o (by omega), up_s]
  have b11 : up (up (up (up ad 2 x a2) 3 x a3) 14 x a14) 11 x a11 11 x = a11 := by rw [up_s]
  generalize hA : up (up (up (up ad 2 x a2) 3 x a3) 14 x a14) 11 x a11 = ad' at *
  have co : ∀ c i, c ≠ 1 → up C 1 0 (x + 1) c i = C c i := fun c i hc => up_o (Or.inl hc)
  have vi : ∀ s i, vld C s i → (s ≠ 2 ∧ s ≠ 3 ∧ s ≠ 14 ∧ s ≠ 11) ∨ i ≠ x := fun s i hv => by
    unfold vld at hv; split at hv <;> first | (cases hv; done) | (left; decide) | (right; omega)
  have hK9 : ∀ b, K b → knd G' b ≠ 99 := fun b hb => by
    by_cases e : b = ad 8 0
    · rw [e, h8.1]; decide
    · have := h.1 b hb
      unfold knd at this ⊢; rw [hs b this e]; exact this
  have aK : ∀ a, knd G a = 99 → ¬ K a := fun a q1 q2 => h.1 a q2 q1
  refine h.grow (fun b hb => hb) hK9 (fun s i => (s = 2 ∨ s = 3 ∨ s = 14 ∨ s = 11) ∧ i = x) (fun s i hv => ?_) (fun s i k hv => ?_) (fun s i hv => ?_) (fun s i hN => ?_) (fun s i hv e hr => ?_) (fun s t i j hN ht h13 e => ?_) (fun c hc i => ⟨fun hN => ?_, fun hv e hN => ?_⟩) (fun c hc i k hk => ⟨fun hN => ?_, fun hv hN => ?_⟩)
  · by_cases e : s = 8
    · have hi : i = 0 := by rw [e] at hv; exact hv
      rw [e, hi, h8.1, h.k8]
    · unfold knd; rw [hsm s i hv e]
  · by_cases e : s = 8
    · have hi : i = 0 := by rw [e] at hv; exact hv
      rw [e, hi, h8.2.2.2]
    · unfold gi; rw [hsm s i hv e]
  · rcases vld_h hv hx hp.2.2.2.2.2.2.2.2.2.2.2.2.1 with q | q
    · exact Or.inl q
    · exact Or.inr ⟨q, ao s i (vi s i q)⟩
  · obtain ⟨q, rfl⟩ := hN
    rcases q with rfl | rfl | rfl | rfl
    · rw [b2]; refine ⟨k2, aK _ h99.1, ?_⟩
      simp only [Ref]; rw [b2, b3, b14, b11]; exact hr
    · rw [b3]; refine ⟨k3, aK _ h99.2.1, ?_⟩
      simp only [Ref, qf, ql]; rw [b3, co 29 i (by decide), co 30 i (by decide), if_neg (by omega), if_neg (by omega)]; exact ⟨hq3.1, hq3.2.1⟩
    · rw [b14]; refine ⟨k14, aK _ h99.2.2.1, ?_⟩
      simp only [Ref, qf, ql]; rw [b14, co 31 i (by decide), co 32 i (by decide), if_neg (by omega), if_neg (by omega)]; exact ⟨hq14.1, hq14.2.1⟩
    · rw [b11]; refine ⟨k11, aK _ h99.2.2.2, ?_⟩
      simp only [Ref]; rw [b11]; exact h11.1
  · have hq : s ≠ 8 → gr G' (ad s i) = gr G (ad s i) ∧ gn G' (ad s i) = gn G (ad s i) := fun q => by
      have := hsm s i hv q
      exact ⟨by funext j; unfold gr; rw [this], by unfold gn; rw [this]⟩
    rcases vldC hv with ⟨rfl, rfl⟩ | ⟨rfl, rfl⟩ | ⟨rfl, rfl⟩ | ⟨rfl, rfl⟩ | ⟨rfl, rfl⟩ | ⟨rfl, hi⟩ | ⟨rfl, hi⟩ | ⟨rfl, hi⟩ | ⟨rfl, hi⟩ | ⟨rfl, hi⟩ | ⟨rfl, hi⟩ | ⟨rfl, u, g, rfl, hu, hg, h4⟩
    · simp only [Ref] at hr ⊢
      rw [ao 1 0 (by omega), ao 8 0 (by omega), ao 9 0 (by omega), ao 10 0 (by omega), ao 7 0 (by omega), (hq (by decide)).1]; exact hr
    · simp only [Ref] at hr ⊢; rw [ao 7 0 (by omega), (hq (by decide)).2]; exact hr
    · simp only [Ref] at hr ⊢
      rw [ao 8 0 (by omega), h8.2.1, co 57 0 (by decide), up_s]
      refine ⟨hr.1, fun u hu => ?_⟩
      rw [h8.2.2.1]
      by_cases e : u = x
      · rw [if_pos e, e, b2]
      · rw [if_neg e, ao 2 u (by omega)]; exact hr.2 u (by omega)
    · simp only [Ref] at hr ⊢
      rw [ao 9 0 (by omega), (hq (by decide)).2, (hq (by decide)).1]
      refine ⟨hr.1, fun k hk => ?_⟩
      rw [hr.2 k hk, co 48 k (by decide)]; unfold wc; rw [ao 5 _ (by omega)]
    · simp only [Ref] at hr ⊢
      rw [ao 10 0 (by omega), co 56 0 (by decide), (hq (by decide)).2, (hq (by decide)).1]
      exact ⟨hr.1, fun p hp => by rw [ao 4 p (by omega)]; exact hr.2 p hp⟩
    · simp only [Ref] at hr ⊢
      rw [ao 2 i (by omega), ao 3 i (by omega), ao 14 i (by omega), ao 11 i (by omega), (hq (by decide)).1]; exact hr
    · simp only [Ref] at hr ⊢
      unfold qf ql at hr ⊢
      rw [ao 3 i (by omega), co 30 i (by decide), co 29 i (by decide), ao 5 _ (by omega), ao 5 _ (by omega), (hq (by decide)).1]; exact hr
    · simp only [Ref] at hr ⊢
      unfold qf ql at hr ⊢
      rw [ao 14 i (by omega), co 32 i (by decide), co 31 i (by decide), ao 5 _ (by omega), ao 5 _ (by omega), (hq (by decide)).1]; exact hr
    · simp only [Ref] at hr ⊢; rw [ao 11 i (by omega), (hq (by decide)).2]; exact hr
    · simp only [Ref] at hr ⊢
      omega
    · simp only [Ref] at hr ⊢
      rw [ao 13 i (by omega), co 17 i (by decide), (hq (by decide)).2]; exact hr
    · simp only [Ref] at hr ⊢
      rw [ao 5 _ (by omega), co 25 _ (by decide), ao 4 _ (by omega), (hq (by decide)).1]
      refine ⟨hr.1, ?_⟩
      rw [hr.2]; unfold nxo
      rw [co 30 _ (by decide), co 29 _ (by decide), co 31 _ (by decide), co 32 _ (by decide), ao 5 _ (by omega)]
  · obtain ⟨q, rfl⟩ := hN
    have kt : ∀ t j a, vld C t j → knd G a = 99 → a = ad t j → False := fun t j a hv q1 q2 => n99 t j hv (by rw [← q2]; exact q1)
    rcases vld_h ht hx hp.2.2.2.2.2.2.2.2.2.2.2.2.1 with ⟨q2, rfl⟩ | q2
    · have kd : ∀ a b : Nat, a = b → knd G' a = knd G' b := fun a b q => by rw [q]
      rcases q with rfl | rfl | rfl | rfl <;> rcases q2 with rfl | rfl | rfl | rfl <;> first | (exact ⟨rfl, rfl⟩) | (exfalso; simp only [b2, b3, b14, b11] at e; first | (exact hne e) | (exact hne e.symm) | (have := kd _ _ e; rw [k2, k3] at this; cases this; done) | (have := kd _ _ e; rw [k2, k14] at this; cases this; done) | (have := kd _ _ e; rw [k2, k11] at this; cases this; done) | (have := kd _ _ e; rw [k3, k2] at this; cases this; done) | (have := kd _ _ e; rw [k3, k11] at this; cases this; done) | (have := kd _ _ e; rw [k14, k2] at this; cases this; done) | (have := kd _ _ e; rw [k14, k11] at this; cases this; done) | (have := kd _ _ e; rw [k11, k2] at this; cases this; done) | (have := kd _ _ e; rw [k11, k3] at this; cases this; done) | (have := kd _ _ e; rw [k11, k14] at this; cases this; done))
    · rw [ao t j (vi t j q2)] at e
      exfalso
      rcases q with rfl | rfl | rfl | rfl
      · rw [b2] at e; exact kt t j _ q2 h99.1 e
      · rw [b3] at e; exact kt t j _ q2 h99.2.1 e
      · rw [b14] at e; exact kt t j _ q2 h99.2.2.1 e
      · rw [b11] at e; exact kt t j _ q2 h99.2.2.2 e
  · obtain ⟨hcs, rfl⟩ := hN
    rw [co c i (fun q => by rw [q] at hc; cases hc)]
    obtain ⟨p1, p2, p3, p4, p5, p6, p7, p8, p9, p10, p11, p12, p13, p14, p15, p16, p17⟩ := hp
    have hc' : c ∈ [54, 13, 14, 44, 45, 46, 41, 42, 43, 34, 51, 52] := by
      unfold isO at hc; split at hc <;> first | (cases hc; done) | decide | (simp [cs] at hcs)
    simp at hc'
    obtain ⟨i1, i2, i3, i4, i5, i6, i7, i8, i9, i10⟩ := hi2
    rcases hc' with rfl | rfl | rfl | rfl | rfl | rfl | rfl | rfl | rfl | rfl | rfl | rfl <;> simp only [cs, cf]
    · rw [b2, p1]; exact i1
    · rw [b2, p2]; exact i2
    · rw [b2, p3]; exact i3
    · rw [b2, p4]; exact i4
    · rw [b2, p5]; exact i5
    · rw [b2, p6]; exact i6
    · rw [b2, p7]; exact i7
    · rw [b2, p8]; exact i8
    · rw [b2, p9]; exact i9
    · rw [b2, p10]; exact i10
    · rw [b3, p11]; exact hq3.2.2
    · rw [b14, p12]; exact hq14.2.2
  · exact co c i (fun q => by rw [q] at hc; cases hc)
  · obtain ⟨hcs, rfl⟩ := hN
    have hc' : c = 47 := by
      unfold isA at hc; split at hc <;> first | (cases hc; done) | rfl | (simp [cs] at hcs)
    subst hc'
    have hk : k < 16 := hk
    simp only [cs, sd]
    rw [b11, co 47 _ (by decide), hp.2.2.2.2.2.2.2.2.2.2.2.2.2.2.2.2 k hk]; exact h11.2 k
  · refine ⟨?_, co c _ (fun q => by rw [q] at hc; cases hc)⟩
    have : aL (up C 1 0 (x + 1)) c i = aL C c i := by unfold aL; split <;> simp [up_n]
    rw [← this]; exact hk
/-- a link with no channel yet -/
theorem RepL.base {G : GG} {K : Nat → Prop} {ad C : St} (hK : ∀ b, K b → knd G b ≠ 99) (h1 : C 1 0 = 0) (h6 : C 6 0 = 0) (h56 : C 56 0 = 0) (h48 : ∀ k, k < 16 → C 48 k = 0) (h15 : ∀ k, k < 32 → gi G (ad 7 0) k = nI (C 15 k))
    (k1 : knd G (ad 1 0) = 3) (k7 : knd G (ad 7 0) = 8) (k8 : knd G (ad 8 0) = 11) (k9 : knd G (ad 9 0) = 12) (k10 : knd G (ad 10 0) = 13) (nK : ¬ K (ad 1 0) ∧ ¬ K (ad 7 0) ∧ ¬ K (ad 8 0) ∧ ¬ K (ad 9 0) ∧ ¬ K (ad 10 0))
    (hr : gr G (ad 1 0) 2 = some (ad 8 0) ∧ gr G (ad 1 0) 3 = some (ad 9 0) ∧ gr G (ad 1 0) 4 = some (ad 10 0) ∧ gr G (ad 1 0) 5 = some (ad 7 0)) (n7 : gn G (ad 7 0) = 32) (n8 : gn G (ad 8 0) = C 57 0) (n9 : gn G (ad 9 0) = 16) (n10 : gn G (ad 10 0) = 250) (w9 : ∀ k, gr G (ad 9 0) k = none)
    (hi : gi G (ad 1 0) 0 = nI (C 2 0) ∧ gi G (ad 1 0) 1 = nI (C 3 0) ∧ gi G (ad 1 0) 6 = nI (C 5 0) ∧ gi G (ad 1 0) 7 = nI (C 49 0) ∧ gi G (ad 1 0) 8 = nI (C 7 0) ∧ gi G (ad 1 0) 9 = nI (C 4 0) ∧ gi G (ad 1 0) 10 = nI (C 8 0) ∧ gi G (ad 1 0) 11 = nI (C 9 0) ∧ gi G (ad 1 0) 12 = nI (C 10 0) ∧ gi G (ad 1 0) 13 = nI (C 11 0) ∧ gi G (ad 1 0) 14 = nI (C 12 0) ∧ gi G (ad 1 0) 15 = nI (C 40 0)) : RepL G K ad C := by
  have vc : ∀ s i, vld C s i → (s = 1 ∨ s = 7 ∨ s = 8 ∨ s = 9 ∨ s = 10) ∧ i = 0 := fun s i hv => by
    rcases vldC hv with ⟨rfl, rfl⟩ | ⟨rfl, rfl⟩ | ⟨rfl, rfl⟩ | ⟨rfl, rfl⟩ | ⟨rfl, rfl⟩ | ⟨rfl, hi⟩ | ⟨rfl, hi⟩ | ⟨rfl, hi⟩ | ⟨rfl, hi⟩ | ⟨rfl, hi⟩ | ⟨rfl, hi⟩ | ⟨rfl, u, g, rfl, hu, hg, h4⟩ <;> first | (simp; done) | omega
  refine ⟨hK, fun s i hv => ?_, fun s t i j hs ht h13 e => ?_, fun c hc i hv => ?_, fun c hc i k hv hk => ?_⟩
  · obtain ⟨q, rfl⟩ := vc s i hv
    rcases q with rfl | rfl | rfl | rfl | rfl
    · exact ⟨k1, nK.1, hr⟩
    · exact ⟨k7, nK.2.1, n7⟩
    · exact ⟨k8, nK.2.2.1, n8, fun v hv => by omega⟩
    · exact ⟨k9, nK.2.2.2.1, n9, fun k hk => by rw [w9, h48 k hk]; rfl⟩
    · exact ⟨k10, nK.2.2.2.2, n10, fun p hp => by omega⟩
  · obtain ⟨q, rfl⟩ := vc s i hs
    obtain ⟨q', rfl⟩ := vc t j ht
    have kd : ∀ a b : Nat, a = b → knd G a = knd G b := fun a b q => by rw [q]
    have := kd _ _ e
    refine ⟨?_, rfl⟩
    rcases q with rfl | rfl | rfl | rfl | rfl <;> rcases q' with rfl | rfl | rfl | rfl | rfl <;> first | rfl | (exfalso; simp only [k1, k7, k8, k9, k10] at this; cases this)
  · obtain ⟨q, rfl⟩ := vc _ i hv
    obtain ⟨i1, i2, i3, i4, i5, i6, i7, i8, i9, i10, i11, i12⟩ := hi
    have hc' : c ∈ [2, 3, 5, 49, 7, 4, 8, 9, 10, 11, 12, 40] := by
      unfold isO at hc; split at hc <;> first | (cases hc; done) | decide | (simp [cs] at q)
    simp at hc'
    rcases hc' with rfl | rfl | rfl | rfl | rfl | rfl | rfl | rfl | rfl | rfl | rfl | rfl <;> assumption
  · obtain ⟨q, rfl⟩ := vc _ i hv
    have hc' : c = 15 := by
      unfold isA at hc; split at hc <;> first | (cases hc; done) | rfl | (simp [cs] at q)
    subst hc'
    have hk : k < 32 := hk
    rw [show sd 15 * 0 + k = k by simp [sd]]
    exact h15 k hk
def T_X0_init : TT := fun av G Qr _ => ∃ a x d, av = [rf a, .inl x, .inl d] ∧ knd G a = 0 ∧ (∀ G' q1 q2 r, knd G q1 = 99 → knd G q2 = 99 → knd G r = 99 → q1 ≠ q2 → knd G' a = 0 → knd G' q1 = 2 → knd G' q2 = 2 → knd G' r = 8 → (gr G' a 1 = some q1 ∧ gr G' a 2 = some q2 ∧ gr G' a 3 = some r) → (gi G' a 0 = x ∧ gi G' a 4 = d ∧ gi G' a 5 = nI 1 ∧ gi G' a 6 = d ∧ gi G' a 7 = nI 0 ∧ gi G' a 8 = nI 0 ∧ gi G' a 9 = nI 0 ∧ gi G' a 10 = nI 0 ∧ gi G' a 11 = nI 0 ∧ gi G' a 12 = nI 0) → (gr G' q1 0 = none ∧ gr G' q1 1 = none ∧ gi G' q1 2 = nI 0) → (gr G' q2 0 = none ∧ gr G' q2 1 = none ∧ gi G' q2 2 = nI 0) → (gn G' r = 16 ∧ ∀ k, gi G' r k = nI 0) → (∀ b, b ≠ a → knd G b ≠ 99 → G' b = G b) → Qr none G')
theorem mono_X0_init : TMono T_X0_init := fun av G Q1 Q2 Qx ⟨a, x, d, p0, p1, q0⟩ hq => ⟨a, x, d, p0, p1, fun b0 b1 b2 b3 c0 c1 c2 c3 c4 c5 c6 c7 c8 c9 c10 c11 c12 c13 => hq _ _ (q0 b0 b1 b2 b3 c0 c1 c2 c3 c4 c5 c6 c7 c8 c9 c10 c11 c12 c13)⟩
def rm_X0_init : Room := { frames := 2, cells := 3, slots := 22, locals := 40 }
def ct_X0_init : List (Nat × CS) := [(11, 9, 0, 0, 0, T_X2_init)]
set_option maxRecDepth 20000 in
set_option maxHeartbeats 4000000 in
theorem c_X0_init (l : Launch) : CM l yX0_init cX0_init 3 none rm_X0_init T_X0_init := by
  refine CM.ev (ft := ftX0i) (nt := ntX0) (ct := ct_X0_init) (oi := 3) (rt := 0) (ini := true) (by decide +kernel) (Or.inl ⟨rfl, rfl⟩) ftX0i_ok (fun _ => rfl) ntX0_ok (List.forall_mem_cons.mpr ⟨⟨mono_X2_init, yX2_init, cX2_init, 1, none, rm_X2_init, c_X2_init l, mi_X2_init, rfl, rfl, ⟨by decide, by decide⟩, fun q => absurd q (by decide), fun q => absurd q (by decide), fun q => absurd q (by decide), fun _ => ⟨mn_X2_init, ⟨rfl, rfl, rfl⟩, rfl, rfl⟩⟩, fun x h => by cases h⟩) (fun _ => ⟨oiX0, by decide, by decide⟩) ?_
  intro av G Qr Qx hT
  obtain ⟨a, x, d, rfl, h1, ha⟩ := hT
  refine ⟨Nat.le_of_ble_eq_true rfl, fun J hJ => ?_⟩
  suffices hh : J 4 [some (rf a), some (.inl x), some (.inl d)] [] G 0 0 by
    refine hJ [(4, J 4)] 90 0 [some (rf a), some (.inl x), some (.inl d)] [] G 0 0 (fun x h ls st G k n q => by cases h with | head => exact q | tail _ h => cases h) ?_
    simp (disch := omega) only [wpf_s, wpA_s, wq_c, wq_n, lkp_n, lkp_c, lk_0, lk_s, ldI_s, ldR_s, ldL_s, incI_s, gfE_I, gfE_Z, gfE_R, pfE_I, pfE_Z, pfE_R, nwE_s, anE_0, anE_1, anE_4, kE_n, kE_s, ii_s, sw_iload_n, sw_iload, sw_aload_n, sw_aload, sw_lload_n, sw_lload, sw_istore_n, sw_istore, sw_astore_n, sw_astore, sw_lstore, sw_iinc, sw_iconst, sw_bipush, sw_sipush, sw_null, sw_ldc2, sw_dup, sw_dup2, sw_iadd, sw_isub, sw_imul, sw_iand, sw_ixor, sw_ishr, sw_iushr, sw_idiv, sw_irem, sw_land, sw_lor, sw_lcmp, sw_lshl, sw_lshr, sw_lushr, sw_i2l, sw_l2i, sw_i2b, sw_goto, sw_icmp_eq, sw_if_eq, sw_icmp_ne, sw_if_ne, sw_icmp_lt, sw_if_lt, sw_icmp_ge, sw_if_ge, sw_icmp_gt, sw_if_gt, sw_icmp_le, sw_if_le, sw_ifnull, sw_ifnonnull, sw_acmp, sw_get, sw_put, sw_iaload, sw_baload, sw_laload, sw_aaload, sw_alen, sw_iastore, sw_bastore, sw_lastore, sw_aastore, sw_aastoreN, sw_newa_byte, sw_newa_int, sw_newa_boolean, sw_newa_long, sw_anew, sw_new, sw_iv, sw_is, sw_ii, sw_ireturn, sw_areturn, sw_return, sw_table, cv_0, cv_1, cv_2, cv_3, cv_4, ci_0, ci_1, ci_2, ci_3, ci_4, cs_1, cs_2, cs_3, cs_4, ic_m1, ic_0, ic_1, ic_2, ic_3, ic_4, ic_5, ic_6, bp_6, bp_7, bp_8, bp_15, bp_16, bp_31, bp_32, bp_60, sp_250, sp_255, sp_4000, sp_5000, sp_15000, sp_32000, f4_0, f4_1, f4_2, f4_3, c_nat, rtm, rok_0, rok_1, rok_2, rok_3, okS_0, okS_s, okq_n, okq_i, okq_r, stW_n, stW_i, stW_r, stW_l, cat_i, cat_r, nox, nf_0, nf_1, nf_2, nf_3, nf_4, nf_5, nf_6, true_and, and_true, Nat.zero_le, Nat.reduceAdd, Nat.reduceLT, Nat.reduceLeDiff, Nat.reduceEqDiff, Int.reduceAdd, Int.reduceToNat, Int.reduceLE, reduceIte, List.length_cons, List.length_nil, List.set_cons_zero, List.set_cons_succ, Option.some.injEq, ne_eq, not_true, not_false_eq_true, false_or, or_false, true_or, or_true, false_and, and_false, true_implies, false_implies, implies_true, not_false_eq_true, Bool.false_eq_true, reduceCtorEq, dX0_init_0, dX0_init_1, dX0_init_4, dX0_init_5, dX0_init_8, dX0_init_9, dX0_init_12, dX0_init_15, dX0_init_16, dX0_init_19, dX0_init_20, dX0_init_23, dX0_init_26, dX0_init_27, dX0_init_29, dX0_init_31, dX0_init_34, dX0_init_35, dX0_init_36, dX0_init_39, dX0_init_40, dX0_init_41, dX0_init_44, dX0_init_45, dX0_init_46, dX0_init_49, dX0_init_50, dX0_init_51, dX0_init_54, dX0_init_55, dX0_init_56, dX0_init_59, dX0_init_60, dX0_init_61, dX0_init_64, dX0_init_65, dX0_init_66, dX0_init_69, dX0_init_70, dX0_init_71, dX0_init_74, dX0_init_75, dX0_init_76, dX0_init_79, dX0_init_80, dX0_init_81, dX0_init_84, ntX0_9, ftX0i_12, ftX0i_18, ftX0i_21, ftX0i_25, ftX0i_29, ftX0i_32, ftX0i_35, ftX0i_38, ftX0i_41, ftX0i_44, ftX0i_47, ftX0i_50, ftX0i_53, rf, ite_zn, ite_zm, q_max, l_neg, q_rem2, q_lt, q_le, q_eq, q_add, q_mul, q_sub, q_div, q_rem, q_in, q_cl, q_0l, q_sac, l_0, l_1, l_2, l_3, l_4, l_5, l_6, l_8, l_15, l_16, l_32, l_60, l_250, l_4000, l_5000, ct_X0_init]
    exact hh
  refine hJ [] 90 4 [some (rf a), some (.inl x), some (.inl d)] [] G 0 0 (fun x h => by cases h) ?_
  simp (disch := omega) only [wpf_s, wpA_s, wq_c, wq_n, lkp_n, lkp_c, lk_0, lk_s, ldI_s, ldR_s, ldL_s, incI_s, gfE_I, gfE_Z, gfE_R, pfE_I, pfE_Z, pfE_R, nwE_s, anE_0, anE_1, anE_4, kE_n, kE_s, ii_s, sw_iload_n, sw_iload, sw_aload_n, sw_aload, sw_lload_n, sw_lload, sw_istore_n, sw_istore, sw_astore_n, sw_astore, sw_lstore, sw_iinc, sw_iconst, sw_bipush, sw_sipush, sw_null, sw_ldc2, sw_dup, sw_dup2, sw_iadd, sw_isub, sw_imul, sw_iand, sw_ixor, sw_ishr, sw_iushr, sw_idiv, sw_irem, sw_land, sw_lor, sw_lcmp, sw_lshl, sw_lshr, sw_lushr, sw_i2l, sw_l2i, sw_i2b, sw_goto, sw_icmp_eq, sw_if_eq, sw_icmp_ne, sw_if_ne, sw_icmp_lt, sw_if_lt, sw_icmp_ge, sw_if_ge, sw_icmp_gt, sw_if_gt, sw_icmp_le, sw_if_le, sw_ifnull, sw_ifnonnull, sw_acmp, sw_get, sw_put, sw_iaload, sw_baload, sw_laload, sw_aaload, sw_alen, sw_iastore, sw_bastore, sw_lastore, sw_aastore, sw_aastoreN, sw_newa_byte, sw_newa_int, sw_newa_boolean, sw_newa_long, sw_anew, sw_new, sw_iv, sw_is, sw_ii, sw_ireturn, sw_areturn, sw_return, sw_table, cv_0, cv_1, cv_2, cv_3, cv_4, ci_0, ci_1, ci_2, ci_3, ci_4, cs_1, cs_2, cs_3, cs_4, ic_m1, ic_0, ic_1, ic_2, ic_3, ic_4, ic_5, ic_6, bp_6, bp_7, bp_8, bp_15, bp_16, bp_31, bp_32, bp_60, sp_250, sp_255, sp_4000, sp_5000, sp_15000, sp_32000, f4_0, f4_1, f4_2, f4_3, c_nat, rtm, rok_0, rok_1, rok_2, rok_3, okS_0, okS_s, okq_n, okq_i, okq_r, stW_n, stW_i, stW_r, stW_l, cat_i, cat_r, nox, nf_0, nf_1, nf_2, nf_3, nf_4, nf_5, nf_6, true_and, and_true, Nat.zero_le, Nat.reduceAdd, Nat.reduceLT, Nat.reduceLeDiff, Nat.reduceEqDiff, Int.reduceAdd, Int.reduceToNat, Int.reduceLE, reduceIte, List.length_cons, List.length_nil, List.set_cons_zero, List.set_cons_succ, Option.some.injEq, ne_eq, not_true, not_false_eq_true, false_or, or_false, true_or, or_true, false_and, and_false, true_implies, false_implies, implies_true, not_false_eq_true, Bool.false_eq_true, reduceCtorEq, dX0_init_0, dX0_init_1, dX0_init_4, dX0_init_5, dX0_init_8, dX0_init_9, dX0_init_12, dX0_init_15, dX0_init_16, dX0_init_19, dX0_init_20, dX0_init_23, dX0_init_26, dX0_init_27, dX0_init_29, dX0_init_31, dX0_init_34, dX0_init_35, dX0_init_36, dX0_init_39, dX0_init_40, dX0_init_41, dX0_init_44, dX0_init_45, dX0_init_46, dX0_init_49, dX0_init_50, dX0_init_51, dX0_init_54, dX0_init_55, dX0_init_56, dX0_init_59, dX0_init_60, dX0_init_61, dX0_init_64, dX0_init_65, dX0_init_66, dX0_init_69, dX0_init_70, dX0_init_71, dX0_init_74, dX0_init_75, dX0_init_76, dX0_init_79, dX0_init_80, dX0_init_81, dX0_init_84, ntX0_9, ftX0i_12, ftX0i_18, ftX0i_21, ftX0i_25, ftX0i_29, ftX0i_32, ftX0i_35, ftX0i_38, ftX0i_41, ftX0i_44, ftX0i_47, ftX0i_50, ftX0i_53, rf, h1, knd_nw, knd_sR, knd_sI, nfO, ite_zn, ite_zm, q_max, l_neg, q_rem2, q_lt, q_le, q_eq, q_add, q_mul, q_sub, q_div, q_rem, q_in, q_cl, q_0l, q_sac, l_0, l_1, l_2, l_3, l_4, l_5, l_6, l_8, l_15, l_16, l_32, l_60, l_250, l_4000, l_5000, ct_X0_init]
  refine ⟨(by decide), (by decide), fun q1 g1 => ⟨(by decide), (by decide), q1, rfl, by rw [knd_nw, if_pos rfl], ?_⟩⟩
  have n1 : a ≠ q1 := fun e => by rw [e, g1] at h1; cases h1
  have z1 : ∀ b, b ≠ q1 → (sI (sR (sR (nw G q1 2 0) q1 0 none) q1 1 none) q1 2 (nI 0)) b = G b := fun b hb => by rw [sI_o hb, sR_o hb, sR_o hb, knd_nw_o hb]
  have y1 : knd (sI (sR (sR (nw G q1 2 0) q1 0 none) q1 1 none) q1 2 (nI 0)) q1 = 2 ∧ gr (sI (sR (sR (nw G q1 2 0) q1 0 none) q1 1 none) q1 2 (nI 0)) q1 0 = none ∧ gr (sI (sR (sR (nw G q1 2 0) q1 0 none) q1 1 none) q1 2 (nI 0)) q1 1 = none ∧ gi (sI (sR (sR (nw G q1 2 0) q1 0 none) q1 1 none) q1 2 (nI 0)) q1 2 = nI 0 := by
    simp [knd_sI, knd_sR, knd_nw, gr_sI, gr_sR, gi_sI, gr_nw]
  generalize sI (sR (sR (nw G q1 2 0) q1 0 none) q1 1 none) q1 2 (nI 0) = G1 at *
  have h11 : knd G1 a = 0 := by unfold knd; rw [z1 a n1]; exact h1
  simp (disch := omega) only [wpf_s, wpA_s, wq_c, wq_n, lkp_n, lkp_c, lk_0, lk_s, ldI_s, ldR_s, ldL_s, incI_s, gfE_I, gfE_Z, gfE_R, pfE_I, pfE_Z, pfE_R, nwE_s, anE_0, anE_1, anE_4, kE_n, kE_s, ii_s, sw_iload_n, sw_iload, sw_aload_n, sw_aload, sw_lload_n, sw_lload, sw_istore_n, sw_istore, sw_astore_n, sw_astore, sw_lstore, sw_iinc, sw_iconst, sw_bipush, sw_sipush, sw_null, sw_ldc2, sw_dup, sw_dup2, sw_iadd, sw_isub, sw_imul, sw_iand, sw_ixor, sw_ishr, sw_iushr, sw_idiv, sw_irem, sw_land, sw_lor, sw_lcmp, sw_lshl, sw_lshr, sw_lushr, sw_i2l, sw_l2i, sw_i2b, sw_goto, sw_icmp_eq, sw_if_eq, sw_icmp_ne, sw_if_ne, sw_icmp_lt, sw_if_lt, sw_icmp_ge, sw_if_ge, sw_icmp_gt, sw_if_gt, sw_icmp_le, sw_if_le, sw_ifnull, sw_ifnonnull, sw_acmp, sw_get, sw_put, sw_iaload, sw_baload, sw_laload, sw_aaload, sw_alen, sw_iastore, sw_bastore, sw_lastore, sw_aastore, sw_aastoreN, sw_newa_byte, sw_newa_int, sw_newa_boolean, sw_newa_long, sw_anew, sw_new, sw_iv, sw_is, sw_ii, sw_ireturn, sw_areturn, sw_return, sw_table, cv_0, cv_1, cv_2, cv_3, cv_4, ci_0, ci_1, ci_2, ci_3, ci_4, cs_1, cs_2, cs_3, cs_4, ic_m1, ic_0, ic_1, ic_2, ic_3, ic_4, ic_5, ic_6, bp_6, bp_7, bp_8, bp_15, bp_16, bp_31, bp_32, bp_60, sp_250, sp_255, sp_4000, sp_5000, sp_15000, sp_32000, f4_0, f4_1, f4_2, f4_3, c_nat, rtm, rok_0, rok_1, rok_2, rok_3, okS_0, okS_s, okq_n, okq_i, okq_r, stW_n, stW_i, stW_r, stW_l, cat_i, cat_r, nox, nf_0, nf_1, nf_2, nf_3, nf_4, nf_5, nf_6, true_and, and_true, Nat.zero_le, Nat.reduceAdd, Nat.reduceLT, Nat.reduceLeDiff, Nat.reduceEqDiff, Int.reduceAdd, Int.reduceToNat, Int.reduceLE, reduceIte, List.length_cons, List.length_nil, List.set_cons_zero, List.set_cons_succ, Option.some.injEq, ne_eq, not_true, not_false_eq_true, false_or, or_false, true_or, or_true, false_and, and_false, true_implies, false_implies, implies_true, not_false_eq_true, Bool.false_eq_true, reduceCtorEq, dX0_init_0, dX0_init_1, dX0_init_4, dX0_init_5, dX0_init_8, dX0_init_9, dX0_init_12, dX0_init_15, dX0_init_16, dX0_init_19, dX0_init_20, dX0_init_23, dX0_init_26, dX0_init_27, dX0_init_29, dX0_init_31, dX0_init_34, dX0_init_35, dX0_init_36, dX0_init_39, dX0_init_40, dX0_init_41, dX0_init_44, dX0_init_45, dX0_init_46, dX0_init_49, dX0_init_50, dX0_init_51, dX0_init_54, dX0_init_55, dX0_init_56, dX0_init_59, dX0_init_60, dX0_init_61, dX0_init_64, dX0_init_65, dX0_init_66, dX0_init_69, dX0_init_70, dX0_init_71, dX0_init_74, dX0_init_75, dX0_init_76, dX0_init_79, dX0_init_80, dX0_init_81, dX0_init_84, ntX0_9, ftX0i_12, ftX0i_18, ftX0i_21, ftX0i_25, ftX0i_29, ftX0i_32, ftX0i_35, ftX0i_38, ftX0i_41, ftX0i_44, ftX0i_47, ftX0i_50, ftX0i_53, rf, h11, knd_nw, knd_sR, knd_sI, nfO, ite_zn, ite_zm, q_max, l_neg, q_rem2, q_lt, q_le, q_eq, q_add, q_mul, q_sub, q_div, q_rem, q_in, q_cl, q_0l, q_sac, l_0, l_1, l_2, l_3, l_4, l_5, l_6, l_8, l_15, l_16, l_32, l_60, l_250, l_4000, l_5000, ct_X0_init]
  refine ⟨(by decide), (by decide), fun q2 g2 => ⟨(by decide), (by decide), q2, rfl, by rw [knd_nw, if_pos rfl], ?_⟩⟩
  have n2 : a ≠ q2 := fun e => by rw [e, g2] at h11; cases h11
  have n12 : q1 ≠ q2 := fun e => by rw [← e, y1.1] at g2; cases g2
  have g2' : knd G q2 = 99 := by unfold knd at g2 ⊢; rw [← z1 q2 n12.symm]; exact g2
  have z2 : ∀ b, b ≠ q2 → (sI (sR (sR (nw (sR G1 a 1 (some q1)) q2 2 0) q2 0 none) q2 1 none) q2 2 (nI 0)) b = sR G1 a 1 (some q1) b := fun b hb => by rw [sI_o hb, sR_o hb, sR_o hb, knd_nw_o hb]
  have y2 : knd (sI (sR (sR (nw (sR G1 a 1 (some q1)) q2 2 0) q2 0 none) q2 1 none) q2 2 (nI 0)) q2 = 2 ∧ gr (sI (sR (sR (nw (sR G1 a 1 (some q1)) q2 2 0) q2 0 none) q2 1 none) q2 2 (nI 0)) q2 0 = none ∧ gr (sI (sR (sR (nw (sR G1 a 1 (some q1)) q2 2 0) q2 0 none) q2 1 none) q2 2 (nI 0)) q2 1 = none ∧ gi (sI (sR (sR (nw (sR G1 a 1 (some q1)) q2 2 0) q2 0 none) q2 1 none) q2 2 (nI 0)) q2 2 = nI 0 := by
    simp [knd_sI, knd_sR, knd_nw, gr_sI, gr_sR, gi_sI, gr_nw]
  generalize sI (sR (sR (nw (sR G1 a 1 (some q1)) q2 2 0) q2 0 none) q2 1 none) q2 2 (nI 0) = G2 at *
  have h12 : knd G2 a = 0 := by unfold knd; rw [z2 a n2]; show knd (sR G1 a 1 (some q1)) a = 0; rw [knd_sR]; exact h11
  simp (disch := omega) only [wpf_s, wpA_s, wq_c, wq_n, lkp_n, lkp_c, lk_0, lk_s, ldI_s, ldR_s, ldL_s, incI_s, gfE_I, gfE_Z, gfE_R, pfE_I, pfE_Z, pfE_R, nwE_s, anE_0, anE_1, anE_4, kE_n, kE_s, ii_s, sw_iload_n, sw_iload, sw_aload_n, sw_aload, sw_lload_n, sw_lload, sw_istore_n, sw_istore, sw_astore_n, sw_astore, sw_lstore, sw_iinc, sw_iconst, sw_bipush, sw_sipush, sw_null, sw_ldc2, sw_dup, sw_dup2, sw_iadd, sw_isub, sw_imul, sw_iand, sw_ixor, sw_ishr, sw_iushr, sw_idiv, sw_irem, sw_land, sw_lor, sw_lcmp, sw_lshl, sw_lshr, sw_lushr, sw_i2l, sw_l2i, sw_i2b, sw_goto, sw_icmp_eq, sw_if_eq, sw_icmp_ne, sw_if_ne, sw_icmp_lt, sw_if_lt, sw_icmp_ge, sw_if_ge, sw_icmp_gt, sw_if_gt, sw_icmp_le, sw_if_le, sw_ifnull, sw_ifnonnull, sw_acmp, sw_get, sw_put, sw_iaload, sw_baload, sw_laload, sw_aaload, sw_alen, sw_iastore, sw_bastore, sw_lastore, sw_aastore, sw_aastoreN, sw_newa_byte, sw_newa_int, sw_newa_boolean, sw_newa_long, sw_anew, sw_new, sw_iv, sw_is, sw_ii, sw_ireturn, sw_areturn, sw_return, sw_table, cv_0, cv_1, cv_2, cv_3, cv_4, ci_0, ci_1, ci_2, ci_3, ci_4, cs_1, cs_2, cs_3, cs_4, ic_m1, ic_0, ic_1, ic_2, ic_3, ic_4, ic_5, ic_6, bp_6, bp_7, bp_8, bp_15, bp_16, bp_31, bp_32, bp_60, sp_250, sp_255, sp_4000, sp_5000, sp_15000, sp_32000, f4_0, f4_1, f4_2, f4_3, c_nat, rtm, rok_0, rok_1, rok_2, rok_3, okS_0, okS_s, okq_n, okq_i, okq_r, stW_n, stW_i, stW_r, stW_l, cat_i, cat_r, nox, nf_0, nf_1, nf_2, nf_3, nf_4, nf_5, nf_6, true_and, and_true, Nat.zero_le, Nat.reduceAdd, Nat.reduceLT, Nat.reduceLeDiff, Nat.reduceEqDiff, Int.reduceAdd, Int.reduceToNat, Int.reduceLE, reduceIte, List.length_cons, List.length_nil, List.set_cons_zero, List.set_cons_succ, Option.some.injEq, ne_eq, not_true, not_false_eq_true, false_or, or_false, true_or, or_true, false_and, and_false, true_implies, false_implies, implies_true, not_false_eq_true, Bool.false_eq_true, reduceCtorEq, dX0_init_0, dX0_init_1, dX0_init_4, dX0_init_5, dX0_init_8, dX0_init_9, dX0_init_12, dX0_init_15, dX0_init_16, dX0_init_19, dX0_init_20, dX0_init_23, dX0_init_26, dX0_init_27, dX0_init_29, dX0_init_31, dX0_init_34, dX0_init_35, dX0_init_36, dX0_init_39, dX0_init_40, dX0_init_41, dX0_init_44, dX0_init_45, dX0_init_46, dX0_init_49, dX0_init_50, dX0_init_51, dX0_init_54, dX0_init_55, dX0_init_56, dX0_init_59, dX0_init_60, dX0_init_61, dX0_init_64, dX0_init_65, dX0_init_66, dX0_init_69, dX0_init_70, dX0_init_71, dX0_init_74, dX0_init_75, dX0_init_76, dX0_init_79, dX0_init_80, dX0_init_81, dX0_init_84, ntX0_9, ftX0i_12, ftX0i_18, ftX0i_21, ftX0i_25, ftX0i_29, ftX0i_32, ftX0i_35, ftX0i_38, ftX0i_41, ftX0i_44, ftX0i_47, ftX0i_50, ftX0i_53, rf, h12, knd_nw, knd_sR, knd_sI, nfO, ite_zn, ite_zm, q_max, l_neg, q_rem2, q_lt, q_le, q_eq, q_add, q_mul, q_sub, q_div, q_rem, q_in, q_cl, q_0l, q_sac, l_0, l_1, l_2, l_3, l_4, l_5, l_6, l_8, l_15, l_16, l_32, l_60, l_250, l_4000, l_5000, ct_X0_init]
  refine ⟨by decide, by decide, by decide, by decide, fun r g3 => ?_⟩
  have n3 : a ≠ r := fun e => by rw [e, g3] at h12; cases h12
  have nq1 : q1 ≠ r := fun e => by
    have : knd G2 q1 = 2 := by unfold knd; rw [z2 q1 n12, sR_o n1.symm]; exact y1.1
    rw [e, g3] at this; cases this
  have nq2 : q2 ≠ r := fun e => by have := y2.1; rw [e, g3] at this; cases this
  have g3' : knd G r = 99 := by unfold knd at g3 ⊢; rw [← z1 r nq1.symm, ← sR_o (G := G1) (a := a) (k := 1) (x := some q1) n3.symm, ← z2 r nq2.symm]; exact g3
  rw [if_neg n3]
  refine ⟨rfl, rfl, rfl, rfl, rfl, rfl, rfl, rfl, rfl, rfl, rfl, (by decide), (by decide), ?_⟩
  have hH : ∀ b, b ≠ a → b ≠ r → (sI (sI (sI (sI (sI (sI (sI (sI (sI (sI (sR (nw (sR G2 a 2 (some q2)) r 8 16) a 3 (some r)) a 5 (nI 1)) a 7 (nI 0)) a 8 (nI 0)) a 9 (nI 0)) a 10 (nI 0)) a 11 (nI 0)) a 12 (nI 0)) a 0 x) a 4 d) a 6 d) b = G2 b := fun b h1 h2 => by
    rw [sI_o h1, sI_o h1, sI_o h1, sI_o h1, sI_o h1, sI_o h1, sI_o h1, sI_o h1, sI_o h1, sI_o h1, sR_o h1, knd_nw_o h2, sR_o h1]
  have e1 := (hH q1 n1.symm nq1).trans ((z2 q1 n12).trans (sR_o n1.symm))
  have e2 := hH q2 n2.symm nq2
  have r3 : gr G2 a 1 = some q1 := by unfold gr; rw [z2 a n2]; show gr (sR G1 a 1 (some q1)) a 1 = some q1; rw [gr_sR, if_pos ⟨rfl, rfl⟩]
  refine ha _ q1 q2 r g1 g2' g3' n12 ?_ ?_ ?_ ?_ ?_ ?_ ?_ ?_ ?_ (fun b hb h9 => ?_)
  · simp only [knd_sI, knd_sR, knd_nw, n3, if_false]; exact h12
  · unfold knd; rw [e1]; exact y1.1
  · unfold knd; rw [e2]; exact y2.1
  · simp only [knd_sI, knd_sR, knd_nw, if_true]
  · simp [gr_sI, gr_sR, gr_nw, n3, r3]
  · simp [gi_sI, gi_sR, gi_nw]
  · unfold gr gi; rw [e1]; exact y1.2
  · unfold gr gi; rw [e2]; exact y2.2
  · refine ⟨?_, fun k => ?_⟩
    · simp only [gn_sI, gn_sR, gn_nw, if_true]
    · simp [gi_sI, gi_sR, gi_nw, n3.symm]; rfl
  · have hb1 : b ≠ q1 := fun e => h9 (e ▸ g1)
    have hb2 : b ≠ q2 := fun e => h9 (e ▸ g2')
    have hb3 : b ≠ r := fun e => h9 (e ▸ g3')
    rw [hH b hb hb3, z2 b hb2, sR_o hb, z1 b hb1]
def PreL (C : St) (c w b d : Nat) : Prop := C 1 0 = c ∧ C 57 0 = c ∧ C 2 0 = w ∧ C 3 0 = b ∧ C 5 0 = 0 ∧ C 49 0 = 0 ∧ C 7 0 = 0 ∧ C 4 0 = 0 ∧ C 8 0 = NN ∧ C 9 0 = 0 ∧ C 10 0 = 0 ∧ C 11 0 = 0 ∧ C 12 0 = 0 ∧ C 40 0 = NN ∧ C 6 0 = 0 ∧ C 56 0 = 0 ∧ (∀ k, k < 16 → C 48 k = 0) ∧ (∀ k, k < 32 → C 15 k = 0) ∧ Pre C d
def T_X3_init : TT := fun av G Qr _ => ∃ K a c w b d C, av = [rf a, .inl (nI c), .inl (nI w), .inl (nI b), .inl (nI d)] ∧ knd G a = 3 ∧ ¬ K a ∧ (∀ x, K x → knd G x ≠ 99) ∧ 1 ≤ c ∧ c ≤ 8 ∧ PreL C c w b d ∧ (∀ G' ad, RepL G' K ad C → ad 1 0 = a → (∀ x, x ≠ a → knd G x ≠ 99 → G' x = G x) → Qr none G')
theorem mono_X3_init : TMono T_X3_init := fun av G Q1 Q2 Qx ⟨K, a, c, w, b, d, C, p0, p1, p2, p3, p4, p5, p6, q0⟩ hq => ⟨K, a, c, w, b, d, C, p0, p1, p2, p3, p4, p5, p6, fun b0 b1 c0 c1 c2 => hq _ _ (q0 b0 b1 c0 c1 c2)⟩
def rm_X3_init : Room := { frames := 3, cells := 36, slots := 586, locals := 62 }
def ct_X3_init : List (Nat × CS) := [(70, 7, 2, 3, 22, T_X0_init)]
set_option maxRecDepth 20000 in
set_option maxHeartbeats 4000000 in
theorem c_X3_init (l : Launch) : CM l yX3_init cX3_init 6 none rm_X3_init T_X3_init := by
  refine CM.ev (ft := ftX3i) (nt := ntX3) (ct := ct_X3_init) (oi := 3) (rt := 0) (ini := true) (by decide +kernel) (Or.inl ⟨rfl, rfl⟩) ftX3i_ok (fun _ => rfl) ntX3_ok (List.forall_mem_cons.mpr ⟨⟨mono_X0_init, yX0_init, cX0_init, 3, none, rm_X0_init, c_X0_init l, mi_X0_init, rfl, rfl, ⟨by decide, by decide⟩, fun q => absurd q (by decide), fun q => absurd q (by decide), fun _ => ⟨mn_X0_init, lnkX3_70, rfl, rfl⟩, fun q => absurd q (by decide)⟩, fun x h => by cases h⟩) (fun _ => ⟨oiX3, by decide, by decide⟩) ?_
  intro av G Qr Qx hT
  obtain ⟨K, a, c, w, b, d, C, rfl, h1, hKa, hK9, hc1, hc8, hP, ha⟩ := hT
  refine ⟨Nat.le_of_ble_eq_true rfl, fun J hJ => ?_⟩
  suffices hh : J 4 [some (rf a), some (.inl (nI c)), some (.inl (nI w)), some (.inl (nI b)), some (.inl (nI d)), none] [] G 0 0 by
    refine hJ [(4, J 4)] 90 0 [some (rf a), some (.inl (nI c)), some (.inl (nI w)), some (.inl (nI b)), some (.inl (nI d)), none] [] G 0 0 (fun x h ls st G k n q => by cases h with | head => exact q | tail _ h => cases h) ?_
    simp (disch := omega) only [wpf_s, wpA_s, wq_c, wq_n, lkp_n, lkp_c, lk_0, lk_s, ldI_s, ldR_s, ldL_s, incI_s, gfE_I, gfE_Z, gfE_R, pfE_I, pfE_Z, pfE_R, nwE_s, anE_0, anE_1, anE_4, kE_n, kE_s, ii_s, sw_iload_n, sw_iload, sw_aload_n, sw_aload, sw_lload_n, sw_lload, sw_istore_n, sw_istore, sw_astore_n, sw_astore, sw_lstore, sw_iinc, sw_iconst, sw_bipush, sw_sipush, sw_null, sw_ldc2, sw_dup, sw_dup2, sw_iadd, sw_isub, sw_imul, sw_iand, sw_ixor, sw_ishr, sw_iushr, sw_idiv, sw_irem, sw_land, sw_lor, sw_lcmp, sw_lshl, sw_lshr, sw_lushr, sw_i2l, sw_l2i, sw_i2b, sw_goto, sw_icmp_eq, sw_if_eq, sw_icmp_ne, sw_if_ne, sw_icmp_lt, sw_if_lt, sw_icmp_ge, sw_if_ge, sw_icmp_gt, sw_if_gt, sw_icmp_le, sw_if_le, sw_ifnull, sw_ifnonnull, sw_acmp, sw_get, sw_put, sw_iaload, sw_baload, sw_laload, sw_aaload, sw_alen, sw_iastore, sw_bastore, sw_lastore, sw_aastore, sw_aastoreN, sw_newa_byte, sw_newa_int, sw_newa_boolean, sw_newa_long, sw_anew, sw_new, sw_iv, sw_is, sw_ii, sw_ireturn, sw_areturn, sw_return, sw_table, cv_0, cv_1, cv_2, cv_3, cv_4, ci_0, ci_1, ci_2, ci_3, ci_4, cs_1, cs_2, cs_3, cs_4, ic_m1, ic_0, ic_1, ic_2, ic_3, ic_4, ic_5, ic_6, bp_6, bp_7, bp_8, bp_15, bp_16, bp_31, bp_32, bp_60, sp_250, sp_255, sp_4000, sp_5000, sp_15000, sp_32000, f4_0, f4_1, f4_2, f4_3, c_nat, rtm, rok_0, rok_1, rok_2, rok_3, okS_0, okS_s, okq_n, okq_i, okq_r, stW_n, stW_i, stW_r, stW_l, cat_i, cat_r, nox, nf_0, nf_1, nf_2, nf_3, nf_4, nf_5, nf_6, true_and, and_true, Nat.zero_le, Nat.reduceAdd, Nat.reduceLT, Nat.reduceLeDiff, Nat.reduceEqDiff, Int.reduceAdd, Int.reduceToNat, Int.reduceLE, reduceIte, List.length_cons, List.length_nil, List.set_cons_zero, List.set_cons_succ, Option.some.injEq, ne_eq, not_true, not_false_eq_true, false_or, or_false, true_or, or_true, false_and, and_false, true_implies, false_implies, implies_true, not_false_eq_true, Bool.false_eq_true, reduceCtorEq, dX3_init_0, dX3_init_1, dX3_init_4, dX3_init_5, dX3_init_7, dX3_init_10, dX3_init_13, dX3_init_14, dX3_init_17, dX3_init_20, dX3_init_23, dX3_init_24, dX3_init_26, dX3_init_28, dX3_init_31, dX3_init_32, dX3_init_33, dX3_init_36, dX3_init_37, dX3_init_38, dX3_init_41, dX3_init_42, dX3_init_43, dX3_init_46, dX3_init_47, dX3_init_48, dX3_init_51, dX3_init_52, dX3_init_53, dX3_init_56, dX3_init_57, dX3_init_58, dX3_init_61, dX3_init_62, dX3_init_63, dX3_init_66, dX3_init_67, dX3_init_68, dX3_init_71, dX3_init_72, dX3_init_73, dX3_init_76, dX3_init_77, dX3_init_78, dX3_init_81, dX3_init_82, dX3_init_83, dX3_init_86, dX3_init_87, dX3_init_88, dX3_init_91, dX3_init_92, dX3_init_93, dX3_init_96, dX3_init_99, dX3_init_100, dX3_init_102, dX3_init_104, dX3_init_105, dX3_init_108, dX3_init_109, dX3_init_112, dX3_init_113, dX3_init_116, dX3_init_118, dX3_init_121, dX3_init_122, dX3_init_124, dX3_init_126, dX3_init_129, dX3_init_130, dX3_init_133, dX3_init_136, ntX3_9, ftX3i_11, ntX3_17, ftX3i_19, ftX3i_23, ftX3i_27, ftX3i_31, ftX3i_34, ftX3i_37, ftX3i_40, ftX3i_43, ftX3i_46, ftX3i_49, ftX3i_52, ftX3i_55, ftX3i_58, ftX3i_61, ntX3_64, ftX3i_66, rf, ite_zn, ite_zm, q_max, l_neg, q_rem2, q_lt, q_le, q_eq, q_add, q_mul, q_sub, q_div, q_rem, q_in, q_cl, q_0l, q_sac, l_0, l_1, l_2, l_3, l_4, l_5, l_6, l_8, l_15, l_16, l_32, l_60, l_250, l_4000, l_5000, ct_X3_init]
    exact hh
  obtain ⟨P1, P57, P2, P3, P5, P49, P7, P4, P8, P9, P10, P11, P12, P40, P6, P56, P48, P15, PP⟩ := hP
  have upu : ∀ i j, up (up C 1 0 i) 1 0 j = up C 1 0 j := fun i j => by funext x y; simp only [up_n]; split <;> rfl
  have upc : up C 1 0 c = C := up_id P1.symm
  have loop : ∀ (dd i : Nat) (G1 : GG) (ad1 : St), i + dd = c → RepL G1 K ad1 (up C 1 0 i) → ad1 1 0 = a → knd G (ad1 8 0) = 99 → (∀ x, x ≠ a → knd G x ≠ 99 → G1 x = G x) → J 102 [some (rf a), some (.inl (nI c)), some (.inl (nI w)), some (.inl (nI b)), some (.inl (nI d)), some (.inl (nI i))] [] G1 (4 + 4 * i) (298 + c + 35 * i) := by
    intro dd
    induction dd with
    | zero =>
      intro i G1 ad1 hi hR1 ha1 h8 hx
      have : i = c := by omega
      subst this
      refine hJ [] 90 102 _ [] G1 _ _ (fun x h => by cases h) ?_
      have l57 : up C 1 0 i 57 0 = i := by rw [up_o (by omega)]; exact P57
      subst ha1
      simp (disch := omega) only [wpf_s, wpA_s, wq_c, wq_n, lkp_n, lkp_c, lk_0, lk_s, ldI_s, ldR_s, ldL_s, incI_s, gfE_I, gfE_Z, gfE_R, pfE_I, pfE_Z, pfE_R, nwE_s, anE_0, anE_1, anE_4, kE_n, kE_s, ii_s, sw_iload_n, sw_iload, sw_aload_n, sw_aload, sw_lload_n, sw_lload, sw_istore_n, sw_istore, sw_astore_n, sw_astore, sw_lstore, sw_iinc, sw_iconst, sw_bipush, sw_sipush, sw_null, sw_ldc2, sw_dup, sw_dup2, sw_iadd, sw_isub, sw_imul, sw_iand, sw_ixor, sw_ishr, sw_iushr, sw_idiv, sw_irem, sw_land, sw_lor, sw_lcmp, sw_lshl, sw_lshr, sw_lushr, sw_i2l, sw_l2i, sw_i2b, sw_goto, sw_icmp_eq, sw_if_eq, sw_icmp_ne, sw_if_ne, sw_icmp_lt, sw_if_lt, sw_icmp_ge, sw_if_ge, sw_icmp_gt, sw_if_gt, sw_icmp_le, sw_if_le, sw_ifnull, sw_ifnonnull, sw_acmp, sw_get, sw_put, sw_iaload, sw_baload, sw_laload, sw_aaload, sw_alen, sw_iastore, sw_bastore, sw_lastore, sw_aastore, sw_aastoreN, sw_newa_byte, sw_newa_int, sw_newa_boolean, sw_newa_long, sw_anew, sw_new, sw_iv, sw_is, sw_ii, sw_ireturn, sw_areturn, sw_return, sw_table, cv_0, cv_1, cv_2, cv_3, cv_4, ci_0, ci_1, ci_2, ci_3, ci_4, cs_1, cs_2, cs_3, cs_4, ic_m1, ic_0, ic_1, ic_2, ic_3, ic_4, ic_5, ic_6, bp_6, bp_7, bp_8, bp_15, bp_16, bp_31, bp_32, bp_60, sp_250, sp_255, sp_4000, sp_5000, sp_15000, sp_32000, f4_0, f4_1, f4_2, f4_3, c_nat, rtm, rok_0, rok_1, rok_2, rok_3, okS_0, okS_s, okq_n, okq_i, okq_r, stW_n, stW_i, stW_r, stW_l, cat_i, cat_r, nox, nf_0, nf_1, nf_2, nf_3, nf_4, nf_5, nf_6, true_and, and_true, Nat.zero_le, Nat.reduceAdd, Nat.reduceLT, Nat.reduceLeDiff, Nat.reduceEqDiff, Int.reduceAdd, Int.reduceToNat, Int.reduceLE, reduceIte, List.length_cons, List.length_nil, List.set_cons_zero, List.set_cons_succ, Option.some.injEq, ne_eq, not_true, not_false_eq_true, false_or, or_false, true_or, or_true, false_and, and_false, true_implies, false_implies, implies_true, not_false_eq_true, Bool.false_eq_true, reduceCtorEq, dX3_init_0, dX3_init_1, dX3_init_4, dX3_init_5, dX3_init_7, dX3_init_10, dX3_init_13, dX3_init_14, dX3_init_17, dX3_init_20, dX3_init_23, dX3_init_24, dX3_init_26, dX3_init_28, dX3_init_31, dX3_init_32, dX3_init_33, dX3_init_36, dX3_init_37, dX3_init_38, dX3_init_41, dX3_init_42, dX3_init_43, dX3_init_46, dX3_init_47, dX3_init_48, dX3_init_51, dX3_init_52, dX3_init_53, dX3_init_56, dX3_init_57, dX3_init_58, dX3_init_61, dX3_init_62, dX3_init_63, dX3_init_66, dX3_init_67, dX3_init_68, dX3_init_71, dX3_init_72, dX3_init_73, dX3_init_76, dX3_init_77, dX3_init_78, dX3_init_81, dX3_init_82, dX3_init_83, dX3_init_86, dX3_init_87, dX3_init_88, dX3_init_91, dX3_init_92, dX3_init_93, dX3_init_96, dX3_init_99, dX3_init_100, dX3_init_102, dX3_init_104, dX3_init_105, dX3_init_108, dX3_init_109, dX3_init_112, dX3_init_113, dX3_init_116, dX3_init_118, dX3_init_121, dX3_init_122, dX3_init_124, dX3_init_126, dX3_init_129, dX3_init_130, dX3_init_133, dX3_init_136, ntX3_9, ftX3i_11, ntX3_17, ftX3i_19, ftX3i_23, ftX3i_27, ftX3i_31, ftX3i_34, ftX3i_37, ftX3i_40, ftX3i_43, ftX3i_46, ftX3i_49, ftX3i_52, ftX3i_55, ftX3i_58, ftX3i_61, ntX3_64, ftX3i_66, rf, hR1.k1, hR1.r1_2, hR1.k8, hR1.l8, l57, nfO, ite_zn, ite_zm, q_max, l_neg, q_rem2, q_lt, q_le, q_eq, q_add, q_mul, q_sub, q_div, q_rem, q_in, q_cl, q_0l, q_sac, l_0, l_1, l_2, l_3, l_4, l_5, l_6, l_8, l_15, l_16, l_32, l_60, l_250, l_4000, l_5000, ct_X3_init]
      rw [upc] at hR1
      exact ⟨fun _ => ⟨(by show 4 + 4 * i ≤ 36; omega), (by show 298 + i + 35 * i ≤ 586; omega), ha _ ad1 hR1 rfl hx⟩, fun q => absurd (Nat.le_refl _) q⟩
    | succ dd ih =>
      intro i G1 ad1 hi hR1 ha1 h8 hx
      refine hJ [(102, J 102)] 90 102 _ [] G1 _ _ (fun x h ls st G k n q => by cases h with | head => exact q | tail _ h => cases h) ?_
      have l57 : up C 1 0 i 57 0 = c := by rw [up_o (by omega)]; exact P57
      subst ha1
      simp (disch := omega) only [wpf_s, wpA_s, wq_c, wq_n, lkp_n, lkp_c, lk_0, lk_s, ldI_s, ldR_s, ldL_s, incI_s, gfE_I, gfE_Z, gfE_R, pfE_I, pfE_Z, pfE_R, nwE_s, anE_0, anE_1, anE_4, kE_n, kE_s, ii_s, sw_iload_n, sw_iload, sw_aload_n, sw_aload, sw_lload_n, sw_lload, sw_istore_n, sw_istore, sw_astore_n, sw_astore, sw_lstore, sw_iinc, sw_iconst, sw_bipush, sw_sipush, sw_null, sw_ldc2, sw_dup, sw_dup2, sw_iadd, sw_isub, sw_imul, sw_iand, sw_ixor, sw_ishr, sw_iushr, sw_idiv, sw_irem, sw_land, sw_lor, sw_lcmp, sw_lshl, sw_lshr, sw_lushr, sw_i2l, sw_l2i, sw_i2b, sw_goto, sw_icmp_eq, sw_if_eq, sw_icmp_ne, sw_if_ne, sw_icmp_lt, sw_if_lt, sw_icmp_ge, sw_if_ge, sw_icmp_gt, sw_if_gt, sw_icmp_le, sw_if_le, sw_ifnull, sw_ifnonnull, sw_acmp, sw_get, sw_put, sw_iaload, sw_baload, sw_laload, sw_aaload, sw_alen, sw_iastore, sw_bastore, sw_lastore, sw_aastore, sw_aastoreN, sw_newa_byte, sw_newa_int, sw_newa_boolean, sw_newa_long, sw_anew, sw_new, sw_iv, sw_is, sw_ii, sw_ireturn, sw_areturn, sw_return, sw_table, cv_0, cv_1, cv_2, cv_3, cv_4, ci_0, ci_1, ci_2, ci_3, ci_4, cs_1, cs_2, cs_3, cs_4, ic_m1, ic_0, ic_1, ic_2, ic_3, ic_4, ic_5, ic_6, bp_6, bp_7, bp_8, bp_15, bp_16, bp_31, bp_32, bp_60, sp_250, sp_255, sp_4000, sp_5000, sp_15000, sp_32000, f4_0, f4_1, f4_2, f4_3, c_nat, rtm, rok_0, rok_1, rok_2, rok_3, okS_0, okS_s, okq_n, okq_i, okq_r, stW_n, stW_i, stW_r, stW_l, cat_i, cat_r, nox, nf_0, nf_1, nf_2, nf_3, nf_4, nf_5, nf_6, true_and, and_true, Nat.zero_le, Nat.reduceAdd, Nat.reduceLT, Nat.reduceLeDiff, Nat.reduceEqDiff, Int.reduceAdd, Int.reduceToNat, Int.reduceLE, reduceIte, List.length_cons, List.length_nil, List.set_cons_zero, List.set_cons_succ, Option.some.injEq, ne_eq, not_true, not_false_eq_true, false_or, or_false, true_or, or_true, false_and, and_false, true_implies, false_implies, implies_true, not_false_eq_true, Bool.false_eq_true, reduceCtorEq, dX3_init_0, dX3_init_1, dX3_init_4, dX3_init_5, dX3_init_7, dX3_init_10, dX3_init_13, dX3_init_14, dX3_init_17, dX3_init_20, dX3_init_23, dX3_init_24, dX3_init_26, dX3_init_28, dX3_init_31, dX3_init_32, dX3_init_33, dX3_init_36, dX3_init_37, dX3_init_38, dX3_init_41, dX3_init_42, dX3_init_43, dX3_init_46, dX3_init_47, dX3_init_48, dX3_init_51, dX3_init_52, dX3_init_53, dX3_init_56, dX3_init_57, dX3_init_58, dX3_init_61, dX3_init_62, dX3_init_63, dX3_init_66, dX3_init_67, dX3_init_68, dX3_init_71, dX3_init_72, dX3_init_73, dX3_init_76, dX3_init_77, dX3_init_78, dX3_init_81, dX3_init_82, dX3_init_83, dX3_init_86, dX3_init_87, dX3_init_88, dX3_init_91, dX3_init_92, dX3_init_93, dX3_init_96, dX3_init_99, dX3_init_100, dX3_init_102, dX3_init_104, dX3_init_105, dX3_init_108, dX3_init_109, dX3_init_112, dX3_init_113, dX3_init_116, dX3_init_118, dX3_init_121, dX3_init_122, dX3_init_124, dX3_init_126, dX3_init_129, dX3_init_130, dX3_init_133, dX3_init_136, ntX3_9, ftX3i_11, ntX3_17, ftX3i_19, ftX3i_23, ftX3i_27, ftX3i_31, ftX3i_34, ftX3i_37, ftX3i_40, ftX3i_43, ftX3i_46, ftX3i_49, ftX3i_52, ftX3i_55, ftX3i_58, ftX3i_61, ntX3_64, ftX3i_66, rf, hR1.k1, hR1.r1_2, hR1.k8, hR1.l8, l57, nfO, knd_nw, ite_zn, ite_zm, q_max, l_neg, q_rem2, q_lt, q_le, q_eq, q_add, q_mul, q_sub, q_div, q_rem, q_in, q_cl, q_0l, q_sac, l_0, l_1, l_2, l_3, l_4, l_5, l_6, l_8, l_15, l_16, l_32, l_60, l_250, l_4000, l_5000, ct_X3_init]
      refine ⟨fun q => by omega, fun _ => ⟨(by show 4 + 4 * i + 1 ≤ 36; omega), (by show 298 + c + 35 * i + 13 ≤ 586; omega), fun a2 g2 => ⟨(by show 4 + 4 * i + 1 + 3 ≤ 36; omega), (by show 298 + c + 35 * i + 13 + 22 ≤ 586; omega), a2, nI i, nI d, rfl, by rw [knd_nw, if_pos rfl], fun G2 q1 q2 r y1 y2 y3 y4 y5 y6 y7 y8 y9 y10 y11 y12 y13 y14 => ?_⟩⟩⟩
      have fr : ∀ q, knd (nw G1 a2 0 0) q = 99 → knd G1 q = 99 := fun q hq => by rw [knd_nw] at hq; by_cases e : q = a2; (rw [if_pos e] at hq; cases hq); (rw [if_neg e] at hq; exact hq)
      have na : ∀ x, knd G1 x ≠ 99 → x ≠ a2 := fun x hx e => hx (e ▸ g2)
      have z : ∀ x, knd G1 x ≠ 99 → G2 x = G1 x := fun x hx => by
        have n := na x hx
        rw [y14 x n (by rw [knd_nw, if_neg n]; exact hx), knd_nw_o n]
      have k8' : knd G1 (ad1 8 0) ≠ 99 := by rw [hR1.k8]; decide
      have e8 := z _ k8'
      have k82 : knd G2 (ad1 8 0) = 11 := by unfold knd; rw [e8]; exact hR1.k8
      have l82 : gn G2 (ad1 8 0) = c := by unfold gn; rw [e8]; exact hR1.l8.trans l57
      have n28 : a2 ≠ ad1 8 0 := fun e => by rw [e, hR1.k8] at g2; cases g2
      have nq1 : q1 ≠ ad1 8 0 := fun e => by have := fr q1 y1; rw [e, hR1.k8] at this; cases this
      have nq2 : q2 ≠ ad1 8 0 := fun e => by have := fr q2 y2; rw [e, hR1.k8] at this; cases this
      have nr : r ≠ ad1 8 0 := fun e => by have := fr r y3; rw [e, hR1.k8] at this; cases this
      have hR2 := RepL.addC (G' := sR G2 (ad1 8 0) i (some a2)) (x := i) (d := d) (a2 := a2) (a3 := q1) (a14 := q2) (a11 := r) hR1 (up_s ..) (by omega) (by rw [up_o (by omega)]; exact P6) (fun v hv => by
          have := PP v hv
          simp only [up_n, Nat.reduceEqDiff, false_and, if_false]
          exact this) ⟨g2, fr q1 y1, fr q2 y2, fr r y3⟩ y4 (by rw [knd_sR]; exact y5) (by rw [knd_sR]; exact y6) (by rw [knd_sR]; exact y7) (by rw [knd_sR]; exact y8)
          (by simp only [gr_sR, n28, false_and, if_false]; exact y9) (by simp only [gi_sR]; exact y10) (by simp only [gr_sR, gi_sR, nq1, false_and, if_false]; exact y11) (by simp only [gr_sR, gi_sR, nq2, false_and, if_false]; exact y12) (by simp only [gn_sR, gi_sR]; exact y13)
          (fun x h9 hn => by rw [sR_o hn]; exact z x h9) ⟨by rw [knd_sR]; exact k82, by rw [gn_sR]; unfold gn; rw [e8], fun j => by rw [gr_sR]; unfold gr; rw [e8]; by_cases e : j = i <;> simp [e], fun j => by rw [gi_sR]; unfold gi; rw [e8]⟩
      rw [upu] at hR2
      have x2 : knd G2 a2 = 0 := y5
      simp (disch := omega) only [wpf_s, wpA_s, wq_c, wq_n, lkp_n, lkp_c, lk_0, lk_s, ldI_s, ldR_s, ldL_s, incI_s, gfE_I, gfE_Z, gfE_R, pfE_I, pfE_Z, pfE_R, nwE_s, anE_0, anE_1, anE_4, kE_n, kE_s, ii_s, sw_iload_n, sw_iload, sw_aload_n, sw_aload, sw_lload_n, sw_lload, sw_istore_n, sw_istore, sw_astore_n, sw_astore, sw_lstore, sw_iinc, sw_iconst, sw_bipush, sw_sipush, sw_null, sw_ldc2, sw_dup, sw_dup2, sw_iadd, sw_isub, sw_imul, sw_iand, sw_ixor, sw_ishr, sw_iushr, sw_idiv, sw_irem, sw_land, sw_lor, sw_lcmp, sw_lshl, sw_lshr, sw_lushr, sw_i2l, sw_l2i, sw_i2b, sw_goto, sw_icmp_eq, sw_if_eq, sw_icmp_ne, sw_if_ne, sw_icmp_lt, sw_if_lt, sw_icmp_ge, sw_if_ge, sw_icmp_gt, sw_if_gt, sw_icmp_le, sw_if_le, sw_ifnull, sw_ifnonnull, sw_acmp, sw_get, sw_put, sw_iaload, sw_baload, sw_laload, sw_aaload, sw_alen, sw_iastore, sw_bastore, sw_lastore, sw_aastore, sw_aastoreN, sw_newa_byte, sw_newa_int, sw_newa_boolean, sw_newa_long, sw_anew, sw_new, sw_iv, sw_is, sw_ii, sw_ireturn, sw_areturn, sw_return, sw_table, cv_0, cv_1, cv_2, cv_3, cv_4, ci_0, ci_1, ci_2, ci_3, ci_4, cs_1, cs_2, cs_3, cs_4, ic_m1, ic_0, ic_1, ic_2, ic_3, ic_4, ic_5, ic_6, bp_6, bp_7, bp_8, bp_15, bp_16, bp_31, bp_32, bp_60, sp_250, sp_255, sp_4000, sp_5000, sp_15000, sp_32000, f4_0, f4_1, f4_2, f4_3, c_nat, rtm, rok_0, rok_1, rok_2, rok_3, okS_0, okS_s, okq_n, okq_i, okq_r, stW_n, stW_i, stW_r, stW_l, cat_i, cat_r, nox, nf_0, nf_1, nf_2, nf_3, nf_4, nf_5, nf_6, true_and, and_true, Nat.zero_le, Nat.reduceAdd, Nat.reduceLT, Nat.reduceLeDiff, Nat.reduceEqDiff, Int.reduceAdd, Int.reduceToNat, Int.reduceLE, reduceIte, List.length_cons, List.length_nil, List.set_cons_zero, List.set_cons_succ, Option.some.injEq, ne_eq, not_true, not_false_eq_true, false_or, or_false, true_or, or_true, false_and, and_false, true_implies, false_implies, implies_true, not_false_eq_true, Bool.false_eq_true, reduceCtorEq, dX3_init_0, dX3_init_1, dX3_init_4, dX3_init_5, dX3_init_7, dX3_init_10, dX3_init_13, dX3_init_14, dX3_init_17, dX3_init_20, dX3_init_23, dX3_init_24, dX3_init_26, dX3_init_28, dX3_init_31, dX3_init_32, dX3_init_33, dX3_init_36, dX3_init_37, dX3_init_38, dX3_init_41, dX3_init_42, dX3_init_43, dX3_init_46, dX3_init_47, dX3_init_48, dX3_init_51, dX3_init_52, dX3_init_53, dX3_init_56, dX3_init_57, dX3_init_58, dX3_init_61, dX3_init_62, dX3_init_63, dX3_init_66, dX3_init_67, dX3_init_68, dX3_init_71, dX3_init_72, dX3_init_73, dX3_init_76, dX3_init_77, dX3_init_78, dX3_init_81, dX3_init_82, dX3_init_83, dX3_init_86, dX3_init_87, dX3_init_88, dX3_init_91, dX3_init_92, dX3_init_93, dX3_init_96, dX3_init_99, dX3_init_100, dX3_init_102, dX3_init_104, dX3_init_105, dX3_init_108, dX3_init_109, dX3_init_112, dX3_init_113, dX3_init_116, dX3_init_118, dX3_init_121, dX3_init_122, dX3_init_124, dX3_init_126, dX3_init_129, dX3_init_130, dX3_init_133, dX3_init_136, ntX3_9, ftX3i_11, ntX3_17, ftX3i_19, ftX3i_23, ftX3i_27, ftX3i_31, ftX3i_34, ftX3i_37, ftX3i_40, ftX3i_43, ftX3i_46, ftX3i_49, ftX3i_52, ftX3i_55, ftX3i_58, ftX3i_61, ntX3_64, ftX3i_66, rf, k82, l82, x2, Nat.reduceEqDiff, reduceCtorEq, false_and, and_false, false_or, or_false, Option.some.injEq, exists_eq_left', true_and, and_self, ite_zn, ite_zm, q_max, l_neg, q_rem2, q_lt, q_le, q_eq, q_add, q_mul, q_sub, q_div, q_rem, q_in, q_cl, q_0l, q_sac, l_0, l_1, l_2, l_3, l_4, l_5, l_6, l_8, l_15, l_16, l_32, l_60, l_250, l_4000, l_5000, ct_X3_init]
      have := ih (i + 1) _ _ (by omega) hR2 (by rw [up_o (by omega), up_o (by omega), up_o (by omega), up_o (by omega)]) (by rw [up_o (by omega), up_o (by omega), up_o (by omega), up_o (by omega)]; exact h8) (fun x h9 hn => by
        have e := hx x h9 hn
        have n1 : knd G1 x ≠ 99 := by unfold knd at hn ⊢; rw [e]; exact hn
        rw [sR_o (fun q => hn (by rw [q]; exact h8)), z x n1, e])
      refine ⟨by omega, ?_⟩
      rw [show 4 + 4 * (i + 1) = 4 + 4 * i + 1 + 3 by omega, show 298 + c + 35 * (i + 1) = 298 + c + 35 * i + 13 + 22 by omega] at this
      exact this
  have st31 : ∀ (G3 : GG) (a9 a10 a7 : Nat), knd G3 a = 3 → knd G3 a9 = 12 → gn G3 a9 = 16 → (∀ k, gr G3 a9 k = none) → knd G3 a10 = 13 → gn G3 a10 = 250 → knd G3 a7 = 8 → gn G3 a7 = 32 → (∀ k, gi G3 a7 k = nI 0) → gr G3 a 3 = some a9 → gr G3 a 4 = some a10 → gr G3 a 5 = some a7 → knd G a9 = 99 → knd G a10 = 99 → knd G a7 = 99 → (∀ x, x ≠ a → knd G x ≠ 99 → G3 x = G x) → J 31 [some (rf a), some (.inl (nI c)), some (.inl (nI w)), some (.inl (nI b)), some (.inl (nI d)), none] [] G3 3 298 := by
    intro G3 a9 a10 a7 k1 k9 n9 r9 k10 n10 k7 n7 r7 f3 f4 f5 g9 g10 g7 hx
    refine hJ [(102, J 102)] 90 31 [some (rf a), some (.inl (nI c)), some (.inl (nI w)), some (.inl (nI b)), some (.inl (nI d)), none] [] G3 3 298 (fun x h ls st G k n q => by cases h with | head => exact q | tail _ h => cases h) ?_
    simp (disch := omega) only [wpf_s, wpA_s, wq_c, wq_n, lkp_n, lkp_c, lk_0, lk_s, ldI_s, ldR_s, ldL_s, incI_s, gfE_I, gfE_Z, gfE_R, pfE_I, pfE_Z, pfE_R, nwE_s, anE_0, anE_1, anE_4, kE_n, kE_s, ii_s, sw_iload_n, sw_iload, sw_aload_n, sw_aload, sw_lload_n, sw_lload, sw_istore_n, sw_istore, sw_astore_n, sw_astore, sw_lstore, sw_iinc, sw_iconst, sw_bipush, sw_sipush, sw_null, sw_ldc2, sw_dup, sw_dup2, sw_iadd, sw_isub, sw_imul, sw_iand, sw_ixor, sw_ishr, sw_iushr, sw_idiv, sw_irem, sw_land, sw_lor, sw_lcmp, sw_lshl, sw_lshr, sw_lushr, sw_i2l, sw_l2i, sw_i2b, sw_goto, sw_icmp_eq, sw_if_eq, sw_icmp_ne, sw_if_ne, sw_icmp_lt, sw_if_lt, sw_icmp_ge, sw_if_ge, sw_icmp_gt, sw_if_gt, sw_icmp_le, sw_if_le, sw_ifnull, sw_ifnonnull, sw_acmp, sw_get, sw_put, sw_iaload, sw_baload, sw_laload, sw_aaload, sw_alen, sw_iastore, sw_bastore, sw_lastore, sw_aastore, sw_aastoreN, sw_newa_byte, sw_newa_int, sw_newa_boolean, sw_newa_long, sw_anew, sw_new, sw_iv, sw_is, sw_ii, sw_ireturn, sw_areturn, sw_return, sw_table, cv_0, cv_1, cv_2, cv_3, cv_4, ci_0, ci_1, ci_2, ci_3, ci_4, cs_1, cs_2, cs_3, cs_4, ic_m1, ic_0, ic_1, ic_2, ic_3, ic_4, ic_5, ic_6, bp_6, bp_7, bp_8, bp_15, bp_16, bp_31, bp_32, bp_60, sp_250, sp_255, sp_4000, sp_5000, sp_15000, sp_32000, f4_0, f4_1, f4_2, f4_3, c_nat, rtm, rok_0, rok_1, rok_2, rok_3, okS_0, okS_s, okq_n, okq_i, okq_r, stW_n, stW_i, stW_r, stW_l, cat_i, cat_r, nox, nf_0, nf_1, nf_2, nf_3, nf_4, nf_5, nf_6, true_and, and_true, Nat.zero_le, Nat.reduceAdd, Nat.reduceLT, Nat.reduceLeDiff, Nat.reduceEqDiff, Int.reduceAdd, Int.reduceToNat, Int.reduceLE, reduceIte, List.length_cons, List.length_nil, List.set_cons_zero, List.set_cons_succ, Option.some.injEq, ne_eq, not_true, not_false_eq_true, false_or, or_false, true_or, or_true, false_and, and_false, true_implies, false_implies, implies_true, not_false_eq_true, Bool.false_eq_true, reduceCtorEq, dX3_init_0, dX3_init_1, dX3_init_4, dX3_init_5, dX3_init_7, dX3_init_10, dX3_init_13, dX3_init_14, dX3_init_17, dX3_init_20, dX3_init_23, dX3_init_24, dX3_init_26, dX3_init_28, dX3_init_31, dX3_init_32, dX3_init_33, dX3_init_36, dX3_init_37, dX3_init_38, dX3_init_41, dX3_init_42, dX3_init_43, dX3_init_46, dX3_init_47, dX3_init_48, dX3_init_51, dX3_init_52, dX3_init_53, dX3_init_56, dX3_init_57, dX3_init_58, dX3_init_61, dX3_init_62, dX3_init_63, dX3_init_66, dX3_init_67, dX3_init_68, dX3_init_71, dX3_init_72, dX3_init_73, dX3_init_76, dX3_init_77, dX3_init_78, dX3_init_81, dX3_init_82, dX3_init_83, dX3_init_86, dX3_init_87, dX3_init_88, dX3_init_91, dX3_init_92, dX3_init_93, dX3_init_96, dX3_init_99, dX3_init_100, dX3_init_102, dX3_init_104, dX3_init_105, dX3_init_108, dX3_init_109, dX3_init_112, dX3_init_113, dX3_init_116, dX3_init_118, dX3_init_121, dX3_init_122, dX3_init_124, dX3_init_126, dX3_init_129, dX3_init_130, dX3_init_133, dX3_init_136, ntX3_9, ftX3i_11, ntX3_17, ftX3i_19, ftX3i_23, ftX3i_27, ftX3i_31, ftX3i_34, ftX3i_37, ftX3i_40, ftX3i_43, ftX3i_46, ftX3i_49, ftX3i_52, ftX3i_55, ftX3i_58, ftX3i_61, ntX3_64, ftX3i_66, rf, k1, knd_nw, knd_sR, knd_sI, nfO, nI_toInt, ite_zn, ite_zm, q_max, l_neg, q_rem2, q_lt, q_le, q_eq, q_add, q_mul, q_sub, q_div, q_rem, q_in, q_cl, q_0l, q_sac, l_0, l_1, l_2, l_3, l_4, l_5, l_6, l_8, l_15, l_16, l_32, l_60, l_250, l_4000, l_5000, ct_X3_init]
    refine ⟨by omega, by omega, by decide, (by show 298 + c ≤ 586; omega), fun q g => ?_⟩
    have n1 : a ≠ q := fun e => by rw [e, g] at k1; cases k1
    have n2 : a9 ≠ q := fun e => by rw [e, g] at k9; cases k9
    have n3 : a10 ≠ q := fun e => by rw [e, g] at k10; cases k10
    have n4 : a7 ≠ q := fun e => by rw [e, g] at k7; cases k7
    have m1 : a9 ≠ a := fun e => by rw [e, k1] at k9; cases k9
    have m2 : a10 ≠ a := fun e => by rw [e, k1] at k10; cases k10
    have m3 : a7 ≠ a := fun e => by rw [e, k1] at k7; cases k7
    have gq : knd G q = 99 := by
      by_cases e : knd G q = 99
      · exact e
      · have := hx q n1.symm e
        unfold knd at g e ⊢; rw [this] at g; exact g
    rw [if_neg n1]
    refine ⟨rfl, ?_⟩
    have hH : ∀ x, x ≠ a → x ≠ q → (sR (nw (sI (sI (sI (sI (sI (sI (sI (sI (sI (sI (sI (sI G3 a 6 (nI 0)) a 7 (nI 0)) a 8 (nI 0)) a 9 (nI 0)) a 10 (nI NN)) a 11 (nI 0)) a 12 (nI 0)) a 13 (nI 0)) a 14 (nI 0)) a 15 (nI NN)) a 0 (nI w)) a 1 (nI b)) q 11 c) a 2 (some q)) x = G3 x := fun x h1 h2 => by
      rw [sR_o h1, knd_nw_o h2, sI_o h1, sI_o h1, sI_o h1, sI_o h1, sI_o h1, sI_o h1, sI_o h1, sI_o h1, sI_o h1, sI_o h1, sI_o h1, sI_o h1]
    have hHa : knd (sR (nw (sI (sI (sI (sI (sI (sI (sI (sI (sI (sI (sI (sI G3 a 6 (nI 0)) a 7 (nI 0)) a 8 (nI 0)) a 9 (nI 0)) a 10 (nI NN)) a 11 (nI 0)) a 12 (nI 0)) a 13 (nI 0)) a 14 (nI 0)) a 15 (nI NN)) a 0 (nI w)) a 1 (nI b)) q 11 c) a 2 (some q)) a = 3 := by simp only [knd_sR, knd_nw, knd_sI, n1, if_false]; exact k1
    have hHr : gr (sR (nw (sI (sI (sI (sI (sI (sI (sI (sI (sI (sI (sI (sI G3 a 6 (nI 0)) a 7 (nI 0)) a 8 (nI 0)) a 9 (nI 0)) a 10 (nI NN)) a 11 (nI 0)) a 12 (nI 0)) a 13 (nI 0)) a 14 (nI 0)) a 15 (nI NN)) a 0 (nI w)) a 1 (nI b)) q 11 c) a 2 (some q)) a 2 = some q ∧ gr (sR (nw (sI (sI (sI (sI (sI (sI (sI (sI (sI (sI (sI (sI G3 a 6 (nI 0)) a 7 (nI 0)) a 8 (nI 0)) a 9 (nI 0)) a 10 (nI NN)) a 11 (nI 0)) a 12 (nI 0)) a 13 (nI 0)) a 14 (nI 0)) a 15 (nI NN)) a 0 (nI w)) a 1 (nI b)) q 11 c) a 2 (some q)) a 3 = some a9 ∧ gr (sR (nw (sI (sI (sI (sI (sI (sI (sI (sI (sI (sI (sI (sI G3 a 6 (nI 0)) a 7 (nI 0)) a 8 (nI 0)) a 9 (nI 0)) a 10 (nI NN)) a 11 (nI 0)) a 12 (nI 0)) a 13 (nI 0)) a 14 (nI 0)) a 15 (nI NN)) a 0 (nI w)) a 1 (nI b)) q 11 c) a 2 (some q)) a 4 = some a10 ∧ gr (sR (nw (sI (sI (sI (sI (sI (sI (sI (sI (sI (sI (sI (sI G3 a 6 (nI 0)) a 7 (nI 0)) a 8 (nI 0)) a 9 (nI 0)) a 10 (nI NN)) a 11 (nI 0)) a 12 (nI 0)) a 13 (nI 0)) a 14 (nI 0)) a 15 (nI NN)) a 0 (nI w)) a 1 (nI b)) q 11 c) a 2 (some q)) a 5 = some a7 := by
      simp [gr_sR, gr_nw, gr_sI, n1, f3, f4, f5]
    have hHi : gi (sR (nw (sI (sI (sI (sI (sI (sI (sI (sI (sI (sI (sI (sI G3 a 6 (nI 0)) a 7 (nI 0)) a 8 (nI 0)) a 9 (nI 0)) a 10 (nI NN)) a 11 (nI 0)) a 12 (nI 0)) a 13 (nI 0)) a 14 (nI 0)) a 15 (nI NN)) a 0 (nI w)) a 1 (nI b)) q 11 c) a 2 (some q)) a 0 = nI w ∧ gi (sR (nw (sI (sI (sI (sI (sI (sI (sI (sI (sI (sI (sI (sI G3 a 6 (nI 0)) a 7 (nI 0)) a 8 (nI 0)) a 9 (nI 0)) a 10 (nI NN)) a 11 (nI 0)) a 12 (nI 0)) a 13 (nI 0)) a 14 (nI 0)) a 15 (nI NN)) a 0 (nI w)) a 1 (nI b)) q 11 c) a 2 (some q)) a 1 = nI b ∧ gi (sR (nw (sI (sI (sI (sI (sI (sI (sI (sI (sI (sI (sI (sI G3 a 6 (nI 0)) a 7 (nI 0)) a 8 (nI 0)) a 9 (nI 0)) a 10 (nI NN)) a 11 (nI 0)) a 12 (nI 0)) a 13 (nI 0)) a 14 (nI 0)) a 15 (nI NN)) a 0 (nI w)) a 1 (nI b)) q 11 c) a 2 (some q)) a 6 = nI 0 ∧ gi (sR (nw (sI (sI (sI (sI (sI (sI (sI (sI (sI (sI (sI (sI G3 a 6 (nI 0)) a 7 (nI 0)) a 8 (nI 0)) a 9 (nI 0)) a 10 (nI NN)) a 11 (nI 0)) a 12 (nI 0)) a 13 (nI 0)) a 14 (nI 0)) a 15 (nI NN)) a 0 (nI w)) a 1 (nI b)) q 11 c) a 2 (some q)) a 7 = nI 0 ∧ gi (sR (nw (sI (sI (sI (sI (sI (sI (sI (sI (sI (sI (sI (sI G3 a 6 (nI 0)) a 7 (nI 0)) a 8 (nI 0)) a 9 (nI 0)) a 10 (nI NN)) a 11 (nI 0)) a 12 (nI 0)) a 13 (nI 0)) a 14 (nI 0)) a 15 (nI NN)) a 0 (nI w)) a 1 (nI b)) q 11 c) a 2 (some q)) a 8 = nI 0 ∧ gi (sR (nw (sI (sI (sI (sI (sI (sI (sI (sI (sI (sI (sI (sI G3 a 6 (nI 0)) a 7 (nI 0)) a 8 (nI 0)) a 9 (nI 0)) a 10 (nI NN)) a 11 (nI 0)) a 12 (nI 0)) a 13 (nI 0)) a 14 (nI 0)) a 15 (nI NN)) a 0 (nI w)) a 1 (nI b)) q 11 c) a 2 (some q)) a 9 = nI 0 ∧ gi (sR (nw (sI (sI (sI (sI (sI (sI (sI (sI (sI (sI (sI (sI G3 a 6 (nI 0)) a 7 (nI 0)) a 8 (nI 0)) a 9 (nI 0)) a 10 (nI NN)) a 11 (nI 0)) a 12 (nI 0)) a 13 (nI 0)) a 14 (nI 0)) a 15 (nI NN)) a 0 (nI w)) a 1 (nI b)) q 11 c) a 2 (some q)) a 10 = nI NN ∧ gi (sR (nw (sI (sI (sI (sI (sI (sI (sI (sI (sI (sI (sI (sI G3 a 6 (nI 0)) a 7 (nI 0)) a 8 (nI 0)) a 9 (nI 0)) a 10 (nI NN)) a 11 (nI 0)) a 12 (nI 0)) a 13 (nI 0)) a 14 (nI 0)) a 15 (nI NN)) a 0 (nI w)) a 1 (nI b)) q 11 c) a 2 (some q)) a 11 = nI 0 ∧ gi (sR (nw (sI (sI (sI (sI (sI (sI (sI (sI (sI (sI (sI (sI G3 a 6 (nI 0)) a 7 (nI 0)) a 8 (nI 0)) a 9 (nI 0)) a 10 (nI NN)) a 11 (nI 0)) a 12 (nI 0)) a 13 (nI 0)) a 14 (nI 0)) a 15 (nI NN)) a 0 (nI w)) a 1 (nI b)) q 11 c) a 2 (some q)) a 12 = nI 0 ∧ gi (sR (nw (sI (sI (sI (sI (sI (sI (sI (sI (sI (sI (sI (sI G3 a 6 (nI 0)) a 7 (nI 0)) a 8 (nI 0)) a 9 (nI 0)) a 10 (nI NN)) a 11 (nI 0)) a 12 (nI 0)) a 13 (nI 0)) a 14 (nI 0)) a 15 (nI NN)) a 0 (nI w)) a 1 (nI b)) q 11 c) a 2 (some q)) a 13 = nI 0 ∧ gi (sR (nw (sI (sI (sI (sI (sI (sI (sI (sI (sI (sI (sI (sI G3 a 6 (nI 0)) a 7 (nI 0)) a 8 (nI 0)) a 9 (nI 0)) a 10 (nI NN)) a 11 (nI 0)) a 12 (nI 0)) a 13 (nI 0)) a 14 (nI 0)) a 15 (nI NN)) a 0 (nI w)) a 1 (nI b)) q 11 c) a 2 (some q)) a 14 = nI 0 ∧ gi (sR (nw (sI (sI (sI (sI (sI (sI (sI (sI (sI (sI (sI (sI G3 a 6 (nI 0)) a 7 (nI 0)) a 8 (nI 0)) a 9 (nI 0)) a 10 (nI NN)) a 11 (nI 0)) a 12 (nI 0)) a 13 (nI 0)) a 14 (nI 0)) a 15 (nI NN)) a 0 (nI w)) a 1 (nI b)) q 11 c) a 2 (some q)) a 15 = nI NN := by
      simp [gi_sR, gi_nw, gi_sI, n1]
    have hHq : knd (sR (nw (sI (sI (sI (sI (sI (sI (sI (sI (sI (sI (sI (sI G3 a 6 (nI 0)) a 7 (nI 0)) a 8 (nI 0)) a 9 (nI 0)) a 10 (nI NN)) a 11 (nI 0)) a 12 (nI 0)) a 13 (nI 0)) a 14 (nI 0)) a 15 (nI NN)) a 0 (nI w)) a 1 (nI b)) q 11 c) a 2 (some q)) q = 11 ∧ gn (sR (nw (sI (sI (sI (sI (sI (sI (sI (sI (sI (sI (sI (sI G3 a 6 (nI 0)) a 7 (nI 0)) a 8 (nI 0)) a 9 (nI 0)) a 10 (nI NN)) a 11 (nI 0)) a 12 (nI 0)) a 13 (nI 0)) a 14 (nI 0)) a 15 (nI NN)) a 0 (nI w)) a 1 (nI b)) q 11 c) a 2 (some q)) q = c := by
      simp [knd_sR, gn_sR, knd_nw, gn_nw]
    generalize (sR (nw (sI (sI (sI (sI (sI (sI (sI (sI (sI (sI (sI (sI G3 a 6 (nI 0)) a 7 (nI 0)) a 8 (nI 0)) a 9 (nI 0)) a 10 (nI NN)) a 11 (nI 0)) a 12 (nI 0)) a 13 (nI 0)) a 14 (nI 0)) a 15 (nI NN)) a 0 (nI w)) a 1 (nI b)) q 11 c) a 2 (some q)) = H at *
    have hx2 : ∀ x, x ≠ a → knd G x ≠ 99 → H x = G x := fun x h9 hn => by
      rw [hH x h9 (fun e => hn (by rw [e]; exact gq))]; exact hx x h9 hn
    have e9 := hH a9 m1 n2
    have e10 := hH a10 m2 n3
    have e7 := hH a7 m3 n4
    have c0 : ∀ k j, k ≠ 1 → up C 1 0 0 k j = C k j := fun k j hk => up_o (Or.inl hk)
    refine loop c 0 H (fun s _ => if s = 1 then a else if s = 7 then a7 else if s = 8 then q else if s = 9 then a9 else a10) (by omega) (RepL.base (fun x hk => ?_) (up_s ..) ?_ ?_ (fun k hk => ?_) (fun k hk => ?_) hHa ?_ hHq.1 ?_ ?_ ⟨hKa, ?_, ?_, ?_, ?_⟩ hHr ?_ ?_ ?_ ?_ (fun k => ?_) ?_) rfl gq hx2
    · have n := hK9 x hk
      have nx : x ≠ a := fun e => hKa (e ▸ hk)
      unfold knd at n ⊢; rw [hx2 x nx n]; exact n
    · rw [c0 6 0 (by decide)]; exact P6
    · rw [c0 56 0 (by decide)]; exact P56
    · rw [c0 48 k (by decide)]; exact P48 k hk
    · rw [c0 15 k (by decide), P15 k hk]; show gi H a7 k = nI 0; unfold gi; rw [e7]; exact r7 k
    · show knd H a7 = 8; unfold knd; rw [e7]; exact k7
    · show knd H a9 = 12; unfold knd; rw [e9]; exact k9
    · show knd H a10 = 13; unfold knd; rw [e10]; exact k10
    · exact fun q => hK9 _ q g7
    · exact fun q => hK9 _ q gq
    · exact fun q => hK9 _ q g9
    · exact fun q => hK9 _ q g10
    · show gn H a7 = 32; unfold gn; rw [e7]; exact n7
    · show gn H q = _; rw [c0 57 0 (by decide), P57]; exact hHq.2
    · show gn H a9 = 16; unfold gn; rw [e9]; exact n9
    · show gn H a10 = 250; unfold gn; rw [e10]; exact n10
    · show gr H a9 k = none; unfold gr; rw [e9]; exact r9 k
    · rw [c0 2 0 (by decide), c0 3 0 (by decide), c0 5 0 (by decide), c0 49 0 (by decide), c0 7 0 (by decide), c0 4 0 (by decide), c0 8 0 (by decide), c0 9 0 (by decide), c0 10 0 (by decide), c0 11 0 (by decide), c0 12 0 (by decide), c0 40 0 (by decide), P2, P3, P5, P49, P7, P4, P8, P9, P10, P11, P12, P40]
      exact hHi
  have st23 : ∀ (G3 : GG) (a9 a10 : Nat), knd G3 a = 3 → knd G3 a9 = 12 → gn G3 a9 = 16 → (∀ k, gr G3 a9 k = none) → knd G3 a10 = 13 → gn G3 a10 = 250 → gr G3 a 3 = some a9 → gr G3 a 4 = some a10 → knd G a9 = 99 → knd G a10 = 99 → (∀ x, x ≠ a → knd G x ≠ 99 → G3 x = G x) → J 23 [some (rf a), some (.inl (nI c)), some (.inl (nI w)), some (.inl (nI b)), some (.inl (nI d)), none] [] G3 2 266 := by
    intro G3 a9 a10 k1 k9 n9 r9 k10 n10 f3 f4 g9 g10 hx
    refine hJ [(31, J 31)] 90 23 [some (rf a), some (.inl (nI c)), some (.inl (nI w)), some (.inl (nI b)), some (.inl (nI d)), none] [] G3 2 266 (fun x h ls st G k n q => by cases h with | head => exact q | tail _ h => cases h) ?_
    simp (disch := omega) only [wpf_s, wpA_s, wq_c, wq_n, lkp_n, lkp_c, lk_0, lk_s, ldI_s, ldR_s, ldL_s, incI_s, gfE_I, gfE_Z, gfE_R, pfE_I, pfE_Z, pfE_R, nwE_s, anE_0, anE_1, anE_4, kE_n, kE_s, ii_s, sw_iload_n, sw_iload, sw_aload_n, sw_aload, sw_lload_n, sw_lload, sw_istore_n, sw_istore, sw_astore_n, sw_astore, sw_lstore, sw_iinc, sw_iconst, sw_bipush, sw_sipush, sw_null, sw_ldc2, sw_dup, sw_dup2, sw_iadd, sw_isub, sw_imul, sw_iand, sw_ixor, sw_ishr, sw_iushr, sw_idiv, sw_irem, sw_land, sw_lor, sw_lcmp, sw_lshl, sw_lshr, sw_lushr, sw_i2l, sw_l2i, sw_i2b, sw_goto, sw_icmp_eq, sw_if_eq, sw_icmp_ne, sw_if_ne, sw_icmp_lt, sw_if_lt, sw_icmp_ge, sw_if_ge, sw_icmp_gt, sw_if_gt, sw_icmp_le, sw_if_le, sw_ifnull, sw_ifnonnull, sw_acmp, sw_get, sw_put, sw_iaload, sw_baload, sw_laload, sw_aaload, sw_alen, sw_iastore, sw_bastore, sw_lastore, sw_aastore, sw_aastoreN, sw_newa_byte, sw_newa_int, sw_newa_boolean, sw_newa_long, sw_anew, sw_new, sw_iv, sw_is, sw_ii, sw_ireturn, sw_areturn, sw_return, sw_table, cv_0, cv_1, cv_2, cv_3, cv_4, ci_0, ci_1, ci_2, ci_3, ci_4, cs_1, cs_2, cs_3, cs_4, ic_m1, ic_0, ic_1, ic_2, ic_3, ic_4, ic_5, ic_6, bp_6, bp_7, bp_8, bp_15, bp_16, bp_31, bp_32, bp_60, sp_250, sp_255, sp_4000, sp_5000, sp_15000, sp_32000, f4_0, f4_1, f4_2, f4_3, c_nat, rtm, rok_0, rok_1, rok_2, rok_3, okS_0, okS_s, okq_n, okq_i, okq_r, stW_n, stW_i, stW_r, stW_l, cat_i, cat_r, nox, nf_0, nf_1, nf_2, nf_3, nf_4, nf_5, nf_6, true_and, and_true, Nat.zero_le, Nat.reduceAdd, Nat.reduceLT, Nat.reduceLeDiff, Nat.reduceEqDiff, Int.reduceAdd, Int.reduceToNat, Int.reduceLE, reduceIte, List.length_cons, List.length_nil, List.set_cons_zero, List.set_cons_succ, Option.some.injEq, ne_eq, not_true, not_false_eq_true, false_or, or_false, true_or, or_true, false_and, and_false, true_implies, false_implies, implies_true, not_false_eq_true, Bool.false_eq_true, reduceCtorEq, dX3_init_0, dX3_init_1, dX3_init_4, dX3_init_5, dX3_init_7, dX3_init_10, dX3_init_13, dX3_init_14, dX3_init_17, dX3_init_20, dX3_init_23, dX3_init_24, dX3_init_26, dX3_init_28, dX3_init_31, dX3_init_32, dX3_init_33, dX3_init_36, dX3_init_37, dX3_init_38, dX3_init_41, dX3_init_42, dX3_init_43, dX3_init_46, dX3_init_47, dX3_init_48, dX3_init_51, dX3_init_52, dX3_init_53, dX3_init_56, dX3_init_57, dX3_init_58, dX3_init_61, dX3_init_62, dX3_init_63, dX3_init_66, dX3_init_67, dX3_init_68, dX3_init_71, dX3_init_72, dX3_init_73, dX3_init_76, dX3_init_77, dX3_init_78, dX3_init_81, dX3_init_82, dX3_init_83, dX3_init_86, dX3_init_87, dX3_init_88, dX3_init_91, dX3_init_92, dX3_init_93, dX3_init_96, dX3_init_99, dX3_init_100, dX3_init_102, dX3_init_104, dX3_init_105, dX3_init_108, dX3_init_109, dX3_init_112, dX3_init_113, dX3_init_116, dX3_init_118, dX3_init_121, dX3_init_122, dX3_init_124, dX3_init_126, dX3_init_129, dX3_init_130, dX3_init_133, dX3_init_136, ntX3_9, ftX3i_11, ntX3_17, ftX3i_19, ftX3i_23, ftX3i_27, ftX3i_31, ftX3i_34, ftX3i_37, ftX3i_40, ftX3i_43, ftX3i_46, ftX3i_49, ftX3i_52, ftX3i_55, ftX3i_58, ftX3i_61, ntX3_64, ftX3i_66, rf, k1, knd_nw, knd_sR, knd_sI, nfO, ite_zn, ite_zm, q_max, l_neg, q_rem2, q_lt, q_le, q_eq, q_add, q_mul, q_sub, q_div, q_rem, q_in, q_cl, q_0l, q_sac, l_0, l_1, l_2, l_3, l_4, l_5, l_6, l_8, l_15, l_16, l_32, l_60, l_250, l_4000, l_5000, ct_X3_init]
    refine ⟨by decide, by decide, by decide, by decide, fun q g => ?_⟩
    have n1 : a ≠ q := fun e => by rw [e, g] at k1; cases k1
    have n2 : a9 ≠ q := fun e => by rw [e, g] at k9; cases k9
    have n3 : a10 ≠ q := fun e => by rw [e, g] at k10; cases k10
    have m1 : a9 ≠ a := fun e => by rw [e, k1] at k9; cases k9
    have m2 : a10 ≠ a := fun e => by rw [e, k1] at k10; cases k10
    rw [if_neg n1]
    refine ⟨rfl, st31 _ a9 a10 q ?_ ?_ ?_ (fun k => ?_) ?_ ?_ ?_ ?_ (fun k => ?_) ?_ ?_ ?_ g9 g10 ?_ (fun x h9 hn => ?_)⟩
    · simp only [knd_sR, knd_nw, n1, if_false]; exact k1
    · simp only [knd_sR, knd_nw, n2, if_false]; exact k9
    · simp only [gn_sR, gn_nw, n2, if_false]; exact n9
    · simp only [gr_sR, gr_nw, n2, m1, false_and, if_false]; exact r9 k
    · simp only [knd_sR, knd_nw, n3, if_false]; exact k10
    · simp only [gn_sR, gn_nw, n3, if_false]; exact n10
    · simp only [knd_sR, knd_nw, if_true]
    · simp only [gn_sR, gn_nw, if_true]
    · simp only [gi_sR, gi_nw, if_true]; rfl
    · simp only [gr_sR, gr_nw, n1, Nat.reduceEqDiff, and_false, if_false]; exact f3
    · simp only [gr_sR, gr_nw, n1, Nat.reduceEqDiff, and_false, if_false]; exact f4
    · simp only [gr_sR, and_self, if_true]
    · by_cases e : knd G q = 99
      · exact e
      · have := hx q n1.symm e
        unfold knd at g e ⊢; rw [this] at g; exact g
    · have nq : x ≠ q := fun e => by have := hx x h9 hn; unfold knd at g hn; rw [← e, this] at g; exact hn g
      rw [sR_o h9, knd_nw_o nq]; exact hx x h9 hn
  have st13 : ∀ (G3 : GG) (a9 : Nat), knd G3 a = 3 → knd G3 a9 = 12 → gn G3 a9 = 16 → (∀ k, gr G3 a9 k = none) → gr G3 a 3 = some a9 → knd G a9 = 99 → (∀ x, x ≠ a → knd G x ≠ 99 → G3 x = G x) → J 13 [some (rf a), some (.inl (nI c)), some (.inl (nI w)), some (.inl (nI b)), some (.inl (nI d)), none] [] G3 1 16 := by
    intro G3 a9 k1 k9 n9 r9 f3 g9 hx
    refine hJ [(23, J 23)] 90 13 [some (rf a), some (.inl (nI c)), some (.inl (nI w)), some (.inl (nI b)), some (.inl (nI d)), none] [] G3 1 16 (fun x h ls st G k n q => by cases h with | head => exact q | tail _ h => cases h) ?_
    simp (disch := omega) only [wpf_s, wpA_s, wq_c, wq_n, lkp_n, lkp_c, lk_0, lk_s, ldI_s, ldR_s, ldL_s, incI_s, gfE_I, gfE_Z, gfE_R, pfE_I, pfE_Z, pfE_R, nwE_s, anE_0, anE_1, anE_4, kE_n, kE_s, ii_s, sw_iload_n, sw_iload, sw_aload_n, sw_aload, sw_lload_n, sw_lload, sw_istore_n, sw_istore, sw_astore_n, sw_astore, sw_lstore, sw_iinc, sw_iconst, sw_bipush, sw_sipush, sw_null, sw_ldc2, sw_dup, sw_dup2, sw_iadd, sw_isub, sw_imul, sw_iand, sw_ixor, sw_ishr, sw_iushr, sw_idiv, sw_irem, sw_land, sw_lor, sw_lcmp, sw_lshl, sw_lshr, sw_lushr, sw_i2l, sw_l2i, sw_i2b, sw_goto, sw_icmp_eq, sw_if_eq, sw_icmp_ne, sw_if_ne, sw_icmp_lt, sw_if_lt, sw_icmp_ge, sw_if_ge, sw_icmp_gt, sw_if_gt, sw_icmp_le, sw_if_le, sw_ifnull, sw_ifnonnull, sw_acmp, sw_get, sw_put, sw_iaload, sw_baload, sw_laload, sw_aaload, sw_alen, sw_iastore, sw_bastore, sw_lastore, sw_aastore, sw_aastoreN, sw_newa_byte, sw_newa_int, sw_newa_boolean, sw_newa_long, sw_anew, sw_new, sw_iv, sw_is, sw_ii, sw_ireturn, sw_areturn, sw_return, sw_table, cv_0, cv_1, cv_2, cv_3, cv_4, ci_0, ci_1, ci_2, ci_3, ci_4, cs_1, cs_2, cs_3, cs_4, ic_m1, ic_0, ic_1, ic_2, ic_3, ic_4, ic_5, ic_6, bp_6, bp_7, bp_8, bp_15, bp_16, bp_31, bp_32, bp_60, sp_250, sp_255, sp_4000, sp_5000, sp_15000, sp_32000, f4_0, f4_1, f4_2, f4_3, c_nat, rtm, rok_0, rok_1, rok_2, rok_3, okS_0, okS_s, okq_n, okq_i, okq_r, stW_n, stW_i, stW_r, stW_l, cat_i, cat_r, nox, nf_0, nf_1, nf_2, nf_3, nf_4, nf_5, nf_6, true_and, and_true, Nat.zero_le, Nat.reduceAdd, Nat.reduceLT, Nat.reduceLeDiff, Nat.reduceEqDiff, Int.reduceAdd, Int.reduceToNat, Int.reduceLE, reduceIte, List.length_cons, List.length_nil, List.set_cons_zero, List.set_cons_succ, Option.some.injEq, ne_eq, not_true, not_false_eq_true, false_or, or_false, true_or, or_true, false_and, and_false, true_implies, false_implies, implies_true, not_false_eq_true, Bool.false_eq_true, reduceCtorEq, dX3_init_0, dX3_init_1, dX3_init_4, dX3_init_5, dX3_init_7, dX3_init_10, dX3_init_13, dX3_init_14, dX3_init_17, dX3_init_20, dX3_init_23, dX3_init_24, dX3_init_26, dX3_init_28, dX3_init_31, dX3_init_32, dX3_init_33, dX3_init_36, dX3_init_37, dX3_init_38, dX3_init_41, dX3_init_42, dX3_init_43, dX3_init_46, dX3_init_47, dX3_init_48, dX3_init_51, dX3_init_52, dX3_init_53, dX3_init_56, dX3_init_57, dX3_init_58, dX3_init_61, dX3_init_62, dX3_init_63, dX3_init_66, dX3_init_67, dX3_init_68, dX3_init_71, dX3_init_72, dX3_init_73, dX3_init_76, dX3_init_77, dX3_init_78, dX3_init_81, dX3_init_82, dX3_init_83, dX3_init_86, dX3_init_87, dX3_init_88, dX3_init_91, dX3_init_92, dX3_init_93, dX3_init_96, dX3_init_99, dX3_init_100, dX3_init_102, dX3_init_104, dX3_init_105, dX3_init_108, dX3_init_109, dX3_init_112, dX3_init_113, dX3_init_116, dX3_init_118, dX3_init_121, dX3_init_122, dX3_init_124, dX3_init_126, dX3_init_129, dX3_init_130, dX3_init_133, dX3_init_136, ntX3_9, ftX3i_11, ntX3_17, ftX3i_19, ftX3i_23, ftX3i_27, ftX3i_31, ftX3i_34, ftX3i_37, ftX3i_40, ftX3i_43, ftX3i_46, ftX3i_49, ftX3i_52, ftX3i_55, ftX3i_58, ftX3i_61, ntX3_64, ftX3i_66, rf, k1, knd_nw, knd_sR, knd_sI, nfO, ite_zn, ite_zm, q_max, l_neg, q_rem2, q_lt, q_le, q_eq, q_add, q_mul, q_sub, q_div, q_rem, q_in, q_cl, q_0l, q_sac, l_0, l_1, l_2, l_3, l_4, l_5, l_6, l_8, l_15, l_16, l_32, l_60, l_250, l_4000, l_5000, ct_X3_init]
    refine ⟨by decide, by decide, by decide, by decide, fun q g => ?_⟩
    have n1 : a ≠ q := fun e => by rw [e, g] at k1; cases k1
    have n2 : a9 ≠ q := fun e => by rw [e, g] at k9; cases k9
    have m1 : a9 ≠ a := fun e => by rw [e, k1] at k9; cases k9
    rw [if_neg n1]
    refine ⟨rfl, st23 _ a9 q ?_ ?_ ?_ (fun k => ?_) ?_ ?_ ?_ ?_ g9 ?_ (fun x h9 hn => ?_)⟩
    · simp only [knd_sR, knd_nw, n1, if_false]; exact k1
    · simp only [knd_sR, knd_nw, n2, if_false]; exact k9
    · simp only [gn_sR, gn_nw, n2, if_false]; exact n9
    · simp only [gr_sR, gr_nw, n2, m1, false_and, if_false]; exact r9 k
    · simp only [knd_sR, knd_nw, if_true]
    · simp only [gn_sR, gn_nw, if_true]
    · simp only [gr_sR, gr_nw, n1, Nat.reduceEqDiff, and_false, if_false]; exact f3
    · simp only [gr_sR, and_self, if_true]
    · by_cases e : knd G q = 99
      · exact e
      · have := hx q n1.symm e
        unfold knd at g e ⊢; rw [this] at g; exact g
    · have nq : x ≠ q := fun e => by have := hx x h9 hn; unfold knd at g hn; rw [← e, this] at g; exact hn g
      rw [sR_o h9, knd_nw_o nq]; exact hx x h9 hn
  refine hJ [(13, J 13)] 90 4 [some (rf a), some (.inl (nI c)), some (.inl (nI w)), some (.inl (nI b)), some (.inl (nI d)), none] [] G 0 0 (fun x h ls st G k n q => by cases h with | head => exact q | tail _ h => cases h) ?_
  simp (disch := omega) only [wpf_s, wpA_s, wq_c, wq_n, lkp_n, lkp_c, lk_0, lk_s, ldI_s, ldR_s, ldL_s, incI_s, gfE_I, gfE_Z, gfE_R, pfE_I, pfE_Z, pfE_R, nwE_s, anE_0, anE_1, anE_4, kE_n, kE_s, ii_s, sw_iload_n, sw_iload, sw_aload_n, sw_aload, sw_lload_n, sw_lload, sw_istore_n, sw_istore, sw_astore_n, sw_astore, sw_lstore, sw_iinc, sw_iconst, sw_bipush, sw_sipush, sw_null, sw_ldc2, sw_dup, sw_dup2, sw_iadd, sw_isub, sw_imul, sw_iand, sw_ixor, sw_ishr, sw_iushr, sw_idiv, sw_irem, sw_land, sw_lor, sw_lcmp, sw_lshl, sw_lshr, sw_lushr, sw_i2l, sw_l2i, sw_i2b, sw_goto, sw_icmp_eq, sw_if_eq, sw_icmp_ne, sw_if_ne, sw_icmp_lt, sw_if_lt, sw_icmp_ge, sw_if_ge, sw_icmp_gt, sw_if_gt, sw_icmp_le, sw_if_le, sw_ifnull, sw_ifnonnull, sw_acmp, sw_get, sw_put, sw_iaload, sw_baload, sw_laload, sw_aaload, sw_alen, sw_iastore, sw_bastore, sw_lastore, sw_aastore, sw_aastoreN, sw_newa_byte, sw_newa_int, sw_newa_boolean, sw_newa_long, sw_anew, sw_new, sw_iv, sw_is, sw_ii, sw_ireturn, sw_areturn, sw_return, sw_table, cv_0, cv_1, cv_2, cv_3, cv_4, ci_0, ci_1, ci_2, ci_3, ci_4, cs_1, cs_2, cs_3, cs_4, ic_m1, ic_0, ic_1, ic_2, ic_3, ic_4, ic_5, ic_6, bp_6, bp_7, bp_8, bp_15, bp_16, bp_31, bp_32, bp_60, sp_250, sp_255, sp_4000, sp_5000, sp_15000, sp_32000, f4_0, f4_1, f4_2, f4_3, c_nat, rtm, rok_0, rok_1, rok_2, rok_3, okS_0, okS_s, okq_n, okq_i, okq_r, stW_n, stW_i, stW_r, stW_l, cat_i, cat_r, nox, nf_0, nf_1, nf_2, nf_3, nf_4, nf_5, nf_6, true_and, and_true, Nat.zero_le, Nat.reduceAdd, Nat.reduceLT, Nat.reduceLeDiff, Nat.reduceEqDiff, Int.reduceAdd, Int.reduceToNat, Int.reduceLE, reduceIte, List.length_cons, List.length_nil, List.set_cons_zero, List.set_cons_succ, Option.some.injEq, ne_eq, not_true, not_false_eq_true, false_or, or_false, true_or, or_true, false_and, and_false, true_implies, false_implies, implies_true, not_false_eq_true, Bool.false_eq_true, reduceCtorEq, dX3_init_0, dX3_init_1, dX3_init_4, dX3_init_5, dX3_init_7, dX3_init_10, dX3_init_13, dX3_init_14, dX3_init_17, dX3_init_20, dX3_init_23, dX3_init_24, dX3_init_26, dX3_init_28, dX3_init_31, dX3_init_32, dX3_init_33, dX3_init_36, dX3_init_37, dX3_init_38, dX3_init_41, dX3_init_42, dX3_init_43, dX3_init_46, dX3_init_47, dX3_init_48, dX3_init_51, dX3_init_52, dX3_init_53, dX3_init_56, dX3_init_57, dX3_init_58, dX3_init_61, dX3_init_62, dX3_init_63, dX3_init_66, dX3_init_67, dX3_init_68, dX3_init_71, dX3_init_72, dX3_init_73, dX3_init_76, dX3_init_77, dX3_init_78, dX3_init_81, dX3_init_82, dX3_init_83, dX3_init_86, dX3_init_87, dX3_init_88, dX3_init_91, dX3_init_92, dX3_init_93, dX3_init_96, dX3_init_99, dX3_init_100, dX3_init_102, dX3_init_104, dX3_init_105, dX3_init_108, dX3_init_109, dX3_init_112, dX3_init_113, dX3_init_116, dX3_init_118, dX3_init_121, dX3_init_122, dX3_init_124, dX3_init_126, dX3_init_129, dX3_init_130, dX3_init_133, dX3_init_136, ntX3_9, ftX3i_11, ntX3_17, ftX3i_19, ftX3i_23, ftX3i_27, ftX3i_31, ftX3i_34, ftX3i_37, ftX3i_40, ftX3i_43, ftX3i_46, ftX3i_49, ftX3i_52, ftX3i_55, ftX3i_58, ftX3i_61, ntX3_64, ftX3i_66, rf, h1, knd_nw, knd_sR, knd_sI, nfO, ite_zn, ite_zm, q_max, l_neg, q_rem2, q_lt, q_le, q_eq, q_add, q_mul, q_sub, q_div, q_rem, q_in, q_cl, q_0l, q_sac, l_0, l_1, l_2, l_3, l_4, l_5, l_6, l_8, l_15, l_16, l_32, l_60, l_250, l_4000, l_5000, ct_X3_init]
  refine ⟨by decide, by decide, by decide, by decide, fun q g => ?_⟩
  have n1 : a ≠ q := fun e => by rw [e, g] at h1; cases h1
  rw [if_neg n1]
  refine ⟨rfl, st13 _ q ?_ ?_ ?_ (fun k => ?_) ?_ g (fun x h9 hn => ?_)⟩
  · simp only [knd_sR, knd_nw, n1, if_false]; exact h1
  · simp only [knd_sR, knd_nw, if_true]
  · simp only [gn_sR, gn_nw, if_true]
  · simp only [gr_sR, gr_nw, n1.symm, false_and, if_false, if_true]
  · simp only [gr_sR, and_self, if_true]
  · have nq : x ≠ q := fun e => hn (e ▸ g)
    rw [sR_o h9, knd_nw_o nq]
