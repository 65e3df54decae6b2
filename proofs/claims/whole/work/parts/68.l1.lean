/-! ===== the law: both sides in one heap ===== -/
/-- the model m (arrays ar), the class's object x, the long[] res and the script b in one heap, both sides in state S -/
def LI (G : GG) (K : Nat → Prop) (b L : Nat) (xs : Nat → Int32) (m : Nat) (ar : Nat → Nat) (x tp tk res : Nat) (ad C S : St) : Prop :=
  RepM G m ar S ∧ XI G K x tp tk ad C S ∧ (K m ∧ (∀ k, aK k ≠ 99 → K (ar k)) ∧ K res ∧ K b) ∧ (∀ k, aK k ≠ 99 → tp ≠ ar k) ∧ knd G res = 10 ∧ gn G res = 1 ∧ knd G b = 14 ∧ gn G b = L ∧ (∀ j, gi G b j = xs j)
theorem aK_k {k : Nat} (h : aK k ≠ 99) : 7 ≤ aK k ∧ aK k < 10 := ⟨(aK_99 h).2, (aK_99 h).1⟩
theorem RepM.same {G G' : GG} {m : Nat} {ar : Nat → Nat} {S : St} (h : RepM G m ar S) (hm : G' m = G m) (ha : ∀ k, aK k ≠ 99 → G' (ar k) = G (ar k)) : RepM G' m ar S := by
  obtain ⟨h1, h2, h3, h4, h5⟩ := h
  refine ⟨by unfold knd at h1 ⊢; rw [hm]; exact h1, fun k hk => ?_, h3, fun k hk => ?_, fun k hk j hj => ?_⟩
  · obtain ⟨q1, q2, q3⟩ := h2 k hk
    refine ⟨by unfold gr at q1 ⊢; rw [hm]; exact q1, by unfold knd at q2 ⊢; rw [ha k hk]; exact q2, by unfold gn at q3 ⊢; rw [ha k hk]; exact q3⟩
  · have := h4 k hk; unfold gi at this ⊢; rw [hm]; exact this
  · have := h5 k hk j hj; unfold gi at this ⊢; rw [ha k hk]; exact this
theorem RepX.same {G G' : GG} {x tp tk L : Nat} {S : St} (h : RepX G x tp tk L S) (h1 : G' x = G x) (h2 : G' tp = G tp) (h3 : G' tk = G tk) : RepX G' x tp tk L S := h.fr rfl h1 h2 h3 (fun _ _ _ => rfl)
section LL
variable {G G' : GG} {K : Nat → Prop} {b L : Nat} {xs : Nat → Int32} {m : Nat} {ar : Nat → Nat} {x tp tk res : Nat} {ad C S : St}
theorem LI.ne (h : LI G K b L xs m ar x tp tk res ad C S) : m ≠ x ∧ m ≠ tp ∧ (∀ k, aK k ≠ 99 → ar k ≠ x) ∧ res ≠ x ∧ res ≠ tp ∧ b ≠ x ∧ b ≠ tp ∧ res ≠ m ∧ (∀ k, aK k ≠ 99 → res ≠ ar k) ∧ b ≠ m ∧ (∀ k, aK k ≠ 99 → b ≠ ar k) ∧ b ≠ res := by
  obtain ⟨hM, ⟨⟨x1, -, -, -, -, x6, -⟩, -⟩, -, -, r1, -, b1, -⟩ := h
  have hm := hM.1
  have hk : ∀ k, aK k ≠ 99 → knd G (ar k) = aK k := fun k hk => (hM.2.1 k hk).2.1
  refine ⟨fun e => ?_, fun e => ?_, fun k h e => ?_, fun e => ?_, fun e => ?_, fun e => ?_, fun e => ?_, fun e => ?_, fun k h e => ?_, fun e => ?_, fun k h e => ?_, fun e => ?_⟩
  · rw [e, x1] at hm; cases hm
  · rw [e, x6] at hm; cases hm
  · have q := hk k h; rw [e, x1] at q; have := aK_k h; omega
  · rw [e, x1] at r1; cases r1
  · rw [e, x6] at r1; cases r1
  · rw [e, x1] at b1; cases b1
  · rw [e, x6] at b1; cases b1
  · rw [e, hm] at r1; cases r1
  · have q := hk k h; rw [← e, r1] at q; have := aK_k h; omega
  · rw [e, hm] at b1; cases b1
  · have q := hk k h; rw [← e, b1] at q; have := aK_k h; omega
  · rw [e, r1] at b1; cases b1
/-- the class did something: its own state is new, all else as it was -/
theorem LI.cls (h : LI G K b L xs m ar x tp tk res ad C S) {tk' : Nat} {ad' C' S' : St} (hX : XI G' K x tp tk' ad' C' S') (hf : FrX K x tp G G') :
    RepM G' m ar S ∧ knd G' res = 10 ∧ gn G' res = 1 ∧ knd G' b = 14 ∧ gn G' b = L ∧ (∀ j, gi G' b j = xs j) := by
  obtain ⟨n1, n2, n3, n4, n5, n6, n7, -⟩ := h.ne
  obtain ⟨hM, hX0, ⟨k1, k2, k3, k4⟩, ht, r1, r2, b1, b2, b3⟩ := h
  have er := hf res n4 n5 k3
  have eb := hf b n6 n7 k4
  refine ⟨hM.same (hf m n1 n2 k1) (fun k hk => hf _ (n3 k hk) (fun e => ht k hk e.symm) (k2 k hk)), ?_, ?_, ?_, ?_, fun j => ?_⟩
  · unfold knd; rw [er]; exact r1
  · unfold gn; rw [er]; exact r2
  · unfold knd; rw [eb]; exact b1
  · unfold gn; rw [eb]; exact b2
  · unfold gi; rw [eb]; exact b3 j
/-- XI where nothing of it was touched -/
theorem XI.same {S : St} (h : XI G K x tp tk ad C S) (hk : ∀ y, K y → knd G' y ≠ 99) (hs : ∀ y, ¬ K y → G' y = G y) (h1 : G' x = G x) (h2 : G' tp = G tp) : XI G' K x tp tk ad C S := by
  obtain ⟨a1, a2, a3, a4, a5, a6, a7⟩ := h
  exact ⟨a1.same h1 h2 (hs tk a7), a2.same hk (fun s i hv => hs _ (a2.nK hv)) (fun s i hv => a2.nK hv), a3, a4, a5, a6, a7⟩
/-- the answer is noted in res -/
theorem XI.note {S : St} (h : XI G K x tp tk ad C S) (hK : K res) (hx : res ≠ x) (ht : res ≠ tp) {z : Int64} : XI (sL G res 0 z) K x tp tk ad C S := by
  have o : ∀ y, y ≠ res → sL G res 0 z y = G y := fun y hy => by unfold sL va_up; rw [if_neg hy]
  exact h.same (fun y hy => by rw [knd_sL]; exact h.2.1.1 y hy) (fun y hy => o y (fun e => hy (e ▸ hK))) (o x hx.symm) (o tp ht.symm)
/-- the model did its part -/
theorem LI.mdl {S0 : St} (hM0 : RepM G m ar S0) (hX : XI G K x tp tk ad C S) (hK : K m ∧ (∀ k, aK k ≠ 99 → K (ar k)) ∧ K res ∧ K b) (ht : ∀ k, aK k ≠ 99 → tp ≠ ar k) (r1 : knd G res = 10) (r2 : gn G res = 1) (b1 : knd G b = 14) (b2 : gn G b = L) (b3 : ∀ j, gi G b j = xs j)
    (hM : RepM G' m ar S) (hf : Fr m ar G G') : LI G' K b L xs m ar x tp tk res ad C S := by
  have l0 : LI G K b L xs m ar x tp tk res ad C S ∨ True := Or.inr trivial
  have hm := hM0.1
  have hk : ∀ k, aK k ≠ 99 → knd G (ar k) = aK k := fun k hk => (hM0.2.1 k hk).2.1
  obtain ⟨x1, -, -, -, -, x6, -⟩ := id hX.1
  have ne : ∀ y kd, knd G y = kd → kd ≠ 6 → (∀ k, aK k ≠ 99 → y ≠ ar k) → G' y = G y := fun y kd h1 h2 h3 => hf y (fun e => h2 (by rw [← h1, e, hm])) h3
  have nk : ∀ y kd, knd G y = kd → (kd < 7 ∨ 10 ≤ kd) → ∀ k, aK k ≠ 99 → y ≠ ar k := fun y kd h1 h2 k h e => by
    have q := hk k h; rw [← e, h1] at q; have := aK_k h; omega
  have ex := ne x 5 x1 (by decide) (nk x 5 x1 (Or.inl (by decide)))
  have et := ne tp 7 x6 (by decide) ht
  have er := ne res 10 r1 (by decide) (nk res 10 r1 (Or.inr (by decide)))
  have eb := ne b 14 b1 (by decide) (nk b 14 b1 (Or.inr (by decide)))
  have hs : ∀ y, ¬ K y → G' y = G y := fun y hy => hf y (fun e => hy (e ▸ hK.1)) (fun k hk e => hy (by rw [e]; exact hK.2.1 k hk))
  refine ⟨hM, hX.same (fun y hy => ?_) hs ex et, hK, ht, ?_, ?_, ?_, ?_, fun j => ?_⟩
  · by_cases e : y = m
    · rw [e, hM.1]; decide
    · by_cases e2 : ∃ k, aK k ≠ 99 ∧ y = ar k
      · obtain ⟨k, h1, rfl⟩ := e2
        rw [(hM.2.1 k h1).2.1]; exact h1
      · have := hf y e (fun k h1 h2 => e2 ⟨k, h1, h2⟩)
        have q := hX.2.1.1 y hy
        unfold knd at q ⊢; rw [this]; exact q
  · unfold knd; rw [er]; exact r1
  · unfold gn; rw [er]; exact r2
  · unfold knd; rw [eb]; exact b1
  · unfold gn; rw [eb]; exact b2
  · unfold gi; rw [eb]; exact b3 j
end LL
