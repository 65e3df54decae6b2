theorem vldC {C : St} {s i : Nat} (h : vld C s i) : (s = 1 ∧ i = 0) ∨ (s = 7 ∧ i = 0) ∨ (s = 8 ∧ i = 0) ∨ (s = 9 ∧ i = 0) ∨ (s = 10 ∧ i = 0) ∨ (s = 2 ∧ i < C 1 0) ∨ (s = 3 ∧ i < C 1 0) ∨ (s = 14 ∧ i < C 1 0) ∨ (s = 11 ∧ i < C 1 0) ∨ (s = 4 ∧ i < C 6 0) ∨ (s = 13 ∧ i < C 6 0) ∨ (s = 5 ∧ ∃ v f, i = 4000 * v + f ∧ v < C 1 0 ∧ f < C 29 v ∧ f < 4000) := by
  unfold vld at h
  split at h <;> first | (cases h; done) | (simp; omega) | skip
  obtain ⟨h1, h2⟩ := h
  simp
  exact ⟨i / 4000, i % 4000, by omega, h1, h2, by omega⟩
theorem dv4 (v f : Nat) (h : f < 4000) : (4000 * v + f) / 4000 = v ∧ (4000 * v + f) % 4000 = f := by omega
def nxf (ad C : St) (v f : Nat) : Option Nat := if (C 30 v ≤ f ∧ f + 1 < C 29 v) ∨ (C 32 v ≤ f ∧ f + 1 < C 31 v) then some (ad 5 (4000 * v + f + 1)) else none
theorem nxo_e {ad C : St} {v f : Nat} (h : f < 4000) : nxo ad C (4000 * v + f) = nxf ad C v f := by
  unfold nxo nxf; rw [(dv4 v f h).1, (dv4 v f h).2]
section SH
variable {G G' : GG} {K : Nat → Prop} {ad C C' : St}
theorem vld_eq (h1 : C' 1 0 = C 1 0) (h6 : C' 6 0 = C 6 0) (h29 : ∀ v, C' 29 v = C 29 v) (s i : Nat) : vld C' s i = vld C s i := by
  unfold vld; split <;> simp [h1, h6, h29]
/-- only references of the link change, and what C tells of them -/
theorem RepL.shape (h : RepL G K ad C) (hk : ∀ b, knd G' b = knd G b) (hi : ∀ b k, gi G' b k = gi G b k) (hv : ∀ s i, vld C' s i = vld C s i)
    (hO : ∀ c i, isO c = true ∨ isA c = true ∨ c = 17 → C' c i = C c i) (hR : ∀ s i, vld C s i → Ref G ad C s i → Ref G' ad C' s i) : RepL G' K ad C' := by
  obtain ⟨q1, q2, q3, q4, q5⟩ := h
  refine ⟨fun b hb => by rw [hk]; exact q1 b hb, fun s j hj => ?_, fun s t i j hs ht => ?_, fun c hc j hj => ?_, fun c hc j k hj hk' => ?_⟩
  · rw [hv] at hj; rw [hk]; exact ⟨(q2 s j hj).1, (q2 s j hj).2.1, hR s j hj (q2 s j hj).2.2⟩
  · rw [hv] at hs ht; exact q3 s t i j hs ht
  · rw [hv] at hj; rw [hi, hO c j (Or.inl hc)]; exact q4 c hc j hj
  · rw [hv] at hj
    have e : aL C' c j = aL C c j := by unfold aL; split <;> simp [hO 17 _ (Or.inr (Or.inr rfl))]
    rw [e] at hk'; rw [hi, hO c _ (Or.inr (Or.inl hc))]; exact q5 c hc j k hj hk'
/-- another heap, the same on the link's memory -/
theorem RepL.same (h : RepL G K ad C) {K' : Nat → Prop} (hk : ∀ b, K' b → knd G' b ≠ 99) (hs : ∀ s i, vld C s i → G' (ad s i) = G (ad s i)) (hK : ∀ s i, vld C s i → ¬ K' (ad s i)) : RepL G' K' ad C := by
  obtain ⟨q1, q2, q3, q4, q5⟩ := h
  refine ⟨hk, fun s j hj => ?_, q3, fun c hc j hj => ?_, fun c hc j k hj hk' => ?_⟩
  · obtain ⟨r1, r2, r3⟩ := q2 s j hj
    have e := hs s j hj
    refine ⟨by unfold knd at r1 ⊢; rw [e]; exact r1, hK s j hj, ?_⟩
    unfold Ref at r3 ⊢
    split at r3 <;> simp only [gr, gn] at r3 ⊢ <;> first | (rw [e]; exact r3) | skip
  · have := q4 c hc j hj; unfold gi at this ⊢; rw [hs _ _ hj]; exact this
  · have := q5 c hc j k hj hk'; unfold gi at this ⊢; rw [hs _ _ hj]; exact this
theorem RepL.wk (h : RepL G K ad C) {K' : Nat → Prop} (hk : ∀ b, K' b → K b) : RepL G K' ad C := h.same (fun b q => h.1 b (hk b q)) (fun _ _ _ => rfl) (fun s i hv q => h.nK hv (hk _ q))
/-- a new object, protected -/
theorem RepL.prot (h : RepL G K ad C) {a : Nat} (h9 : knd G a = 99) (ha : knd G' a ≠ 99) (hs : ∀ b, b ≠ a → G' b = G b) : RepL G' (fun b => K b ∨ b = a) ad C := by
  have hd : ∀ s i, vld C s i → ad s i ≠ a := fun s i hv e => by
    have := (h.2.1 s i hv).1; rw [e, h9] at this; unfold sk at this; unfold vld at hv; split at hv <;> simp at this hv
  refine h.same (fun b q => ?_) (fun s i hv => hs _ (hd s i hv)) (fun s i hv q => ?_)
  · by_cases e : b = a
    · rw [e]; exact ha
    · have := h.1 b (q.resolve_right e); unfold knd at this ⊢; rw [hs b e]; exact this
  · exact q.elim (h.nK hv) (hd s i hv)
end SH
def adH (G : GG) (q f : Nat) : GG := sR (match gr G q 1 with | none => sR G q 0 (some f) | some l => sR G l 2 (some f)) q 1 (some f)
def addG (G : GG) (q f : Nat) : GG := sI (adH G q f) q 2 (gi G q 2 + 1)
def remG (G : GG) (q f : Nat) : GG := sI (if gr G f 2 = none then sR (sR (sR G q 0 (gr G f 2)) f 2 none) q 1 none else sR (sR G q 0 (gr G f 2)) f 2 none) q 2 (gi G q 2 - 1)
theorem FrK.rem {K : Nat → Prop} {G G1 : GG} (h : FrK K G G1) {q f : Nat} (hq : ¬ K q ∧ knd G1 q ≠ 7) (hf : ¬ K f ∧ knd G1 f ≠ 7) : FrK K G (remG G1 q f) := by
  unfold remG
  split
  · exact (((h.r hq).r (by rw [knd_sR]; exact hf)).r (by rw [knd_sR, knd_sR]; exact hq)).i (by rw [knd_sR, knd_sR, knd_sR]; exact hq)
  · exact ((h.r hq).r (by rw [knd_sR]; exact hf)).i (by rw [knd_sR, knd_sR]; exact hq)
theorem FrK.add {K : Nat → Prop} {G G1 : GG} (h : FrK K G G1) {q f : Nat} (hq : ¬ K q ∧ knd G1 q ≠ 7) (hf : ∀ l, gr G1 q 1 = some l → ¬ K l ∧ knd G1 l ≠ 7) : FrK K G (addG G1 q f) := by
  unfold addG adH
  cases e : gr G1 q 1 with
  | none => exact ((h.r hq).r (by rw [knd_sR]; exact hq)).i (by rw [knd_sR, knd_sR]; exact hq)
  | some l => exact ((h.r (hf l e)).r (by rw [knd_sR]; exact hq)).i (by rw [knd_sR, knd_sR]; exact hq)
section QQ
variable {G : GG} {K : Nat → Prop} {ad C : St}
theorem RepL.wireS (hR : RepL G K ad C) {k x : Nat} {o : Option Nat} (hk : k < 16) (ho : o = wc ad x) : RepL (sR G (ad 9 0) k o) K ad (up C 48 k x) := by
  refine hR.shape (fun b => knd_sR ..) (fun b k => gi_sR ..) (vld_eq (by simp [up_n]) (by simp [up_n]) (fun _ => by simp [up_n])) (fun c i hc => by rw [up_n, if_neg]; rintro ⟨rfl, -⟩; simp [isO, isA] at hc) (fun s i hv' hr => ?_)
  rcases vldC hv' with ⟨rfl, rfl⟩ | ⟨rfl, rfl⟩ | ⟨rfl, rfl⟩ | ⟨rfl, rfl⟩ | ⟨rfl, rfl⟩ | ⟨rfl, hi⟩ | ⟨rfl, hi⟩ | ⟨rfl, hi⟩ | ⟨rfl, hi⟩ | ⟨rfl, hi⟩ | ⟨rfl, hi⟩ | ⟨rfl, u, g, rfl, hu, hg, h4⟩
  · simp only [Ref, gr_sR, gn_sR, up_n, Nat.reduceEqDiff, reduceIte, true_and, nxo, hR.d1_9, false_and, if_false] at hr ⊢; exact hr
  · simp only [Ref, gr_sR, gn_sR, up_n, Nat.reduceEqDiff, reduceIte, true_and, nxo, hR.d7_9, false_and, if_false] at hr ⊢; exact hr
  · simp only [Ref, gr_sR, gn_sR, up_n, Nat.reduceEqDiff, reduceIte, true_and, nxo, hR.d8_9, false_and, if_false] at hr ⊢; exact hr
  · simp only [Ref, gr_sR, gn_sR, up_n, true_and] at hr ⊢
    refine ⟨hr.1, fun j hj => ?_⟩
    by_cases e : j = k
    · subst e; simp [ho]
    · simp only [e, if_false]; exact hr.2 j hj
  · simp only [Ref, gr_sR, gn_sR, up_n, Nat.reduceEqDiff, reduceIte, true_and, nxo, hR.d10_9, false_and, if_false] at hr ⊢; exact hr
  · simp only [Ref, gr_sR, gn_sR, up_n, Nat.reduceEqDiff, reduceIte, true_and, nxo, hR.d2_9 hi, false_and, if_false] at hr ⊢; exact hr
  · simp only [Ref, gr_sR, gn_sR, up_n, Nat.reduceEqDiff, reduceIte, true_and, nxo, hR.d3_9 hi, false_and, if_false] at hr ⊢; exact hr
  · simp only [Ref, gr_sR, gn_sR, up_n, Nat.reduceEqDiff, reduceIte, true_and, nxo, hR.d14_9 hi, false_and, if_false] at hr ⊢; exact hr
  · simp only [Ref, gr_sR, gn_sR, up_n, Nat.reduceEqDiff, reduceIte, true_and, nxo, hR.d11_9 hi, false_and, if_false] at hr ⊢; exact hr
  · simp only [Ref, gr_sR, gn_sR, up_n, Nat.reduceEqDiff, reduceIte, true_and, nxo, hR.d4_9 hi, false_and, if_false] at hr ⊢; exact hr
  · simp only [Ref, gr_sR, gn_sR, up_n, Nat.reduceEqDiff, reduceIte, true_and, nxo, ] at hr ⊢; exact hr
  · simp only [Ref, gr_sR, gn_sR, up_n, Nat.reduceEqDiff, reduceIte, true_and, nxo, hR.d5_9 hu hg h4, false_and, if_false] at hr ⊢; exact hr
theorem RepL.rem14 (hR : RepL G K ad C) {v : Nat} (hv : v < C 1 0) (h0 : C 32 v < C 31 v) (h1 : C 31 v ≤ C 29 v) (h2 : C 29 v < 4000) (h3 : 1 ≤ C 52 v) (h5 : C 32 v ≤ C 31 v) (h6 : C 31 v ≤ C 30 v) (h7 : C 30 v ≤ C 29 v) : RepL (remG G (ad 14 v) (ad 5 (4000 * v + C 32 v))) K ad (up (up C 32 v (C 32 v + 1)) 52 v (C 52 v - 1)) := by
  have hf : C 32 v < C 29 v := by omega
  have hf4 : C 32 v < 4000 := by omega
  have en : gr G (ad 5 (4000 * v + C 32 v)) 2 = if C 32 v + 1 < C 31 v then some (ad 5 (4000 * v + C 32 v + 1)) else none := by
    rw [hR.r5_2 hv hf hf4, nxo_e hf4]
    by_cases e : C 32 v + 1 < C 31 v
    · rw [if_pos e]; exact if_pos (by omega)
    · rw [if_neg e]; exact if_neg (by omega)
  unfold remG
  refine RepL.setO (c := 52) (C := up C 32 v (C 32 v + 1)) ?_ rfl (by simpa [cs, vld, up_n] using hv) (by rw [hR.o52 hv, l_1, q_sub h3])
  refine hR.shape (fun b => by split <;> simp only [knd_sR]) (fun b k => by split <;> simp only [gi_sR]) (vld_eq (by simp [up_n]) (by simp [up_n]) (fun _ => by simp [up_n])) (fun c i hc => by rw [up_n, if_neg]; rintro ⟨rfl, -⟩; simp [isO, isA] at hc) (fun s i hv' hr => ?_)
  rw [en]
  by_cases e : C 32 v + 1 < C 31 v
  · simp only [e, if_true, reduceCtorEq, if_false]
    rcases vldC hv' with ⟨rfl, rfl⟩ | ⟨rfl, rfl⟩ | ⟨rfl, rfl⟩ | ⟨rfl, rfl⟩ | ⟨rfl, rfl⟩ | ⟨rfl, hi⟩ | ⟨rfl, hi⟩ | ⟨rfl, hi⟩ | ⟨rfl, hi⟩ | ⟨rfl, hi⟩ | ⟨rfl, hi⟩ | ⟨rfl, u, g, rfl, hu, hg, h4⟩
    · simp only [Ref, gr_sR, gn_sR, up_n, Nat.reduceEqDiff, reduceIte, true_and, hR.d1_14  hv, hR.d1_5  hv hf hf4, false_and, if_false] at hr ⊢; exact hr
    · simp only [Ref, gr_sR, gn_sR, up_n, Nat.reduceEqDiff, reduceIte, true_and, hR.d7_14  hv, hR.d7_5  hv hf hf4, false_and, if_false] at hr ⊢; exact hr
    · simp only [Ref, gr_sR, gn_sR, up_n, Nat.reduceEqDiff, reduceIte, true_and, hR.d8_14  hv, hR.d8_5  hv hf hf4, false_and, if_false] at hr ⊢; exact hr
    · simp only [Ref, gr_sR, gn_sR, up_n, Nat.reduceEqDiff, reduceIte, true_and, hR.d9_14  hv, hR.d9_5  hv hf hf4, false_and, if_false] at hr ⊢; exact hr
    · simp only [Ref, gr_sR, gn_sR, up_n, Nat.reduceEqDiff, reduceIte, true_and, hR.d10_14  hv, hR.d10_5  hv hf hf4, false_and, if_false] at hr ⊢; exact hr
    · simp only [Ref, gr_sR, gn_sR, up_n, Nat.reduceEqDiff, reduceIte, true_and, hR.d2_14 hi hv, hR.d2_5 hi hv hf hf4, false_and, if_false] at hr ⊢; exact hr
    · simp only [Ref, gr_sR, gn_sR, up_n, Nat.reduceEqDiff, reduceIte, true_and, hR.d3_14 hi hv, hR.d3_5 hi hv hf hf4, false_and, if_false] at hr ⊢; exact hr
    · simp only [Ref, gr_sR, gn_sR, up_n, Nat.reduceEqDiff, reduceIte, true_and, hR.d14_5 hi hv hf hf4, hR.d14_14 hi hv, false_and, if_false, Nat.reduceEqDiff, and_false, and_true] at hr ⊢
      by_cases q : i = v
      · subst q
        simp only [if_true, qf, ql, e, h0] at hr ⊢
        exact ⟨by rw [Nat.add_assoc], hr.2⟩
      · simp only [q, if_false]; exact hr
    · simp only [Ref, gr_sR, gn_sR, up_n, Nat.reduceEqDiff, reduceIte, true_and, hR.d11_14 hi hv, hR.d11_5 hi hv hf hf4, false_and, if_false] at hr ⊢; exact hr
    · simp only [Ref, gr_sR, gn_sR, up_n, Nat.reduceEqDiff, reduceIte, true_and, hR.d4_14 hi hv, hR.d4_5 hi hv hf hf4, false_and, if_false] at hr ⊢; exact hr
    · simp only [Ref, gr_sR, gn_sR, up_n, Nat.reduceEqDiff, reduceIte, true_and, ] at hr ⊢; exact hr
    · simp only [Ref, gr_sR, gn_sR, up_n, Nat.reduceEqDiff, reduceIte, true_and, hR.d5_14 hu hg h4 hv, hR.d5_5 hu hg h4 hv hf hf4, false_and, if_false, nxo_e h4, Nat.reduceEqDiff, and_false, and_true, nxf] at hr ⊢
      refine ⟨hr.1, ?_⟩
      by_cases q : u = v ∧ g = C 32 v
      · obtain ⟨rfl, rfl⟩ := q
        rw [if_pos ⟨rfl, rfl⟩]
        simp only [if_true]
        rw [if_neg (by omega)]
      · rw [if_neg q, hr.2]
        by_cases q1 : u = v
        · subst q1
          simp only [if_true]
          have q2 : g ≠ C 32 u := fun q3 => q ⟨rfl, q3⟩
          congr 1
          apply propext; omega
        · simp only [q1, if_false]
  · simp only [e, if_false, if_true]
    rcases vldC hv' with ⟨rfl, rfl⟩ | ⟨rfl, rfl⟩ | ⟨rfl, rfl⟩ | ⟨rfl, rfl⟩ | ⟨rfl, rfl⟩ | ⟨rfl, hi⟩ | ⟨rfl, hi⟩ | ⟨rfl, hi⟩ | ⟨rfl, hi⟩ | ⟨rfl, hi⟩ | ⟨rfl, hi⟩ | ⟨rfl, u, g, rfl, hu, hg, h4⟩
    · simp only [Ref, gr_sR, gn_sR, up_n, Nat.reduceEqDiff, reduceIte, true_and, hR.d1_14  hv, hR.d1_5  hv hf hf4, false_and, if_false] at hr ⊢; exact hr
    · simp only [Ref, gr_sR, gn_sR, up_n, Nat.reduceEqDiff, reduceIte, true_and, hR.d7_14  hv, hR.d7_5  hv hf hf4, false_and, if_false] at hr ⊢; exact hr
    · simp only [Ref, gr_sR, gn_sR, up_n, Nat.reduceEqDiff, reduceIte, true_and, hR.d8_14  hv, hR.d8_5  hv hf hf4, false_and, if_false] at hr ⊢; exact hr
    · simp only [Ref, gr_sR, gn_sR, up_n, Nat.reduceEqDiff, reduceIte, true_and, hR.d9_14  hv, hR.d9_5  hv hf hf4, false_and, if_false] at hr ⊢; exact hr
    · simp only [Ref, gr_sR, gn_sR, up_n, Nat.reduceEqDiff, reduceIte, true_and, hR.d10_14  hv, hR.d10_5  hv hf hf4, false_and, if_false] at hr ⊢; exact hr
    · simp only [Ref, gr_sR, gn_sR, up_n, Nat.reduceEqDiff, reduceIte, true_and, hR.d2_14 hi hv, hR.d2_5 hi hv hf hf4, false_and, if_false] at hr ⊢; exact hr
    · simp only [Ref, gr_sR, gn_sR, up_n, Nat.reduceEqDiff, reduceIte, true_and, hR.d3_14 hi hv, hR.d3_5 hi hv hf hf4, false_and, if_false] at hr ⊢; exact hr
    · simp only [Ref, gr_sR, gn_sR, up_n, Nat.reduceEqDiff, reduceIte, true_and, hR.d14_5 hi hv hf hf4, hR.d14_14 hi hv, false_and, if_false, Nat.reduceEqDiff, and_false, and_true] at hr ⊢
      by_cases q : i = v
      · subst q
        simp only [if_true, qf, ql, e, if_false]
        exact ⟨trivial, trivial⟩
      · simp only [q, if_false]; exact hr
    · simp only [Ref, gr_sR, gn_sR, up_n, Nat.reduceEqDiff, reduceIte, true_and, hR.d11_14 hi hv, hR.d11_5 hi hv hf hf4, false_and, if_false] at hr ⊢; exact hr
    · simp only [Ref, gr_sR, gn_sR, up_n, Nat.reduceEqDiff, reduceIte, true_and, hR.d4_14 hi hv, hR.d4_5 hi hv hf hf4, false_and, if_false] at hr ⊢; exact hr
    · simp only [Ref, gr_sR, gn_sR, up_n, Nat.reduceEqDiff, reduceIte, true_and, ] at hr ⊢; exact hr
    · simp only [Ref, gr_sR, gn_sR, up_n, Nat.reduceEqDiff, reduceIte, true_and, hR.d5_14 hu hg h4 hv, hR.d5_5 hu hg h4 hv hf hf4, false_and, if_false, nxo_e h4, Nat.reduceEqDiff, and_false, and_true, nxf] at hr ⊢
      refine ⟨hr.1, ?_⟩
      by_cases q : u = v ∧ g = C 32 v
      · obtain ⟨rfl, rfl⟩ := q
        rw [if_pos ⟨rfl, rfl⟩]
        simp only [if_true]
        rw [if_neg (by omega)]
      · rw [if_neg q, hr.2]
        by_cases q1 : u = v
        · subst q1
          simp only [if_true]
          have q2 : g ≠ C 32 u := fun q3 => q ⟨rfl, q3⟩
          congr 1
          apply propext; omega
        · simp only [q1, if_false]
theorem RepL.rem3 (hR : RepL G K ad C) {v : Nat} (hv : v < C 1 0) (h0 : C 30 v < C 29 v) (h1 : C 29 v ≤ C 29 v) (h2 : C 29 v < 4000) (h3 : 1 ≤ C 51 v) (h5 : C 32 v ≤ C 31 v) (h6 : C 31 v ≤ C 30 v) (h7 : C 30 v ≤ C 29 v) : RepL (remG G (ad 3 v) (ad 5 (4000 * v + C 30 v))) K ad (up (up C 30 v (C 30 v + 1)) 51 v (C 51 v - 1)) := by
  have hf : C 30 v < C 29 v := by omega
  have hf4 : C 30 v < 4000 := by omega
  have en : gr G (ad 5 (4000 * v + C 30 v)) 2 = if C 30 v + 1 < C 29 v then some (ad 5 (4000 * v + C 30 v + 1)) else none := by
    rw [hR.r5_2 hv hf hf4, nxo_e hf4]
    by_cases e : C 30 v + 1 < C 29 v
    · rw [if_pos e]; exact if_pos (by omega)
    · rw [if_neg e]; exact if_neg (by omega)
  unfold remG
  refine RepL.setO (c := 51) (C := up C 30 v (C 30 v + 1)) ?_ rfl (by simpa [cs, vld, up_n] using hv) (by rw [hR.o51 hv, l_1, q_sub h3])
  refine hR.shape (fun b => by split <;> simp only [knd_sR]) (fun b k => by split <;> simp only [gi_sR]) (vld_eq (by simp [up_n]) (by simp [up_n]) (fun _ => by simp [up_n])) (fun c i hc => by rw [up_n, if_neg]; rintro ⟨rfl, -⟩; simp [isO, isA] at hc) (fun s i hv' hr => ?_)
  rw [en]
  by_cases e : C 30 v + 1 < C 29 v
  · simp only [e, if_true, reduceCtorEq, if_false]
    rcases vldC hv' with ⟨rfl, rfl⟩ | ⟨rfl, rfl⟩ | ⟨rfl, rfl⟩ | ⟨rfl, rfl⟩ | ⟨rfl, rfl⟩ | ⟨rfl, hi⟩ | ⟨rfl, hi⟩ | ⟨rfl, hi⟩ | ⟨rfl, hi⟩ | ⟨rfl, hi⟩ | ⟨rfl, hi⟩ | ⟨rfl, u, g, rfl, hu, hg, h4⟩
    · simp only [Ref, gr_sR, gn_sR, up_n, Nat.reduceEqDiff, reduceIte, true_and, hR.d1_3  hv, hR.d1_5  hv hf hf4, false_and, if_false] at hr ⊢; exact hr
    · simp only [Ref, gr_sR, gn_sR, up_n, Nat.reduceEqDiff, reduceIte, true_and, hR.d7_3  hv, hR.d7_5  hv hf hf4, false_and, if_false] at hr ⊢; exact hr
    · simp only [Ref, gr_sR, gn_sR, up_n, Nat.reduceEqDiff, reduceIte, true_and, hR.d8_3  hv, hR.d8_5  hv hf hf4, false_and, if_false] at hr ⊢; exact hr
    · simp only [Ref, gr_sR, gn_sR, up_n, Nat.reduceEqDiff, reduceIte, true_and, hR.d9_3  hv, hR.d9_5  hv hf hf4, false_and, if_false] at hr ⊢; exact hr
    · simp only [Ref, gr_sR, gn_sR, up_n, Nat.reduceEqDiff, reduceIte, true_and, hR.d10_3  hv, hR.d10_5  hv hf hf4, false_and, if_false] at hr ⊢; exact hr
    · simp only [Ref, gr_sR, gn_sR, up_n, Nat.reduceEqDiff, reduceIte, true_and, hR.d2_3 hi hv, hR.d2_5 hi hv hf hf4, false_and, if_false] at hr ⊢; exact hr
    · simp only [Ref, gr_sR, gn_sR, up_n, Nat.reduceEqDiff, reduceIte, true_and, hR.d3_5 hi hv hf hf4, hR.d3_3 hi hv, false_and, if_false, Nat.reduceEqDiff, and_false, and_true] at hr ⊢
      by_cases q : i = v
      · subst q
        simp only [if_true, qf, ql, e, h0] at hr ⊢
        exact ⟨by rw [Nat.add_assoc], hr.2⟩
      · simp only [q, if_false]; exact hr
    · simp only [Ref, gr_sR, gn_sR, up_n, Nat.reduceEqDiff, reduceIte, true_and, hR.d14_3 hi hv, hR.d14_5 hi hv hf hf4, false_and, if_false] at hr ⊢; exact hr
    · simp only [Ref, gr_sR, gn_sR, up_n, Nat.reduceEqDiff, reduceIte, true_and, hR.d11_3 hi hv, hR.d11_5 hi hv hf hf4, false_and, if_false] at hr ⊢; exact hr
    · simp only [Ref, gr_sR, gn_sR, up_n, Nat.reduceEqDiff, reduceIte, true_and, hR.d4_3 hi hv, hR.d4_5 hi hv hf hf4, false_and, if_false] at hr ⊢; exact hr
    · simp only [Ref, gr_sR, gn_sR, up_n, Nat.reduceEqDiff, reduceIte, true_and, ] at hr ⊢; exact hr
    · simp only [Ref, gr_sR, gn_sR, up_n, Nat.reduceEqDiff, reduceIte, true_and, hR.d5_3 hu hg h4 hv, hR.d5_5 hu hg h4 hv hf hf4, false_and, if_false, nxo_e h4, Nat.reduceEqDiff, and_false, and_true, nxf] at hr ⊢
      refine ⟨hr.1, ?_⟩
      by_cases q : u = v ∧ g = C 30 v
      · obtain ⟨rfl, rfl⟩ := q
        rw [if_pos ⟨rfl, rfl⟩]
        simp only [if_true]
        rw [if_neg (by omega)]
      · rw [if_neg q, hr.2]
        by_cases q1 : u = v
        · subst q1
          simp only [if_true]
          have q2 : g ≠ C 30 u := fun q3 => q ⟨rfl, q3⟩
          congr 1
          apply propext; omega
        · simp only [q1, if_false]
  · simp only [e, if_false, if_true]
    rcases vldC hv' with ⟨rfl, rfl⟩ | ⟨rfl, rfl⟩ | ⟨rfl, rfl⟩ | ⟨rfl, rfl⟩ | ⟨rfl, rfl⟩ | ⟨rfl, hi⟩ | ⟨rfl, hi⟩ | ⟨rfl, hi⟩ | ⟨rfl, hi⟩ | ⟨rfl, hi⟩ | ⟨rfl, hi⟩ | ⟨rfl, u, g, rfl, hu, hg, h4⟩
    · simp only [Ref, gr_sR, gn_sR, up_n, Nat.reduceEqDiff, reduceIte, true_and, hR.d1_3  hv, hR.d1_5  hv hf hf4, false_and, if_false] at hr ⊢; exact hr
    · simp only [Ref, gr_sR, gn_sR, up_n, Nat.reduceEqDiff, reduceIte, true_and, hR.d7_3  hv, hR.d7_5  hv hf hf4, false_and, if_false] at hr ⊢; exact hr
    · simp only [Ref, gr_sR, gn_sR, up_n, Nat.reduceEqDiff, reduceIte, true_and, hR.d8_3  hv, hR.d8_5  hv hf hf4, false_and, if_false] at hr ⊢; exact hr
    · simp only [Ref, gr_sR, gn_sR, up_n, Nat.reduceEqDiff, reduceIte, true_and, hR.d9_3  hv, hR.d9_5  hv hf hf4, false_and, if_false] at hr ⊢; exact hr
    · simp only [Ref, gr_sR, gn_sR, up_n, Nat.reduceEqDiff, reduceIte, true_and, hR.d10_3  hv, hR.d10_5  hv hf hf4, false_and, if_false] at hr ⊢; exact hr
    · simp only [Ref, gr_sR, gn_sR, up_n, Nat.reduceEqDiff, reduceIte, true_and, hR.d2_3 hi hv, hR.d2_5 hi hv hf hf4, false_and, if_false] at hr ⊢; exact hr
    · simp only [Ref, gr_sR, gn_sR, up_n, Nat.reduceEqDiff, reduceIte, true_and, hR.d3_5 hi hv hf hf4, hR.d3_3 hi hv, false_and, if_false, Nat.reduceEqDiff, and_false, and_true] at hr ⊢
      by_cases q : i = v
      · subst q
        simp only [if_true, qf, ql, e, if_false]
        exact ⟨trivial, trivial⟩
      · simp only [q, if_false]; exact hr
    · simp only [Ref, gr_sR, gn_sR, up_n, Nat.reduceEqDiff, reduceIte, true_and, hR.d14_3 hi hv, hR.d14_5 hi hv hf hf4, false_and, if_false] at hr ⊢; exact hr
    · simp only [Ref, gr_sR, gn_sR, up_n, Nat.reduceEqDiff, reduceIte, true_and, hR.d11_3 hi hv, hR.d11_5 hi hv hf hf4, false_and, if_false] at hr ⊢; exact hr
    · simp only [Ref, gr_sR, gn_sR, up_n, Nat.reduceEqDiff, reduceIte, true_and, hR.d4_3 hi hv, hR.d4_5 hi hv hf hf4, false_and, if_false] at hr ⊢; exact hr
    · simp only [Ref, gr_sR, gn_sR, up_n, Nat.reduceEqDiff, reduceIte, true_and, ] at hr ⊢; exact hr
    · simp only [Ref, gr_sR, gn_sR, up_n, Nat.reduceEqDiff, reduceIte, true_and, hR.d5_3 hu hg h4 hv, hR.d5_5 hu hg h4 hv hf hf4, false_and, if_false, nxo_e h4, Nat.reduceEqDiff, and_false, and_true, nxf] at hr ⊢
      refine ⟨hr.1, ?_⟩
      by_cases q : u = v ∧ g = C 30 v
      · obtain ⟨rfl, rfl⟩ := q
        rw [if_pos ⟨rfl, rfl⟩]
        simp only [if_true]
        rw [if_neg (by omega)]
      · rw [if_neg q, hr.2]
        by_cases q1 : u = v
        · subst q1
          simp only [if_true]
          have q2 : g ≠ C 30 u := fun q3 => q ⟨rfl, q3⟩
          congr 1
          apply propext; omega
        · simp only [q1, if_false]
theorem RepL.add14 (hR : RepL G K ad C) {v : Nat} (hv : v < C 1 0) (h2 : C 29 v < 4000) (h5 : C 32 v ≤ C 31 v) (h6 : C 31 v < C 30 v) (h7 : C 30 v ≤ C 29 v) : RepL (addG G (ad 14 v) (ad 5 (4000 * v + C 31 v))) K ad (up (up C 31 v (C 31 v + 1)) 52 v (C 52 v + 1)) := by
  have hf : C 31 v < C 29 v := by omega
  have hf4 : C 31 v < 4000 := by omega
  have hl : C 31 v - 1 < C 29 v := by omega
  have hl4 : C 31 v - 1 < 4000 := by omega
  unfold addG adH
  refine RepL.setO (c := 52) (C := up C 31 v (C 31 v + 1)) ?_ rfl (by simpa [cs, vld, up_n] using hv) (by rw [hR.o52 hv, l_1, nI_add])
  rw [hR.r14_1 hv]
  unfold ql
  by_cases e : C 32 v < C 31 v
  · simp only [e, if_true]
    refine hR.shape (fun b => by simp only [knd_sR]) (fun b k => by simp only [gi_sR]) (vld_eq (by simp [up_n]) (by simp [up_n]) (fun _ => by simp [up_n])) (fun c i hc => by rw [up_n, if_neg]; rintro ⟨rfl, -⟩; simp [isO, isA] at hc) (fun s i hv' hr => ?_)
    rcases vldC hv' with ⟨rfl, rfl⟩ | ⟨rfl, rfl⟩ | ⟨rfl, rfl⟩ | ⟨rfl, rfl⟩ | ⟨rfl, rfl⟩ | ⟨rfl, hi⟩ | ⟨rfl, hi⟩ | ⟨rfl, hi⟩ | ⟨rfl, hi⟩ | ⟨rfl, hi⟩ | ⟨rfl, hi⟩ | ⟨rfl, u, g, rfl, hu, hg, h4⟩
    · simp only [Ref, gr_sR, gn_sR, up_n, Nat.reduceEqDiff, reduceIte, true_and, hR.d1_14  hv, hR.d1_5  hv hl hl4, false_and, if_false] at hr ⊢; exact hr
    · simp only [Ref, gr_sR, gn_sR, up_n, Nat.reduceEqDiff, reduceIte, true_and, hR.d7_14  hv, hR.d7_5  hv hl hl4, false_and, if_false] at hr ⊢; exact hr
    · simp only [Ref, gr_sR, gn_sR, up_n, Nat.reduceEqDiff, reduceIte, true_and, hR.d8_14  hv, hR.d8_5  hv hl hl4, false_and, if_false] at hr ⊢; exact hr
    · simp only [Ref, gr_sR, gn_sR, up_n, Nat.reduceEqDiff, reduceIte, true_and, hR.d9_14  hv, hR.d9_5  hv hl hl4, false_and, if_false] at hr ⊢; exact hr
    · simp only [Ref, gr_sR, gn_sR, up_n, Nat.reduceEqDiff, reduceIte, true_and, hR.d10_14  hv, hR.d10_5  hv hl hl4, false_and, if_false] at hr ⊢; exact hr
    · simp only [Ref, gr_sR, gn_sR, up_n, Nat.reduceEqDiff, reduceIte, true_and, hR.d2_14 hi hv, hR.d2_5 hi hv hl hl4, false_and, if_false] at hr ⊢; exact hr
    · simp only [Ref, gr_sR, gn_sR, up_n, Nat.reduceEqDiff, reduceIte, true_and, hR.d3_14 hi hv, hR.d3_5 hi hv hl hl4, false_and, if_false] at hr ⊢; exact hr
    · simp only [Ref, gr_sR, gn_sR, up_n, Nat.reduceEqDiff, reduceIte, true_and, hR.d14_5 hi hv hl hl4, hR.d14_14 hi hv, false_and, if_false, Nat.reduceEqDiff, and_false, and_true] at hr ⊢
      by_cases q : i = v
      · subst q
        simp only [if_true, qf, ql, e, Nat.lt_succ_of_lt e, Nat.add_sub_cancel] at hr ⊢
        exact ⟨hr.1, trivial⟩
      · simp only [q, if_false]; exact hr
    · simp only [Ref, gr_sR, gn_sR, up_n, Nat.reduceEqDiff, reduceIte, true_and, hR.d11_14 hi hv, hR.d11_5 hi hv hl hl4, false_and, if_false] at hr ⊢; exact hr
    · simp only [Ref, gr_sR, gn_sR, up_n, Nat.reduceEqDiff, reduceIte, true_and, hR.d4_14 hi hv, hR.d4_5 hi hv hl hl4, false_and, if_false] at hr ⊢; exact hr
    · simp only [Ref, gr_sR, gn_sR, up_n, Nat.reduceEqDiff, reduceIte, true_and, ] at hr ⊢; exact hr
    · simp only [Ref, gr_sR, gn_sR, up_n, Nat.reduceEqDiff, reduceIte, true_and, hR.d5_14 hu hg h4 hv, hR.d5_5 hu hg h4 hv hl hl4, false_and, if_false, nxo_e h4, Nat.reduceEqDiff, and_false, and_true, nxf] at hr ⊢
      refine ⟨hr.1, ?_⟩
      by_cases q : u = v ∧ g = C 31 v - 1
      · obtain ⟨rfl, rfl⟩ := q
        rw [if_pos ⟨rfl, rfl⟩]
        simp only [if_true]
        rw [if_pos (by omega), show 4000 * u + (C 31 u - 1) + 1 = 4000 * u + C 31 u by omega]
      · rw [if_neg q, hr.2]
        by_cases q1 : u = v
        · subst q1
          simp only [if_true]
          have q2 : g ≠ C 31 u - 1 := fun q3 => q ⟨rfl, q3⟩
          congr 1
          apply propext; omega
        · simp only [q1, if_false]
  · simp only [e, if_false]
    refine hR.shape (fun b => by simp only [knd_sR]) (fun b k => by simp only [gi_sR]) (vld_eq (by simp [up_n]) (by simp [up_n]) (fun _ => by simp [up_n])) (fun c i hc => by rw [up_n, if_neg]; rintro ⟨rfl, -⟩; simp [isO, isA] at hc) (fun s i hv' hr => ?_)
    rcases vldC hv' with ⟨rfl, rfl⟩ | ⟨rfl, rfl⟩ | ⟨rfl, rfl⟩ | ⟨rfl, rfl⟩ | ⟨rfl, rfl⟩ | ⟨rfl, hi⟩ | ⟨rfl, hi⟩ | ⟨rfl, hi⟩ | ⟨rfl, hi⟩ | ⟨rfl, hi⟩ | ⟨rfl, hi⟩ | ⟨rfl, u, g, rfl, hu, hg, h4⟩
    · simp only [Ref, gr_sR, gn_sR, up_n, Nat.reduceEqDiff, reduceIte, true_and, hR.d1_14  hv, false_and, if_false] at hr ⊢; exact hr
    · simp only [Ref, gr_sR, gn_sR, up_n, Nat.reduceEqDiff, reduceIte, true_and, hR.d7_14  hv, false_and, if_false] at hr ⊢; exact hr
    · simp only [Ref, gr_sR, gn_sR, up_n, Nat.reduceEqDiff, reduceIte, true_and, hR.d8_14  hv, false_and, if_false] at hr ⊢; exact hr
    · simp only [Ref, gr_sR, gn_sR, up_n, Nat.reduceEqDiff, reduceIte, true_and, hR.d9_14  hv, false_and, if_false] at hr ⊢; exact hr
    · simp only [Ref, gr_sR, gn_sR, up_n, Nat.reduceEqDiff, reduceIte, true_and, hR.d10_14  hv, false_and, if_false] at hr ⊢; exact hr
    · simp only [Ref, gr_sR, gn_sR, up_n, Nat.reduceEqDiff, reduceIte, true_and, hR.d2_14 hi hv, false_and, if_false] at hr ⊢; exact hr
    · simp only [Ref, gr_sR, gn_sR, up_n, Nat.reduceEqDiff, reduceIte, true_and, hR.d3_14 hi hv, false_and, if_false] at hr ⊢; exact hr
    · simp only [Ref, gr_sR, gn_sR, up_n, Nat.reduceEqDiff, reduceIte, true_and, hR.d14_14 hi hv, false_and, if_false, Nat.reduceEqDiff, and_false, and_true] at hr ⊢
      by_cases q : i = v
      · subst q
        have e2 : C 32 i = C 31 i := by omega
        simp only [if_true, qf, ql, e2, Nat.lt_succ_self, Nat.add_sub_cancel]
        exact ⟨trivial, trivial⟩
      · simp only [q, if_false]; exact hr
    · simp only [Ref, gr_sR, gn_sR, up_n, Nat.reduceEqDiff, reduceIte, true_and, hR.d11_14 hi hv, false_and, if_false] at hr ⊢; exact hr
    · simp only [Ref, gr_sR, gn_sR, up_n, Nat.reduceEqDiff, reduceIte, true_and, hR.d4_14 hi hv, false_and, if_false] at hr ⊢; exact hr
    · simp only [Ref, gr_sR, gn_sR, up_n, Nat.reduceEqDiff, reduceIte, true_and, ] at hr ⊢; exact hr
    · simp only [Ref, gr_sR, gn_sR, up_n, Nat.reduceEqDiff, reduceIte, true_and, hR.d5_14 hu hg h4 hv, false_and, if_false, nxo_e h4, Nat.reduceEqDiff, and_false, and_true, nxf] at hr ⊢
      refine ⟨hr.1, ?_⟩
      rw [hr.2]
      by_cases q1 : u = v
      · subst q1
        simp only [if_true]
        congr 1
        apply propext; omega
      · simp only [q1, if_false]
end QQ
