/-! ===== the class's link grows ===== -/
theorem RepL.grow {G G' : GG} {K K' : Nat → Prop} {ad ad' C C' : St} (h : RepL G K' ad C) (hK : ∀ b, K b → K' b) (hKk : ∀ b, K b → knd G' b ≠ 99) (N : Nat → Nat → Prop)
    (hk : ∀ s i, vld C s i → knd G' (ad s i) = knd G (ad s i)) (hg : ∀ s i k, vld C s i → gi G' (ad s i) k = gi G (ad s i) k)
    (hv : ∀ s i, vld C' s i → N s i ∨ (vld C s i ∧ ad' s i = ad s i))
    (hN : ∀ s i, N s i → knd G' (ad' s i) = sk s ∧ ¬ K (ad' s i) ∧ Ref G' ad' C' s i)
    (hR : ∀ s i, vld C s i → ad' s i = ad s i → Ref G ad C s i → Ref G' ad' C' s i)
    (hI : ∀ s t i j, N s i → vld C' t j → (s ≠ 13 ∨ t ≠ 13) → ad' s i = ad' t j → s = t ∧ i = j)
    (hO : ∀ c, isO c = true → ∀ i, (N (cs c) i → gi G' (ad' (cs c) i) (cf c) = nI (C' c i)) ∧ (vld C (cs c) i → ad' (cs c) i = ad (cs c) i → ¬ N (cs c) i → C' c i = C c i))
    (hA : ∀ c, isA c = true → ∀ i k, k < aL C' c i → (N (cs c) i → gi G' (ad' (cs c) i) k = nI (C' c (sd c * i + k))) ∧ (vld C (cs c) i → ¬ N (cs c) i → k < aL C c i ∧ C' c (sd c * i + k) = C c (sd c * i + k))) : RepL G' K ad' C' := by
  obtain ⟨q1, q2, q3, q4, q5⟩ := h
  refine ⟨hKk, fun s i hs => ?_, fun s t i j hs ht h13 e => ?_, fun c hc i hi => ?_, fun c hc i k hi hk' => ?_⟩
  · rcases hv s i hs with hn | ⟨ho, e⟩
    · exact hN s i hn
    · obtain ⟨a1, a2, a3⟩ := q2 s i ho
      exact ⟨by rw [e, hk s i ho]; exact a1, fun q => a2 (hK _ (by rw [← e]; exact q)), hR s i ho e a3⟩
  · rcases hv s i hs with hn | ⟨ho, e1⟩
    · exact hI s t i j hn ht (Or.inl h13) e
    · rcases hv t j ht with hn | ⟨ho2, e2⟩
      · obtain ⟨a, b⟩ := hI t s j i hn hs (Or.inr h13) e.symm
        exact ⟨a.symm, b.symm⟩
      · rw [e1, e2] at e
        exact q3 s t i j ho ho2 h13 e
  · by_cases hn : N (cs c) i
    · exact (hO c hc i).1 hn
    · obtain ⟨ho, e⟩ := (hv _ _ hi).resolve_left hn
      rw [e, hg _ _ _ ho, (hO c hc i).2 ho e hn]; exact q4 c hc i ho
  · by_cases hn : N (cs c) i
    · exact (hA c hc i k hk').1 hn
    · obtain ⟨ho, e⟩ := (hv _ _ hi).resolve_left hn
      obtain ⟨a, b⟩ := (hA c hc i k hk').2 ho hn
      rw [e, hg _ _ _ ho, b]; exact q5 c hc i k ho a
theorem up_o {S : St} {k j x c i : Nat} (h : c ≠ k ∨ i ≠ j) : up S k j x c i = S c i := by rw [up_n, if_neg (fun q => h.elim (fun a => a q.1) (fun a => a q.2))]
def cpC (T : Nat → Nat) (p k : Nat) (C : St) : St := up C 18 (60 * p + k) (T k)
def ap1 (v n : Nat) (C : St) : St := up (up (up C 6 0 (C 6 0 + 1)) 16 (C 6 0) v) 17 (C 6 0) n
def ap2 (v n : Nat) (T : Nat → Nat) (C : St) : St := itr (cpC T (C 6 0)) n (ap1 v n C)
def ap3 (v n : Nat) (T : Nat → Nat) (C : St) : St := up (up (up (up (up (up (ap2 v n T C) 19 (C 6 0) (C 7 0)) 20 (C 6 0) NN) 21 (C 6 0) NN) 23 (C 6 0) 0) 53 (C 6 0) (fo n)) 55 (C 6 0) (C 6 0)
def apf (v p k : Nat) (C : St) : St := up (up (up (up C 25 (4000 * v + C 29 v) p) 26 (4000 * v + C 29 v) k) 29 v (C 29 v + 1)) 51 v (C 51 v + 1)
def laC (v : Nat) (C : St) : Nat := C 7 0 + C 2 0 + C 13 v + C 51 v * (C 2 0 + C 3 0 + C 57 0)
theorem itr_cpC {T : Nat → Nat} {p : Nat} {C : St} : ∀ n c i, itr (cpC T p) n C c i = if c = 18 ∧ 60 * p ≤ i ∧ i < 60 * p + n then T (i - 60 * p) else C c i
  | 0, c, i => by rw [itr, if_neg (by omega)]
  | n + 1, c, i => by
    rw [itr, cpC, up_n, itr_cpC n]
    by_cases e : c = 18 ∧ i = 60 * p + n
    · rw [if_pos e, if_pos (by omega)]; congr 1; omega
    · rw [if_neg e]
      by_cases e2 : c = 18 ∧ 60 * p ≤ i ∧ i < 60 * p + n
      · rw [if_pos e2, if_pos (by omega)]
      · rw [if_neg e2, if_neg (by omega)]
theorem ap3_o {v n : Nat} {T : Nat → Nat} {C : St} {c i : Nat} (h : c ∉ [6, 16, 17, 18, 19, 20, 21, 23, 53, 55] ∨ (c ≠ 6 ∧ c ≠ 18 ∧ i ≠ C 6 0)) : ap3 v n T C c i = C c i := by
  have hh : (c ≠ 6 ∧ c ≠ 16 ∧ c ≠ 17 ∧ c ≠ 18 ∧ c ≠ 19 ∧ c ≠ 20 ∧ c ≠ 21 ∧ c ≠ 23 ∧ c ≠ 53 ∧ c ≠ 55) ∨ (c ≠ 6 ∧ c ≠ 18 ∧ i ≠ C 6 0) := by
    rcases h with h | h
    · left; simpa using h
    · exact Or.inr h
  unfold ap3 ap2 ap1
  rw [up_o (by omega), up_o (by omega), up_o (by omega), up_o (by omega), up_o (by omega), up_o (by omega), itr_cpC, if_neg (by omega), up_o (by omega), up_o (by omega), up_o (by omega)]
/-- a new packet -/
theorem RepL.addP {G : GG} {K : Nat → Prop} {ad C : St} {a b v n : Nat} {T : Nat → Nat} (h : RepL G (fun x => K x ∨ x = a) ad C) (hw : WL C) (hv : v < C 1 0) (hK : ¬ K a) (hKb : ¬ K b) (hka : knd G a = 4) (hkb : knd G b = 7) (hn : n ≤ 60) (hgn : gn G b = n) (hgb : ∀ j, j < n → gi G b j = nI (T j))
    (r1 : gr G a 1 = some (ad 2 v)) (r2 : gr G a 2 = some b) (i0 : gi G a 0 = nI (C 6 0)) (i3 : gi G a 3 = nI (fo n)) (i4 : gi G a 4 = nI (C 7 0)) (i5 : gi G a 5 = nI NN) (i6 : gi G a 6 = nI NN) (i7 : gi G a 7 = nI 0) (i8 : gi G a 8 = nI 0) :
    RepL G K (up (up ad 4 (C 6 0) a) 13 (C 6 0) b) (up (ap3 v n T C) 22 (C 6 0) 0) := by
  have hs := hw.s
  have c6 : up (ap3 v n T C) 22 (C 6 0) 0 6 0 = C 6 0 + 1 := by
    rw [up_o (by omega)]; unfold ap3 ap2 ap1
    rw [up_o (by omega), up_o (by omega), up_o (by omega), up_o (by omega), up_o (by omega), up_o (by omega), itr_cpC, if_neg (by omega), up_o (by omega), up_o (by omega), up_s]
  have co : ∀ c i, c ∉ [6, 16, 17, 18, 19, 20, 21, 22, 23, 53, 55] → up (ap3 v n T C) 22 (C 6 0) 0 c i = C c i := fun c i hc => by
    simp at hc
    rw [up_o (by omega), ap3_o (Or.inl (by simp; omega))]
  have cp : ∀ c i, c ≠ 6 → c ≠ 18 → i ≠ C 6 0 → up (ap3 v n T C) 22 (C 6 0) 0 c i = C c i := fun c i h1 h2 h3 => by
    rw [up_o (Or.inr h3), ap3_o (Or.inr ⟨h1, h2, h3⟩)]
  have cn : ∀ c, c ∈ [16, 17, 19, 20, 21, 22, 23, 53, 55] → up (ap3 v n T C) 22 (C 6 0) 0 c (C 6 0) = (if c = 16 then v else if c = 17 then n else if c = 19 then C 7 0 else if c = 20 then NN else if c = 21 then NN else if c = 22 then 0 else if c = 23 then 0 else if c = 53 then fo n else C 6 0) := fun c hc => by
    simp at hc
    rcases hc with rfl | rfl | rfl | rfl | rfl | rfl | rfl | rfl | rfl <;> simp [up_n, ap3, ap2, ap1, itr_cpC]
  have c18 : ∀ i k, k < 60 → up (ap3 v n T C) 22 (C 6 0) 0 18 (60 * i + k) = if i = C 6 0 ∧ k < n then T k else C 18 (60 * i + k) := fun i k hk => by
    rw [up_o (by omega)]; unfold ap3 ap2 ap1
    rw [up_o (by omega), up_o (by omega), up_o (by omega), up_o (by omega), up_o (by omega), up_o (by omega), itr_cpC, up_o (by omega), up_o (by omega), up_o (by omega)]
    by_cases e : i = C 6 0 ∧ k < n
    · rw [if_pos e, if_pos (by omega)]; congr 1; omega
    · rw [if_neg e, if_neg (by omega)]
  have ao : ∀ s i, s ≠ 4 ∧ s ≠ 13 ∨ i ≠ C 6 0 → up (up ad 4 (C 6 0) a) 13 (C 6 0) b s i = ad s i := fun s i hh => by rw [up_o (by omega), up_o (by omega)]
  have a4 : up (up ad 4 (C 6 0) a) 13 (C 6 0) b 4 (C 6 0) = a := by rw [up_o (by omega), up_s]
  have a13 : up (up ad 4 (C 6 0) a) 13 (C 6 0) b 13 (C 6 0) = b := by rw [up_s]
  have hda : ∀ s i, vld C s i → ad s i ≠ a := fun s i hv e => h.nK hv (Or.inr e)
  generalize hC : up (ap3 v n T C) 22 (C 6 0) 0 = C' at *
  generalize hA : up (up ad 4 (C 6 0) a) 13 (C 6 0) b = ad' at *
  have vo : ∀ s i, vld C' s i → ((s = 4 ∨ s = 13) ∧ i = C 6 0) ∨ vld C s i := fun s i hv => by
    unfold vld at hv ⊢
    split at hv <;> first | (right; simpa only [co 1 _ (by decide), co 29 _ (by decide)] using hv; done) | skip
    · rw [c6] at hv
      by_cases e : i = C 6 0
      · exact Or.inl ⟨Or.inl rfl, e⟩
      · right; show i < C 6 0; omega
    · rw [c6] at hv
      by_cases e : i = C 6 0
      · exact Or.inl ⟨Or.inr rfl, e⟩
      · right; show i < C 6 0; omega
  have vi : ∀ s i, vld C s i → s ≠ 4 ∧ s ≠ 13 ∨ i ≠ C 6 0 := fun s i hv => by
    unfold vld at hv; split at hv <;> first | (cases hv; done) | (simp; done) | (right; omega)
  refine h.grow (fun b hb => Or.inl hb) (fun x hx => h.1 x (Or.inl hx)) (fun s i => (s = 4 ∨ s = 13) ∧ i = C 6 0) (fun _ _ _ => rfl) (fun _ _ _ _ => rfl) (fun s i hv => ?_) (fun s i hN => ?_) (fun s i hv e hr => ?_) (fun s t i j hN ht h13 e => ?_) (fun c hc i => ⟨fun hN => ?_, fun hv e hN => ?_⟩) (fun c hc i k hk => ⟨fun hN => ?_, fun hv hN => ?_⟩)
  · rcases vo s i hv with q | q
    · exact Or.inl q
    · exact Or.inr ⟨q, ao s i (vi s i q)⟩
  · obtain ⟨rfl | rfl, rfl⟩ := hN
    · rw [a4]
      refine ⟨hka, hK, ?_⟩
      simp only [Ref]
      rw [a4, a13, r1, r2, cn 16 (by decide), if_pos rfl, ao 2 v (by omega)]
      exact ⟨rfl, rfl⟩
    · rw [a13]
      refine ⟨hkb, hKb, ?_⟩
      simp only [Ref]
      rw [a13, hgn, cn 17 (by decide)]
      rfl
  · rcases vldC hv with ⟨rfl, rfl⟩ | ⟨rfl, rfl⟩ | ⟨rfl, rfl⟩ | ⟨rfl, rfl⟩ | ⟨rfl, rfl⟩ | ⟨rfl, hi⟩ | ⟨rfl, hi⟩ | ⟨rfl, hi⟩ | ⟨rfl, hi⟩ | ⟨rfl, hi⟩ | ⟨rfl, hi⟩ | ⟨rfl, u, g, rfl, hu, hg, h4⟩
    · simp only [Ref] at hr ⊢
      rw [ao 1 0 (by omega), ao 8 0 (by omega), ao 9 0 (by omega), ao 10 0 (by omega), ao 7 0 (by omega)]; exact hr
    · simp only [Ref] at hr ⊢; rw [ao 7 0 (by omega)]; exact hr
    · simp only [Ref] at hr ⊢
      rw [ao 8 0 (by omega), co 57 0 (by decide), co 1 0 (by decide)]
      exact ⟨hr.1, fun v hv => by rw [ao 2 v (by omega)]; exact hr.2 v hv⟩
    · simp only [Ref] at hr ⊢
      rw [ao 9 0 (by omega)]
      refine ⟨hr.1, fun k hk => ?_⟩
      rw [hr.2 k hk, co 48 k (by decide)]; unfold wc; rw [ao 5 _ (by omega)]
    · simp only [Ref] at hr ⊢
      rw [ao 10 0 (by omega), co 56 0 (by decide)]
      exact ⟨hr.1, fun p hp => by rw [ao 4 p (by omega)]; exact hr.2 p hp⟩
    · simp only [Ref] at hr ⊢
      rw [ao 2 i (by omega), ao 3 i (by omega), ao 14 i (by omega), ao 11 i (by omega)]; exact hr
    · simp only [Ref] at hr ⊢
      unfold qf ql at hr ⊢
      rw [ao 3 i (by omega), co 30 i (by decide), co 29 i (by decide), ao 5 _ (by omega), ao 5 _ (by omega)]; exact hr
    · simp only [Ref] at hr ⊢
      unfold qf ql at hr ⊢
      rw [ao 14 i (by omega), co 32 i (by decide), co 31 i (by decide), ao 5 _ (by omega), ao 5 _ (by omega)]; exact hr
    · simp only [Ref] at hr ⊢; rw [ao 11 i (by omega)]; exact hr
    · simp only [Ref] at hr ⊢
      rw [ao 4 i (by omega), ao 13 i (by omega), cp 16 i (by omega) (by omega) (by omega), ao 2 _ (by omega)]; exact hr
    · simp only [Ref] at hr ⊢
      rw [ao 13 i (by omega), cp 17 i (by omega) (by omega) (by omega)]; exact hr
    · simp only [Ref] at hr ⊢
      have hwf := hw.f hu hg
      have h25 : C 25 (4000 * u + g) < C 6 0 := hwf.1
      rw [ao 5 _ (by omega), co 25 _ (by decide), ao 4 _ (by omega)]
      refine ⟨hr.1, ?_⟩
      rw [hr.2]; unfold nxo
      rw [co 30 _ (by decide), co 29 _ (by decide), co 31 _ (by decide), co 32 _ (by decide), ao 5 _ (by omega)]
  · obtain ⟨rfl | rfl, rfl⟩ := hN
    · rw [a4] at e
      rcases vo t j ht with ⟨rfl | rfl, rfl⟩ | q
      · exact ⟨rfl, rfl⟩
      · rw [a13] at e; rw [e, hkb] at hka; cases hka
      · rw [ao t j (vi t j q)] at e; exact absurd e.symm (hda t j q)
    · rw [a13] at e
      rcases vo t j ht with ⟨rfl | rfl, rfl⟩ | q
      · rw [a4] at e; rw [← e, hkb] at hka; cases hka
      · exact absurd rfl (h13.elim id id)
      · rw [ao t j (vi t j q)] at e
        have := (h.2.1 t j q).1
        rw [← e, hkb] at this
        have h13' : t ≠ 13 := h13.elim (fun q => absurd rfl q) id
        unfold sk at this; unfold vld at q
        split at q <;> first | (cases q; done) | (exact absurd rfl h13') | (simp at this)
  · obtain ⟨hcs, rfl⟩ := hN
    have hc' : c ∈ [55, 53, 19, 20, 21, 22, 23] := by
      unfold isO at hc; split at hc <;> first | (cases hc; done) | decide | (simp [cs] at hcs)
    simp at hc'
    rcases hc' with rfl | rfl | rfl | rfl | rfl | rfl | rfl <;> (simp only [cs, cf]; rw [a4, cn _ (by decide)]; assumption)
  · have hi := vi _ _ hv
    by_cases q : c ∈ [6, 16, 17, 18, 19, 20, 21, 22, 23, 53, 55]
    · have hi2 : i ≠ C 6 0 := by
        rcases hi with q2 | q2
        · exfalso
          simp at q
          rcases q with rfl | rfl | rfl | rfl | rfl | rfl | rfl | rfl | rfl | rfl | rfl <;> first | (cases hc; done) | (simp [cs] at q2)
        · exact q2
      exact cp c i (fun q => by rw [q] at hc; cases hc) (fun q => by rw [q] at hc; cases hc) hi2
    · exact co c i q
  · obtain ⟨hcs, rfl⟩ := hN
    have hc' : c = 18 := by
      unfold isA at hc; split at hc <;> first | (cases hc; done) | rfl | (simp [cs] at hcs)
    subst hc'
    simp only [aL] at hk
    rw [cn 17 (by decide)] at hk
    have hk : k < n := hk
    simp only [cs, sd]
    rw [a13, c18 _ _ (by omega), if_pos ⟨rfl, hk⟩]
    exact hgb k hk
  · have hi := vi _ _ hv
    have hc' : c = 15 ∨ c = 47 ∨ c = 18 := by
      unfold isA at hc; split at hc <;> first | (cases hc; done) | simp
    rcases hc' with rfl | rfl | rfl
    · exact ⟨hk, co 15 _ (by decide)⟩
    · exact ⟨hk, co 47 _ (by decide)⟩
    · have hi2 : i ≠ C 6 0 := hi.elim (fun q => absurd rfl q.2) id
      have hi3 : i < C 6 0 := hv
      simp only [aL, sd] at hk ⊢
      rw [cp 17 i (by omega) (by omega) hi2] at hk
      have := hw.p hi3
      rw [c18 _ _ (by omega), if_neg (fun q => hi2 q.1)]
      exact ⟨hk, rfl⟩
