/-! ===== the model's state S and the class's state C say the same ===== -/
def shr (c : Nat) : Bool := match c with
  | 1 => true
  | 2 => true
  | 3 => true
  | 4 => true
  | 5 => true
  | 6 => true
  | 7 => true
  | 8 => true
  | 9 => true
  | 10 => true
  | 11 => true
  | 12 => true
  | 13 => true
  | 14 => true
  | 16 => true
  | 17 => true
  | 18 => true
  | 19 => true
  | 20 => true
  | 21 => true
  | 22 => true
  | 23 => true
  | 25 => true
  | 26 => true
  | 29 => true
  | 30 => true
  | 31 => true
  | 32 => true
  | 34 => true
  | _ => false
def Eq1 (S C : St) : Prop := ∀ c i, (shr c = true ∨ (c = 15 ∧ i < S 5 0)) → C c i = S c i
theorem Eq1.l {S C : St} (h : Eq1 S C) {k j x : Nat} (hk : shr k = false) (h15 : k ≠ 15 := by decide) : Eq1 S (up C k j x) := fun c i hc => by
  rw [up_n, if_neg (fun q => by rcases hc with hc | hc; (rw [q.1, hk] at hc; cases hc); exact h15 (q.1.symm.trans hc.1))]; exact h c i hc
theorem Eq1.r {S C : St} (h : Eq1 S C) {k j x : Nat} (hk : shr k = false) (h15 : k ≠ 15 := by decide) : Eq1 (up S k j x) C := fun c i hc => by
  have h5 : up S k j x 5 0 = S 5 0 := by rw [up_n, if_neg]; rintro ⟨rfl, -⟩; cases hk
  rw [h5] at hc
  rw [up_n, if_neg (fun q => by rcases hc with hc | hc; (rw [q.1, hk] at hc; cases hc); exact h15 (q.1.symm.trans hc.1))]; exact h c i hc
theorem Eq1.b {S C : St} (h : Eq1 S C) {k j x y : Nat} (hx : y = x) (h5 : k ≠ 5 := by decide) : Eq1 (up S k j x) (up C k j y) := fun c i hc => by
  have h5 : up S k j x 5 0 = S 5 0 := by rw [up_n, if_neg]; rintro ⟨rfl, -⟩; exact h5 rfl
  rw [h5] at hc
  rw [up_n, up_n, hx, h c i hc]
theorem up_cm {S : St} {a i x b j y : Nat} (h : a ≠ b) : up (up S a i x) b j y = up (up S b j y) a i x := by
  funext c d
  simp only [up_n]
  by_cases h1 : c = a ∧ d = i
  · obtain ⟨rfl, rfl⟩ := h1; simp [h]
  · simp only [h1, if_false]
theorem ctn_cg {p q : Nat → Bool} : ∀ {n : Nat}, (∀ i, i < n → p i = q i) → ctn p n = ctn q n
  | 0, _ => rfl
  | n + 1, h => by rw [ctn, ctn, ctn_cg (fun i hi => h i (by omega)), h n (by omega)]
theorem ctn_one {p q : Nat → Bool} {j : Nat} (h0 : p j = false) (h1 : q j = true) : ∀ {n : Nat}, (∀ i, i < n → i ≠ j → p i = q i) → j < n → ctn q n = ctn p n + 1
  | 0, _, hj => absurd hj (by omega)
  | n + 1, h, hj => by
    rw [ctn, ctn]
    by_cases e : j = n
    · subst e; rw [h0, h1, ctn_cg (fun i hi => (h i (by omega) (by omega)).symm)]; simp
    · rw [ctn_one h0 h1 (fun i hi => h i (by omega)) (by omega), h n (by omega) (fun q => e q.symm)]; omega
theorem ctF_cg {p q : Nat → Bool} {a : Nat} : ∀ {n : Nat}, (∀ i, a ≤ i → i < a + n → p i = q i) → ctF p a n = ctF q a n
  | 0, _ => rfl
  | n + 1, h => by rw [ctF, ctF, ctF_cg (fun i h1 h2 => h i h1 (by omega)), h (a + n) (by omega) (by omega)]
theorem ctF_z {p : Nat → Bool} {a : Nat} : ∀ {n : Nat}, (∀ i, a ≤ i → i < a + n → p i = false) → ctF p a n = 0
  | 0, _ => rfl
  | n + 1, h => by rw [ctF, ctF_z (fun i h1 h2 => h i h1 (by omega)), h (a + n) (by omega) (by omega)]; rfl
theorem ctF_fr {p : Nat → Bool} {a : Nat} : ∀ {n : Nat}, ctF p a (n + 1) = (if p a = true then 1 else 0) + ctF p (a + 1) n
  | 0 => by simp [ctF]
  | n + 1 => by
    rw [ctF, ctF_fr, ctF, show a + (n + 1) = a + 1 + n by omega]; omega
theorem smn_cg {f g : Nat → Nat} : ∀ {n : Nat}, (∀ i, i < n → f i = g i) → smn f n = smn g n
  | 0, _ => rfl
  | n + 1, h => by rw [smn, smn, smn_cg (fun i hi => h i (by omega)), h n (by omega)]
theorem smn_z {f : Nat → Nat} : ∀ {n : Nat}, (∀ i, i < n → f i = 0) → smn f n = 0
  | 0, _ => rfl
  | n + 1, h => by rw [smn, smn_z (fun i hi => h i (by omega)), h n (by omega)]
def rtB (S : St) (v k f : Nat) : Bool := decide ((S 28 (4000 * v + f) + S 3 0) % 16 = k)
def OrV (S : St) (v : Nat) : Prop :=
  (∀ f, f < S 29 v → S 16 (S 25 (4000 * v + f)) = v) ∧
  (∀ f g, f < g → g < S 29 v → S 25 (4000 * v + f) = S 25 (4000 * v + g) → S 26 (4000 * v + f) < S 26 (4000 * v + g)) ∧
  (∀ f, f < S 29 v → S 26 (4000 * v + f) + 1 ≠ fo (S 17 (S 25 (4000 * v + f))) → f + 1 < S 29 v ∧ S 25 (4000 * v + (f + 1)) = S 25 (4000 * v + f)) ∧
  (∀ f, S 32 v ≤ f → f < S 29 v → S 21 (S 25 (4000 * v + f)) = NN) ∧
  (∀ g, g < S 32 v → S 21 (S 25 (4000 * v + g)) ≠ NN ∨ (S 32 v < S 29 v ∧ S 25 (4000 * v + g) = S 25 (4000 * v + S 32 v)))
def Mn (S : St) (v : Nat) : Prop := (∀ f g, S 31 v ≤ f → f ≤ g → g < S 30 v → S 27 (4000 * v + f) ≤ S 27 (4000 * v + g)) ∧ (∀ f g, S 33 v ≤ f → f < g → g < S 32 v → S 28 (4000 * v + f) < S 28 (4000 * v + g))
def SimV (S C : St) (v : Nat) : Prop := C 54 v = v ∧ C 44 v = cr S v ∧ C 45 v = S 30 v - S 31 v ∧ C 46 v = S 30 v ∧ C 51 v = S 29 v - S 30 v ∧ C 52 v = S 31 v - S 32 v ∧
  C 41 v = ctn (arB S v 0) (S 6 0) ∧ C 41 v = C 42 v + ctn (arB S v 1) (S 6 0) ∧ C 43 v = smn (toF S v) (S 32 v) ∧ (∀ k, k < 16 → C 47 (16 * v + k) = ctF (rtB S v k) (S 33 v) (S 32 v - S 33 v))
def SimP (S C : St) (p : Nat) : Prop := C 53 p = fo (S 17 p) ∧ C 55 p = p ∧ (S 21 p = NN → (S 24 p = 1 ↔ (C 40 0 = NN ∨ C 40 0 < S 19 p))) ∧ (S 21 p = NN → S 23 p = 0)
def SimW (S C : St) : Prop := (∀ v f, v < S 1 0 → S 31 v ≤ f → f < S 30 v → C 48 ((S 27 (4000 * v + f) + S 2 0) % 16) = 4000 * v + f + 1) ∧
  (∀ k, k < 16 → C 48 k ≠ 0 → ∃ v f, v < S 1 0 ∧ S 31 v ≤ f ∧ f < S 30 v ∧ C 48 k = 4000 * v + f + 1 ∧ (S 27 (4000 * v + f) + S 2 0) % 16 = k)
def Sim (S C : St) : Prop := Eq1 S C ∧ WF S ∧ (C 57 0 = S 1 0 ∧ C 49 0 = S 6 0 ∧ C 56 0 = S 6 0 ∧ (C 40 0 = NN ∨ C 40 0 ≤ S 7 0)) ∧ (∀ v, v < S 1 0 → SimV S C v ∧ OrV S v ∧ Mn S v) ∧ (∀ p, p < S 6 0 → SimP S C p) ∧ SimW S C
def Tw (S : St) (a b : Nat) : Prop := ∀ v f, v < S 1 0 → S 31 v ≤ f → f < S 30 v → S 7 0 + a ≤ S 27 (4000 * v + f) + S 2 0 ∧ S 27 (4000 * v + f) < S 7 0 + b
def Tb (S : St) (a b : Nat → Nat) : Prop := ∀ v f, v < S 1 0 → S 33 v ≤ f → f < S 32 v → S 7 0 + a v ≤ S 28 (4000 * v + f) + S 3 0 ∧ S 28 (4000 * v + f) < S 7 0 + b v
theorem SimV.cg {S C S' C' : St} {v : Nat} (h : SimV S C v) (hC : ∀ c, c ∈ [54, 44, 45, 46, 51, 52, 41, 42, 43] → C' c v = C c v) (h47 : ∀ k, k < 16 → C' 47 (16 * v + k) = C 47 (16 * v + k))
    (hS : ∀ c, c ∈ [13, 33, 30, 31, 29, 32] → S' c v = S c v) (h6 : S' 6 0 = S 6 0) (hA : ∀ p, p < S 6 0 → ∀ l, arB S' v l p = arB S v l p)
    (hT : ∀ f, f < S 32 v → toF S' v f = toF S v f) (hr : ∀ k f, f < S 32 v → rtB S' v k f = rtB S v k f) : SimV S' C' v := by
  unfold SimV cr at h ⊢
  rw [hC 54 (by decide), hC 44 (by decide), hC 45 (by decide), hC 46 (by decide), hC 51 (by decide), hC 52 (by decide), hC 41 (by decide), hC 42 (by decide), hC 43 (by decide),
    hS 13 (by decide), hS 33 (by decide), hS 30 (by decide), hS 31 (by decide), hS 29 (by decide), hS 32 (by decide), h6,
    ctn_cg (fun p hp => hA p hp 0), ctn_cg (fun p hp => hA p hp 1), smn_cg hT]
  obtain ⟨a1, a2, a3, a4, a5, a6, a7, a8, a9, a10⟩ := h
  refine ⟨a1, a2, a3, a4, a5, a6, a7, a8, a9, fun k hk => ?_⟩
  rw [h47 k hk, a10 k hk]
  exact ctF_cg (fun i h1 h2 => (hr k i (by omega)).symm)
theorem OrV.cg {S S' : St} {v : Nat} (h : OrV S v) (h29 : S' 29 v = S 29 v) (h32 : S' 32 v = S 32 v) (hp : ∀ c i, c ∈ [16, 17, 25, 26] → S' c i = S c i) (h21 : ∀ f, f < S 29 v → S' 21 (S 25 (4000 * v + f)) = S 21 (S 25 (4000 * v + f))) (hw : S 32 v ≤ S 29 v) : OrV S' v := by
  unfold OrV at h ⊢
  simp only [h29, h32, hp 16 _ (by decide), hp 17 _ (by decide), hp 25 _ (by decide), hp 26 _ (by decide)]
  obtain ⟨a1, a2, a3, a4, a5⟩ := h
  refine ⟨a1, a2, a3, fun f h1 h2 => ?_, fun g hg => ?_⟩
  · rw [h21 f h2]; exact a4 f h1 h2
  · rw [h21 g (by omega)]; exact a5 g hg
theorem Sim.c {S C : St} (h : Sim S C) {c i : Nat} (hc : shr c = true) : C c i = S c i := h.1 c i (Or.inl hc)
theorem Sim.wf {S C : St} (h : Sim S C) : WF S := h.2.1
theorem Sim.v {S C : St} (h : Sim S C) {v : Nat} (hv : v < S 1 0) : SimV S C v := (h.2.2.2.1 v hv).1
theorem Sim.o {S C : St} (h : Sim S C) {v : Nat} (hv : v < S 1 0) : OrV S v := (h.2.2.2.1 v hv).2.1
theorem Sim.m {S C : St} (h : Sim S C) {v : Nat} (hv : v < S 1 0) : Mn S v := (h.2.2.2.1 v hv).2.2
theorem Sim.p {S C : St} (h : Sim S C) {p : Nat} (hp : p < S 6 0) : SimP S C p := h.2.2.2.2.1 p hp
/-- what the class's code leans on holds -/
theorem Sim.wl {S C : St} (h : Sim S C) : WL C := by
  have hw := h.wf
  have hr := hw.rows
  obtain ⟨hs, hc, hp, hf⟩ := hw
  unfold Ws at hs
  unfold WL Wq Wfl
  simp only [h.c (c := 1) rfl, h.c (c := 2) rfl, h.c (c := 3) rfl, h.c (c := 4) rfl, h.c (c := 5) rfl, h.c (c := 6) rfl, h.c (c := 7) rfl, h.c (c := 8) rfl, h.c (c := 9) rfl, h.c (c := 13) rfl, h.c (c := 14) rfl, h.c (c := 16) rfl, h.c (c := 17) rfl, h.c (c := 19) rfl, h.c (c := 21) rfl, h.c (c := 22) rfl, h.c (c := 23) rfl, h.c (c := 25) rfl, h.c (c := 26) rfl, h.c (c := 29) rfl, h.c (c := 30) rfl, h.c (c := 31) rfl, h.c (c := 32) rfl, h.c (c := 34) rfl]
  have hq := h.2.2.1
  refine ⟨hq.1, by omega, by omega, by omega, by omega, by omega, fun v hv => ?_, fun v f hv hf' => ?_, fun v hv => ?_, by omega, by omega, by omega, by omega, by omega, by omega, by omega, fun p hp' => ?_, ?_⟩
  · have h1 := hc v (by omega)
    have h2 := h.v hv
    unfold Wc at h1; unfold SimV at h2
    refine ⟨hv, by omega, by omega, by omega, by omega, h2.2.2.1, h2.2.2.2.2.1, h2.2.2.2.2.2.1, h2.1⟩
  · have h1 := hf v (by omega) f hf'
    unfold Wf at h1
    have h2 := hp _ h1.1
    unfold Wp at h2
    have h3 := fo_le h2.2.1
    have h4 := fo_pos (S 17 (S 25 (4000 * v + f)))
    refine ⟨⟨h1.1, h1.2.1, h2.2.1, ?_, ?_, h3, h4⟩, (h.o hv).1 f hf'⟩
    · exact (h.p h1.1).1
    · have := h1.2.1; unfold fo at this; split at this <;> omega
  · have h1 := hc v (by omega)
    have h2 := h.v hv
    unfold Wc at h1; unfold SimV cr at h2
    omega
  · have h1 := hp p hp'
    have h2 := h.p hp'
    unfold Wp at h1; unfold SimP at h2
    refine ⟨h1.1, h2.2.1, h1.2.1, h2.1, h1.2.2.2.2.2.1, by omega, by omega, h1.2.2.2.2.2.2.1⟩
  · omega
/-- the cycle's note of what disturbs -/
def dsC (C : St) : St := if 0 < C 5 0 ∨ C 4 0 ≠ 0 then up C 40 0 (C 7 0) else C
theorem itr_pls {S : St} {p : Nat} : ∀ n, itr pls n S 24 p = if p < n then (if S 24 p = 1 ∧ (S 21 p ≠ NN ∨ (S 5 0 = 0 ∧ S 4 0 = 0)) then 1 else 0) else S 24 p
  | 0 => by simp [itr]
  | n + 1 => by
    have e21 : itr pls n S 21 n = S 21 n := itr_o (fun v S => pls_o (by decide)) n S
    have e5 : itr pls n S 5 0 = S 5 0 := itr_o (fun v S => pls_o (by decide)) n S
    have e4 : itr pls n S 4 0 = S 4 0 := itr_o (fun v S => pls_o (by decide)) n S
    rw [itr, pls, up_n, e21, e5, e4, itr_pls n, itr_pls n]
    by_cases e : p = n
    · subst e; simp
    · rw [if_neg (by simp [e])]
      by_cases h2 : p < n
      · rw [if_pos h2]; rw [if_pos (show p < n + 1 by omega)]
      · rw [if_neg h2]; rw [if_neg (show ¬ p < n + 1 by omega)]
theorem cy1_o {S : St} {k j : Nat} (h : k ≠ 24) : cy1 S k j = S k j := itr_o (fun v S => pls_o h) _ S
theorem Sim.same {S C S' C' : St} (h : Sim S C) (hS : ∀ c i, c ≠ 24 → c ≠ 50 → c ≠ 0 → c ≠ 35 → c ≠ 36 → c ≠ 37 → c ≠ 38 → S' c i = S c i) (hC : ∀ c i, c ≠ 40 → C' c i = C c i) (hwf : WF S')
    (h40 : C' 40 0 = NN ∨ C' 40 0 ≤ S 7 0) (hp : ∀ p, p < S 6 0 → S 21 p = NN → (S' 24 p = 1 ↔ (C' 40 0 = NN ∨ C' 40 0 < S 19 p))) : Sim S' C' := by
  obtain ⟨h1, h2, h3, h4, h5, h6⟩ := h
  have e : ∀ c i, c ∈ [1, 2, 3, 6, 7, 13, 16, 17, 19, 21, 23, 25, 26, 27, 28, 29, 30, 31, 32, 33] → S' c i = S c i := fun c i hc => by
    simp at hc; apply hS <;> omega
  have ec : ∀ c i, c ∈ [57, 49, 56, 54, 44, 45, 46, 51, 52, 41, 42, 43, 47, 53, 55, 48] → C' c i = C c i := fun c i hc => by
    simp at hc; apply hC; omega
  refine ⟨fun c i hc => ?_, hwf, ?_, fun v hv => ?_, fun p hp' => ?_, ?_⟩
  · have h5 : S' 5 0 = S 5 0 := hS 5 0 (by decide) (by decide) (by decide) (by decide) (by decide) (by decide) (by decide)
    rw [h5] at hc
    have hn : c ≠ 40 ∧ c ≠ 24 ∧ c ≠ 50 ∧ c ≠ 0 ∧ c ≠ 35 ∧ c ≠ 36 ∧ c ≠ 37 ∧ c ≠ 38 := by
      rcases hc with hc | hc
      · refine ⟨?_, ?_, ?_, ?_, ?_, ?_, ?_, ?_⟩ <;> (intro q; rw [q] at hc; cases hc)
      · omega
    rw [hC c i hn.1, h1 c i hc, hS c i hn.2.1 hn.2.2.1 hn.2.2.2.1 hn.2.2.2.2.1 hn.2.2.2.2.2.1 hn.2.2.2.2.2.2.1 hn.2.2.2.2.2.2.2]
  · rw [ec 57 0 (by decide), ec 49 0 (by decide), ec 56 0 (by decide), e 1 0 (by decide), e 6 0 (by decide), e 7 0 (by decide)]
    exact ⟨h3.1, h3.2.1, h3.2.2.1, h40⟩
  · rw [e 1 0 (by decide)] at hv
    have hw := h2.2.1 v (by have := h2.rows; omega)
    unfold Wc at hw
    obtain ⟨a1, a2, a3⟩ := h4 v hv
    refine ⟨a1.cg (fun c hc => ec c v (by simp at hc ⊢; omega)) (fun k hk => ec 47 _ (by decide)) (fun c hc => e c v (by simp at hc ⊢; omega)) (e 6 0 (by decide)) (fun p hp l => ?_) (fun f hf => ?_) (fun k f hf => ?_), a2.cg (e 29 v (by decide)) (e 32 v (by decide)) (fun c i hc => e c i (by simp at hc ⊢; omega)) (fun f hf => e 21 _ (by decide)) (by omega), ?_⟩
    · unfold arB; rw [e 16 p (by decide), e 21 p (by decide), e 23 p (by decide)]
    · unfold toF fbN; simp only [e 21 _ (by decide), e 25 _ (by decide), e 17 _ (by decide), e 26 _ (by decide)]
    · unfold rtB; rw [e 28 _ (by decide), e 3 0 (by decide)]
    · unfold Mn at a3 ⊢; simpa only [e 27 _ (by decide), e 28 _ (by decide), e 30 _ (by decide), e 31 _ (by decide), e 32 _ (by decide), e 33 _ (by decide)] using a3
  · rw [e 6 0 (by decide)] at hp'
    have := h5 p hp'
    unfold SimP at this ⊢
    rw [ec 53 p (by decide), ec 55 p (by decide), e 17 p (by decide), e 21 p (by decide), e 19 p (by decide), e 23 p (by decide)]
    exact ⟨this.1, this.2.1, hp p hp', this.2.2.2⟩
  · unfold SimW at h6 ⊢
    simpa only [e 1 _ (by decide), e 2 _ (by decide), e 27 _ (by decide), e 30 _ (by decide), e 31 _ (by decide), ec 48 _ (by decide)] using h6
theorem Sim.ds {S C : St} (h : Sim S C) : Sim (cy1 S) (dsC C) := by
  have hw := h.wf
  have hr := hw.rows
  have h5 := h.c (c := 5) (i := 0) rfl
  have h4 := h.c (c := 4) (i := 0) rfl
  have h7 := h.c (c := 7) (i := 0) rfl
  refine h.same (fun c i h24 _ _ _ _ _ _ => cy1_o h24) (fun c i hc => ?_) (WF_itr (fun v S => fun hS => WF_pls hS v) _ S hw) ?_ (fun p hp h21 => ?_)
  · unfold dsC; split
    · rw [up_n, if_neg (fun q => hc q.1)]
    · rfl
  · unfold dsC; split
    · right; rw [up_s]; omega
    · exact h.2.2.1.2.2.2
  · have hP := (h.p hp).2.2.1 h21
    have hq := hw.2.2.1 p hp
    unfold Wp at hq
    rw [cy1, itr_pls, if_pos hp]
    have hN := NN_v
    unfold dsC
    by_cases e : 0 < C 5 0 ∨ C 4 0 ≠ 0
    · rw [if_pos e, up_s, if_neg (by rw [h21]; simp; omega)]
      constructor
      · intro q; cases q
      · intro q; omega
    · rw [if_neg e, ← hP]
      have e2 : S 5 0 = 0 ∧ S 4 0 = 0 := by omega
      simp [h21, e2]
