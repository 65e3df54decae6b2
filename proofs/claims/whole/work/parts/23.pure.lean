/-! ===== the pure steps of a cycle, as the model does them; component 50: how many packets arrived in this call so far ===== -/
def itr (f : Nat → St → St) : Nat → St → St
  | 0, S => S
  | n + 1, S => f n (itr f n S)
def cbs (v : Nat) (S : St) : St := if S 33 v < S 32 v ∧ S 28 (4000 * v + S 33 v) + S 3 0 = S 7 0 then up S 33 v (S 33 v + 1) else S
def cms (v : Nat) (S : St) : St := if S 31 v = S 30 v ∨ S 27 (4000 * v + S 31 v) + S 2 0 ≠ S 7 0 then S else
  up (up (if S 13 v ≤ S 31 v - S 32 v then up S 11 0 (S 11 0 + 1) else S) 31 v (S 31 v + 1)) 34 v (max (S 34 v) (S 31 v + 1 - S 32 v))
def mskN (S : St) : Nat := if S 5 0 = 0 then NN else S 15 (S 7 0 % S 5 0)
def drb (M v : Nat) : Bool := M.testBit v
def drs (M v : Nat) (S : St) : St := if drb M v = false ∨ S 32 v = S 31 v then S else
  if S 26 (4000 * v + S 32 v) + 1 < fo (S 17 (S 25 (4000 * v + S 32 v))) then up (up S 28 (4000 * v + S 32 v) (S 7 0)) 32 v (S 32 v + 1) else
  up (up (up (up (up S 28 (4000 * v + S 32 v) (S 7 0)) 32 v (S 32 v + 1)) 21 (S 25 (4000 * v + S 32 v)) (S 7 0)) 50 0 (S 50 0 + 1)) 12 0 (S 12 0 + if S 24 (S 25 (4000 * v + S 32 v)) = 1 ∧ S 22 (S 25 (4000 * v + S 32 v)) < S 7 0 then 1 else 0)
def sdV (S : St) : Nat := if S 4 0 = 1 then ff (abl S) 0 (S 1 0) else
  if S 4 0 = 2 ∧ S 8 0 ≠ NN ∧ abl S (S 8 0) = true ∧ S 9 0 < S 14 (S 8 0) then S 8 0 else
  if S 4 0 = 3 ∧ ff (beg S) 0 (S 1 0) ≠ NN then (if abl S (ff (beg S) 0 (S 1 0)) = true then ff (beg S) 0 (S 1 0) else NN) else
  if ff (fun k => abl S (trn S k)) 1 (S 1 0) = NN then NN else trn S (ff (fun k => abl S (trn S k)) 1 (S 1 0))
def goes (S : St) : Prop := S 4 0 = 2 ∧ S 8 0 ≠ NN ∧ abl S (S 8 0) = true ∧ S 9 0 < S 14 (S 8 0)
/-- the flit of channel v is sent -/
def sdT (v : Nat) (row : Nat) (S : St) : St := up (up (up (if S 26 (4000 * v + S 30 v) = 0 then up (up S 27 (4000 * v + S 30 v) (S 7 0)) 20 (S 25 (4000 * v + S 30 v)) (S 7 0) else up S 27 (4000 * v + S 30 v) (S 7 0)) 30 v (S 30 v + 1)) 9 0 row) 8 0 v
theorem WF.rows {S : St} (h : WF S) : S 6 0 ≤ 250 ∧ 1 ≤ S 1 0 ∧ S 1 0 ≤ 8 ∧ S 7 0 ≤ 10000000 ∧ S 2 0 ≤ 16 ∧ S 3 0 ≤ 16 ∧ S 5 0 ≤ 32 ∧ S 4 0 ≤ 3 := by
  obtain ⟨⟨h1, h2, h3, h4, h5, h6, h7, h8, h9, h10, -⟩, -⟩ := h
  exact ⟨h9, h1, h2, h10, h4, h6, h8, h7⟩
theorem WF_cbs {S : St} (h : WF S) (v : Nat) : WF (cbs v S) := by
  unfold cbs
  split
  · rename_i hc
    obtain ⟨h1, h2, h3, h4⟩ := h
    refine ⟨?_, fun u hu => ?_, fun p hp => ?_, fun u hu f hf => ?_⟩
    · simpa [Ws, up_n] using h1
    · have := h2 u hu
      simp only [Wc, up_n, Nat.reduceEqDiff, false_and, reduceIte, true_and] at this ⊢
      by_cases e : u = v
      · subst e; simp only [reduceIte]; omega
      · simp only [e, reduceIte]; exact this
    · simp only [up_n, Nat.reduceEqDiff, false_and, reduceIte] at hp
      simpa [Wp, up_n] using h3 p hp
    · simp only [up_n, Nat.reduceEqDiff, false_and, reduceIte] at hf
      simpa [Wf, up_n] using h4 u hu f hf
  · exact h
theorem WF_cms {S : St} (h : WF S) (v : Nat) (hv : v < 8) (h11 : S 11 0 < 100000000) : WF (cms v S) := by
  unfold cms
  split
  · exact h
  · rename_i hc
    obtain ⟨h1, h2, h3, h4⟩ := h
    have hv2 := h2 v hv
    unfold Wc at hv2
    have h9 := h1.2.2.2.2.2.2.2.2.1
    refine ⟨?_, fun u hu => ?_, fun p hp => ?_, fun u hu f hf => ?_⟩
    · unfold Ws at h1 ⊢
      split <;> simp only [up_n, Nat.reduceEqDiff, false_and, reduceIte, true_and, and_self] <;> omega
    · have := h2 u hu
      by_cases e : u = v
      · subst e
        split <;> simp only [Wc, up_n, Nat.reduceEqDiff, false_and, reduceIte, true_and] at this ⊢ <;> omega
      · split <;> simp only [Wc, up_n, Nat.reduceEqDiff, false_and, reduceIte, true_and, e] at this ⊢ <;> exact this
    · split at hp <;> split <;> simp only [up_n, Nat.reduceEqDiff, false_and, reduceIte] at hp <;> simpa [Wp, up_n] using h3 p hp
    · split at hf <;> split <;> simp only [up_n, Nat.reduceEqDiff, false_and, reduceIte] at hf <;> simpa [Wf, up_n] using h4 u hu f hf
theorem fo_le {n : Nat} (h : n ≤ 60) : fo n ≤ 15 := by unfold fo; split <;> omega
theorem fo_pos (n : Nat) : 1 ≤ fo n := by unfold fo; split <;> omega
theorem WF_drs {S : St} (h : WF S) (M v : Nat) (hv : v < 8) (h12 : S 12 0 < 100000000) : WF (drs M v S) := by
  unfold drs
  split
  · exact h
  · rename_i hc
    obtain ⟨h1, h2, h3, h4⟩ := h
    have hv2 := h2 v hv
    unfold Wc at hv2
    have h9 := h1.2.2.2.2.2.2.2.2.1
    split
    · refine ⟨?_, fun u hu => ?_, fun p hp => ?_, fun u hu f hf => ?_⟩
      · simpa [Ws, up_n] using h1
      · have := h2 u hu
        by_cases e : u = v
        · subst e
          simp only [Wc, up_n, Nat.reduceEqDiff, false_and, reduceIte, true_and] at this ⊢; omega
        · simp only [Wc, up_n, Nat.reduceEqDiff, false_and, reduceIte, true_and, e] at this ⊢; exact this
      · simp only [up_n, Nat.reduceEqDiff, false_and, reduceIte] at hp
        simpa [Wp, up_n] using h3 p hp
      · simp only [up_n, Nat.reduceEqDiff, false_and, reduceIte] at hf
        have := h4 u hu f hf
        have hu2 := h2 u hu
        unfold Wc at hu2
        simp only [Wf, up_n, Nat.reduceEqDiff, false_and, reduceIte, true_and] at this ⊢
        refine ⟨this.1, this.2.1, this.2.2.1, fun q => ?_⟩
        split
        · exact Nat.le_refl _
        · rename_i e
          refine this.2.2.2 ?_
          by_cases e2 : u = v
          · subst e2; simp only [reduceIte] at q; omega
          · simp only [e2, reduceIte] at q; exact q
    · refine ⟨?_, fun u hu => ?_, fun p hp => ?_, fun u hu f hf => ?_⟩
      · unfold Ws at h1 ⊢
        simp only [up_n, Nat.reduceEqDiff, false_and, reduceIte, true_and, and_self]
        split <;> omega
      · have := h2 u hu
        by_cases e : u = v
        · subst e
          simp only [Wc, up_n, Nat.reduceEqDiff, false_and, reduceIte, true_and] at this ⊢; omega
        · simp only [Wc, up_n, Nat.reduceEqDiff, false_and, reduceIte, true_and, e] at this ⊢; exact this
      · simp only [up_n, Nat.reduceEqDiff, false_and, reduceIte] at hp
        have := h3 p hp
        simp only [Wp, up_n, Nat.reduceEqDiff, false_and, reduceIte, true_and] at this ⊢
        refine ⟨this.1, this.2.1, this.2.2.1, this.2.2.2.1, ?_, this.2.2.2.2.2⟩
        split
        · exact Or.inr (Nat.le_refl _)
        · exact this.2.2.2.2.1
      · simp only [up_n, Nat.reduceEqDiff, false_and, reduceIte] at hf
        have := h4 u hu f hf
        have hu2 := h2 u hu
        unfold Wc at hu2
        simp only [Wf, up_n, Nat.reduceEqDiff, false_and, reduceIte, true_and] at this ⊢
        refine ⟨this.1, this.2.1, this.2.2.1, fun q => ?_⟩
        split
        · exact Nat.le_refl _
        · rename_i e
          refine this.2.2.2 ?_
          by_cases e2 : u = v
          · subst e2; simp only [reduceIte] at q; omega
          · simp only [e2, reduceIte] at q; exact q
theorem ff_some {p : Nat → Bool} : ∀ {n i : Nat}, i + n ≤ NN → ff p i n ≠ NN → i ≤ ff p i n ∧ ff p i n < i + n ∧ p (ff p i n) = true
  | 0, i, _, h => absurd rfl h
  | n + 1, i, hb, h => by
    by_cases hp : p i = true
    · rw [ff_t hp]; exact ⟨Nat.le_refl _, by omega, hp⟩
    · have hp' : p i = false := by simpa using hp
      rw [ff_f hp'] at h ⊢
      have := ff_some (p := p) (n := n) (i := i + 1) (by omega) h
      exact ⟨by omega, by omega, this.2.2⟩
def wt (S : St) : Nat := if ff (wai S) 0 (S 1 0) = NN then 0 else 1
def goB (S : St) : Bool := decide (S 4 0 = 2 ∧ S 8 0 ≠ NN ∧ abl S (S 8 0) = true ∧ S 9 0 < S 14 (S 8 0))
def whN (S : St) : Nat := if S 4 0 = 3 then ff (beg S) 0 (S 1 0) else NN
def tuN (S : St) : Nat := if ff (fun k => abl S (trn S k)) 1 (S 1 0) = NN then NN else trn S (ff (fun k => abl S (trn S k)) 1 (S 1 0))
/-- which channel sends -/
def sdN (S : St) : Nat := if S 4 0 = 1 then ff (abl S) 0 (S 1 0) else if goB S = true then S 8 0 else if whN S = NN then tuN S else if abl S (whN S) = true then whN S else NN
def rwN (S : St) : Nat := if sdN S = S 8 0 ∧ ¬ (S 4 0 = 2 ∧ goB S = false) then S 9 0 + 1 else 1
def sds (S : St) : St := if sdN S = NN then up S 10 0 (S 10 0 + wt S) else sdT (sdN S) (rwN S) S
theorem trn_lt {S : St} (h : WF S) {k : Nat} (h1 : 1 ≤ k) (h2 : k ≤ S 1 0) : trn S k < S 1 0 := by
  unfold trn
  split
  · omega
  · exact Nat.mod_lt _ (by omega)
theorem sdN_ok {S : St} (h : WF S) : sdN S = NN ∨ (sdN S < S 1 0 ∧ abl S (sdN S) = true) := by
  have hN := NN_v
  have h1 := h.1.1
  have h2 := h.1.2.1
  have h8 := h.1.2.2.2.2.2.2.2.2.2.2.1
  have hl : ∀ p : Nat → Bool, ff p 0 (S 1 0) = NN ∨ (ff p 0 (S 1 0) < S 1 0 ∧ p (ff p 0 (S 1 0)) = true) := fun p => by
    by_cases e : ff p 0 (S 1 0) = NN
    · exact Or.inl e
    · have := ff_some (p := p) (n := S 1 0) (i := 0) (by omega) e
      exact Or.inr ⟨by omega, this.2.2⟩
  unfold sdN
  split
  · exact hl _
  · split
    · rename_i hg
      simp only [goB, decide_eq_true_eq] at hg
      exact Or.inr ⟨h8.resolve_left hg.2.1, hg.2.2.1⟩
    · split
      · unfold tuN
        split
        · exact Or.inl rfl
        · rename_i e
          have := ff_some (p := fun k => abl S (trn S k)) (n := S 1 0) (i := 1) (by omega) e
          exact Or.inr ⟨trn_lt h (by omega) (by omega), this.2.2⟩
      · split
        · rename_i hw ha
          refine Or.inr ⟨?_, ha⟩
          unfold whN at hw ⊢
          split at hw
          · rename_i e3
            rw [if_pos e3]
            exact ((hl (beg S)).resolve_left hw).1
          · exact absurd rfl hw
        · exact Or.inl rfl
theorem WF_sdT {S : St} (h : WF S) {v r : Nat} (hv : v < S 1 0) (ha : abl S v = true) (hr : r ≤ 10000000) : WF (sdT v r S) := by
  obtain ⟨h1, h2, h3, h4⟩ := h
  have h18 := h1.2.1
  have hv2 := h2 v (by omega)
  unfold Wc at hv2
  unfold abl at ha
  replace ha := of_decide_eq_true ha
  unfold cr at ha
  have hf := h4 v (by omega) (S 30 v) ha.1
  have hN := NN_v
  unfold sdT
  refine ⟨?_, fun u hu => ?_, fun p hp => ?_, fun u hu f hf => ?_⟩
  · unfold Ws at h1 ⊢
    split <;> simp only [up_n, Nat.reduceEqDiff, false_and, reduceIte, true_and, and_self] <;> omega
  · have := h2 u hu
    by_cases e : u = v
    · subst e
      split <;> simp only [Wc, up_n, Nat.reduceEqDiff, false_and, reduceIte, true_and] at this ⊢ <;> omega
    · split <;> simp only [Wc, up_n, Nat.reduceEqDiff, false_and, reduceIte, true_and, e] at this ⊢ <;> exact this
  · have hp' : p < S 6 0 := by split at hp <;> simpa [up_n] using hp
    have := h3 p hp'
    split
    · simp only [Wp, up_n, Nat.reduceEqDiff, false_and, reduceIte, true_and] at this ⊢
      refine ⟨this.1, this.2.1, this.2.2.1, ?_, this.2.2.2.2⟩
      split
      · exact Or.inr (Nat.le_refl _)
      · exact this.2.2.2.1
    · simpa [Wp, up_n] using this
  · have hf' : f < S 29 u := by split at hf <;> simpa [up_n] using hf
    have := h4 u hu f hf'
    have hu2 := h2 u hu
    unfold Wc at hu2
    split <;>
    · simp only [Wf, up_n, Nat.reduceEqDiff, false_and, reduceIte, true_and] at this ⊢
      refine ⟨this.1, this.2.1, fun q => ?_, this.2.2.2⟩
      split
      · exact Nat.le_refl _
      · rename_i e
        refine this.2.2.1 ?_
        by_cases e2 : u = v
        · subst e2; simp only [reduceIte] at q; omega
        · simp only [e2, reduceIte] at q; exact q
