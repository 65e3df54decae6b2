/-! ===== a whole cycle, and many ===== -/
def pls (p : Nat) (S : St) : St := up S 24 p (if S 24 p = 1 ∧ (S 21 p ≠ NN ∨ (S 5 0 = 0 ∧ S 4 0 = 0)) then 1 else 0)
def cy1 (S : St) : St := itr pls (S 6 0) S
def cy2 (S : St) : St := itr cbs (S 1 0) (cy1 S)
def cy3 (S : St) : St := itr cms (S 1 0) (cy2 S)
def cy4 (S : St) : St := itr (drs (mskN S)) (S 1 0) (up (cy3 S) 50 0 0)
def cy5 (S : St) : St := sds (cy4 S)
def cyc (S : St) : St := up (cy5 S) 7 0 (S 7 0 + 1)
def cyA (S : St) : Nat := cy4 S 50 0
def cyN : Nat → St → St
  | 0, S => S
  | n + 1, S => cyc (cyN n S)
def cyT : Nat → St → Nat
  | 0, _ => 0
  | n + 1, S => cyT n S + cyA (cyN n S)
def BB (S : St) : Prop := S 9 0 ≤ S 7 0 ∧ S 10 0 ≤ S 7 0 ∧ S 11 0 ≤ 8 * S 7 0 ∧ S 12 0 ≤ 8 * S 7 0
theorem pls_o {S : St} {p k j : Nat} (h : k ≠ 24) : pls p S k j = S k j := by unfold pls; simp [up_n, h]
theorem itr_o {f : Nat → St → St} {k j : Nat} (h : ∀ v S, f v S k j = S k j) : ∀ (n : Nat) (S : St), itr f n S k j = S k j
  | 0, _ => rfl
  | n + 1, S => by rw [itr, h, itr_o h n S]
theorem WF_up50 {S : St} (h : WF S) (x : Nat) : WF (up S 50 0 x) := by
  obtain ⟨h1, h2, h3, h4⟩ := h
  refine ⟨?_, fun u hu => ?_, fun p hp => ?_, fun u hu f hf => ?_⟩
  · simpa [Ws, up_n] using h1
  · simpa [Wc, up_n] using h2 u hu
  · simp only [up_n, Nat.reduceEqDiff, false_and, reduceIte] at hp
    simpa [Wp, up_n] using h3 p hp
  · simp only [up_n, Nat.reduceEqDiff, false_and, reduceIte] at hf
    simpa [Wf, up_n] using h4 u hu f hf
theorem WF_pls {S : St} (h : WF S) (p : Nat) : WF (pls p S) := by
  obtain ⟨h1, h2, h3, h4⟩ := h
  unfold pls
  refine ⟨?_, fun u hu => ?_, fun q hq => ?_, fun u hu f hf => ?_⟩
  · simpa [Ws, up_n] using h1
  · simpa [Wc, up_n] using h2 u hu
  · simp only [up_n, Nat.reduceEqDiff, false_and, reduceIte] at hq
    have := h3 q hq
    simp only [Wp, up_n, Nat.reduceEqDiff, false_and, reduceIte, true_and] at this ⊢
    refine ⟨this.1, this.2.1, this.2.2.1, this.2.2.2.1, this.2.2.2.2.1, this.2.2.2.2.2.1, this.2.2.2.2.2.2.1, ?_⟩
    split
    · split <;> omega
    · exact this.2.2.2.2.2.2.2
  · simp only [up_n, Nat.reduceEqDiff, false_and, reduceIte] at hf
    simpa [Wf, up_n] using h4 u hu f hf
theorem WF_itr {f : Nat → St → St} (h : ∀ v S, WF S → WF (f v S)) : ∀ (n : Nat) (S : St), WF S → WF (itr f n S)
  | 0, _, hS => hS
  | n + 1, S, hS => h _ _ (WF_itr h n S hS)
theorem cms_11 {S : St} {v : Nat} : cms v S 11 0 ≤ S 11 0 + 1 := by unfold cms; split <;> (try split) <;> simp [up_n]
theorem WF_itr_cms : ∀ (n : Nat) (S : St), n ≤ 8 → WF S → S 11 0 + 8 ≤ 100000000 → WF (itr cms n S) ∧ itr cms n S 11 0 ≤ S 11 0 + n
  | 0, _, _, hS, _ => ⟨hS, Nat.le_refl _⟩
  | n + 1, S, hn, hS, hb => by
    obtain ⟨h1, h2⟩ := WF_itr_cms n S (by omega) hS hb
    refine ⟨WF_cms h1 n (by omega) (by omega), ?_⟩
    have := cms_11 (S := itr cms n S) (v := n)
    show cms n (itr cms n S) 11 0 ≤ _
    omega
theorem WF_itr_drs (M : Nat) : ∀ (n : Nat) (S : St), n ≤ 8 → WF S → S 12 0 + 8 ≤ 100000000 → WF (itr (drs M) n S) ∧ itr (drs M) n S 12 0 ≤ S 12 0 + n ∧ itr (drs M) n S 50 0 ≤ S 50 0 + n
  | 0, _, _, hS, _ => ⟨hS, Nat.le_refl _, Nat.le_refl _⟩
  | n + 1, S, hn, hS, hb => by
    obtain ⟨h1, h2, h3⟩ := WF_itr_drs M n S (by omega) hS hb
    refine ⟨WF_drs h1 M n (by omega) (by omega), ?_, ?_⟩
    · have := drs_12 (S := itr (drs M) n S) (M := M) (v := n)
      show drs M n (itr (drs M) n S) 12 0 ≤ _
      omega
    · have := drs_50 (S := itr (drs M) n S) (M := M) (v := n)
      show drs M n (itr (drs M) n S) 50 0 ≤ _
      omega
theorem sds_o {S : St} {k j : Nat} (h1 : k ≠ 10) (h2 : k ≠ 27) (h3 : k ≠ 20) (h4 : k ≠ 30) (h5 : k ≠ 9) (h6 : k ≠ 8) : sds S k j = S k j := by
  unfold sds sdT; split <;> (try split) <;> simp [up_n, h1, h2, h3, h4, h5, h6]
theorem rwN_le {S : St} : rwN S ≤ S 9 0 + 1 := by unfold rwN; split <;> omega
theorem wt_le {S : St} : wt S ≤ 1 := by unfold wt; split <;> omega
theorem sds_9 {S : St} : sds S 9 0 ≤ S 9 0 + 1 := by
  have := rwN_le (S := S)
  unfold sds sdT; split
  · simp [up_n]
  · split <;> simp [up_n] <;> exact this
theorem sds_10 {S : St} : sds S 10 0 ≤ S 10 0 + 1 := by
  have := wt_le (S := S)
  unfold sds sdT; split
  · simp [up_n]; exact this
  · split <;> simp [up_n]
theorem WF_sds {S : St} (h : WF S) (h9 : S 9 0 < 10000000) (h10 : S 10 0 < 10000000) : WF (sds S) := by
  unfold sds
  split
  · obtain ⟨h1, h2, h3, h4⟩ := h
    have := wt_le (S := S)
    refine ⟨?_, fun u hu => ?_, fun p hp => ?_, fun u hu f hf => ?_⟩
    · unfold Ws at h1 ⊢
      simp only [up_n, Nat.reduceEqDiff, false_and, reduceIte, true_and, and_self]; omega
    · simpa [Wc, up_n] using h2 u hu
    · simp only [up_n, Nat.reduceEqDiff, false_and, reduceIte] at hp
      simpa [Wp, up_n] using h3 p hp
    · simp only [up_n, Nat.reduceEqDiff, false_and, reduceIte] at hf
      simpa [Wf, up_n] using h4 u hu f hf
  · rename_i e
    obtain ⟨hv, ha⟩ := (sdN_ok h).resolve_left e
    exact WF_sdT h hv ha (Nat.le_trans rwN_le (by omega))
theorem WF_up7 {S : St} (h : WF S) {x : Nat} (h1 : S 7 0 ≤ x) (h2 : x ≤ 10000000) : WF (up S 7 0 x) := by
  obtain ⟨q1, q2, q3, q4⟩ := h
  refine ⟨?_, fun u hu => ?_, fun p hp => ?_, fun u hu f hf => ?_⟩
  · unfold Ws at q1 ⊢
    simp only [up_n, Nat.reduceEqDiff, false_and, reduceIte, true_and, and_self]; omega
  · simpa [Wc, up_n] using q2 u hu
  · simp only [up_n, Nat.reduceEqDiff, false_and, reduceIte] at hp
    have := q3 p hp
    simp only [Wp, up_n, Nat.reduceEqDiff, false_and, reduceIte, true_and, and_self] at this ⊢; omega
  · simp only [up_n, Nat.reduceEqDiff, false_and, reduceIte] at hf
    have := q4 u hu f hf
    simp only [Wf, up_n, Nat.reduceEqDiff, false_and, reduceIte, true_and, and_self] at this ⊢
    exact ⟨this.1, this.2.1, fun q => Nat.le_trans (this.2.2.1 q) h1, fun q => Nat.le_trans (this.2.2.2 q) h1⟩
/-- what a cycle keeps, and how far it comes -/
theorem cyc_ok {S : St} (h : WF S) (hB : BB S) (h7 : S 7 0 < 9000000) :
    WF (cy1 S) ∧ WF (cy2 S) ∧ WF (cy3 S) ∧ WF (cy4 S) ∧ WF (cy5 S) ∧ WF (cyc S) ∧ BB (cyc S) ∧ cyA S ≤ 8 ∧ (∀ k, k = 0 ∨ k = 1 ∨ k = 2 ∨ k = 3 ∨ k = 4 ∨ k = 5 ∨ k = 6 → cyc S k 0 = S k 0) ∧ cyc S 7 0 = S 7 0 + 1 ∧
      cy2 S 11 0 = S 11 0 ∧ cy3 S 12 0 = S 12 0 ∧ cy4 S 9 0 = S 9 0 ∧ cy4 S 10 0 = S 10 0 ∧ cy5 S 7 0 = S 7 0 := by
  have hr := h.rows
  have e1 : ∀ k j, k ≠ 24 → cy1 S k j = S k j := fun k j hk => itr_o (fun _ _ => pls_o hk) _ _
  have e2 : ∀ k j, k ≠ 24 → k ≠ 33 → cy2 S k j = S k j := fun k j h1 h2 => (itr_o (fun _ _ => cbs_o h2) _ _).trans (e1 k j h1)
  have e3 : ∀ k j, k ≠ 24 → k ≠ 33 → k ≠ 11 → k ≠ 31 → k ≠ 34 → cy3 S k j = S k j := fun k j h1 h2 h3 h4 h5 => (itr_o (fun _ _ => cms_o h3 h4 h5) _ _).trans (e2 k j h1 h2)
  have e4 : ∀ k j, k ≠ 24 → k ≠ 33 → k ≠ 11 → k ≠ 31 → k ≠ 34 → k ≠ 28 → k ≠ 32 → k ≠ 21 → k ≠ 50 → k ≠ 12 → cy4 S k j = S k j := fun k j h1 h2 h3 h4 h5 h6 h7 h8 h9 h10 => (itr_o (fun _ _ => drs_o h6 h7 h8 h9 h10) _ _).trans (by simp only [up_n, h9, false_and, reduceIte]; exact e3 k j h1 h2 h3 h4 h5)
  have w1 : WF (cy1 S) := WF_itr (fun v S hS => WF_pls hS v) _ _ h
  have w2 : WF (cy2 S) := WF_itr (fun v S hS => WF_cbs hS v) _ _ w1
  have f11 : cy2 S 11 0 = S 11 0 := e2 11 0 (by decide) (by decide)
  obtain ⟨w3, b3⟩ := WF_itr_cms (S 1 0) (cy2 S) (by omega) w2 (by rw [f11]; unfold BB at hB; omega)
  have f12 : cy3 S 12 0 = S 12 0 := e3 12 0 (by decide) (by decide) (by decide) (by decide) (by decide)
  obtain ⟨w4, b4, c4⟩ := WF_itr_drs (mskN S) (S 1 0) (up (cy3 S) 50 0 0) (by omega) (WF_up50 w3 0) (by simp only [up_n, Nat.reduceEqDiff, false_and, reduceIte, f12]; unfold BB at hB; omega)
  simp only [up_n, Nat.reduceEqDiff, false_and, reduceIte, and_self, f12] at b4 c4
  have g9 : cy4 S 9 0 = S 9 0 := e4 9 0 (by decide) (by decide) (by decide) (by decide) (by decide) (by decide) (by decide) (by decide) (by decide) (by decide)
  have g10 : cy4 S 10 0 = S 10 0 := e4 10 0 (by decide) (by decide) (by decide) (by decide) (by decide) (by decide) (by decide) (by decide) (by decide) (by decide)
  unfold BB at hB
  have w5 : WF (cy5 S) := WF_sds w4 (by rw [g9]; omega) (by rw [g10]; omega)
  have g7 : cy5 S 7 0 = S 7 0 := (sds_o (by decide) (by decide) (by decide) (by decide) (by decide) (by decide)).trans (e4 7 0 (by decide) (by decide) (by decide) (by decide) (by decide) (by decide) (by decide) (by decide) (by decide) (by decide))
  have w6 : WF (cyc S) := WF_up7 w5 (by omega) (by omega)
  have k9 := sds_9 (S := cy4 S)
  have k10 := sds_10 (S := cy4 S)
  have k11 : sds (cy4 S) 11 0 = cy4 S 11 0 := sds_o (by decide) (by decide) (by decide) (by decide) (by decide) (by decide)
  have k12 : sds (cy4 S) 12 0 = cy4 S 12 0 := sds_o (by decide) (by decide) (by decide) (by decide) (by decide) (by decide)
  have l11 : cy4 S 11 0 = cy3 S 11 0 := (itr_o (fun _ _ => drs_o (by decide) (by decide) (by decide) (by decide) (by decide)) _ _).trans (by simp [up_n])
  have b3' : cy3 S 11 0 ≤ cy2 S 11 0 + S 1 0 := b3
  have b4' : cy4 S 12 0 ≤ S 12 0 + S 1 0 := b4
  refine ⟨w1, w2, w3, w4, w5, w6, ?_, ?_, ?_, ?_, f11, f12, g9, g10, g7⟩
  · unfold BB cyc cy5
    simp only [up_n, Nat.reduceEqDiff, false_and, reduceIte, and_self]
    omega
  · unfold cyA
    have c4' : cy4 S 50 0 ≤ 0 + S 1 0 := c4
    omega
  · intro k hk
    have : cyc S k 0 = cy4 S k 0 := by
      unfold cyc cy5
      rw [up_n, if_neg (by omega)]
      exact sds_o (by omega) (by omega) (by omega) (by omega) (by omega) (by omega)
    rw [this]
    exact e4 k 0 (by omega) (by omega) (by omega) (by omega) (by omega) (by omega) (by omega) (by omega) (by omega) (by omega)
  · unfold cyc; simp [up_n]
