/-! ===== offering: the pure part ===== -/
theorem itr_cpS {p : Nat} {S : St} : ∀ n c i, itr (cpS p) n S c i = if c = 18 ∧ 60 * p ≤ i ∧ i < 60 * p + n then S 35 (i - 60 * p) else S c i
  | 0, c, i => by rw [itr, if_neg (by omega)]
  | n + 1, c, i => by
    have e : itr (cpS p) n S 35 n = S 35 n := by rw [itr_cpS n, if_neg (by omega)]
    rw [itr, cpS, e, up_n, itr_cpS n]
    by_cases e : c = 18 ∧ i = 60 * p + n
    · rw [if_pos e, if_pos (by omega)]; congr 1; omega
    · rw [if_neg e]
      by_cases e2 : c = 18 ∧ 60 * p ≤ i ∧ i < 60 * p + n
      · rw [if_pos e2, if_pos (by omega)]
      · rw [if_neg e2, if_neg (by omega)]
theorem itr_flS {v p : Nat} {S : St} : ∀ k c i, itr (flS v p) k S c i = if c = 29 ∧ i = v then S 29 v + k else if c = 25 ∧ 4000 * v + S 29 v ≤ i ∧ i < 4000 * v + S 29 v + k then p else if c = 26 ∧ 4000 * v + S 29 v ≤ i ∧ i < 4000 * v + S 29 v + k then i - (4000 * v + S 29 v) else S c i
  | 0, c, i => by
    rw [itr]
    by_cases h1 : c = 29 ∧ i = v
    · rw [if_pos h1, h1.1, h1.2]; rfl
    · rw [if_neg h1, if_neg (by omega), if_neg (by omega)]
  | k + 1, c, i => by
    have e29 : itr (flS v p) k S 29 v = S 29 v + k := by rw [itr_flS k]; simp
    rw [itr, flS, e29]
    simp only [up_n]
    by_cases h1 : c = 29 ∧ i = v
    · rw [if_pos h1, if_pos h1]; rfl
    · rw [if_neg h1, if_neg h1]
      by_cases h3 : c = 26 ∧ i = 4000 * v + (S 29 v + k)
      · rw [if_pos h3, if_neg (by omega), if_pos (by omega)]; omega
      · rw [if_neg h3]
        by_cases h4 : c = 25 ∧ i = 4000 * v + (S 29 v + k)
        · rw [if_pos h4, if_pos (by omega)]
        · rw [if_neg h4, itr_flS k, if_neg h1]
          by_cases h5 : c = 25 ∧ 4000 * v + S 29 v ≤ i ∧ i < 4000 * v + S 29 v + k
          · rw [if_pos h5, if_pos (by omega)]
          · have h5' : ¬ (c = 25 ∧ 4000 * v + S 29 v ≤ i ∧ i < 4000 * v + S 29 v + (k + 1)) := by omega
            rw [if_neg h5, if_neg h5']
            by_cases h6 : c = 26 ∧ 4000 * v + S 29 v ≤ i ∧ i < 4000 * v + S 29 v + k
            · rw [if_pos h6, if_pos (by omega)]
            · rw [if_neg h6, if_neg (by omega)]
/-- what a new packet p of n bytes (T) on channel v changes in the numbers that both keep -/
def nwp (v p n i0 F la t : Nat) (T : Nat → Nat) (R : St) (c i : Nat) : Nat :=
  if c = 22 ∧ i = p then la else if c = 29 ∧ i = v then R 29 v + F else if c = 25 ∧ i0 ≤ i ∧ i < i0 + F then p else if c = 26 ∧ i0 ≤ i ∧ i < i0 + F then i - i0 else
  if i = p ∧ c = 16 then v else if i = p ∧ c = 17 then n else if i = p ∧ c = 19 then t else if i = p ∧ c = 20 then NN else if i = p ∧ c = 21 then NN else if i = p ∧ c = 23 then 0 else
  if c = 18 ∧ 60 * p ≤ i ∧ i < 60 * p + n then T (i - 60 * p) else if c = 6 ∧ i = 0 then p + 1 else R c i
theorem ofS_at {v : Nat} {S : St} {c i : Nat} (h24 : c ≠ 24) (h36 : c ≠ 36) (h0 : c ≠ 0) : ofS v S c i = nwp v (S 6 0) (S 36 0) (4000 * v + S 29 v) (fo (S 36 0)) (laN v S) (S 7 0) (fun j => S 35 j) S c i := by
  have e29 : of3 v S 29 v = S 29 v := by unfold of3 of2 of1; simp only [up_n, itr_cpS]; simp
  unfold ofS nwp of4
  rw [up_n, itr_flS, e29]
  by_cases h1 : c = 22 ∧ i = S 6 0
  · rw [if_pos h1, if_pos h1]
  rw [if_neg h1, if_neg h1]
  by_cases h2 : c = 29 ∧ i = v
  · rw [if_pos h2, if_pos h2]
  rw [if_neg h2, if_neg h2]
  by_cases h3 : c = 25 ∧ 4000 * v + S 29 v ≤ i ∧ i < 4000 * v + S 29 v + fo (S 36 0)
  · rw [if_pos h3, if_pos h3]
  rw [if_neg h3, if_neg h3]
  by_cases h4 : c = 26 ∧ 4000 * v + S 29 v ≤ i ∧ i < 4000 * v + S 29 v + fo (S 36 0)
  · rw [if_pos h4, if_pos h4]
  rw [if_neg h4, if_neg h4]
  unfold of3 of2
  simp only [up_n, itr_cpS]
  have e35 : ∀ j, of1 v S 35 j = S 35 j := fun j => by unfold of1; simp [up_n]
  have e1 : of1 v S c i = if i = S 6 0 ∧ c = 17 then S 36 0 else if i = S 6 0 ∧ c = 16 then v else if c = 6 ∧ i = 0 then S 6 0 + 1 else S c i := by
    unfold of1; simp only [up_n, h36, h0, false_and, if_false, and_comm]
  rw [e1, e35]
  by_cases hi : i = S 6 0
  · by_cases q1 : c = 16
    · subst q1; simp [hi]
    by_cases q2 : c = 17
    · subst q2; simp [hi]
    by_cases q3 : c = 19
    · subst q3; simp [hi]
    by_cases q4 : c = 20
    · subst q4; simp [hi]
    by_cases q5 : c = 21
    · subst q5; simp [hi]
    by_cases q6 : c = 23
    · subst q6; simp [hi]
    simp only [q1, q2, q3, q4, q5, q6, h24, false_and, and_false, if_false]
  · simp only [hi, and_false, false_and, if_false]
theorem apC_at {v n : Nat} {T : Nat → Nat} {C : St} {c i : Nat} (hc : c ∉ [53, 55, 51, 56, 49]) : apC v n T C c i = nwp v (C 6 0) n (4000 * v + C 29 v) (fo n) (laC v (ap4 v n T C)) (C 7 0) T C c i := by
  simp at hc
  have e29 : up (ap3 v n T C) 22 (C 6 0) 0 29 v = C 29 v := by unfold ap3 ap2 ap1; simp only [up_n, itr_cpC]; simp
  unfold apC nwp
  rw [up_n, if_neg (by omega), up_n, if_neg (by omega), up_n]
  by_cases h1 : c = 22 ∧ i = C 6 0
  · rw [if_pos h1, if_pos h1]
  rw [if_neg h1, if_neg h1]
  unfold ap4
  rw [itr_apf, e29]
  by_cases h2 : c = 29 ∧ i = v
  · rw [if_pos h2, if_pos h2]
  have h51 : ¬ (c = 51 ∧ i = v) := by omega
  rw [if_neg h2, if_neg h2, if_neg h51]
  by_cases h3 : c = 25 ∧ 4000 * v + C 29 v ≤ i ∧ i < 4000 * v + C 29 v + fo n
  · rw [if_pos h3, if_pos h3]
  rw [if_neg h3, if_neg h3]
  by_cases h4 : c = 26 ∧ 4000 * v + C 29 v ≤ i ∧ i < 4000 * v + C 29 v + fo n
  · rw [if_pos h4, if_pos h4]
  rw [if_neg h4, if_neg h4, up_n, if_neg h1]
  unfold ap3 ap2
  simp only [up_n, itr_cpC]
  have e1 : ap1 v n C c i = if i = C 6 0 ∧ c = 17 then n else if i = C 6 0 ∧ c = 16 then v else if c = 6 ∧ i = 0 then C 6 0 + 1 else C c i := by
    unfold ap1; simp only [up_n, and_comm]
  rw [e1]
  have hc53 : ¬ c = 53 := by omega
  have hc55 : ¬ c = 55 := by omega
  by_cases hi : i = C 6 0
  · by_cases q1 : c = 16
    · subst q1; simp [hi]
    by_cases q2 : c = 17
    · subst q2; simp [hi]
    by_cases q3 : c = 19
    · subst q3; simp [hi]
    by_cases q4 : c = 20
    · subst q4; simp [hi]
    by_cases q5 : c = 21
    · subst q5; simp [hi]
    by_cases q6 : c = 23
    · subst q6; simp [hi]
    simp only [q1, q2, q3, q4, q5, q6, hc53, hc55, false_and, and_false, if_false]
  · simp only [hi, hc53, hc55, and_false, false_and, if_false]
theorem nwp_o {v p n i0 F la t : Nat} {T : Nat → Nat} {R : St} {c i : Nat} (h : c ∉ [22, 29, 25, 26, 16, 17, 19, 20, 21, 23, 18, 6]) : nwp v p n i0 F la t T R c i = R c i := by
  simp at h
  unfold nwp
  rw [if_neg (by omega), if_neg (by omega), if_neg (by omega), if_neg (by omega), if_neg (by omega), if_neg (by omega), if_neg (by omega), if_neg (by omega), if_neg (by omega), if_neg (by omega), if_neg (by omega), if_neg (by omega)]
theorem nwp_p {v p n i0 F la t : Nat} {T : Nat → Nat} {R : St} {c i : Nat} (h : c ∈ [22, 16, 17, 19, 20, 21, 23]) (hi : i ≠ p) : nwp v p n i0 F la t T R c i = R c i := by
  simp at h
  unfold nwp
  rw [if_neg (by omega), if_neg (by omega), if_neg (by omega), if_neg (by omega), if_neg (by omega), if_neg (by omega), if_neg (by omega), if_neg (by omega), if_neg (by omega), if_neg (by omega), if_neg (by omega), if_neg (by omega)]
theorem nwp_new {v p n i0 F la t : Nat} {T : Nat → Nat} {R : St} : nwp v p n i0 F la t T R 22 p = la ∧ nwp v p n i0 F la t T R 16 p = v ∧ nwp v p n i0 F la t T R 17 p = n ∧ nwp v p n i0 F la t T R 19 p = t ∧ nwp v p n i0 F la t T R 20 p = NN ∧ nwp v p n i0 F la t T R 21 p = NN ∧ nwp v p n i0 F la t T R 23 p = 0 ∧ nwp v p n i0 F la t T R 6 0 = p + 1 ∧ nwp v p n i0 F la t T R 29 v = R 29 v + F := by
  unfold nwp; simp
theorem nwp_29 {v p n i0 F la t u : Nat} {T : Nat → Nat} {R : St} (h : u ≠ v) : nwp v p n i0 F la t T R 29 u = R 29 u := by
  unfold nwp; simp [h]
theorem nwp_f {v p n i0 F la t i : Nat} {T : Nat → Nat} {R : St} : nwp v p n i0 F la t T R 25 i = (if i0 ≤ i ∧ i < i0 + F then p else R 25 i) ∧ nwp v p n i0 F la t T R 26 i = (if i0 ≤ i ∧ i < i0 + F then i - i0 else R 26 i) := by
  unfold nwp; simp
