/-! ===== the pure state: component (the model's field number) and index; NONE is 2^32-1 (nI of it is -1) ===== -/
abbrev St : Type := Nat → Nat → Nat
def up (S : St) (k j x : Nat) : St := fun a b => if a = k ∧ b = j then x else S a b
theorem up_s (S : St) (k j x : Nat) : up S k j x k j = x := by simp [up]
theorem up_n (S : St) (k j x a b : Nat) : up S k j x a b = if a = k ∧ b = j then x else S a b := rfl
def NN : Nat := 4294967295
theorem nI_NN : nI NN = -1 := rfl
def aK (k : Nat) : Nat := match k with
  | 13 => 8
  | 14 => 8
  | 15 => 8
  | 16 => 8
  | 17 => 8
  | 18 => 7
  | 19 => 8
  | 20 => 8
  | 21 => 8
  | 22 => 8
  | 23 => 9
  | 24 => 9
  | 25 => 8
  | 26 => 8
  | 27 => 8
  | 28 => 8
  | 29 => 8
  | 30 => 8
  | 31 => 8
  | 32 => 8
  | 33 => 8
  | 34 => 8
  | 35 => 7
  | 37 => 7
  | _ => 99
def aN (k : Nat) : Nat := match k with
  | 13 => 8
  | 14 => 8
  | 15 => 32
  | 16 => 250
  | 17 => 250
  | 18 => 15000
  | 19 => 250
  | 20 => 250
  | 21 => 250
  | 22 => 250
  | 23 => 250
  | 24 => 250
  | 25 => 32000
  | 26 => 32000
  | 27 => 32000
  | 28 => 32000
  | 29 => 8
  | 30 => 8
  | 31 => 8
  | 32 => 8
  | 33 => 8
  | 34 => 8
  | 35 => 60
  | 37 => 60
  | _ => 0
def isS (k : Nat) : Bool := match k with
  | 0 => true
  | 1 => true
  | 2 => true
  | 3 => true
  | 4 => true
  | 5 => true
  | 6 => true
  | 7 => true
  | 8 => true
  | 9 => true
  | 10 => true
  | 11 => true
  | 12 => true
  | 36 => true
  | 38 => true
  | _ => false
/-- the model m, its arrays at ar k, tells S -/
def RepM (G : GG) (m : Nat) (ar : Nat → Nat) (S : St) : Prop :=
  knd G m = 6 ∧ (∀ k, aK k ≠ 99 → gr G m k = some (ar k) ∧ knd G (ar k) = aK k ∧ gn G (ar k) = aN k) ∧ (∀ k k', aK k ≠ 99 → aK k' ≠ 99 → ar k = ar k' → k = k') ∧
  (∀ k, isS k = true → gi G m k = nI (S k 0)) ∧ ∀ k, aK k ≠ 99 → ∀ j, j < aN k → gi G (ar k) j = nI (S k j)
/-- nothing but the model has changed -/
def Fr (m : Nat) (ar : Nat → Nat) (G G' : GG) : Prop := ∀ b, b ≠ m → (∀ k, aK k ≠ 99 → b ≠ ar k) → G' b = G b
theorem Fr.rf {m : Nat} {ar : Nat → Nat} {G : GG} : Fr m ar G G := fun _ _ _ => rfl
theorem Fr.tr {m : Nat} {ar : Nat → Nat} {G1 G2 G3 : GG} (h : Fr m ar G1 G2) (h2 : Fr m ar G2 G3) : Fr m ar G1 G3 := fun b q1 q2 => (h2 b q1 q2).trans (h b q1 q2)
theorem sI_o {G : GG} {a k b : Nat} {x : Int32} (h : b ≠ a) : sI G a k x b = G b := by unfold sI va_up; rw [if_neg h]
theorem sR_o {G : GG} {a k b : Nat} {x : Option Nat} (h : b ≠ a) : sR G a k x b = G b := by unfold sR va_up; rw [if_neg h]
theorem Fr.a {m : Nat} {ar : Nat → Nat} {G G1 : GG} (h : Fr m ar G G1) {k j : Nat} {x : Int32} (hk : aK k ≠ 99) : Fr m ar G (sI G1 (ar k) j x) := fun b q1 q2 => (sI_o (q2 k hk)).trans (h b q1 q2)
theorem Fr.s {m : Nat} {ar : Nat → Nat} {G G1 : GG} (h : Fr m ar G G1) {k : Nat} {x : Int32} : Fr m ar G (sI G1 m k x) := fun b q1 q2 => (sI_o q1).trans (h b q1 q2)
section RM
variable {G : GG} {m : Nat} {ar : Nat → Nat} {S : St}
theorem RepM.am (h : RepM G m ar S) {k : Nat} (hk : aK k ≠ 99) : ar k ≠ m := fun e => by
  have h1 := h.1
  have h2 := (h.2.1 k hk).2.1
  rw [e, h1] at h2
  unfold aK at h2
  split at h2 <;> simp at h2
theorem RepM.ne (h : RepM G m ar S) {k k' : Nat} (hk : aK k ≠ 99) (hk' : aK k' ≠ 99) : (ar k = ar k') = (k = k') := propext ⟨h.2.2.1 k k' hk hk', fun e => by rw [e]⟩
theorem RepM.setA (h : RepM G m ar S) {k j x : Nat} {v : Int32} (hk : aK k ≠ 99) (hv : v = nI x) : RepM (sI G (ar k) j v) m ar (up S k j x) := by
  subst hv
  obtain ⟨h1, h2, h3, h4, h5⟩ := id h
  refine ⟨by rw [knd_sI]; exact h1, fun k' hk' => ?_, h3, fun k' hk' => ?_, fun k' hk' j' hj' => ?_⟩
  · rw [gr_sI, knd_sI, gn_sI]; exact h2 k' hk'
  · rw [gi_sI, if_neg (fun q => h.am hk q.1.symm), up_n, h4 k' hk', if_neg]
    rintro ⟨rfl, -⟩
    unfold isS at hk'; unfold aK at hk
    split at hk' <;> simp at hk' <;> simp at hk
  · simp only [gi_sI, up_n, h.ne hk' hk, h5 k' hk' j' hj']
    split <;> rfl
theorem RepM.setS (h : RepM G m ar S) {k x : Nat} {v : Int32} (hk : isS k = true) (hv : v = nI x) : RepM (sI G m k v) m ar (up S k 0 x) := by
  subst hv
  obtain ⟨h1, h2, h3, h4, h5⟩ := id h
  refine ⟨by rw [knd_sI]; exact h1, fun k' hk' => ?_, h3, fun k' hk' => ?_, fun k' hk' j' hj' => ?_⟩
  · rw [gr_sI, knd_sI, gn_sI]; exact h2 k' hk'
  · rw [gi_sI, up_n, h4 k' hk']
    by_cases e : k' = k <;> simp [e]
  · rw [gi_sI, if_neg (fun q => h.am hk' q.1), up_n, h5 k' hk' j' hj', if_neg]
    rintro ⟨rfl, -⟩
    unfold isS at hk; unfold aK at hk'
    split at hk <;> simp at hk <;> simp at hk'
theorem RepM.gh (h : RepM G m ar S) {k j x : Nat} (h1 : aK k = 99) (h2 : isS k = false) : RepM G m ar (up S k j x) := by
  obtain ⟨q1, q2, q3, q4, q5⟩ := h
  refine ⟨q1, q2, q3, fun k' hk' => ?_, fun k' hk' j' hj' => ?_⟩
  · rw [up_n, if_neg (fun q => by rw [q.1, h2] at hk'; cases hk')]; exact q4 k' hk'
  · rw [up_n, if_neg (fun q => by rw [q.1] at hk'; exact hk' h1)]; exact q5 k' hk' j' hj'
theorem RepM.a13 (h : RepM G m ar S) : gr G m 13 = some (ar 13) := (h.2.1 13 (by decide)).1
theorem RepM.k13 (h : RepM G m ar S) : knd G (ar 13) = 8 := (h.2.1 13 (by decide)).2.1
theorem RepM.n13 (h : RepM G m ar S) : gn G (ar 13) = 8 := (h.2.1 13 (by decide)).2.2
theorem RepM.g13 (h : RepM G m ar S) {j : Nat} (hj : j < 8) : gi G (ar 13) j = nI (S 13 j) := h.2.2.2.2 13 (by decide) j hj
theorem ak_13 : (aK 13 ≠ 99) = True := by simp [aK]
theorem RepM.a14 (h : RepM G m ar S) : gr G m 14 = some (ar 14) := (h.2.1 14 (by decide)).1
theorem RepM.k14 (h : RepM G m ar S) : knd G (ar 14) = 8 := (h.2.1 14 (by decide)).2.1
theorem RepM.n14 (h : RepM G m ar S) : gn G (ar 14) = 8 := (h.2.1 14 (by decide)).2.2
theorem RepM.g14 (h : RepM G m ar S) {j : Nat} (hj : j < 8) : gi G (ar 14) j = nI (S 14 j) := h.2.2.2.2 14 (by decide) j hj
theorem ak_14 : (aK 14 ≠ 99) = True := by simp [aK]
theorem RepM.a15 (h : RepM G m ar S) : gr G m 15 = some (ar 15) := (h.2.1 15 (by decide)).1
theorem RepM.k15 (h : RepM G m ar S) : knd G (ar 15) = 8 := (h.2.1 15 (by decide)).2.1
theorem RepM.n15 (h : RepM G m ar S) : gn G (ar 15) = 32 := (h.2.1 15 (by decide)).2.2
theorem RepM.g15 (h : RepM G m ar S) {j : Nat} (hj : j < 32) : gi G (ar 15) j = nI (S 15 j) := h.2.2.2.2 15 (by decide) j hj
theorem ak_15 : (aK 15 ≠ 99) = True := by simp [aK]
theorem RepM.a16 (h : RepM G m ar S) : gr G m 16 = some (ar 16) := (h.2.1 16 (by decide)).1
theorem RepM.k16 (h : RepM G m ar S) : knd G (ar 16) = 8 := (h.2.1 16 (by decide)).2.1
theorem RepM.n16 (h : RepM G m ar S) : gn G (ar 16) = 250 := (h.2.1 16 (by decide)).2.2
theorem RepM.g16 (h : RepM G m ar S) {j : Nat} (hj : j < 250) : gi G (ar 16) j = nI (S 16 j) := h.2.2.2.2 16 (by decide) j hj
theorem ak_16 : (aK 16 ≠ 99) = True := by simp [aK]
theorem RepM.a17 (h : RepM G m ar S) : gr G m 17 = some (ar 17) := (h.2.1 17 (by decide)).1
theorem RepM.k17 (h : RepM G m ar S) : knd G (ar 17) = 8 := (h.2.1 17 (by decide)).2.1
theorem RepM.n17 (h : RepM G m ar S) : gn G (ar 17) = 250 := (h.2.1 17 (by decide)).2.2
theorem RepM.g17 (h : RepM G m ar S) {j : Nat} (hj : j < 250) : gi G (ar 17) j = nI (S 17 j) := h.2.2.2.2 17 (by decide) j hj
theorem ak_17 : (aK 17 ≠ 99) = True := by simp [aK]
theorem RepM.a18 (h : RepM G m ar S) : gr G m 18 = some (ar 18) := (h.2.1 18 (by decide)).1
theorem RepM.k18 (h : RepM G m ar S) : knd G (ar 18) = 7 := (h.2.1 18 (by decide)).2.1
theorem RepM.n18 (h : RepM G m ar S) : gn G (ar 18) = 15000 := (h.2.1 18 (by decide)).2.2
theorem RepM.g18 (h : RepM G m ar S) {j : Nat} (hj : j < 15000) : gi G (ar 18) j = nI (S 18 j) := h.2.2.2.2 18 (by decide) j hj
theorem ak_18 : (aK 18 ≠ 99) = True := by simp [aK]
theorem RepM.a19 (h : RepM G m ar S) : gr G m 19 = some (ar 19) := (h.2.1 19 (by decide)).1
theorem RepM.k19 (h : RepM G m ar S) : knd G (ar 19) = 8 := (h.2.1 19 (by decide)).2.1
theorem RepM.n19 (h : RepM G m ar S) : gn G (ar 19) = 250 := (h.2.1 19 (by decide)).2.2
theorem RepM.g19 (h : RepM G m ar S) {j : Nat} (hj : j < 250) : gi G (ar 19) j = nI (S 19 j) := h.2.2.2.2 19 (by decide) j hj
theorem ak_19 : (aK 19 ≠ 99) = True := by simp [aK]
theorem RepM.a20 (h : RepM G m ar S) : gr G m 20 = some (ar 20) := (h.2.1 20 (by decide)).1
theorem RepM.k20 (h : RepM G m ar S) : knd G (ar 20) = 8 := (h.2.1 20 (by decide)).2.1
theorem RepM.n20 (h : RepM G m ar S) : gn G (ar 20) = 250 := (h.2.1 20 (by decide)).2.2
theorem RepM.g20 (h : RepM G m ar S) {j : Nat} (hj : j < 250) : gi G (ar 20) j = nI (S 20 j) := h.2.2.2.2 20 (by decide) j hj
theorem ak_20 : (aK 20 ≠ 99) = True := by simp [aK]
theorem RepM.a21 (h : RepM G m ar S) : gr G m 21 = some (ar 21) := (h.2.1 21 (by decide)).1
theorem RepM.k21 (h : RepM G m ar S) : knd G (ar 21) = 8 := (h.2.1 21 (by decide)).2.1
theorem RepM.n21 (h : RepM G m ar S) : gn G (ar 21) = 250 := (h.2.1 21 (by decide)).2.2
theorem RepM.g21 (h : RepM G m ar S) {j : Nat} (hj : j < 250) : gi G (ar 21) j = nI (S 21 j) := h.2.2.2.2 21 (by decide) j hj
theorem ak_21 : (aK 21 ≠ 99) = True := by simp [aK]
theorem RepM.a22 (h : RepM G m ar S) : gr G m 22 = some (ar 22) := (h.2.1 22 (by decide)).1
theorem RepM.k22 (h : RepM G m ar S) : knd G (ar 22) = 8 := (h.2.1 22 (by decide)).2.1
theorem RepM.n22 (h : RepM G m ar S) : gn G (ar 22) = 250 := (h.2.1 22 (by decide)).2.2
theorem RepM.g22 (h : RepM G m ar S) {j : Nat} (hj : j < 250) : gi G (ar 22) j = nI (S 22 j) := h.2.2.2.2 22 (by decide) j hj
theorem ak_22 : (aK 22 ≠ 99) = True := by simp [aK]
theorem RepM.a23 (h : RepM G m ar S) : gr G m 23 = some (ar 23) := (h.2.1 23 (by decide)).1
theorem RepM.k23 (h : RepM G m ar S) : knd G (ar 23) = 9 := (h.2.1 23 (by decide)).2.1
theorem RepM.n23 (h : RepM G m ar S) : gn G (ar 23) = 250 := (h.2.1 23 (by decide)).2.2
theorem RepM.g23 (h : RepM G m ar S) {j : Nat} (hj : j < 250) : gi G (ar 23) j = nI (S 23 j) := h.2.2.2.2 23 (by decide) j hj
theorem ak_23 : (aK 23 ≠ 99) = True := by simp [aK]
theorem RepM.a24 (h : RepM G m ar S) : gr G m 24 = some (ar 24) := (h.2.1 24 (by decide)).1
theorem RepM.k24 (h : RepM G m ar S) : knd G (ar 24) = 9 := (h.2.1 24 (by decide)).2.1
theorem RepM.n24 (h : RepM G m ar S) : gn G (ar 24) = 250 := (h.2.1 24 (by decide)).2.2
theorem RepM.g24 (h : RepM G m ar S) {j : Nat} (hj : j < 250) : gi G (ar 24) j = nI (S 24 j) := h.2.2.2.2 24 (by decide) j hj
theorem ak_24 : (aK 24 ≠ 99) = True := by simp [aK]
theorem RepM.a25 (h : RepM G m ar S) : gr G m 25 = some (ar 25) := (h.2.1 25 (by decide)).1
theorem RepM.k25 (h : RepM G m ar S) : knd G (ar 25) = 8 := (h.2.1 25 (by decide)).2.1
theorem RepM.n25 (h : RepM G m ar S) : gn G (ar 25) = 32000 := (h.2.1 25 (by decide)).2.2
theorem RepM.g25 (h : RepM G m ar S) {j : Nat} (hj : j < 32000) : gi G (ar 25) j = nI (S 25 j) := h.2.2.2.2 25 (by decide) j hj
theorem ak_25 : (aK 25 ≠ 99) = True := by simp [aK]
theorem RepM.a26 (h : RepM G m ar S) : gr G m 26 = some (ar 26) := (h.2.1 26 (by decide)).1
theorem RepM.k26 (h : RepM G m ar S) : knd G (ar 26) = 8 := (h.2.1 26 (by decide)).2.1
theorem RepM.n26 (h : RepM G m ar S) : gn G (ar 26) = 32000 := (h.2.1 26 (by decide)).2.2
theorem RepM.g26 (h : RepM G m ar S) {j : Nat} (hj : j < 32000) : gi G (ar 26) j = nI (S 26 j) := h.2.2.2.2 26 (by decide) j hj
theorem ak_26 : (aK 26 ≠ 99) = True := by simp [aK]
theorem RepM.a27 (h : RepM G m ar S) : gr G m 27 = some (ar 27) := (h.2.1 27 (by decide)).1
theorem RepM.k27 (h : RepM G m ar S) : knd G (ar 27) = 8 := (h.2.1 27 (by decide)).2.1
theorem RepM.n27 (h : RepM G m ar S) : gn G (ar 27) = 32000 := (h.2.1 27 (by decide)).2.2
theorem RepM.g27 (h : RepM G m ar S) {j : Nat} (hj : j < 32000) : gi G (ar 27) j = nI (S 27 j) := h.2.2.2.2 27 (by decide) j hj
theorem ak_27 : (aK 27 ≠ 99) = True := by simp [aK]
theorem RepM.a28 (h : RepM G m ar S) : gr G m 28 = some (ar 28) := (h.2.1 28 (by decide)).1
theorem RepM.k28 (h : RepM G m ar S) : knd G (ar 28) = 8 := (h.2.1 28 (by decide)).2.1
theorem RepM.n28 (h : RepM G m ar S) : gn G (ar 28) = 32000 := (h.2.1 28 (by decide)).2.2
theorem RepM.g28 (h : RepM G m ar S) {j : Nat} (hj : j < 32000) : gi G (ar 28) j = nI (S 28 j) := h.2.2.2.2 28 (by decide) j hj
theorem ak_28 : (aK 28 ≠ 99) = True := by simp [aK]
theorem RepM.a29 (h : RepM G m ar S) : gr G m 29 = some (ar 29) := (h.2.1 29 (by decide)).1
theorem RepM.k29 (h : RepM G m ar S) : knd G (ar 29) = 8 := (h.2.1 29 (by decide)).2.1
theorem RepM.n29 (h : RepM G m ar S) : gn G (ar 29) = 8 := (h.2.1 29 (by decide)).2.2
theorem RepM.g29 (h : RepM G m ar S) {j : Nat} (hj : j < 8) : gi G (ar 29) j = nI (S 29 j) := h.2.2.2.2 29 (by decide) j hj
theorem ak_29 : (aK 29 ≠ 99) = True := by simp [aK]
theorem RepM.a30 (h : RepM G m ar S) : gr G m 30 = some (ar 30) := (h.2.1 30 (by decide)).1
theorem RepM.k30 (h : RepM G m ar S) : knd G (ar 30) = 8 := (h.2.1 30 (by decide)).2.1
theorem RepM.n30 (h : RepM G m ar S) : gn G (ar 30) = 8 := (h.2.1 30 (by decide)).2.2
theorem RepM.g30 (h : RepM G m ar S) {j : Nat} (hj : j < 8) : gi G (ar 30) j = nI (S 30 j) := h.2.2.2.2 30 (by decide) j hj
theorem ak_30 : (aK 30 ≠ 99) = True := by simp [aK]
theorem RepM.a31 (h : RepM G m ar S) : gr G m 31 = some (ar 31) := (h.2.1 31 (by decide)).1
theorem RepM.k31 (h : RepM G m ar S) : knd G (ar 31) = 8 := (h.2.1 31 (by decide)).2.1
theorem RepM.n31 (h : RepM G m ar S) : gn G (ar 31) = 8 := (h.2.1 31 (by decide)).2.2
theorem RepM.g31 (h : RepM G m ar S) {j : Nat} (hj : j < 8) : gi G (ar 31) j = nI (S 31 j) := h.2.2.2.2 31 (by decide) j hj
theorem ak_31 : (aK 31 ≠ 99) = True := by simp [aK]
theorem RepM.a32 (h : RepM G m ar S) : gr G m 32 = some (ar 32) := (h.2.1 32 (by decide)).1
theorem RepM.k32 (h : RepM G m ar S) : knd G (ar 32) = 8 := (h.2.1 32 (by decide)).2.1
theorem RepM.n32 (h : RepM G m ar S) : gn G (ar 32) = 8 := (h.2.1 32 (by decide)).2.2
theorem RepM.g32 (h : RepM G m ar S) {j : Nat} (hj : j < 8) : gi G (ar 32) j = nI (S 32 j) := h.2.2.2.2 32 (by decide) j hj
theorem ak_32 : (aK 32 ≠ 99) = True := by simp [aK]
theorem RepM.a33 (h : RepM G m ar S) : gr G m 33 = some (ar 33) := (h.2.1 33 (by decide)).1
theorem RepM.k33 (h : RepM G m ar S) : knd G (ar 33) = 8 := (h.2.1 33 (by decide)).2.1
theorem RepM.n33 (h : RepM G m ar S) : gn G (ar 33) = 8 := (h.2.1 33 (by decide)).2.2
theorem RepM.g33 (h : RepM G m ar S) {j : Nat} (hj : j < 8) : gi G (ar 33) j = nI (S 33 j) := h.2.2.2.2 33 (by decide) j hj
theorem ak_33 : (aK 33 ≠ 99) = True := by simp [aK]
theorem RepM.a34 (h : RepM G m ar S) : gr G m 34 = some (ar 34) := (h.2.1 34 (by decide)).1
theorem RepM.k34 (h : RepM G m ar S) : knd G (ar 34) = 8 := (h.2.1 34 (by decide)).2.1
theorem RepM.n34 (h : RepM G m ar S) : gn G (ar 34) = 8 := (h.2.1 34 (by decide)).2.2
theorem RepM.g34 (h : RepM G m ar S) {j : Nat} (hj : j < 8) : gi G (ar 34) j = nI (S 34 j) := h.2.2.2.2 34 (by decide) j hj
theorem ak_34 : (aK 34 ≠ 99) = True := by simp [aK]
theorem RepM.a35 (h : RepM G m ar S) : gr G m 35 = some (ar 35) := (h.2.1 35 (by decide)).1
theorem RepM.k35 (h : RepM G m ar S) : knd G (ar 35) = 7 := (h.2.1 35 (by decide)).2.1
theorem RepM.n35 (h : RepM G m ar S) : gn G (ar 35) = 60 := (h.2.1 35 (by decide)).2.2
theorem RepM.g35 (h : RepM G m ar S) {j : Nat} (hj : j < 60) : gi G (ar 35) j = nI (S 35 j) := h.2.2.2.2 35 (by decide) j hj
theorem ak_35 : (aK 35 ≠ 99) = True := by simp [aK]
theorem RepM.a37 (h : RepM G m ar S) : gr G m 37 = some (ar 37) := (h.2.1 37 (by decide)).1
theorem RepM.k37 (h : RepM G m ar S) : knd G (ar 37) = 7 := (h.2.1 37 (by decide)).2.1
theorem RepM.n37 (h : RepM G m ar S) : gn G (ar 37) = 60 := (h.2.1 37 (by decide)).2.2
theorem RepM.g37 (h : RepM G m ar S) {j : Nat} (hj : j < 60) : gi G (ar 37) j = nI (S 37 j) := h.2.2.2.2 37 (by decide) j hj
theorem ak_37 : (aK 37 ≠ 99) = True := by simp [aK]
theorem RepM.s0 (h : RepM G m ar S) : gi G m 0 = nI (S 0 0) := h.2.2.2.1 0 rfl
theorem RepM.s1 (h : RepM G m ar S) : gi G m 1 = nI (S 1 0) := h.2.2.2.1 1 rfl
theorem RepM.s2 (h : RepM G m ar S) : gi G m 2 = nI (S 2 0) := h.2.2.2.1 2 rfl
theorem RepM.s3 (h : RepM G m ar S) : gi G m 3 = nI (S 3 0) := h.2.2.2.1 3 rfl
theorem RepM.s4 (h : RepM G m ar S) : gi G m 4 = nI (S 4 0) := h.2.2.2.1 4 rfl
theorem RepM.s5 (h : RepM G m ar S) : gi G m 5 = nI (S 5 0) := h.2.2.2.1 5 rfl
theorem RepM.s6 (h : RepM G m ar S) : gi G m 6 = nI (S 6 0) := h.2.2.2.1 6 rfl
theorem RepM.s7 (h : RepM G m ar S) : gi G m 7 = nI (S 7 0) := h.2.2.2.1 7 rfl
theorem RepM.s8 (h : RepM G m ar S) : gi G m 8 = nI (S 8 0) := h.2.2.2.1 8 rfl
theorem RepM.s9 (h : RepM G m ar S) : gi G m 9 = nI (S 9 0) := h.2.2.2.1 9 rfl
theorem RepM.s10 (h : RepM G m ar S) : gi G m 10 = nI (S 10 0) := h.2.2.2.1 10 rfl
theorem RepM.s11 (h : RepM G m ar S) : gi G m 11 = nI (S 11 0) := h.2.2.2.1 11 rfl
theorem RepM.s12 (h : RepM G m ar S) : gi G m 12 = nI (S 12 0) := h.2.2.2.1 12 rfl
theorem RepM.s36 (h : RepM G m ar S) : gi G m 36 = nI (S 36 0) := h.2.2.2.1 36 rfl
theorem RepM.s38 (h : RepM G m ar S) : gi G m 38 = nI (S 38 0) := h.2.2.2.1 38 rfl
end RM
