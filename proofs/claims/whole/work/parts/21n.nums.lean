/-! ===== numbers: what the walk computes with Int32, said of Nat ===== -/
theorem q_lt {a b : Nat} (ha : a < 2147483648) (hb : b < 2147483648) : (nI a < nI b) = (a < b) := propext (nI_ltI ha hb)
theorem q_le {a b : Nat} (ha : a < 2147483648) (hb : b < 2147483648) : (nI a ≤ nI b) = (a ≤ b) := propext (nI_leI ha hb)
theorem q_eq {a b : Nat} (ha : a < 4294967296) (hb : b < 4294967296) : (nI a = nI b) = (a = b) := by
  refine propext ⟨fun h => ?_, fun h => by rw [h]⟩
  have h2 := congrArg (fun x : Int32 => x.toBitVec.toNat) h
  simp only [pk_tn ha, pk_tn hb] at h2
  exact h2
theorem q_add {a b : Nat} : nI a + nI b = nI (a + b) := nI_add a b
theorem q_mul {a b : Nat} : nI a * nI b = nI (a * b) := pk_mul a b
theorem q_sub {a b : Nat} (h : b ≤ a) : nI a - nI b = nI (a - b) := pk_sub h
theorem q_div {a b : Nat} (ha : a < 2147483648) (h0 : 0 < b) (hb : b < 2147483648) : nI a / nI b = nI (a / b) := pk_div ha h0 hb
theorem q_rem {a b : Nat} (ha : a < 2147483648) (h0 : 0 < b) (hb : b < 2147483648) : nI a - nI a / nI b * nI b = nI (a % b) := pk_rem ha h0 hb
theorem q_in {a N : Nat} (ha : a < 2147483648) : vp_in (nI a) N = (a < N) := by
  refine propext ⟨fun h => ?_, fun h => ?_⟩
  · have := (vp_in_iff).mp h
    rw [nI_toInt ha] at this
    omega
  · exact (vp_in_iff).mpr (by rw [nI_toInt ha]; omega)
theorem q_cl {a : Nat} (ha : a < 2147483648) : (nI a).toNatClampNeg = a := nI_clamp ha
theorem q_0l : (0 : Int32).toNatClampNeg = 0 := rfl
theorem q_sac {a b c : Nat} (h : b ≤ a + c) : nI a - nI b + nI c = nI (a + c - b) := by
  have h1 : nI (a + c - b) + nI b = nI a + nI c := by rw [nI_add, nI_add]; congr 1; omega
  grind
theorem q_m1 {a : Nat} (h : 0 < a) : nI a + -1 = nI (a - 1) := by
  obtain ⟨b, rfl⟩ : ∃ b, a = b + 1 := ⟨a - 1, by omega⟩
  rw [pk_m1]; rfl
theorem l_0 : (0 : Int32) = nI 0 := rfl
theorem l_1 : (1 : Int32) = nI 1 := rfl
theorem l_2 : (2 : Int32) = nI 2 := rfl
theorem l_3 : (3 : Int32) = nI 3 := rfl
theorem l_4 : (4 : Int32) = nI 4 := rfl
theorem l_5 : (5 : Int32) = nI 5 := rfl
theorem l_6 : (6 : Int32) = nI 6 := rfl
theorem l_8 : (8 : Int32) = nI 8 := rfl
theorem l_15 : (15 : Int32) = nI 15 := rfl
theorem l_16 : (16 : Int32) = nI 16 := rfl
theorem l_32 : (32 : Int32) = nI 32 := rfl
theorem l_60 : (60 : Int32) = nI 60 := rfl
theorem l_250 : (250 : Int32) = nI 250 := rfl
theorem l_255 : (255 : Int32) = nI 255 := rfl
theorem l_4000 : (4000 : Int32) = nI 4000 := rfl
theorem l_5000 : (5000 : Int32) = nI 5000 := rfl
theorem l_m1 : (-1 : Int32) = nI NN := rfl
theorem q_nn {a : Nat} (ha : a < 4294967295) : (nI a = -1) = False := by
  rw [l_m1, q_eq (by omega) (by decide)]
  simp only [NN, eq_iff_iff, iff_false]; omega
/-- an int is a channel's number, or none -/
theorem q_ch {x : Int32} {n : Nat} (hn : n < 2147483648) : (0 ≤ x ∧ x < nI n) ↔ ∃ v, v < n ∧ x = nI v := by
  constructor
  · rintro ⟨h1, h2⟩
    rcases pk_ix x hn with q | q | q
    · exact absurd q (by rw [Int32.not_lt]; exact h1)
    · exact absurd q (by rw [Int32.not_le]; exact h2)
    · exact q
  · rintro ⟨v, h1, rfl⟩
    rw [l_0, q_le (by omega) (by omega), q_lt (by omega) hn]
    exact ⟨Nat.zero_le _, h1⟩
theorem q_rg {x : Int32} {a b : Nat} (hb : b < 2147483648) : (nI a ≤ x ∧ x ≤ nI b) → a < 2147483648 → ∃ v, a ≤ v ∧ v ≤ b ∧ x = nI v := by
  rintro ⟨h1, h2⟩ ha
  have h0 : ¬ x < 0 := by
    rw [Int32.not_lt]
    exact Int32.le_trans (by rw [l_0, q_le (by omega) ha]; omega) h1
  obtain ⟨j, hj, rfl⟩ := nI_of h0
  rw [q_le ha hj] at h1
  rw [q_le hj hb] at h2
  exact ⟨j, h1, h2, rfl⟩
/-- so many flits have n bytes -/
def fo (n : Nat) : Nat := if n = 0 then 1 else (n + 3) / 4
def cr (S : St) (v : Nat) : Nat := S 13 v + S 33 v - S 30 v
def abl (S : St) (v : Nat) : Bool := decide (S 30 v < S 29 v ∧ 0 < cr S v)
/-- bounds that keep the model's own numbers small -/
def Wc (S : St) (v : Nat) : Prop := 1 ≤ S 13 v ∧ S 13 v ≤ 16 ∧ 1 ≤ S 14 v ∧ S 14 v ≤ 15 ∧ S 33 v ≤ S 32 v ∧ S 32 v ≤ S 31 v ∧ S 31 v ≤ S 30 v ∧ S 30 v ≤ S 29 v ∧ S 29 v ≤ 15 * S 6 0 ∧ S 30 v ≤ S 13 v + S 33 v ∧ S 34 v ≤ 4000
def Ws (S : St) : Prop := 1 ≤ S 1 0 ∧ S 1 0 ≤ 8 ∧ 1 ≤ S 2 0 ∧ S 2 0 ≤ 16 ∧ 1 ≤ S 3 0 ∧ S 3 0 ≤ 16 ∧ S 4 0 ≤ 3 ∧ S 5 0 ≤ 32 ∧ S 6 0 ≤ 250 ∧ S 7 0 ≤ 10000000 ∧ (S 8 0 = NN ∨ S 8 0 < S 1 0) ∧ S 9 0 ≤ 10000000 ∧ S 10 0 ≤ 10000000 ∧ S 11 0 ≤ 100000000 ∧ S 12 0 ≤ 100000000 ∧ S 36 0 ≤ 60 ∧ S 38 0 ≤ 60
def Wp (S : St) (p : Nat) : Prop := S 16 p < S 1 0 ∧ S 17 p ≤ 60 ∧ S 19 p ≤ S 7 0 ∧ (S 20 p = NN ∨ S 20 p ≤ S 7 0) ∧ (S 21 p = NN ∨ S 21 p ≤ S 7 0) ∧ S 22 p ≤ 1000000000 ∧ S 23 p ≤ 1 ∧ S 24 p ≤ 1
def Wf (S : St) (v f : Nat) : Prop := S 25 (4000 * v + f) < S 6 0 ∧ S 26 (4000 * v + f) < fo (S 17 (S 25 (4000 * v + f))) ∧ (f < S 30 v → S 27 (4000 * v + f) ≤ S 7 0) ∧ (f < S 32 v → S 28 (4000 * v + f) ≤ S 7 0)
def WF (S : St) : Prop := Ws S ∧ (∀ v, v < 8 → Wc S v) ∧ (∀ p, p < S 6 0 → Wp S p) ∧ (∀ v, v < 8 → ∀ f, f < S 29 v → Wf S v f)
theorem ite_zn {c : Prop} [Decidable c] : ((if c then nI 1 else nI 0) = nI 0) = ¬ c := by by_cases h : c <;> simp [h, show ¬ nI 1 = nI 0 by decide]
theorem ite_zm {c : Prop} [Decidable c] : ((if c then nI 0 else nI 1) = nI 0) = c := by by_cases h : c <;> simp [h, show ¬ nI 1 = nI 0 by decide]
theorem q_rem2 {a b : Nat} : nI a - nI (a / b * b) = nI (a % b) := by
  rw [pk_sub (Nat.div_mul_le_self a b)]
  congr 1
  have := Nat.div_add_mod a b
  have e : b * (a / b) = a / b * b := Nat.mul_comm _ _
  omega
theorem l_neg : -nI 1 = nI NN := rfl
theorem NN_lt : NN < 4294967296 := by decide
theorem NN_v : NN = 4294967295 := rfl
theorem q_max {a b : Nat} : (if a < b then nI b else nI a) = nI (max a b) := by
  split
  · congr 1; omega
  · congr 1; omega
theorem q_min {a b : Nat} : (if b < a then nI b else nI a) = nI (min a b) := by
  split
  · congr 1; omega
  · congr 1; omega
