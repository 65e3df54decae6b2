/-! ===== the class's link: its memory tells C; sorts: 1 the link, 2 channels, 3 what waits, 14 buffers, 4 packets, 5 flits (4000 v + f), 13 bytes, 7 masks, 11 what comes back, 8 9 10 the tables ===== -/
def sk (s : Nat) : Nat := match s with
  | 1 => 3
  | 2 => 0
  | 3 => 2
  | 14 => 2
  | 4 => 4
  | 5 => 1
  | 13 => 7
  | 7 => 8
  | 11 => 8
  | 8 => 11
  | 9 => 12
  | 10 => 13
  | _ => 99
def vld (C : St) (s i : Nat) : Prop := match s with
  | 1 => i = 0
  | 7 => i = 0
  | 8 => i = 0
  | 9 => i = 0
  | 10 => i = 0
  | 2 => i < C 1 0
  | 3 => i < C 1 0
  | 14 => i < C 1 0
  | 11 => i < C 1 0
  | 4 => i < C 6 0
  | 13 => i < C 6 0
  | 5 => i / 4000 < C 1 0 ∧ i % 4000 < C 29 (i / 4000)
  | _ => False
def cs (c : Nat) : Nat := match c with
  | 2 => 1
  | 3 => 1
  | 5 => 1
  | 49 => 1
  | 7 => 1
  | 4 => 1
  | 8 => 1
  | 9 => 1
  | 10 => 1
  | 11 => 1
  | 12 => 1
  | 40 => 1
  | 54 => 2
  | 13 => 2
  | 14 => 2
  | 44 => 2
  | 45 => 2
  | 46 => 2
  | 41 => 2
  | 42 => 2
  | 43 => 2
  | 34 => 2
  | 51 => 3
  | 52 => 14
  | 55 => 4
  | 53 => 4
  | 19 => 4
  | 20 => 4
  | 21 => 4
  | 22 => 4
  | 23 => 4
  | 26 => 5
  | 15 => 7
  | 47 => 11
  | 18 => 13
  | _ => 99
def cf (c : Nat) : Nat := match c with
  | 2 => 0
  | 3 => 1
  | 5 => 6
  | 49 => 7
  | 7 => 8
  | 4 => 9
  | 8 => 10
  | 9 => 11
  | 10 => 12
  | 11 => 13
  | 12 => 14
  | 40 => 15
  | 54 => 0
  | 13 => 4
  | 14 => 5
  | 44 => 6
  | 45 => 7
  | 46 => 8
  | 41 => 9
  | 42 => 10
  | 43 => 11
  | 34 => 12
  | 51 => 2
  | 52 => 2
  | 55 => 0
  | 53 => 3
  | 19 => 4
  | 20 => 5
  | 21 => 6
  | 22 => 7
  | 23 => 8
  | 26 => 1
  | _ => 0
def isO (c : Nat) : Bool := match c with
  | 2 => true
  | 3 => true
  | 5 => true
  | 49 => true
  | 7 => true
  | 4 => true
  | 8 => true
  | 9 => true
  | 10 => true
  | 11 => true
  | 12 => true
  | 40 => true
  | 54 => true
  | 13 => true
  | 14 => true
  | 44 => true
  | 45 => true
  | 46 => true
  | 41 => true
  | 42 => true
  | 43 => true
  | 34 => true
  | 51 => true
  | 52 => true
  | 55 => true
  | 53 => true
  | 19 => true
  | 20 => true
  | 21 => true
  | 22 => true
  | 23 => true
  | 26 => true
  | _ => false
def isA (c : Nat) : Bool := match c with
  | 15 => true
  | 47 => true
  | 18 => true
  | _ => false
def sd (c : Nat) : Nat := match c with
  | 15 => 0
  | 47 => 16
  | 18 => 60
  | _ => 0
def aL (C : St) (c i : Nat) : Nat := match c with
  | 15 => 32
  | 47 => 16
  | 18 => C 17 i
  | _ => 0
def qf (ad : St) (v a b : Nat) : Option Nat := if a < b then some (ad 5 (4000 * v + a)) else none
def ql (ad : St) (v a b : Nat) : Option Nat := if a < b then some (ad 5 (4000 * v + (b - 1))) else none
def nxo (ad C : St) (i : Nat) : Option Nat := if (C 30 (i / 4000) ≤ i % 4000 ∧ i % 4000 + 1 < C 29 (i / 4000)) ∨ (C 32 (i / 4000) ≤ i % 4000 ∧ i % 4000 + 1 < C 31 (i / 4000)) then some (ad 5 (i + 1)) else none
def wc (ad : St) (n : Nat) : Option Nat := if n = 0 then none else some (ad 5 (n - 1))
def Ref (G : GG) (ad C : St) (s i : Nat) : Prop := match s with
  | 1 => gr G (ad 1 i) 2 = some (ad 8 0) ∧ gr G (ad 1 i) 3 = some (ad 9 0) ∧ gr G (ad 1 i) 4 = some (ad 10 0) ∧ gr G (ad 1 i) 5 = some (ad 7 0)
  | 2 => gr G (ad 2 i) 1 = some (ad 3 i) ∧ gr G (ad 2 i) 2 = some (ad 14 i) ∧ gr G (ad 2 i) 3 = some (ad 11 i)
  | 3 => gr G (ad 3 i) 0 = qf ad i (C 30 i) (C 29 i) ∧ gr G (ad 3 i) 1 = ql ad i (C 30 i) (C 29 i)
  | 14 => gr G (ad 14 i) 0 = qf ad i (C 32 i) (C 31 i) ∧ gr G (ad 14 i) 1 = ql ad i (C 32 i) (C 31 i)
  | 4 => gr G (ad 4 i) 1 = some (ad 2 (C 16 i)) ∧ gr G (ad 4 i) 2 = some (ad 13 i)
  | 5 => gr G (ad 5 i) 0 = some (ad 4 (C 25 i)) ∧ gr G (ad 5 i) 2 = nxo ad C i
  | 8 => gn G (ad 8 i) = C 57 0 ∧ ∀ v, v < C 1 0 → gr G (ad 8 i) v = some (ad 2 v)
  | 9 => gn G (ad 9 i) = 16 ∧ ∀ k, k < 16 → gr G (ad 9 i) k = wc ad (C 48 k)
  | 10 => gn G (ad 10 i) = 250 ∧ ∀ p, p < C 56 0 → gr G (ad 10 i) p = some (ad 4 p)
  | 13 => gn G (ad 13 i) = C 17 i
  | 7 => gn G (ad 7 i) = 32
  | 11 => gn G (ad 11 i) = 16
  | _ => True
def RepL (G : GG) (K : Nat → Prop) (ad C : St) : Prop :=
  (∀ b, K b → knd G b ≠ 99) ∧ (∀ s i, vld C s i → knd G (ad s i) = sk s ∧ ¬ K (ad s i) ∧ Ref G ad C s i) ∧
  (∀ s t i j, vld C s i → vld C t j → s ≠ 13 → ad s i = ad t j → s = t ∧ i = j) ∧
  (∀ c, isO c = true → ∀ i, vld C (cs c) i → gi G (ad (cs c) i) (cf c) = nI (C c i)) ∧
  (∀ c, isA c = true → ∀ i k, vld C (cs c) i → k < aL C c i → gi G (ad (cs c) i) k = nI (C c (sd c * i + k)))
def FrK (K : Nat → Prop) (G G' : GG) : Prop := ∀ b, K b ∨ knd G b = 7 → G' b = G b
theorem FrK.rf {K : Nat → Prop} {G : GG} : FrK K G G := fun _ _ => rfl
theorem FrK.tr {K : Nat → Prop} {G1 G2 G3 : GG} (h : FrK K G1 G2) (h2 : FrK K G2 G3) : FrK K G1 G3 := fun b q => (h2 b (q.imp id (fun e => by unfold knd at e ⊢; rw [h b q]; exact e))).trans (h b q)
theorem FrK.wk {K K' : Nat → Prop} {G G' : GG} (h : FrK K' G G') (hk : ∀ b, K b → K' b) : FrK K G G' := fun b q => h b (q.imp (hk b) id)
theorem FrK.i {K : Nat → Prop} {G G1 : GG} (h : FrK K G G1) {a k : Nat} {x : Int32} (ha : ¬ K a ∧ knd G1 a ≠ 7) : FrK K G (sI G1 a k x) := fun b q => (sI_o (fun (e : b = a) => by
  rcases q with q | q
  · exact ha.1 (e ▸ q)
  · refine ha.2 ?_; rw [← e]; unfold knd at q ⊢; rw [h b (Or.inr q)]; exact q)).trans (h b q)
theorem FrK.r {K : Nat → Prop} {G G1 : GG} (h : FrK K G G1) {a k : Nat} {x : Option Nat} (ha : ¬ K a ∧ knd G1 a ≠ 7) : FrK K G (sR G1 a k x) := fun b q => (sR_o (fun (e : b = a) => by
  rcases q with q | q
  · exact ha.1 (e ▸ q)
  · refine ha.2 ?_; rw [← e]; unfold knd at q ⊢; rw [h b (Or.inr q)]; exact q)).trans (h b q)
/-- C is the same but where the shape does not look -/
def shp (c : Nat) : Bool := match c with
  | 1 => true
  | 6 => true
  | 29 => true
  | 30 => true
  | 31 => true
  | 32 => true
  | 16 => true
  | 17 => true
  | 25 => true
  | 48 => true
  | 56 => true
  | 57 => true
  | _ => false
theorem vld_of {C C' : St} (h : ∀ c j, shp c = true → C' c j = C c j) (s i : Nat) : vld C' s i = vld C s i := by
  unfold vld; split <;> simp [h _ _ (show shp 1 = true from rfl), h _ _ (show shp 6 = true from rfl), h _ _ (show shp 29 = true from rfl)]
theorem Ref_of {G : GG} {ad C C' : St} (h : ∀ c j, shp c = true → C' c j = C c j) (s i : Nat) : Ref G ad C' s i = Ref G ad C s i := by
  unfold Ref nxo; split <;> simp [h _ _ (show shp 1 = true from rfl), h _ _ (show shp 6 = true from rfl), h _ _ (show shp 29 = true from rfl), h _ _ (show shp 30 = true from rfl), h _ _ (show shp 31 = true from rfl), h _ _ (show shp 32 = true from rfl), h _ _ (show shp 16 = true from rfl), h _ _ (show shp 17 = true from rfl), h _ _ (show shp 25 = true from rfl), h _ _ (show shp 48 = true from rfl), h _ _ (show shp 56 = true from rfl), h _ _ (show shp 57 = true from rfl)]
theorem aL_of {C C' : St} (h : ∀ c j, shp c = true → C' c j = C c j) (c i : Nat) : aL C' c i = aL C c i := by
  unfold aL; split <;> simp [h _ _ (show shp 17 = true from rfl)]
theorem Ref_sI {G : GG} {ad C : St} {a k : Nat} {x : Int32} (s i : Nat) : Ref (sI G a k x) ad C s i = Ref G ad C s i := by
  unfold Ref; split <;> simp only [gr_sI, gn_sI]
theorem isO_shp {c : Nat} (h : isO c = true) : shp c = false := by unfold isO at h; unfold shp; split at h <;> first | rfl | cases h
theorem isA_shp {c : Nat} (h : isA c = true) : shp c = false := by unfold isA at h; unfold shp; split at h <;> first | rfl | cases h
theorem up_shp {C : St} {c i x : Nat} (h : shp c = false) : ∀ c' j, shp c' = true → up C c i x c' j = C c' j := fun c' j q => by
  rw [up_n, if_neg]; rintro ⟨rfl, -⟩; rw [h] at q; cases q
section RL
variable {G : GG} {K : Nat → Prop} {ad C : St}
theorem RepL.gh (h : RepL G K ad C) {c i x : Nat} (h1 : shp c = false) (h2 : isO c = false) (h3 : isA c = false) : RepL G K ad (up C c i x) := by
  obtain ⟨q1, q2, q3, q4, q5⟩ := h
  have hs := up_shp (C := C) (i := i) (x := x) h1
  refine ⟨q1, fun s j hv => ?_, fun s t i j hv ht => ?_, fun c' hc j hv => ?_, fun c' hc j k hv hk => ?_⟩
  · rw [vld_of hs] at hv; rw [Ref_of hs]; exact q2 s j hv
  · rw [vld_of hs] at hv ht; exact q3 s t i j hv ht
  · rw [vld_of hs] at hv; rw [up_n, if_neg (fun q => by rw [q.1, h2] at hc; cases hc)]; exact q4 c' hc j hv
  · rw [vld_of hs] at hv; rw [aL_of hs] at hk; rw [up_n, if_neg (fun q => by rw [q.1, h3] at hc; cases hc)]; exact q5 c' hc j k hv hk
theorem isO_60 {c : Nat} (h : isO c = true) : c < 60 := by unfold isO at h; split at h <;> first | (cases h; done) | decide
theorem isA_60 {c : Nat} (h : isA c = true) : c < 60 := by unfold isA at h; split at h <;> first | (cases h; done) | decide
theorem isO_csD : ∀ c, c < 60 → ∀ c', c' < 60 → (isO c = true ∧ isO c' = true ∧ cs c = cs c' ∧ cf c = cf c') → c = c' := by decide +kernel
theorem isOA_csD : ∀ c, c < 60 → ∀ c', c' < 60 → isO c = true → isA c' = true → cs c ≠ cs c' := by decide +kernel
theorem isA_csD : ∀ c, c < 60 → ∀ c', c' < 60 → isA c = true → isA c' = true → cs c = cs c' → c = c' := by decide +kernel
theorem isO_cs {c c' : Nat} (h : isO c = true) (h' : isO c' = true) (e : cs c = cs c') (e2 : cf c = cf c') : c = c' := isO_csD c (isO_60 h) c' (isO_60 h') ⟨h, h', e, e2⟩
theorem isOA_cs {c c' : Nat} (h : isO c = true) (h' : isA c' = true) : cs c ≠ cs c' := isOA_csD c (isO_60 h) c' (isA_60 h') h h'
theorem isA_cs {c c' : Nat} (h : isA c = true) (h' : isA c' = true) (e : cs c = cs c') : c = c' := isA_csD c (isA_60 h) c' (isA_60 h') h h' e
theorem isO_13 {c : Nat} (h : isO c = true) : cs c ≠ 13 := by
  unfold isO at h; split at h <;> first | (cases h; done) | (simp [cs])
theorem RepL.setO (h : RepL G K ad C) {c i x : Nat} {z : Int32} (hc : isO c = true) (hv : vld C (cs c) i) (hz : z = nI x) : RepL (sI G (ad (cs c) i) (cf c) z) K ad (up C c i x) := by
  subst hz
  obtain ⟨q1, q2, q3, q4, q5⟩ := h
  have hs := up_shp (C := C) (i := i) (x := x) (isO_shp hc)
  refine ⟨fun b hb => by rw [knd_sI]; exact q1 b hb, fun s j hv => ?_, fun s t i j hv ht => ?_, fun c' hc' j hv' => ?_, fun c' hc' j k hv' hk => ?_⟩
  · rw [vld_of hs] at hv; rw [Ref_of hs, Ref_sI, knd_sI]; exact q2 s j hv
  · rw [vld_of hs] at hv ht; exact q3 s t i j hv ht
  · rw [vld_of hs] at hv'
    rw [gi_sI, up_n]
    by_cases e : c' = c ∧ j = i
    · obtain ⟨rfl, rfl⟩ := e; simp
    · rw [if_neg e, if_neg, q4 c' hc' j hv']
      rintro ⟨e1, e2⟩
      obtain ⟨e3, e4⟩ := q3 _ _ _ _ hv' hv (isO_13 hc') e1
      exact e ⟨isO_cs hc' hc e3 e2, e4⟩
  · rw [vld_of hs] at hv'; rw [aL_of hs] at hk
    rw [gi_sI, if_neg, up_n, if_neg (fun q => by rw [q.1] at hc'; exact isOA_cs hc hc' rfl)]
    · exact q5 c' hc' j k hv' hk
    · rintro ⟨e1, -⟩
      exact isOA_cs hc hc' (q3 _ _ _ _ hv hv' (isO_13 hc) e1.symm).1
theorem RepL.setA (h : RepL G K ad C) {c i k x : Nat} {z : Int32} (hc : isA c = true) (hc2 : c ≠ 18) (hv : vld C (cs c) i) (hk : k < aL C c i) (hz : z = nI x) : RepL (sI G (ad (cs c) i) k z) K ad (up C c (sd c * i + k) x) := by
  subst hz
  obtain ⟨q1, q2, q3, q4, q5⟩ := h
  have hs := up_shp (C := C) (i := sd c * i + k) (x := x) (isA_shp hc)
  have h13 : cs c ≠ 13 := by unfold isA at hc; split at hc <;> first | (cases hc; done) | (exact absurd rfl hc2) | (simp [cs])
  refine ⟨fun b hb => by rw [knd_sI]; exact q1 b hb, fun s j hv => ?_, fun s t i j hv ht => ?_, fun c' hc' j hv' => ?_, fun c' hc' j k' hv' hk' => ?_⟩
  · rw [vld_of hs] at hv; rw [Ref_of hs, Ref_sI, knd_sI]; exact q2 s j hv
  · rw [vld_of hs] at hv ht; exact q3 s t i j hv ht
  · rw [vld_of hs] at hv'
    rw [gi_sI, if_neg, up_n, if_neg (fun q => by rw [q.1] at hc'; exact isOA_cs hc' hc rfl)]
    · exact q4 c' hc' j hv'
    · rintro ⟨e1, -⟩
      exact isOA_cs hc' hc (q3 _ _ _ _ hv' hv (isO_13 hc') e1).1
  · rw [vld_of hs] at hv'; rw [aL_of hs] at hk'
    rw [gi_sI, up_n]
    by_cases e : c' = c
    · subst e
      by_cases ej : j = i
      · subst ej
        by_cases ek : k' = k
        · subst ek; simp
        · rw [if_neg (fun q => ek q.2), if_neg (fun q => ek (by omega))]; exact q5 c' hc j k' hv' hk'
      · rw [if_neg (fun q => ej (q3 _ _ _ _ hv hv' h13 q.1.symm).2.symm), if_neg, q5 c' hc j k' hv' hk']
        rintro ⟨-, e2⟩
        have : c' = 15 ∨ c' = 47 := by unfold isA at hc; split at hc <;> first | (cases hc; done) | (exact absurd rfl hc2) | (simp)
        rcases this with rfl | rfl
        · exact ej ((show j = 0 from hv').trans (show i = 0 from hv).symm)
        · have e2 : 16 * j + k' = 16 * i + k := e2
          have k1 : k' < 16 := hk'
          have k2 : k < 16 := hk
          omega
    · rw [if_neg (fun q => e (isA_cs hc' hc (q3 _ _ _ _ hv hv' h13 q.1.symm).1.symm)), if_neg (fun q => e q.1)]
      exact q5 c' hc' j k' hv' hk'
theorem RepL.nK (h : RepL G K ad C) {s i : Nat} (hv : vld C s i) : ¬ K (ad s i) := (h.2.1 s i hv).2.1
theorem RepL.nZ (h : RepL G K ad C) {s i : Nat} (hv : vld C s i) (h13 : s ≠ 13) : ¬ K (ad s i) ∧ knd G (ad s i) ≠ 7 := by
  obtain ⟨q1, q2, -⟩ := h.2.1 s i hv
  refine ⟨q2, ?_⟩
  rw [q1]; unfold sk; split <;> first | (exact absurd rfl h13) | decide
theorem vF {v f : Nat} (hv : v < C 1 0) (hf : f < C 29 v) (h4 : f < 4000) : vld C 5 (4000 * v + f) := by
  show (4000 * v + f) / 4000 < C 1 0 ∧ (4000 * v + f) % 4000 < C 29 ((4000 * v + f) / 4000)
  have e1 : (4000 * v + f) / 4000 = v := by omega
  have e2 : (4000 * v + f) % 4000 = f := by omega
  rw [e1, e2]; exact ⟨hv, hf⟩
theorem RepL.k1 (h : RepL G K ad C)  : knd G (ad 1 0) = 3 := (h.2.1 1 0 rfl).1
theorem RepL.n1 (h : RepL G K ad C)  : ¬ K (ad 1 0) ∧ knd G (ad 1 0) ≠ 7 := h.nZ (s := 1) (i := 0) rfl (by decide)
theorem RepL.k2 (h : RepL G K ad C) {i : Nat} (hi : i < C 1 0) : knd G (ad 2 i) = 0 := (h.2.1 2 i hi).1
theorem RepL.n2 (h : RepL G K ad C) {i : Nat} (hi : i < C 1 0) : ¬ K (ad 2 i) ∧ knd G (ad 2 i) ≠ 7 := h.nZ (s := 2) (i := i) hi (by decide)
theorem RepL.k3 (h : RepL G K ad C) {i : Nat} (hi : i < C 1 0) : knd G (ad 3 i) = 2 := (h.2.1 3 i hi).1
theorem RepL.n3 (h : RepL G K ad C) {i : Nat} (hi : i < C 1 0) : ¬ K (ad 3 i) ∧ knd G (ad 3 i) ≠ 7 := h.nZ (s := 3) (i := i) hi (by decide)
theorem RepL.k14 (h : RepL G K ad C) {i : Nat} (hi : i < C 1 0) : knd G (ad 14 i) = 2 := (h.2.1 14 i hi).1
theorem RepL.n14 (h : RepL G K ad C) {i : Nat} (hi : i < C 1 0) : ¬ K (ad 14 i) ∧ knd G (ad 14 i) ≠ 7 := h.nZ (s := 14) (i := i) hi (by decide)
theorem RepL.k4 (h : RepL G K ad C) {i : Nat} (hi : i < C 6 0) : knd G (ad 4 i) = 4 := (h.2.1 4 i hi).1
theorem RepL.n4 (h : RepL G K ad C) {i : Nat} (hi : i < C 6 0) : ¬ K (ad 4 i) ∧ knd G (ad 4 i) ≠ 7 := h.nZ (s := 4) (i := i) hi (by decide)
theorem RepL.k5 (h : RepL G K ad C) {v f : Nat} (hv : v < C 1 0) (hf : f < C 29 v) (h4 : f < 4000) : knd G (ad 5 (4000 * v + f)) = 1 := (h.2.1 5 (4000 * v + f) (vF hv hf h4)).1
theorem RepL.n5 (h : RepL G K ad C) {v f : Nat} (hv : v < C 1 0) (hf : f < C 29 v) (h4 : f < 4000) : ¬ K (ad 5 (4000 * v + f)) ∧ knd G (ad 5 (4000 * v + f)) ≠ 7 := h.nZ (s := 5) (i := (4000 * v + f)) (vF hv hf h4) (by decide)
theorem RepL.k13 (h : RepL G K ad C) {i : Nat} (hi : i < C 6 0) : knd G (ad 13 i) = 7 := (h.2.1 13 i hi).1
theorem RepL.k7 (h : RepL G K ad C)  : knd G (ad 7 0) = 8 := (h.2.1 7 0 rfl).1
theorem RepL.n7 (h : RepL G K ad C)  : ¬ K (ad 7 0) ∧ knd G (ad 7 0) ≠ 7 := h.nZ (s := 7) (i := 0) rfl (by decide)
theorem RepL.k11 (h : RepL G K ad C) {i : Nat} (hi : i < C 1 0) : knd G (ad 11 i) = 8 := (h.2.1 11 i hi).1
theorem RepL.n11 (h : RepL G K ad C) {i : Nat} (hi : i < C 1 0) : ¬ K (ad 11 i) ∧ knd G (ad 11 i) ≠ 7 := h.nZ (s := 11) (i := i) hi (by decide)
theorem RepL.k8 (h : RepL G K ad C)  : knd G (ad 8 0) = 11 := (h.2.1 8 0 rfl).1
theorem RepL.n8 (h : RepL G K ad C)  : ¬ K (ad 8 0) ∧ knd G (ad 8 0) ≠ 7 := h.nZ (s := 8) (i := 0) rfl (by decide)
theorem RepL.k9 (h : RepL G K ad C)  : knd G (ad 9 0) = 12 := (h.2.1 9 0 rfl).1
theorem RepL.n9 (h : RepL G K ad C)  : ¬ K (ad 9 0) ∧ knd G (ad 9 0) ≠ 7 := h.nZ (s := 9) (i := 0) rfl (by decide)
theorem RepL.k10 (h : RepL G K ad C)  : knd G (ad 10 0) = 13 := (h.2.1 10 0 rfl).1
theorem RepL.n10 (h : RepL G K ad C)  : ¬ K (ad 10 0) ∧ knd G (ad 10 0) ≠ 7 := h.nZ (s := 10) (i := 0) rfl (by decide)
theorem RepL.o2 (h : RepL G K ad C)  : gi G (ad 1 0) 0 = nI (C 2 0) := h.2.2.2.1 2 rfl 0 rfl
theorem RepL.o3 (h : RepL G K ad C)  : gi G (ad 1 0) 1 = nI (C 3 0) := h.2.2.2.1 3 rfl 0 rfl
theorem RepL.o5 (h : RepL G K ad C)  : gi G (ad 1 0) 6 = nI (C 5 0) := h.2.2.2.1 5 rfl 0 rfl
theorem RepL.o49 (h : RepL G K ad C)  : gi G (ad 1 0) 7 = nI (C 49 0) := h.2.2.2.1 49 rfl 0 rfl
theorem RepL.o7 (h : RepL G K ad C)  : gi G (ad 1 0) 8 = nI (C 7 0) := h.2.2.2.1 7 rfl 0 rfl
theorem RepL.o4 (h : RepL G K ad C)  : gi G (ad 1 0) 9 = nI (C 4 0) := h.2.2.2.1 4 rfl 0 rfl
theorem RepL.o8 (h : RepL G K ad C)  : gi G (ad 1 0) 10 = nI (C 8 0) := h.2.2.2.1 8 rfl 0 rfl
theorem RepL.o9 (h : RepL G K ad C)  : gi G (ad 1 0) 11 = nI (C 9 0) := h.2.2.2.1 9 rfl 0 rfl
theorem RepL.o10 (h : RepL G K ad C)  : gi G (ad 1 0) 12 = nI (C 10 0) := h.2.2.2.1 10 rfl 0 rfl
theorem RepL.o11 (h : RepL G K ad C)  : gi G (ad 1 0) 13 = nI (C 11 0) := h.2.2.2.1 11 rfl 0 rfl
theorem RepL.o12 (h : RepL G K ad C)  : gi G (ad 1 0) 14 = nI (C 12 0) := h.2.2.2.1 12 rfl 0 rfl
theorem RepL.o40 (h : RepL G K ad C)  : gi G (ad 1 0) 15 = nI (C 40 0) := h.2.2.2.1 40 rfl 0 rfl
theorem RepL.o54 (h : RepL G K ad C) {i : Nat} (hi : i < C 1 0) : gi G (ad 2 i) 0 = nI (C 54 i) := h.2.2.2.1 54 rfl i hi
theorem RepL.o13 (h : RepL G K ad C) {i : Nat} (hi : i < C 1 0) : gi G (ad 2 i) 4 = nI (C 13 i) := h.2.2.2.1 13 rfl i hi
theorem RepL.o14 (h : RepL G K ad C) {i : Nat} (hi : i < C 1 0) : gi G (ad 2 i) 5 = nI (C 14 i) := h.2.2.2.1 14 rfl i hi
theorem RepL.o44 (h : RepL G K ad C) {i : Nat} (hi : i < C 1 0) : gi G (ad 2 i) 6 = nI (C 44 i) := h.2.2.2.1 44 rfl i hi
theorem RepL.o45 (h : RepL G K ad C) {i : Nat} (hi : i < C 1 0) : gi G (ad 2 i) 7 = nI (C 45 i) := h.2.2.2.1 45 rfl i hi
theorem RepL.o46 (h : RepL G K ad C) {i : Nat} (hi : i < C 1 0) : gi G (ad 2 i) 8 = nI (C 46 i) := h.2.2.2.1 46 rfl i hi
theorem RepL.o41 (h : RepL G K ad C) {i : Nat} (hi : i < C 1 0) : gi G (ad 2 i) 9 = nI (C 41 i) := h.2.2.2.1 41 rfl i hi
theorem RepL.o42 (h : RepL G K ad C) {i : Nat} (hi : i < C 1 0) : gi G (ad 2 i) 10 = nI (C 42 i) := h.2.2.2.1 42 rfl i hi
theorem RepL.o43 (h : RepL G K ad C) {i : Nat} (hi : i < C 1 0) : gi G (ad 2 i) 11 = nI (C 43 i) := h.2.2.2.1 43 rfl i hi
theorem RepL.o34 (h : RepL G K ad C) {i : Nat} (hi : i < C 1 0) : gi G (ad 2 i) 12 = nI (C 34 i) := h.2.2.2.1 34 rfl i hi
theorem RepL.o51 (h : RepL G K ad C) {i : Nat} (hi : i < C 1 0) : gi G (ad 3 i) 2 = nI (C 51 i) := h.2.2.2.1 51 rfl i hi
theorem RepL.o52 (h : RepL G K ad C) {i : Nat} (hi : i < C 1 0) : gi G (ad 14 i) 2 = nI (C 52 i) := h.2.2.2.1 52 rfl i hi
theorem RepL.o55 (h : RepL G K ad C) {i : Nat} (hi : i < C 6 0) : gi G (ad 4 i) 0 = nI (C 55 i) := h.2.2.2.1 55 rfl i hi
theorem RepL.o53 (h : RepL G K ad C) {i : Nat} (hi : i < C 6 0) : gi G (ad 4 i) 3 = nI (C 53 i) := h.2.2.2.1 53 rfl i hi
theorem RepL.o19 (h : RepL G K ad C) {i : Nat} (hi : i < C 6 0) : gi G (ad 4 i) 4 = nI (C 19 i) := h.2.2.2.1 19 rfl i hi
theorem RepL.o20 (h : RepL G K ad C) {i : Nat} (hi : i < C 6 0) : gi G (ad 4 i) 5 = nI (C 20 i) := h.2.2.2.1 20 rfl i hi
theorem RepL.o21 (h : RepL G K ad C) {i : Nat} (hi : i < C 6 0) : gi G (ad 4 i) 6 = nI (C 21 i) := h.2.2.2.1 21 rfl i hi
theorem RepL.o22 (h : RepL G K ad C) {i : Nat} (hi : i < C 6 0) : gi G (ad 4 i) 7 = nI (C 22 i) := h.2.2.2.1 22 rfl i hi
theorem RepL.o23 (h : RepL G K ad C) {i : Nat} (hi : i < C 6 0) : gi G (ad 4 i) 8 = nI (C 23 i) := h.2.2.2.1 23 rfl i hi
theorem RepL.o26 (h : RepL G K ad C) {v f : Nat} (hv : v < C 1 0) (hf : f < C 29 v) (h4 : f < 4000) : gi G (ad 5 (4000 * v + f)) 1 = nI (C 26 (4000 * v + f)) := h.2.2.2.1 26 rfl (4000 * v + f) (vF hv hf h4)
theorem RepL.e15 (h : RepL G K ad C)  {k : Nat} (hk : k < 32) : gi G (ad 7 0) k = nI (C 15 k) := by have := h.2.2.2.2 15 rfl 0 k rfl hk; rwa [show sd 15 * 0 + k = k by simp [sd]] at this
theorem RepL.e47 (h : RepL G K ad C) {i : Nat} (hi : i < C 1 0) {k : Nat} (hk : k < 16) : gi G (ad 11 i) k = nI (C 47 (16 * i + k)) := h.2.2.2.2 47 rfl i k hi hk
theorem RepL.e18 (h : RepL G K ad C) {i : Nat} (hi : i < C 6 0) {k : Nat} (hk : k < C 17 i) : gi G (ad 13 i) k = nI (C 18 (60 * i + k)) := h.2.2.2.2 18 rfl i k hi hk
theorem RepL.r1_2 (h : RepL G K ad C)  : gr G (ad 1 0) 2 = some (ad 8 0) := (h.2.1 1 0 rfl).2.2.1
theorem RepL.r1_3 (h : RepL G K ad C)  : gr G (ad 1 0) 3 = some (ad 9 0) := (h.2.1 1 0 rfl).2.2.2.1
theorem RepL.r1_4 (h : RepL G K ad C)  : gr G (ad 1 0) 4 = some (ad 10 0) := (h.2.1 1 0 rfl).2.2.2.2.1
theorem RepL.r1_5 (h : RepL G K ad C)  : gr G (ad 1 0) 5 = some (ad 7 0) := (h.2.1 1 0 rfl).2.2.2.2.2
theorem RepL.r2_1 (h : RepL G K ad C) {i : Nat} (hi : i < C 1 0) : gr G (ad 2 i) 1 = some (ad 3 i) := (h.2.1 2 i hi).2.2.1
theorem RepL.r2_2 (h : RepL G K ad C) {i : Nat} (hi : i < C 1 0) : gr G (ad 2 i) 2 = some (ad 14 i) := (h.2.1 2 i hi).2.2.2.1
theorem RepL.r2_3 (h : RepL G K ad C) {i : Nat} (hi : i < C 1 0) : gr G (ad 2 i) 3 = some (ad 11 i) := (h.2.1 2 i hi).2.2.2.2
theorem RepL.r3_0 (h : RepL G K ad C) {i : Nat} (hi : i < C 1 0) : gr G (ad 3 i) 0 = qf ad i (C 30 i) (C 29 i) := (h.2.1 3 i hi).2.2.1
theorem RepL.r3_1 (h : RepL G K ad C) {i : Nat} (hi : i < C 1 0) : gr G (ad 3 i) 1 = ql ad i (C 30 i) (C 29 i) := (h.2.1 3 i hi).2.2.2
theorem RepL.r14_0 (h : RepL G K ad C) {i : Nat} (hi : i < C 1 0) : gr G (ad 14 i) 0 = qf ad i (C 32 i) (C 31 i) := (h.2.1 14 i hi).2.2.1
theorem RepL.r14_1 (h : RepL G K ad C) {i : Nat} (hi : i < C 1 0) : gr G (ad 14 i) 1 = ql ad i (C 32 i) (C 31 i) := (h.2.1 14 i hi).2.2.2
theorem RepL.r4_1 (h : RepL G K ad C) {i : Nat} (hi : i < C 6 0) : gr G (ad 4 i) 1 = some (ad 2 (C 16 i)) := (h.2.1 4 i hi).2.2.1
theorem RepL.r4_2 (h : RepL G K ad C) {i : Nat} (hi : i < C 6 0) : gr G (ad 4 i) 2 = some (ad 13 i) := (h.2.1 4 i hi).2.2.2
theorem RepL.r5_0 (h : RepL G K ad C) {v f : Nat} (hv : v < C 1 0) (hf : f < C 29 v) (h4 : f < 4000) : gr G (ad 5 (4000 * v + f)) 0 = some (ad 4 (C 25 (4000 * v + f))) := (h.2.1 5 (4000 * v + f) (vF hv hf h4)).2.2.1
theorem RepL.r5_2 (h : RepL G K ad C) {v f : Nat} (hv : v < C 1 0) (hf : f < C 29 v) (h4 : f < 4000) : gr G (ad 5 (4000 * v + f)) 2 = nxo ad C (4000 * v + f) := (h.2.1 5 (4000 * v + f) (vF hv hf h4)).2.2.2
theorem RepL.l8 (h : RepL G K ad C)  : gn G (ad 8 0) = C 57 0 := (h.2.1 8 0 rfl).2.2.1
theorem RepL.l9 (h : RepL G K ad C)  : gn G (ad 9 0) = 16 := (h.2.1 9 0 rfl).2.2.1
theorem RepL.l10 (h : RepL G K ad C)  : gn G (ad 10 0) = 250 := (h.2.1 10 0 rfl).2.2.1
theorem RepL.l13 (h : RepL G K ad C) {i : Nat} (hi : i < C 6 0) : gn G (ad 13 i) = C 17 i := (h.2.1 13 i hi).2.2
theorem RepL.l7 (h : RepL G K ad C)  : gn G (ad 7 0) = 32 := (h.2.1 7 0 rfl).2.2
theorem RepL.l11 (h : RepL G K ad C) {i : Nat} (hi : i < C 1 0) : gn G (ad 11 i) = 16 := (h.2.1 11 i hi).2.2
theorem RepL.e8 (h : RepL G K ad C) {v : Nat} (hv : v < C 1 0) : gr G (ad 8 0) v = some (ad 2 v) := (h.2.1 8 0 rfl).2.2.2 v hv
theorem RepL.e9 (h : RepL G K ad C) {k : Nat} (hk : k < 16) : gr G (ad 9 0) k = wc ad (C 48 k) := (h.2.1 9 0 rfl).2.2.2 k hk
theorem RepL.e10 (h : RepL G K ad C) {p : Nat} (hp : p < C 56 0) : gr G (ad 10 0) p = some (ad 4 p) := (h.2.1 10 0 rfl).2.2.2 p hp
theorem RepL.d1_2 (h : RepL G K ad C)  {j : Nat} (hj : j < C 1 0) : (ad 1 0 = ad 2 j) = False := eq_false fun e => absurd (h.2.2.1 1 2 0 j rfl hj (by decide) e).1 (by decide)
theorem RepL.d1_3 (h : RepL G K ad C)  {j : Nat} (hj : j < C 1 0) : (ad 1 0 = ad 3 j) = False := eq_false fun e => absurd (h.2.2.1 1 3 0 j rfl hj (by decide) e).1 (by decide)
theorem RepL.d1_14 (h : RepL G K ad C)  {j : Nat} (hj : j < C 1 0) : (ad 1 0 = ad 14 j) = False := eq_false fun e => absurd (h.2.2.1 1 14 0 j rfl hj (by decide) e).1 (by decide)
theorem RepL.d1_4 (h : RepL G K ad C)  {j : Nat} (hj : j < C 6 0) : (ad 1 0 = ad 4 j) = False := eq_false fun e => absurd (h.2.2.1 1 4 0 j rfl hj (by decide) e).1 (by decide)
theorem RepL.d1_5 (h : RepL G K ad C)  {j g : Nat} (hj : j < C 1 0) (hg : g < C 29 j) (qg : g < 4000) : (ad 1 0 = ad 5 (4000 * j + g)) = False := eq_false fun e => absurd (h.2.2.1 1 5 0 (4000 * j + g) rfl (vF hj hg qg) (by decide) e).1 (by decide)
theorem RepL.d1_7 (h : RepL G K ad C)   : (ad 1 0 = ad 7 0) = False := eq_false fun e => absurd (h.2.2.1 1 7 0 0 rfl rfl (by decide) e).1 (by decide)
theorem RepL.d1_8 (h : RepL G K ad C)   : (ad 1 0 = ad 8 0) = False := eq_false fun e => absurd (h.2.2.1 1 8 0 0 rfl rfl (by decide) e).1 (by decide)
theorem RepL.d1_9 (h : RepL G K ad C)   : (ad 1 0 = ad 9 0) = False := eq_false fun e => absurd (h.2.2.1 1 9 0 0 rfl rfl (by decide) e).1 (by decide)
theorem RepL.d1_10 (h : RepL G K ad C)   : (ad 1 0 = ad 10 0) = False := eq_false fun e => absurd (h.2.2.1 1 10 0 0 rfl rfl (by decide) e).1 (by decide)
theorem RepL.d1_11 (h : RepL G K ad C)  {j : Nat} (hj : j < C 1 0) : (ad 1 0 = ad 11 j) = False := eq_false fun e => absurd (h.2.2.1 1 11 0 j rfl hj (by decide) e).1 (by decide)
theorem RepL.d2_1 (h : RepL G K ad C) {i : Nat} (hi : i < C 1 0)  : (ad 2 i = ad 1 0) = False := eq_false fun e => absurd (h.2.2.1 2 1 i 0 hi rfl (by decide) e).1 (by decide)
theorem RepL.d2_2 (h : RepL G K ad C) {i : Nat} (hi : i < C 1 0) {j : Nat} (hj : j < C 1 0) : (ad 2 i = ad 2 j) = (i = j) := propext ⟨fun e => (h.2.2.1 2 2 i j hi hj (by decide) e).2, fun e => by rw [e]⟩
theorem RepL.d2_3 (h : RepL G K ad C) {i : Nat} (hi : i < C 1 0) {j : Nat} (hj : j < C 1 0) : (ad 2 i = ad 3 j) = False := eq_false fun e => absurd (h.2.2.1 2 3 i j hi hj (by decide) e).1 (by decide)
theorem RepL.d2_14 (h : RepL G K ad C) {i : Nat} (hi : i < C 1 0) {j : Nat} (hj : j < C 1 0) : (ad 2 i = ad 14 j) = False := eq_false fun e => absurd (h.2.2.1 2 14 i j hi hj (by decide) e).1 (by decide)
theorem RepL.d2_4 (h : RepL G K ad C) {i : Nat} (hi : i < C 1 0) {j : Nat} (hj : j < C 6 0) : (ad 2 i = ad 4 j) = False := eq_false fun e => absurd (h.2.2.1 2 4 i j hi hj (by decide) e).1 (by decide)
theorem RepL.d2_5 (h : RepL G K ad C) {i : Nat} (hi : i < C 1 0) {j g : Nat} (hj : j < C 1 0) (hg : g < C 29 j) (qg : g < 4000) : (ad 2 i = ad 5 (4000 * j + g)) = False := eq_false fun e => absurd (h.2.2.1 2 5 i (4000 * j + g) hi (vF hj hg qg) (by decide) e).1 (by decide)
theorem RepL.d2_7 (h : RepL G K ad C) {i : Nat} (hi : i < C 1 0)  : (ad 2 i = ad 7 0) = False := eq_false fun e => absurd (h.2.2.1 2 7 i 0 hi rfl (by decide) e).1 (by decide)
theorem RepL.d2_8 (h : RepL G K ad C) {i : Nat} (hi : i < C 1 0)  : (ad 2 i = ad 8 0) = False := eq_false fun e => absurd (h.2.2.1 2 8 i 0 hi rfl (by decide) e).1 (by decide)
theorem RepL.d2_9 (h : RepL G K ad C) {i : Nat} (hi : i < C 1 0)  : (ad 2 i = ad 9 0) = False := eq_false fun e => absurd (h.2.2.1 2 9 i 0 hi rfl (by decide) e).1 (by decide)
theorem RepL.d2_10 (h : RepL G K ad C) {i : Nat} (hi : i < C 1 0)  : (ad 2 i = ad 10 0) = False := eq_false fun e => absurd (h.2.2.1 2 10 i 0 hi rfl (by decide) e).1 (by decide)
theorem RepL.d2_11 (h : RepL G K ad C) {i : Nat} (hi : i < C 1 0) {j : Nat} (hj : j < C 1 0) : (ad 2 i = ad 11 j) = False := eq_false fun e => absurd (h.2.2.1 2 11 i j hi hj (by decide) e).1 (by decide)
theorem RepL.d3_1 (h : RepL G K ad C) {i : Nat} (hi : i < C 1 0)  : (ad 3 i = ad 1 0) = False := eq_false fun e => absurd (h.2.2.1 3 1 i 0 hi rfl (by decide) e).1 (by decide)
theorem RepL.d3_2 (h : RepL G K ad C) {i : Nat} (hi : i < C 1 0) {j : Nat} (hj : j < C 1 0) : (ad 3 i = ad 2 j) = False := eq_false fun e => absurd (h.2.2.1 3 2 i j hi hj (by decide) e).1 (by decide)
theorem RepL.d3_3 (h : RepL G K ad C) {i : Nat} (hi : i < C 1 0) {j : Nat} (hj : j < C 1 0) : (ad 3 i = ad 3 j) = (i = j) := propext ⟨fun e => (h.2.2.1 3 3 i j hi hj (by decide) e).2, fun e => by rw [e]⟩
theorem RepL.d3_14 (h : RepL G K ad C) {i : Nat} (hi : i < C 1 0) {j : Nat} (hj : j < C 1 0) : (ad 3 i = ad 14 j) = False := eq_false fun e => absurd (h.2.2.1 3 14 i j hi hj (by decide) e).1 (by decide)
theorem RepL.d3_4 (h : RepL G K ad C) {i : Nat} (hi : i < C 1 0) {j : Nat} (hj : j < C 6 0) : (ad 3 i = ad 4 j) = False := eq_false fun e => absurd (h.2.2.1 3 4 i j hi hj (by decide) e).1 (by decide)
theorem RepL.d3_5 (h : RepL G K ad C) {i : Nat} (hi : i < C 1 0) {j g : Nat} (hj : j < C 1 0) (hg : g < C 29 j) (qg : g < 4000) : (ad 3 i = ad 5 (4000 * j + g)) = False := eq_false fun e => absurd (h.2.2.1 3 5 i (4000 * j + g) hi (vF hj hg qg) (by decide) e).1 (by decide)
theorem RepL.d3_7 (h : RepL G K ad C) {i : Nat} (hi : i < C 1 0)  : (ad 3 i = ad 7 0) = False := eq_false fun e => absurd (h.2.2.1 3 7 i 0 hi rfl (by decide) e).1 (by decide)
theorem RepL.d3_8 (h : RepL G K ad C) {i : Nat} (hi : i < C 1 0)  : (ad 3 i = ad 8 0) = False := eq_false fun e => absurd (h.2.2.1 3 8 i 0 hi rfl (by decide) e).1 (by decide)
theorem RepL.d3_9 (h : RepL G K ad C) {i : Nat} (hi : i < C 1 0)  : (ad 3 i = ad 9 0) = False := eq_false fun e => absurd (h.2.2.1 3 9 i 0 hi rfl (by decide) e).1 (by decide)
theorem RepL.d3_10 (h : RepL G K ad C) {i : Nat} (hi : i < C 1 0)  : (ad 3 i = ad 10 0) = False := eq_false fun e => absurd (h.2.2.1 3 10 i 0 hi rfl (by decide) e).1 (by decide)
theorem RepL.d3_11 (h : RepL G K ad C) {i : Nat} (hi : i < C 1 0) {j : Nat} (hj : j < C 1 0) : (ad 3 i = ad 11 j) = False := eq_false fun e => absurd (h.2.2.1 3 11 i j hi hj (by decide) e).1 (by decide)
theorem RepL.d14_1 (h : RepL G K ad C) {i : Nat} (hi : i < C 1 0)  : (ad 14 i = ad 1 0) = False := eq_false fun e => absurd (h.2.2.1 14 1 i 0 hi rfl (by decide) e).1 (by decide)
theorem RepL.d14_2 (h : RepL G K ad C) {i : Nat} (hi : i < C 1 0) {j : Nat} (hj : j < C 1 0) : (ad 14 i = ad 2 j) = False := eq_false fun e => absurd (h.2.2.1 14 2 i j hi hj (by decide) e).1 (by decide)
theorem RepL.d14_3 (h : RepL G K ad C) {i : Nat} (hi : i < C 1 0) {j : Nat} (hj : j < C 1 0) : (ad 14 i = ad 3 j) = False := eq_false fun e => absurd (h.2.2.1 14 3 i j hi hj (by decide) e).1 (by decide)
theorem RepL.d14_14 (h : RepL G K ad C) {i : Nat} (hi : i < C 1 0) {j : Nat} (hj : j < C 1 0) : (ad 14 i = ad 14 j) = (i = j) := propext ⟨fun e => (h.2.2.1 14 14 i j hi hj (by decide) e).2, fun e => by rw [e]⟩
theorem RepL.d14_4 (h : RepL G K ad C) {i : Nat} (hi : i < C 1 0) {j : Nat} (hj : j < C 6 0) : (ad 14 i = ad 4 j) = False := eq_false fun e => absurd (h.2.2.1 14 4 i j hi hj (by decide) e).1 (by decide)
theorem RepL.d14_5 (h : RepL G K ad C) {i : Nat} (hi : i < C 1 0) {j g : Nat} (hj : j < C 1 0) (hg : g < C 29 j) (qg : g < 4000) : (ad 14 i = ad 5 (4000 * j + g)) = False := eq_false fun e => absurd (h.2.2.1 14 5 i (4000 * j + g) hi (vF hj hg qg) (by decide) e).1 (by decide)
theorem RepL.d14_7 (h : RepL G K ad C) {i : Nat} (hi : i < C 1 0)  : (ad 14 i = ad 7 0) = False := eq_false fun e => absurd (h.2.2.1 14 7 i 0 hi rfl (by decide) e).1 (by decide)
theorem RepL.d14_8 (h : RepL G K ad C) {i : Nat} (hi : i < C 1 0)  : (ad 14 i = ad 8 0) = False := eq_false fun e => absurd (h.2.2.1 14 8 i 0 hi rfl (by decide) e).1 (by decide)
theorem RepL.d14_9 (h : RepL G K ad C) {i : Nat} (hi : i < C 1 0)  : (ad 14 i = ad 9 0) = False := eq_false fun e => absurd (h.2.2.1 14 9 i 0 hi rfl (by decide) e).1 (by decide)
theorem RepL.d14_10 (h : RepL G K ad C) {i : Nat} (hi : i < C 1 0)  : (ad 14 i = ad 10 0) = False := eq_false fun e => absurd (h.2.2.1 14 10 i 0 hi rfl (by decide) e).1 (by decide)
theorem RepL.d14_11 (h : RepL G K ad C) {i : Nat} (hi : i < C 1 0) {j : Nat} (hj : j < C 1 0) : (ad 14 i = ad 11 j) = False := eq_false fun e => absurd (h.2.2.1 14 11 i j hi hj (by decide) e).1 (by decide)
theorem RepL.d4_1 (h : RepL G K ad C) {i : Nat} (hi : i < C 6 0)  : (ad 4 i = ad 1 0) = False := eq_false fun e => absurd (h.2.2.1 4 1 i 0 hi rfl (by decide) e).1 (by decide)
theorem RepL.d4_2 (h : RepL G K ad C) {i : Nat} (hi : i < C 6 0) {j : Nat} (hj : j < C 1 0) : (ad 4 i = ad 2 j) = False := eq_false fun e => absurd (h.2.2.1 4 2 i j hi hj (by decide) e).1 (by decide)
theorem RepL.d4_3 (h : RepL G K ad C) {i : Nat} (hi : i < C 6 0) {j : Nat} (hj : j < C 1 0) : (ad 4 i = ad 3 j) = False := eq_false fun e => absurd (h.2.2.1 4 3 i j hi hj (by decide) e).1 (by decide)
theorem RepL.d4_14 (h : RepL G K ad C) {i : Nat} (hi : i < C 6 0) {j : Nat} (hj : j < C 1 0) : (ad 4 i = ad 14 j) = False := eq_false fun e => absurd (h.2.2.1 4 14 i j hi hj (by decide) e).1 (by decide)
theorem RepL.d4_4 (h : RepL G K ad C) {i : Nat} (hi : i < C 6 0) {j : Nat} (hj : j < C 6 0) : (ad 4 i = ad 4 j) = (i = j) := propext ⟨fun e => (h.2.2.1 4 4 i j hi hj (by decide) e).2, fun e => by rw [e]⟩
theorem RepL.d4_5 (h : RepL G K ad C) {i : Nat} (hi : i < C 6 0) {j g : Nat} (hj : j < C 1 0) (hg : g < C 29 j) (qg : g < 4000) : (ad 4 i = ad 5 (4000 * j + g)) = False := eq_false fun e => absurd (h.2.2.1 4 5 i (4000 * j + g) hi (vF hj hg qg) (by decide) e).1 (by decide)
theorem RepL.d4_7 (h : RepL G K ad C) {i : Nat} (hi : i < C 6 0)  : (ad 4 i = ad 7 0) = False := eq_false fun e => absurd (h.2.2.1 4 7 i 0 hi rfl (by decide) e).1 (by decide)
theorem RepL.d4_8 (h : RepL G K ad C) {i : Nat} (hi : i < C 6 0)  : (ad 4 i = ad 8 0) = False := eq_false fun e => absurd (h.2.2.1 4 8 i 0 hi rfl (by decide) e).1 (by decide)
theorem RepL.d4_9 (h : RepL G K ad C) {i : Nat} (hi : i < C 6 0)  : (ad 4 i = ad 9 0) = False := eq_false fun e => absurd (h.2.2.1 4 9 i 0 hi rfl (by decide) e).1 (by decide)
theorem RepL.d4_10 (h : RepL G K ad C) {i : Nat} (hi : i < C 6 0)  : (ad 4 i = ad 10 0) = False := eq_false fun e => absurd (h.2.2.1 4 10 i 0 hi rfl (by decide) e).1 (by decide)
theorem RepL.d4_11 (h : RepL G K ad C) {i : Nat} (hi : i < C 6 0) {j : Nat} (hj : j < C 1 0) : (ad 4 i = ad 11 j) = False := eq_false fun e => absurd (h.2.2.1 4 11 i j hi hj (by decide) e).1 (by decide)
theorem RepL.d5_1 (h : RepL G K ad C) {i f : Nat} (hi : i < C 1 0) (hf : f < C 29 i) (qf : f < 4000)  : (ad 5 (4000 * i + f) = ad 1 0) = False := eq_false fun e => absurd (h.2.2.1 5 1 (4000 * i + f) 0 (vF hi hf qf) rfl (by decide) e).1 (by decide)
theorem RepL.d5_2 (h : RepL G K ad C) {i f : Nat} (hi : i < C 1 0) (hf : f < C 29 i) (qf : f < 4000) {j : Nat} (hj : j < C 1 0) : (ad 5 (4000 * i + f) = ad 2 j) = False := eq_false fun e => absurd (h.2.2.1 5 2 (4000 * i + f) j (vF hi hf qf) hj (by decide) e).1 (by decide)
theorem RepL.d5_3 (h : RepL G K ad C) {i f : Nat} (hi : i < C 1 0) (hf : f < C 29 i) (qf : f < 4000) {j : Nat} (hj : j < C 1 0) : (ad 5 (4000 * i + f) = ad 3 j) = False := eq_false fun e => absurd (h.2.2.1 5 3 (4000 * i + f) j (vF hi hf qf) hj (by decide) e).1 (by decide)
theorem RepL.d5_14 (h : RepL G K ad C) {i f : Nat} (hi : i < C 1 0) (hf : f < C 29 i) (qf : f < 4000) {j : Nat} (hj : j < C 1 0) : (ad 5 (4000 * i + f) = ad 14 j) = False := eq_false fun e => absurd (h.2.2.1 5 14 (4000 * i + f) j (vF hi hf qf) hj (by decide) e).1 (by decide)
theorem RepL.d5_4 (h : RepL G K ad C) {i f : Nat} (hi : i < C 1 0) (hf : f < C 29 i) (qf : f < 4000) {j : Nat} (hj : j < C 6 0) : (ad 5 (4000 * i + f) = ad 4 j) = False := eq_false fun e => absurd (h.2.2.1 5 4 (4000 * i + f) j (vF hi hf qf) hj (by decide) e).1 (by decide)
theorem RepL.d5_5 (h : RepL G K ad C) {i f : Nat} (hi : i < C 1 0) (hf : f < C 29 i) (qf : f < 4000) {j g : Nat} (hj : j < C 1 0) (hg : g < C 29 j) (qg : g < 4000) : (ad 5 (4000 * i + f) = ad 5 (4000 * j + g)) = (i = j ∧ f = g) := propext ⟨fun e => by have := (h.2.2.1 5 5 (4000 * i + f) (4000 * j + g) (vF hi hf qf) (vF hj hg qg) (by decide) e).2; omega, fun e => by rw [e.1, e.2]⟩
theorem RepL.d5_7 (h : RepL G K ad C) {i f : Nat} (hi : i < C 1 0) (hf : f < C 29 i) (qf : f < 4000)  : (ad 5 (4000 * i + f) = ad 7 0) = False := eq_false fun e => absurd (h.2.2.1 5 7 (4000 * i + f) 0 (vF hi hf qf) rfl (by decide) e).1 (by decide)
theorem RepL.d5_8 (h : RepL G K ad C) {i f : Nat} (hi : i < C 1 0) (hf : f < C 29 i) (qf : f < 4000)  : (ad 5 (4000 * i + f) = ad 8 0) = False := eq_false fun e => absurd (h.2.2.1 5 8 (4000 * i + f) 0 (vF hi hf qf) rfl (by decide) e).1 (by decide)
theorem RepL.d5_9 (h : RepL G K ad C) {i f : Nat} (hi : i < C 1 0) (hf : f < C 29 i) (qf : f < 4000)  : (ad 5 (4000 * i + f) = ad 9 0) = False := eq_false fun e => absurd (h.2.2.1 5 9 (4000 * i + f) 0 (vF hi hf qf) rfl (by decide) e).1 (by decide)
theorem RepL.d5_10 (h : RepL G K ad C) {i f : Nat} (hi : i < C 1 0) (hf : f < C 29 i) (qf : f < 4000)  : (ad 5 (4000 * i + f) = ad 10 0) = False := eq_false fun e => absurd (h.2.2.1 5 10 (4000 * i + f) 0 (vF hi hf qf) rfl (by decide) e).1 (by decide)
theorem RepL.d5_11 (h : RepL G K ad C) {i f : Nat} (hi : i < C 1 0) (hf : f < C 29 i) (qf : f < 4000) {j : Nat} (hj : j < C 1 0) : (ad 5 (4000 * i + f) = ad 11 j) = False := eq_false fun e => absurd (h.2.2.1 5 11 (4000 * i + f) j (vF hi hf qf) hj (by decide) e).1 (by decide)
theorem RepL.d7_1 (h : RepL G K ad C)   : (ad 7 0 = ad 1 0) = False := eq_false fun e => absurd (h.2.2.1 7 1 0 0 rfl rfl (by decide) e).1 (by decide)
theorem RepL.d7_2 (h : RepL G K ad C)  {j : Nat} (hj : j < C 1 0) : (ad 7 0 = ad 2 j) = False := eq_false fun e => absurd (h.2.2.1 7 2 0 j rfl hj (by decide) e).1 (by decide)
theorem RepL.d7_3 (h : RepL G K ad C)  {j : Nat} (hj : j < C 1 0) : (ad 7 0 = ad 3 j) = False := eq_false fun e => absurd (h.2.2.1 7 3 0 j rfl hj (by decide) e).1 (by decide)
theorem RepL.d7_14 (h : RepL G K ad C)  {j : Nat} (hj : j < C 1 0) : (ad 7 0 = ad 14 j) = False := eq_false fun e => absurd (h.2.2.1 7 14 0 j rfl hj (by decide) e).1 (by decide)
theorem RepL.d7_4 (h : RepL G K ad C)  {j : Nat} (hj : j < C 6 0) : (ad 7 0 = ad 4 j) = False := eq_false fun e => absurd (h.2.2.1 7 4 0 j rfl hj (by decide) e).1 (by decide)
theorem RepL.d7_5 (h : RepL G K ad C)  {j g : Nat} (hj : j < C 1 0) (hg : g < C 29 j) (qg : g < 4000) : (ad 7 0 = ad 5 (4000 * j + g)) = False := eq_false fun e => absurd (h.2.2.1 7 5 0 (4000 * j + g) rfl (vF hj hg qg) (by decide) e).1 (by decide)
theorem RepL.d7_8 (h : RepL G K ad C)   : (ad 7 0 = ad 8 0) = False := eq_false fun e => absurd (h.2.2.1 7 8 0 0 rfl rfl (by decide) e).1 (by decide)
theorem RepL.d7_9 (h : RepL G K ad C)   : (ad 7 0 = ad 9 0) = False := eq_false fun e => absurd (h.2.2.1 7 9 0 0 rfl rfl (by decide) e).1 (by decide)
theorem RepL.d7_10 (h : RepL G K ad C)   : (ad 7 0 = ad 10 0) = False := eq_false fun e => absurd (h.2.2.1 7 10 0 0 rfl rfl (by decide) e).1 (by decide)
theorem RepL.d7_11 (h : RepL G K ad C)  {j : Nat} (hj : j < C 1 0) : (ad 7 0 = ad 11 j) = False := eq_false fun e => absurd (h.2.2.1 7 11 0 j rfl hj (by decide) e).1 (by decide)
theorem RepL.d8_1 (h : RepL G K ad C)   : (ad 8 0 = ad 1 0) = False := eq_false fun e => absurd (h.2.2.1 8 1 0 0 rfl rfl (by decide) e).1 (by decide)
theorem RepL.d8_2 (h : RepL G K ad C)  {j : Nat} (hj : j < C 1 0) : (ad 8 0 = ad 2 j) = False := eq_false fun e => absurd (h.2.2.1 8 2 0 j rfl hj (by decide) e).1 (by decide)
theorem RepL.d8_3 (h : RepL G K ad C)  {j : Nat} (hj : j < C 1 0) : (ad 8 0 = ad 3 j) = False := eq_false fun e => absurd (h.2.2.1 8 3 0 j rfl hj (by decide) e).1 (by decide)
theorem RepL.d8_14 (h : RepL G K ad C)  {j : Nat} (hj : j < C 1 0) : (ad 8 0 = ad 14 j) = False := eq_false fun e => absurd (h.2.2.1 8 14 0 j rfl hj (by decide) e).1 (by decide)
theorem RepL.d8_4 (h : RepL G K ad C)  {j : Nat} (hj : j < C 6 0) : (ad 8 0 = ad 4 j) = False := eq_false fun e => absurd (h.2.2.1 8 4 0 j rfl hj (by decide) e).1 (by decide)
theorem RepL.d8_5 (h : RepL G K ad C)  {j g : Nat} (hj : j < C 1 0) (hg : g < C 29 j) (qg : g < 4000) : (ad 8 0 = ad 5 (4000 * j + g)) = False := eq_false fun e => absurd (h.2.2.1 8 5 0 (4000 * j + g) rfl (vF hj hg qg) (by decide) e).1 (by decide)
theorem RepL.d8_7 (h : RepL G K ad C)   : (ad 8 0 = ad 7 0) = False := eq_false fun e => absurd (h.2.2.1 8 7 0 0 rfl rfl (by decide) e).1 (by decide)
theorem RepL.d8_9 (h : RepL G K ad C)   : (ad 8 0 = ad 9 0) = False := eq_false fun e => absurd (h.2.2.1 8 9 0 0 rfl rfl (by decide) e).1 (by decide)
theorem RepL.d8_10 (h : RepL G K ad C)   : (ad 8 0 = ad 10 0) = False := eq_false fun e => absurd (h.2.2.1 8 10 0 0 rfl rfl (by decide) e).1 (by decide)
theorem RepL.d8_11 (h : RepL G K ad C)  {j : Nat} (hj : j < C 1 0) : (ad 8 0 = ad 11 j) = False := eq_false fun e => absurd (h.2.2.1 8 11 0 j rfl hj (by decide) e).1 (by decide)
theorem RepL.d9_1 (h : RepL G K ad C)   : (ad 9 0 = ad 1 0) = False := eq_false fun e => absurd (h.2.2.1 9 1 0 0 rfl rfl (by decide) e).1 (by decide)
theorem RepL.d9_2 (h : RepL G K ad C)  {j : Nat} (hj : j < C 1 0) : (ad 9 0 = ad 2 j) = False := eq_false fun e => absurd (h.2.2.1 9 2 0 j rfl hj (by decide) e).1 (by decide)
theorem RepL.d9_3 (h : RepL G K ad C)  {j : Nat} (hj : j < C 1 0) : (ad 9 0 = ad 3 j) = False := eq_false fun e => absurd (h.2.2.1 9 3 0 j rfl hj (by decide) e).1 (by decide)
theorem RepL.d9_14 (h : RepL G K ad C)  {j : Nat} (hj : j < C 1 0) : (ad 9 0 = ad 14 j) = False := eq_false fun e => absurd (h.2.2.1 9 14 0 j rfl hj (by decide) e).1 (by decide)
theorem RepL.d9_4 (h : RepL G K ad C)  {j : Nat} (hj : j < C 6 0) : (ad 9 0 = ad 4 j) = False := eq_false fun e => absurd (h.2.2.1 9 4 0 j rfl hj (by decide) e).1 (by decide)
theorem RepL.d9_5 (h : RepL G K ad C)  {j g : Nat} (hj : j < C 1 0) (hg : g < C 29 j) (qg : g < 4000) : (ad 9 0 = ad 5 (4000 * j + g)) = False := eq_false fun e => absurd (h.2.2.1 9 5 0 (4000 * j + g) rfl (vF hj hg qg) (by decide) e).1 (by decide)
theorem RepL.d9_7 (h : RepL G K ad C)   : (ad 9 0 = ad 7 0) = False := eq_false fun e => absurd (h.2.2.1 9 7 0 0 rfl rfl (by decide) e).1 (by decide)
theorem RepL.d9_8 (h : RepL G K ad C)   : (ad 9 0 = ad 8 0) = False := eq_false fun e => absurd (h.2.2.1 9 8 0 0 rfl rfl (by decide) e).1 (by decide)
theorem RepL.d9_10 (h : RepL G K ad C)   : (ad 9 0 = ad 10 0) = False := eq_false fun e => absurd (h.2.2.1 9 10 0 0 rfl rfl (by decide) e).1 (by decide)
theorem RepL.d9_11 (h : RepL G K ad C)  {j : Nat} (hj : j < C 1 0) : (ad 9 0 = ad 11 j) = False := eq_false fun e => absurd (h.2.2.1 9 11 0 j rfl hj (by decide) e).1 (by decide)
theorem RepL.d10_1 (h : RepL G K ad C)   : (ad 10 0 = ad 1 0) = False := eq_false fun e => absurd (h.2.2.1 10 1 0 0 rfl rfl (by decide) e).1 (by decide)
theorem RepL.d10_2 (h : RepL G K ad C)  {j : Nat} (hj : j < C 1 0) : (ad 10 0 = ad 2 j) = False := eq_false fun e => absurd (h.2.2.1 10 2 0 j rfl hj (by decide) e).1 (by decide)
theorem RepL.d10_3 (h : RepL G K ad C)  {j : Nat} (hj : j < C 1 0) : (ad 10 0 = ad 3 j) = False := eq_false fun e => absurd (h.2.2.1 10 3 0 j rfl hj (by decide) e).1 (by decide)
theorem RepL.d10_14 (h : RepL G K ad C)  {j : Nat} (hj : j < C 1 0) : (ad 10 0 = ad 14 j) = False := eq_false fun e => absurd (h.2.2.1 10 14 0 j rfl hj (by decide) e).1 (by decide)
theorem RepL.d10_4 (h : RepL G K ad C)  {j : Nat} (hj : j < C 6 0) : (ad 10 0 = ad 4 j) = False := eq_false fun e => absurd (h.2.2.1 10 4 0 j rfl hj (by decide) e).1 (by decide)
theorem RepL.d10_5 (h : RepL G K ad C)  {j g : Nat} (hj : j < C 1 0) (hg : g < C 29 j) (qg : g < 4000) : (ad 10 0 = ad 5 (4000 * j + g)) = False := eq_false fun e => absurd (h.2.2.1 10 5 0 (4000 * j + g) rfl (vF hj hg qg) (by decide) e).1 (by decide)
theorem RepL.d10_7 (h : RepL G K ad C)   : (ad 10 0 = ad 7 0) = False := eq_false fun e => absurd (h.2.2.1 10 7 0 0 rfl rfl (by decide) e).1 (by decide)
theorem RepL.d10_8 (h : RepL G K ad C)   : (ad 10 0 = ad 8 0) = False := eq_false fun e => absurd (h.2.2.1 10 8 0 0 rfl rfl (by decide) e).1 (by decide)
theorem RepL.d10_9 (h : RepL G K ad C)   : (ad 10 0 = ad 9 0) = False := eq_false fun e => absurd (h.2.2.1 10 9 0 0 rfl rfl (by decide) e).1 (by decide)
theorem RepL.d10_11 (h : RepL G K ad C)  {j : Nat} (hj : j < C 1 0) : (ad 10 0 = ad 11 j) = False := eq_false fun e => absurd (h.2.2.1 10 11 0 j rfl hj (by decide) e).1 (by decide)
theorem RepL.d11_1 (h : RepL G K ad C) {i : Nat} (hi : i < C 1 0)  : (ad 11 i = ad 1 0) = False := eq_false fun e => absurd (h.2.2.1 11 1 i 0 hi rfl (by decide) e).1 (by decide)
theorem RepL.d11_2 (h : RepL G K ad C) {i : Nat} (hi : i < C 1 0) {j : Nat} (hj : j < C 1 0) : (ad 11 i = ad 2 j) = False := eq_false fun e => absurd (h.2.2.1 11 2 i j hi hj (by decide) e).1 (by decide)
theorem RepL.d11_3 (h : RepL G K ad C) {i : Nat} (hi : i < C 1 0) {j : Nat} (hj : j < C 1 0) : (ad 11 i = ad 3 j) = False := eq_false fun e => absurd (h.2.2.1 11 3 i j hi hj (by decide) e).1 (by decide)
theorem RepL.d11_14 (h : RepL G K ad C) {i : Nat} (hi : i < C 1 0) {j : Nat} (hj : j < C 1 0) : (ad 11 i = ad 14 j) = False := eq_false fun e => absurd (h.2.2.1 11 14 i j hi hj (by decide) e).1 (by decide)
theorem RepL.d11_4 (h : RepL G K ad C) {i : Nat} (hi : i < C 1 0) {j : Nat} (hj : j < C 6 0) : (ad 11 i = ad 4 j) = False := eq_false fun e => absurd (h.2.2.1 11 4 i j hi hj (by decide) e).1 (by decide)
theorem RepL.d11_5 (h : RepL G K ad C) {i : Nat} (hi : i < C 1 0) {j g : Nat} (hj : j < C 1 0) (hg : g < C 29 j) (qg : g < 4000) : (ad 11 i = ad 5 (4000 * j + g)) = False := eq_false fun e => absurd (h.2.2.1 11 5 i (4000 * j + g) hi (vF hj hg qg) (by decide) e).1 (by decide)
theorem RepL.d11_7 (h : RepL G K ad C) {i : Nat} (hi : i < C 1 0)  : (ad 11 i = ad 7 0) = False := eq_false fun e => absurd (h.2.2.1 11 7 i 0 hi rfl (by decide) e).1 (by decide)
theorem RepL.d11_8 (h : RepL G K ad C) {i : Nat} (hi : i < C 1 0)  : (ad 11 i = ad 8 0) = False := eq_false fun e => absurd (h.2.2.1 11 8 i 0 hi rfl (by decide) e).1 (by decide)
theorem RepL.d11_9 (h : RepL G K ad C) {i : Nat} (hi : i < C 1 0)  : (ad 11 i = ad 9 0) = False := eq_false fun e => absurd (h.2.2.1 11 9 i 0 hi rfl (by decide) e).1 (by decide)
theorem RepL.d11_10 (h : RepL G K ad C) {i : Nat} (hi : i < C 1 0)  : (ad 11 i = ad 10 0) = False := eq_false fun e => absurd (h.2.2.1 11 10 i 0 hi rfl (by decide) e).1 (by decide)
theorem RepL.d11_11 (h : RepL G K ad C) {i : Nat} (hi : i < C 1 0) {j : Nat} (hj : j < C 1 0) : (ad 11 i = ad 11 j) = (i = j) := propext ⟨fun e => (h.2.2.1 11 11 i j hi hj (by decide) e).2, fun e => by rw [e]⟩
end RL
