theorem ic_m1 : Int32.ofInt (-1) = (-1) := rfl
theorem ic_0 : Int32.ofInt 0 = 0 := rfl
theorem ic_1 : Int32.ofInt 1 = 1 := rfl
theorem ic_2 : Int32.ofInt 2 = 2 := rfl
theorem ic_3 : Int32.ofInt 3 = 3 := rfl
theorem ic_4 : Int32.ofInt 4 = 4 := rfl
theorem ic_5 : Int32.ofInt 5 = 5 := rfl
theorem ic_6 : Int32.ofInt 6 = 6 := rfl
theorem bp_6 : (Int8.ofInt 6).toInt32 = 6 := rfl
theorem bp_7 : (Int8.ofInt 7).toInt32 = 7 := rfl
theorem bp_8 : (Int8.ofInt 8).toInt32 = 8 := rfl
theorem bp_15 : (Int8.ofInt 15).toInt32 = 15 := rfl
theorem bp_16 : (Int8.ofInt 16).toInt32 = 16 := rfl
theorem bp_31 : (Int8.ofInt 31).toInt32 = 31 := rfl
theorem bp_32 : (Int8.ofInt 32).toInt32 = 32 := rfl
theorem bp_60 : (Int8.ofInt 60).toInt32 = 60 := rfl
theorem sp_250 : (Int16.ofInt 250).toInt32 = 250 := rfl
theorem sp_255 : (Int16.ofInt 255).toInt32 = 255 := rfl
theorem sp_4000 : (Int16.ofInt 4000).toInt32 = 4000 := rfl
theorem sp_5000 : (Int16.ofInt 5000).toInt32 = 5000 := rfl
theorem sp_15000 : (Int16.ofInt 15000).toInt32 = 15000 := rfl
theorem sp_32000 : (Int16.ofInt 32000).toInt32 = 32000 := rfl
theorem f4_0 : ((0 : Fin 4) : Nat) = 0 := rfl
theorem f4_1 : ((1 : Fin 4) : Nat) = 1 := rfl
theorem f4_2 : ((2 : Fin 4) : Nat) = 2 := rfl
theorem f4_3 : ((3 : Fin 4) : Nat) = 3 := rfl
theorem c_nat (n : Nat) : ((no_index (OfNat.ofNat n) : Nat) : Int) = (OfNat.ofNat n : Int) := rfl
theorem rtm {rm : Room} {rt : Nat} {Qr : Option AV → GG → Prop} {pc : Nat} {r : Option AV} {G : GG} {k n : Nat} : RTm rm rt Qr pc r G k n = (k ≤ rm.cells ∧ n ≤ rm.slots ∧ rOK rt r ∧ Qr r G) := rfl
theorem rok_0 : rOK 0 none = True := rfl
theorem rok_1 {x : Int32} : rOK 1 (some (.inl x)) = True := rfl
theorem rok_2 {x : Int32} : rOK 2 (some (.inl x)) = (x = 0 ∨ x = 1) := rfl
theorem rok_3 {o : Option Nat} : rOK 3 (some (.inr (.inl o))) = True := rfl
def okq (v : Option AV) : Bool := match v with
  | some (.inr (.inr _)) => false
  | _ => true
theorem okS_0 {ls : List (Option AV)} : okS ls 0 = true := rfl
theorem okS_s {ls : List (Option AV)} {j : Nat} : okS ls (j + 1) = okq (lk ls j) := rfl
theorem okq_n : okq none = true := rfl
theorem okq_i {x : Int32} : okq (some (.inl x)) = true := rfl
theorem okq_r {x : Option Nat} : okq (some (.inr (.inl x))) = true := rfl
theorem stW_n : stW [] = 0 := rfl
theorem stW_i {x : Int32} {r : List AV} : stW (.inl x :: r) = 1 + stW r := rfl
theorem stW_r {x : Option Nat} {r : List AV} : stW (.inr (.inl x) :: r) = 1 + stW r := by unfold stW; rw [List.map_cons, List.sum_cons]; simp only [tV, tV_rcat]
theorem stW_l {x : Int64} {r : List AV} : stW (.inr (.inr x) :: r) = 2 + stW r := rfl
theorem cat_i {x : Int32} : (tV (.inl x)).category = 1 := rfl
theorem cat_r {x : Option Nat} : (tV (.inr (.inl x))).category = 1 := tV_rcat x
theorem nox {i pc : Nat} {ls : List (Option AV)} {st : List AV} {G : GG} {k n : Nat} : noX i pc ls st G k n = False := rfl
theorem nf_0 : nfO 0 = 13 := rfl
theorem nf_1 : nfO 1 = 3 := rfl
theorem nf_2 : nfO 2 = 3 := rfl
theorem nf_3 : nfO 3 = 16 := rfl
theorem nf_4 : nfO 4 = 9 := rfl
theorem nf_5 : nfO 5 = 4 := rfl
theorem nf_6 : nfO 6 = 39 := rfl
theorem im_f {c A B : Prop} (h : ¬ c) (b : B) : (c → A) ∧ (¬ c → B) := ⟨fun q => absurd q h, fun _ => b⟩
theorem im_t {c A B : Prop} (h : c) (a : A) : (c → A) ∧ (¬ c → B) := ⟨fun _ => a, fun q => absurd h q⟩
