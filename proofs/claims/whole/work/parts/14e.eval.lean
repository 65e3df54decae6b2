/-! ===== the computed walk as rewriting rows (no binders: every row fires on whole terms) ===== -/
def wq (own : String) (ft : FTb) (nt : List (Nat × Nat)) (ct : List (Nat × CS)) (oi : Nat) (R : Room) (sc : Bool) (RT : Nat → Option AV → GG → Nat → Nat → Prop) (XN : Nat → Kt) (K : Kt) (I : Option Ip) (d : Except DecodeError (Instr × Nat)) (pc : Nat) (ls : List (Option AV)) (st : List AV) (G : GG) (k n : Nat) : Prop := match I with
  | some I => I ls st G k n
  | none => match d with
    | .ok q => stepw own ft nt ct oi R sc RT XN K q.1 q.2 pc ls st G k n
    | .error _ => False
def ldI (v : Option AV) (K : Kt) (pc : Nat) (ls : List (Option AV)) (st : List AV) (G : GG) (k n : Nat) : Prop := match v with
  | some (.inl x) => K pc ls (.inl x :: st) G k n
  | _ => False
def ldR (v : Option AV) (K : Kt) (pc : Nat) (ls : List (Option AV)) (st : List AV) (G : GG) (k n : Nat) : Prop := match v with
  | some (.inr (.inl x)) => K pc ls (.inr (.inl x) :: st) G k n
  | _ => False
def ldL (v : Option AV) (K : Kt) (pc : Nat) (ls : List (Option AV)) (st : List AV) (G : GG) (k n : Nat) : Prop := match v with
  | some (.inr (.inr x)) => K pc ls (.inr (.inr x) :: st) G k n
  | _ => False
def incI (v : Option AV) (j : Nat) (d : Int32) (K : Kt) (pc : Nat) (ls : List (Option AV)) (st : List AV) (G : GG) (k n : Nat) : Prop := match v with
  | some (.inl x) => j < ls.length ∧ okS ls j = true ∧ K pc (ls.set j (some (.inl (x + d)))) st G k n
  | _ => False
def gfE (q : Option (Nat × (Nat × (Nat × Bool)))) (o : Option Nat) (K : Kt) (pc : Nat) (ls : List (Option AV)) (st : List AV) (G : GG) (k n : Nat) : Prop := match q with
  | some (ci, j, ty, _) => nn o fun a => knd G a = ci ∧ K pc ls ((if ty = 1 then .inr (.inl (gr G a j)) else .inl (gi G a j)) :: st) G k n
  | none => False
def pfE (q : Option (Nat × (Nat × (Nat × Bool)))) (v : AV) (o : Option Nat) (K : Kt) (pc : Nat) (ls : List (Option AV)) (st : List AV) (G : GG) (k n : Nat) : Prop := match q with
  | some (ci, j, ty, w) => w = true ∧ (match v with
    | .inl x => ¬ ty = 1 ∧ nn o fun a => knd G a = ci ∧ (ty = 2 → x = 0 ∨ x = 1) ∧ K pc ls st (sI G a j x) k n
    | .inr (.inl x) => ty = 1 ∧ nn o fun a => knd G a = ci ∧ K pc ls st (sR G a j x) k n
    | .inr (.inr _) => False)
  | none => False
def nwE (q : Option Nat) (R : Room) (K : Kt) (pc : Nat) (ls : List (Option AV)) (st : List AV) (G : GG) (k n : Nat) : Prop := match q with
  | some ci => k + 1 ≤ R.cells ∧ n + nfO ci ≤ R.slots ∧ ∀ a, knd G a = 99 → K pc ls (.inr (.inl (some a)) :: st) (nw G a ci 0) (k + 1) (n + nfO ci)
  | none => False
def anE (q : Option Nat) (x : Int32) (R : Room) (K : Kt) (pc : Nat) (ls : List (Option AV)) (r : List AV) (G : GG) (k n : Nat) : Prop := match q with
  | some ci => 0 ≤ x.toInt ∧ x.toInt ≤ 60000 ∧ k + 1 ≤ R.cells ∧ n + x.toNatClampNeg ≤ R.slots ∧ (if ci = 0 then ∀ a, knd G a = 99 → K pc ls (.inr (.inl (some a)) :: r) (nw G a 11 x.toNatClampNeg) (k + 1) (n + x.toNatClampNeg)
    else if ci = 1 then ∀ a, knd G a = 99 → K pc ls (.inr (.inl (some a)) :: r) (nw G a 12 x.toNatClampNeg) (k + 1) (n + x.toNatClampNeg)
    else if ci = 4 then ∀ a, knd G a = 99 → K pc ls (.inr (.inl (some a)) :: r) (nw G a 13 x.toNatClampNeg) (k + 1) (n + x.toNatClampNeg)
    else False)
  | none => False
/-- a call's end: what comes back is pushed -/
def kE (K : Kt) (pc : Nat) (ls : List (Option AV)) (r : List AV) (k n : Nat) : Option AV → GG → Prop := fun v G' => K pc ls (v.toList ++ r) G' k n
def nX : String → GG → Prop := fun _ _ => False
def cvE (q : Option CS) (R : Room) (K : Kt) (pc : Nat) (ls : List (Option AV)) (st : List AV) (G : GG) (k n : Nat) : Prop := match q with
  | some (kd, na, mc, ms, T) => kd < 7 ∧ popN na [] st fun As r => pR r fun o r => nn o fun b => knd G b = kd ∧ stW r ≤ 8 ∧ k + mc ≤ R.cells ∧ n + ms ≤ R.slots ∧ T (.inr (.inl (some b)) :: As) G (kE K pc ls r (k + mc) (n + ms)) nX
  | none => False
def csE (q : Option CS) (R : Room) (K : Kt) (pc : Nat) (ls : List (Option AV)) (st : List AV) (G : GG) (k n : Nat) : Prop := match q with
  | some (kd, na, mc, ms, T) => kd = 8 ∧ popN na [] st fun As r => stW r ≤ 8 ∧ k + mc ≤ R.cells ∧ n + ms ≤ R.slots ∧ T As G (kE K pc ls r (k + mc) (n + ms)) nX
  | none => False
def ciE (q : Option CS) (R : Room) (K : Kt) (pc : Nat) (ls : List (Option AV)) (st : List AV) (G : GG) (k n : Nat) : Prop := match q with
  | some (kd, na, mc, ms, T) => (kd = 7 ∨ kd = 9) ∧ popN na [] st fun As r => pR r fun o r => nn o fun b => stW r ≤ 8 ∧ k + mc ≤ R.cells ∧ n + ms ≤ R.slots ∧ T (.inr (.inl (some b)) :: As) G (kE K pc ls r (k + mc) (n + ms)) nX
  | none => False
section EW
variable {cc : ByteArray} {own : String} {ft : FTb} {nt : List (Nat × Nat)} {ct : List (Nat × CS)} {oi : Nat} {R : Room} {sc : Bool} {RT : Nat → Option AV → GG → Nat → Nat → Prop} {XN : Nat → Kt} {K : Kt} {cuts : List (Nat × Ip)} {f pc : Nat} {ls : List (Option AV)} {st r : List AV} {G : GG} {k n : Nat}
theorem wpf_s : wpf cc own ft nt ct oi R sc RT XN cuts (f + 1) pc ls st G k n = wq own ft nt ct oi R sc RT XN (wpf cc own ft nt ct oi R sc RT XN cuts f) (lkp cuts pc) (decode cc pc) pc ls st G k n := by
  rw [wpf]; unfold wq; rfl
theorem wpA_s : wpA cc own ft nt ct oi R sc RT XN cuts f pc ls st G k n = wq own ft nt ct oi R sc RT XN (wpf cc own ft nt ct oi R sc RT XN cuts f) none (decode cc pc) pc ls st G k n := rfl
theorem wq_c {I : Ip} {d : Except DecodeError (Instr × Nat)} : wq own ft nt ct oi R sc RT XN K (some I) d pc ls st G k n = I ls st G k n := rfl
theorem wq_n {i : Instr} {len : Nat} : wq own ft nt ct oi R sc RT XN K none (.ok (i, len)) pc ls st G k n = stepw own ft nt ct oi R sc RT XN K i len pc ls st G k n := rfl
theorem lkp_n {α : Type} {j : Nat} : lkp ([] : List (Nat × α)) j = none := rfl
theorem lkp_c {α : Type} {x : Nat × α} {l : List (Nat × α)} {j : Nat} : lkp (x :: l) j = if j = x.1 then some x.2 else lkp l j := rfl
theorem lk_0 {x : Option AV} {l : List (Option AV)} : lk (x :: l) 0 = x := rfl
theorem lk_s {x : Option AV} {l : List (Option AV)} {j : Nat} : lk (x :: l) (j + 1) = lk l j := rfl
theorem ldI_s {x : Int32} : ldI (some (.inl x)) K pc ls st G k n = K pc ls (.inl x :: st) G k n := rfl
theorem ldR_s {x : Option Nat} : ldR (some (.inr (.inl x))) K pc ls st G k n = K pc ls (.inr (.inl x) :: st) G k n := rfl
theorem ldL_s {x : Int64} : ldL (some (.inr (.inr x))) K pc ls st G k n = K pc ls (.inr (.inr x) :: st) G k n := rfl
theorem incI_s {x d : Int32} {j : Nat} : incI (some (.inl x)) j d K pc ls st G k n = (j < ls.length ∧ okS ls j = true ∧ K pc (ls.set j (some (.inl (x + d)))) st G k n) := rfl
theorem gfE_I {ci j a : Nat} {w : Bool} : gfE (some (ci, j, 0, w)) (some a) K pc ls st G k n = (knd G a = ci ∧ K pc ls (.inl (gi G a j) :: st) G k n) := by simp [gfE, nn]
theorem gfE_Z {ci j a : Nat} {w : Bool} : gfE (some (ci, j, 2, w)) (some a) K pc ls st G k n = (knd G a = ci ∧ K pc ls (.inl (gi G a j) :: st) G k n) := by simp [gfE, nn]
theorem gfE_R {ci j a : Nat} {w : Bool} : gfE (some (ci, j, 1, w)) (some a) K pc ls st G k n = (knd G a = ci ∧ K pc ls (.inr (.inl (gr G a j)) :: st) G k n) := by simp [gfE, nn]
theorem pfE_I {ci j a : Nat} {x : Int32} : pfE (some (ci, j, 0, true)) (.inl x) (some a) K pc ls st G k n = (knd G a = ci ∧ K pc ls st (sI G a j x) k n) := by simp [pfE, nn]
theorem pfE_Z {ci j a : Nat} {x : Int32} : pfE (some (ci, j, 2, true)) (.inl x) (some a) K pc ls st G k n = (knd G a = ci ∧ (x = 0 ∨ x = 1) ∧ K pc ls st (sI G a j x) k n) := by simp [pfE, nn]
theorem pfE_R {ci j a : Nat} {x : Option Nat} : pfE (some (ci, j, 1, true)) (.inr (.inl x)) (some a) K pc ls st G k n = (knd G a = ci ∧ K pc ls st (sR G a j x) k n) := by simp [pfE, nn]
theorem nwE_s {ci : Nat} : nwE (some ci) R K pc ls st G k n = (k + 1 ≤ R.cells ∧ n + nfO ci ≤ R.slots ∧ ∀ a, knd G a = 99 → K pc ls (.inr (.inl (some a)) :: st) (nw G a ci 0) (k + 1) (n + nfO ci)) := rfl
theorem anE_0 {x : Int32} : anE (some 0) x R K pc ls st G k n = (0 ≤ x.toInt ∧ x.toInt ≤ 60000 ∧ k + 1 ≤ R.cells ∧ n + x.toNatClampNeg ≤ R.slots ∧ ∀ a, knd G a = 99 → K pc ls (.inr (.inl (some a)) :: st) (nw G a 11 x.toNatClampNeg) (k + 1) (n + x.toNatClampNeg)) := rfl
theorem anE_1 {x : Int32} : anE (some 1) x R K pc ls st G k n = (0 ≤ x.toInt ∧ x.toInt ≤ 60000 ∧ k + 1 ≤ R.cells ∧ n + x.toNatClampNeg ≤ R.slots ∧ ∀ a, knd G a = 99 → K pc ls (.inr (.inl (some a)) :: st) (nw G a 12 x.toNatClampNeg) (k + 1) (n + x.toNatClampNeg)) := rfl
theorem anE_4 {x : Int32} : anE (some 4) x R K pc ls st G k n = (0 ≤ x.toInt ∧ x.toInt ≤ 60000 ∧ k + 1 ≤ R.cells ∧ n + x.toNatClampNeg ≤ R.slots ∧ ∀ a, knd G a = 99 → K pc ls (.inr (.inl (some a)) :: st) (nw G a 13 x.toNatClampNeg) (k + 1) (n + x.toNatClampNeg)) := rfl
theorem kE_n {G' : GG} : kE K pc ls r k n none G' = K pc ls r G' k n := rfl
theorem kE_s {v : AV} {G' : GG} : kE K pc ls r k n (some v) G' = K pc ls (v :: r) G' k n := rfl
theorem sw_iload_n {j : Fin 4} : stepw own ft nt ct oi R sc RT XN K (.iload_n j) 1 pc ls st G k n = (ldI (lk ls j) K (pc + 1) ls st G k n) := by
  simp only [stepw, lI, ldI, true_and]
  rfl
theorem sw_iload {j : Nat} : stepw own ft nt ct oi R sc RT XN K (.iload j) 2 pc ls st G k n = (ldI (lk ls j) K (pc + 2) ls st G k n) := by
  simp only [stepw, lI, ldI, true_and]
  rfl
theorem sw_aload_n {j : Fin 4} : stepw own ft nt ct oi R sc RT XN K (.aload_n j) 1 pc ls st G k n = (ldR (lk ls j) K (pc + 1) ls st G k n) := by
  simp only [stepw, lR, ldR, true_and]
  rfl
theorem sw_aload {j : Nat} : stepw own ft nt ct oi R sc RT XN K (.aload j) 2 pc ls st G k n = (ldR (lk ls j) K (pc + 2) ls st G k n) := by
  simp only [stepw, lR, ldR, true_and]
  rfl
theorem sw_lload_n {j : Fin 4} : stepw own ft nt ct oi R sc RT XN K (.lload_n j) 1 pc ls st G k n = (ldL (lk ls j) K (pc + 1) ls st G k n) := by
  simp only [stepw, lL, ldL, true_and]
  rfl
theorem sw_lload {j : Nat} : stepw own ft nt ct oi R sc RT XN K (.lload j) 2 pc ls st G k n = (ldL (lk ls j) K (pc + 2) ls st G k n) := by
  simp only [stepw, lL, ldL, true_and]
  rfl
theorem sw_istore_n {j : Fin 4} {x : Int32} : stepw own ft nt ct oi R sc RT XN K (.istore_n j) 1 pc ls (.inl x :: r) G k n = ((j : Nat) < ls.length ∧ okS ls j = true ∧ K (pc + 1) (ls.set j (some (.inl x))) r G k n) := by simp [stepw, pI, pR, pL, jmp, nn, br]
theorem sw_istore {j : Nat} {x : Int32} : stepw own ft nt ct oi R sc RT XN K (.istore j) 2 pc ls (.inl x :: r) G k n = (j < ls.length ∧ okS ls j = true ∧ K (pc + 2) (ls.set j (some (.inl x))) r G k n) := by simp [stepw, pI, pR, pL, jmp, nn, br]
theorem sw_astore_n {j : Fin 4} {x : Option Nat} : stepw own ft nt ct oi R sc RT XN K (.astore_n j) 1 pc ls (.inr (.inl x) :: r) G k n = ((j : Nat) < ls.length ∧ okS ls j = true ∧ K (pc + 1) (ls.set j (some (.inr (.inl x)))) r G k n) := by simp [stepw, pI, pR, pL, jmp, nn, br]
theorem sw_astore {j : Nat} {x : Option Nat} : stepw own ft nt ct oi R sc RT XN K (.astore j) 2 pc ls (.inr (.inl x) :: r) G k n = (j < ls.length ∧ okS ls j = true ∧ K (pc + 2) (ls.set j (some (.inr (.inl x)))) r G k n) := by simp [stepw, pI, pR, pL, jmp, nn, br]
theorem sw_lstore {j : Nat} {x : Int64} : stepw own ft nt ct oi R sc RT XN K (.lstore j) 2 pc ls (.inr (.inr x) :: r) G k n = (j + 1 < ls.length ∧ okS ls j = true ∧ K (pc + 2) ((ls.set j (some (.inr (.inr x)))).set (j + 1) none) r G k n) := by simp [stepw, pI, pR, pL, jmp, nn, br]
theorem sw_iinc {j : Nat} {d : Int} : stepw own ft nt ct oi R sc RT XN K (.iinc j d) 3 pc ls st G k n = (incI (lk ls j) j (Int32.ofInt d) K (pc + 3) ls st G k n) := by
  simp only [stepw, lI, incI, true_and]
  rfl
theorem sw_iconst {d : Int} : stepw own ft nt ct oi R sc RT XN K (.iconst d) 1 pc ls st G k n = (K (pc + 1) ls (.inl (Int32.ofInt d) :: st) G k n) := by simp [stepw, pI, pR, pL, jmp, nn, br]
theorem sw_bipush {d : Int} : stepw own ft nt ct oi R sc RT XN K (.bipush d) 2 pc ls st G k n = (K (pc + 2) ls (.inl (Int8.ofInt d).toInt32 :: st) G k n) := by simp [stepw, pI, pR, pL, jmp, nn, br]
theorem sw_sipush {d : Int} : stepw own ft nt ct oi R sc RT XN K (.sipush d) 3 pc ls st G k n = (K (pc + 3) ls (.inl (Int16.ofInt d).toInt32 :: st) G k n) := by simp [stepw, pI, pR, pL, jmp, nn, br]
theorem sw_null  : stepw own ft nt ct oi R sc RT XN K (.aconst_null) 1 pc ls st G k n = (K (pc + 1) ls (.inr (.inl none) :: st) G k n) := by simp [stepw, pI, pR, pL, jmp, nn, br]
theorem sw_ldc2  : stepw own ft nt ct oi R sc RT XN K (.ldc2_w 78) 3 pc ls st G k n = (own = RL ∧ K (pc + 3) ls (.inr (.inr 4294967295) :: st) G k n) := by simp [stepw, pI, pR, pL, jmp, nn, br]
theorem sw_dup {v : AV} : stepw own ft nt ct oi R sc RT XN K (.dup) 1 pc ls (v :: r) G k n = ((tV v).category = 1 ∧ K (pc + 1) ls (v :: v :: r) G k n) := by simp [stepw, pI, pR, pL, jmp, nn, br]
theorem sw_dup2 {v w : AV} : stepw own ft nt ct oi R sc RT XN K (.dup2) 1 pc ls (v :: w :: r) G k n = ((tV v).category = 1 ∧ (tV w).category = 1 ∧ K (pc + 1) ls (v :: w :: v :: w :: r) G k n) := by simp [stepw, pI, pR, pL, jmp, nn, br]
theorem sw_iadd {x y : Int32} : stepw own ft nt ct oi R sc RT XN K (.iadd) 1 pc ls (.inl y :: .inl x :: r) G k n = (K (pc + 1) ls (.inl (x + y) :: r) G k n) := by simp only [stepw, pI, true_and]
theorem sw_isub {x y : Int32} : stepw own ft nt ct oi R sc RT XN K (.isub) 1 pc ls (.inl y :: .inl x :: r) G k n = (K (pc + 1) ls (.inl (x - y) :: r) G k n) := by simp only [stepw, pI, true_and]
theorem sw_imul {x y : Int32} : stepw own ft nt ct oi R sc RT XN K (.imul) 1 pc ls (.inl y :: .inl x :: r) G k n = (K (pc + 1) ls (.inl (x * y) :: r) G k n) := by simp only [stepw, pI, true_and]
theorem sw_iand {x y : Int32} : stepw own ft nt ct oi R sc RT XN K (.iand) 1 pc ls (.inl y :: .inl x :: r) G k n = (K (pc + 1) ls (.inl (x &&& y) :: r) G k n) := by simp only [stepw, pI, true_and]
theorem sw_ixor {x y : Int32} : stepw own ft nt ct oi R sc RT XN K (.ixor) 1 pc ls (.inl y :: .inl x :: r) G k n = (K (pc + 1) ls (.inl (x ^^^ y) :: r) G k n) := by simp only [stepw, pI, true_and]
theorem sw_ishr {x y : Int32} : stepw own ft nt ct oi R sc RT XN K (.ishr) 1 pc ls (.inl y :: .inl x :: r) G k n = (K (pc + 1) ls (.inl (x >>> (y &&& 31)) :: r) G k n) := by simp only [stepw, pI, true_and]
theorem sw_iushr {x y : Int32} : stepw own ft nt ct oi R sc RT XN K (.iushr) 1 pc ls (.inl y :: .inl x :: r) G k n = (K (pc + 1) ls (.inl ((x.toUInt32 >>> (y.toUInt32 &&& Int32.toUInt32 31)).toInt32) :: r) G k n) := by simp only [stepw, pI, true_and]
theorem sw_idiv {x y : Int32} : stepw own ft nt ct oi R sc RT XN K (.idiv) 1 pc ls (.inl y :: .inl x :: r) G k n = (¬ y = 0 ∧ K (pc + 1) ls (.inl (x / y) :: r) G k n) := by simp only [stepw, pI, true_and]
theorem sw_irem {x y : Int32} : stepw own ft nt ct oi R sc RT XN K (.irem) 1 pc ls (.inl y :: .inl x :: r) G k n = (¬ y = 0 ∧ K (pc + 1) ls (.inl (x - x / y * y) :: r) G k n) := by simp only [stepw, pI, true_and]
theorem sw_land {x y : Int64} : stepw own ft nt ct oi R sc RT XN K (.land) 1 pc ls (.inr (.inr y) :: .inr (.inr x) :: r) G k n = (K (pc + 1) ls (.inr (.inr (x &&& y)) :: r) G k n) := by simp only [stepw, pL, true_and]
theorem sw_lor {x y : Int64} : stepw own ft nt ct oi R sc RT XN K (.lor) 1 pc ls (.inr (.inr y) :: .inr (.inr x) :: r) G k n = (K (pc + 1) ls (.inr (.inr (x ||| y)) :: r) G k n) := by simp only [stepw, pL, true_and]
theorem sw_lcmp {x y : Int64} : stepw own ft nt ct oi R sc RT XN K (.lcmp) 1 pc ls (.inr (.inr y) :: .inr (.inr x) :: r) G k n = (K (pc + 1) ls (.inl (lg_cmp x y) :: r) G k n) := by simp only [stepw, pL, true_and]
theorem sw_lshl {x : Int64} {y : Int32} : stepw own ft nt ct oi R sc RT XN K (.lshl) 1 pc ls (.inl y :: .inr (.inr x) :: r) G k n = (K (pc + 1) ls (.inr (.inr (x <<< (y.toInt64 &&& 63))) :: r) G k n) := by simp only [stepw, pL, pI, true_and]
theorem sw_lshr {x : Int64} {y : Int32} : stepw own ft nt ct oi R sc RT XN K (.lshr) 1 pc ls (.inl y :: .inr (.inr x) :: r) G k n = (K (pc + 1) ls (.inr (.inr (x >>> (y.toInt64 &&& 63))) :: r) G k n) := by simp only [stepw, pL, pI, true_and]
theorem sw_lushr {x : Int64} {y : Int32} : stepw own ft nt ct oi R sc RT XN K (.lushr) 1 pc ls (.inl y :: .inr (.inr x) :: r) G k n = (K (pc + 1) ls (.inr (.inr ((x.toUInt64 >>> (y.toInt64.toUInt64 &&& Int64.toUInt64 63)).toInt64)) :: r) G k n) := by simp only [stepw, pL, pI, true_and]
theorem sw_i2l {x : Int32} : stepw own ft nt ct oi R sc RT XN K (.i2l) 1 pc ls (.inl x :: r) G k n = (K (pc + 1) ls (.inr (.inr x.toInt64) :: r) G k n) := by simp only [stepw, pI, true_and]
theorem sw_l2i {x : Int64} : stepw own ft nt ct oi R sc RT XN K (.l2i) 1 pc ls (.inr (.inr x) :: r) G k n = (K (pc + 1) ls (.inl x.toInt32 :: r) G k n) := by simp only [stepw, pL, true_and]
theorem sw_i2b {x : Int32} : stepw own ft nt ct oi R sc RT XN K (.i2b) 1 pc ls (.inl x :: r) G k n = (K (pc + 1) ls (.inl x.toInt8.toInt32 :: r) G k n) := by simp only [stepw, pI, true_and]
theorem sw_goto {off : Int} : stepw own ft nt ct oi R sc RT XN K (.goto off) 3 pc ls st G k n = (0 ≤ (pc : Int) + off ∧ K ((pc : Int) + off).toNat ls st G k n) := by simp only [stepw, jmp, true_and]
theorem sw_icmp_eq {x y : Int32} {off : Int} : stepw own ft nt ct oi R sc RT XN K (.if_icmp .eq off) 3 pc ls (.inl y :: .inl x :: r) G k n = (0 ≤ (pc : Int) + off ∧ (x = y → K ((pc : Int) + off).toNat ls r G k n) ∧ (¬ x = y → K (pc + 3) ls r G k n)) := by simp only [stepw, pI, jmp, icc, br, true_and]
theorem sw_if_eq {x : Int32} {off : Int} : stepw own ft nt ct oi R sc RT XN K (.ifCond .eq off) 3 pc ls (.inl x :: r) G k n = (0 ≤ (pc : Int) + off ∧ (x = 0 → K ((pc : Int) + off).toNat ls r G k n) ∧ (¬ x = 0 → K (pc + 3) ls r G k n)) := by simp only [stepw, pI, jmp, icc, br, true_and]
theorem sw_icmp_ne {x y : Int32} {off : Int} : stepw own ft nt ct oi R sc RT XN K (.if_icmp .ne off) 3 pc ls (.inl y :: .inl x :: r) G k n = (0 ≤ (pc : Int) + off ∧ (x = y → K (pc + 3) ls r G k n) ∧ (¬ x = y → K ((pc : Int) + off).toNat ls r G k n)) := by simp only [stepw, pI, jmp, icc, br, true_and]
theorem sw_if_ne {x : Int32} {off : Int} : stepw own ft nt ct oi R sc RT XN K (.ifCond .ne off) 3 pc ls (.inl x :: r) G k n = (0 ≤ (pc : Int) + off ∧ (x = 0 → K (pc + 3) ls r G k n) ∧ (¬ x = 0 → K ((pc : Int) + off).toNat ls r G k n)) := by simp only [stepw, pI, jmp, icc, br, true_and]
theorem sw_icmp_lt {x y : Int32} {off : Int} : stepw own ft nt ct oi R sc RT XN K (.if_icmp .lt off) 3 pc ls (.inl y :: .inl x :: r) G k n = (0 ≤ (pc : Int) + off ∧ (x < y → K ((pc : Int) + off).toNat ls r G k n) ∧ (¬ x < y → K (pc + 3) ls r G k n)) := by simp only [stepw, pI, jmp, icc, br, true_and]
theorem sw_if_lt {x : Int32} {off : Int} : stepw own ft nt ct oi R sc RT XN K (.ifCond .lt off) 3 pc ls (.inl x :: r) G k n = (0 ≤ (pc : Int) + off ∧ (x < 0 → K ((pc : Int) + off).toNat ls r G k n) ∧ (¬ x < 0 → K (pc + 3) ls r G k n)) := by simp only [stepw, pI, jmp, icc, br, true_and]
theorem sw_icmp_ge {x y : Int32} {off : Int} : stepw own ft nt ct oi R sc RT XN K (.if_icmp .ge off) 3 pc ls (.inl y :: .inl x :: r) G k n = (0 ≤ (pc : Int) + off ∧ (y ≤ x → K ((pc : Int) + off).toNat ls r G k n) ∧ (¬ y ≤ x → K (pc + 3) ls r G k n)) := by simp only [stepw, pI, jmp, icc, br, true_and]
theorem sw_if_ge {x : Int32} {off : Int} : stepw own ft nt ct oi R sc RT XN K (.ifCond .ge off) 3 pc ls (.inl x :: r) G k n = (0 ≤ (pc : Int) + off ∧ (0 ≤ x → K ((pc : Int) + off).toNat ls r G k n) ∧ (¬ 0 ≤ x → K (pc + 3) ls r G k n)) := by simp only [stepw, pI, jmp, icc, br, true_and]
theorem sw_icmp_gt {x y : Int32} {off : Int} : stepw own ft nt ct oi R sc RT XN K (.if_icmp .gt off) 3 pc ls (.inl y :: .inl x :: r) G k n = (0 ≤ (pc : Int) + off ∧ (y < x → K ((pc : Int) + off).toNat ls r G k n) ∧ (¬ y < x → K (pc + 3) ls r G k n)) := by simp only [stepw, pI, jmp, icc, br, true_and]
theorem sw_if_gt {x : Int32} {off : Int} : stepw own ft nt ct oi R sc RT XN K (.ifCond .gt off) 3 pc ls (.inl x :: r) G k n = (0 ≤ (pc : Int) + off ∧ (0 < x → K ((pc : Int) + off).toNat ls r G k n) ∧ (¬ 0 < x → K (pc + 3) ls r G k n)) := by simp only [stepw, pI, jmp, icc, br, true_and]
theorem sw_icmp_le {x y : Int32} {off : Int} : stepw own ft nt ct oi R sc RT XN K (.if_icmp .le off) 3 pc ls (.inl y :: .inl x :: r) G k n = (0 ≤ (pc : Int) + off ∧ (x ≤ y → K ((pc : Int) + off).toNat ls r G k n) ∧ (¬ x ≤ y → K (pc + 3) ls r G k n)) := by simp only [stepw, pI, jmp, icc, br, true_and]
theorem sw_if_le {x : Int32} {off : Int} : stepw own ft nt ct oi R sc RT XN K (.ifCond .le off) 3 pc ls (.inl x :: r) G k n = (0 ≤ (pc : Int) + off ∧ (x ≤ 0 → K ((pc : Int) + off).toNat ls r G k n) ∧ (¬ x ≤ 0 → K (pc + 3) ls r G k n)) := by simp only [stepw, pI, jmp, icc, br, true_and]
theorem sw_ifnull {x : Option Nat} {off : Int} : stepw own ft nt ct oi R sc RT XN K (.ifnull off) 3 pc ls (.inr (.inl x) :: r) G k n = (0 ≤ (pc : Int) + off ∧ (x = none → K ((pc : Int) + off).toNat ls r G k n) ∧ (¬ x = none → K (pc + 3) ls r G k n)) := by simp only [stepw, pR, jmp, br, true_and]
theorem sw_ifnonnull {x : Option Nat} {off : Int} : stepw own ft nt ct oi R sc RT XN K (.ifnonnull off) 3 pc ls (.inr (.inl x) :: r) G k n = (0 ≤ (pc : Int) + off ∧ (x = none → K (pc + 3) ls r G k n) ∧ (¬ x = none → K ((pc : Int) + off).toNat ls r G k n)) := by simp only [stepw, pR, jmp, br, true_and]
theorem sw_acmp {x y : Option Nat} {off : Int} : stepw own ft nt ct oi R sc RT XN K (.if_acmp .ne off) 3 pc ls (.inr (.inl y) :: .inr (.inl x) :: r) G k n = (0 ≤ (pc : Int) + off ∧ (x = y → K (pc + 3) ls r G k n) ∧ (¬ x = y → K ((pc : Int) + off).toNat ls r G k n)) := by simp only [stepw, pR, jmp, br, true_and]
theorem sw_get {o : Option Nat} {i : Nat} : stepw own ft nt ct oi R sc RT XN K (.getfield i) 3 pc ls (.inr (.inl o) :: r) G k n = (gfE (lkp ft i) o K (pc + 3) ls r G k n) := by
  simp only [stepw, pR, gfE, lkF, true_and]
  cases lkp ft i <;> simp [nn]
theorem sw_put {v : AV} {o : Option Nat} {i : Nat} : stepw own ft nt ct oi R sc RT XN K (.putfield i) 3 pc ls (v :: .inr (.inl o) :: r) G k n = (pfE (lkp ft i) v o K (pc + 3) ls r G k n) := by
  simp only [stepw, pR, pI, pfE, lkF, true_and]
  cases lkp ft i with
  | none => rfl
  | some q =>
    obtain ⟨ci, j, ty, w⟩ := q
    rcases v with x | x | x <;> by_cases h : ty = 1 <;> simp [h, pR, pI, nn]
theorem sw_iaload {a : Nat} {i : Int32} : stepw own ft nt ct oi R sc RT XN K (.iaload) 1 pc ls (.inl i :: .inr (.inl (some a)) :: r) G k n = ((knd G a = 8 ∨ (sc = true ∧ knd G a = 14)) ∧ vp_in i (gn G a) ∧ K (pc + 1) ls (.inl (gi G a i.toNatClampNeg) :: r) G k n) := by simp [stepw, pI, pR, pL, jmp, nn, br]
theorem sw_baload {a : Nat} {i : Int32} : stepw own ft nt ct oi R sc RT XN K (.baload) 1 pc ls (.inl i :: .inr (.inl (some a)) :: r) G k n = ((knd G a = 7 ∨ knd G a = 9) ∧ vp_in i (gn G a) ∧ K (pc + 1) ls (.inl (gi G a i.toNatClampNeg) :: r) G k n) := by simp [stepw, pI, pR, pL, jmp, nn, br]
theorem sw_laload {a : Nat} {i : Int32} : stepw own ft nt ct oi R sc RT XN K (.laload) 1 pc ls (.inl i :: .inr (.inl (some a)) :: r) G k n = (knd G a = 10 ∧ vp_in i (gn G a) ∧ K (pc + 1) ls (.inr (.inr (gl G a i.toNatClampNeg)) :: r) G k n) := by simp [stepw, pI, pR, pL, jmp, nn, br]
theorem sw_aaload {a : Nat} {i : Int32} : stepw own ft nt ct oi R sc RT XN K (.aaload) 1 pc ls (.inl i :: .inr (.inl (some a)) :: r) G k n = ((knd G a = 11 ∨ knd G a = 12 ∨ knd G a = 13) ∧ vp_in i (gn G a) ∧ K (pc + 1) ls (.inr (.inl (gr G a i.toNatClampNeg)) :: r) G k n) := by simp [stepw, pI, pR, pL, jmp, nn, br]
theorem sw_alen {a : Nat} : stepw own ft nt ct oi R sc RT XN K (.arraylength) 1 pc ls (.inr (.inl (some a)) :: r) G k n = (((7 ≤ knd G a ∧ knd G a < 14) ∨ (sc = true ∧ knd G a = 14)) ∧ K (pc + 1) ls (.inl (nI (gn G a)) :: r) G k n) := by simp [stepw, pI, pR, pL, jmp, nn, br]
theorem sw_iastore {a : Nat} {i x : Int32} : stepw own ft nt ct oi R sc RT XN K (.iastore) 1 pc ls (.inl x :: .inl i :: .inr (.inl (some a)) :: r) G k n = (knd G a = 8 ∧ vp_in i (gn G a) ∧ K (pc + 1) ls r (sI G a i.toNatClampNeg x) k n) := by simp [stepw, pI, pR, pL, jmp, nn, br]
theorem sw_bastore {a : Nat} {i x : Int32} : stepw own ft nt ct oi R sc RT XN K (.bastore) 1 pc ls (.inl x :: .inl i :: .inr (.inl (some a)) :: r) G k n = (vp_in i (gn G a) ∧ ((knd G a = 7 ∧ K (pc + 1) ls r (sI G a i.toNatClampNeg (vp_nar .byte x)) k n) ∨ (knd G a = 9 ∧ K (pc + 1) ls r (sI G a i.toNatClampNeg (vp_nar .boolean x)) k n))) := by simp [stepw, pI, pR, pL, jmp, nn, br]
theorem sw_lastore {a : Nat} {i : Int32} {x : Int64} : stepw own ft nt ct oi R sc RT XN K (.lastore) 1 pc ls (.inr (.inr x) :: .inl i :: .inr (.inl (some a)) :: r) G k n = (knd G a = 10 ∧ vp_in i (gn G a) ∧ K (pc + 1) ls r (sL G a i.toNatClampNeg x) k n) := by simp [stepw, pI, pR, pL, jmp, nn, br]
theorem sw_aastore {a v : Nat} {i : Int32} : stepw own ft nt ct oi R sc RT XN K (.aastore) 1 pc ls (.inr (.inl (some v)) :: .inl i :: .inr (.inl (some a)) :: r) G k n = (vp_in i (gn G a) ∧ ((knd G a = 11 ∧ knd G v = 0) ∨ (knd G a = 12 ∧ knd G v = 1) ∨ (knd G a = 13 ∧ knd G v = 4)) ∧ K (pc + 1) ls r (sR G a i.toNatClampNeg (some v)) k n) := by simp [stepw, pI, pR, pL, jmp, nn, br]
theorem sw_aastoreN {a : Nat} {i : Int32} : stepw own ft nt ct oi R sc RT XN K (.aastore) 1 pc ls (.inr (.inl none) :: .inl i :: .inr (.inl (some a)) :: r) G k n = (vp_in i (gn G a) ∧ knd G a = 12 ∧ K (pc + 1) ls r (sR G a i.toNatClampNeg none) k n) := by simp [stepw, pI, pR, pL, jmp, nn, br]
theorem sw_newa_byte {x : Int32} : stepw own ft nt ct oi R sc RT XN K (.newarray .byte) 2 pc ls (.inl x :: r) G k n = (0 ≤ x.toInt ∧ x.toInt ≤ 60000 ∧ k + 1 ≤ R.cells ∧ n + x.toNatClampNeg ≤ R.slots ∧ ∀ a, knd G a = 99 → K (pc + 2) ls (.inr (.inl (some a)) :: r) (nw G a 7 x.toNatClampNeg) (k + 1) (n + x.toNatClampNeg)) := by simp only [stepw, pI, true_and]
theorem sw_newa_int {x : Int32} : stepw own ft nt ct oi R sc RT XN K (.newarray .int) 2 pc ls (.inl x :: r) G k n = (0 ≤ x.toInt ∧ x.toInt ≤ 60000 ∧ k + 1 ≤ R.cells ∧ n + x.toNatClampNeg ≤ R.slots ∧ ∀ a, knd G a = 99 → K (pc + 2) ls (.inr (.inl (some a)) :: r) (nw G a 8 x.toNatClampNeg) (k + 1) (n + x.toNatClampNeg)) := by simp only [stepw, pI, true_and]
theorem sw_newa_boolean {x : Int32} : stepw own ft nt ct oi R sc RT XN K (.newarray .boolean) 2 pc ls (.inl x :: r) G k n = (0 ≤ x.toInt ∧ x.toInt ≤ 60000 ∧ k + 1 ≤ R.cells ∧ n + x.toNatClampNeg ≤ R.slots ∧ ∀ a, knd G a = 99 → K (pc + 2) ls (.inr (.inl (some a)) :: r) (nw G a 9 x.toNatClampNeg) (k + 1) (n + x.toNatClampNeg)) := by simp only [stepw, pI, true_and]
theorem sw_newa_long {x : Int32} : stepw own ft nt ct oi R sc RT XN K (.newarray .long) 2 pc ls (.inl x :: r) G k n = (0 ≤ x.toInt ∧ x.toInt ≤ 60000 ∧ k + 1 ≤ R.cells ∧ n + x.toNatClampNeg ≤ R.slots ∧ ∀ a, knd G a = 99 → K (pc + 2) ls (.inr (.inl (some a)) :: r) (nw G a 10 x.toNatClampNeg) (k + 1) (n + x.toNatClampNeg)) := by simp only [stepw, pI, true_and]
theorem sw_anew {x : Int32} {i : Nat} : stepw own ft nt ct oi R sc RT XN K (.anewarray i) 3 pc ls (.inl x :: r) G k n = (anE (lkp nt i) x R K (pc + 3) ls r G k n) := by
  simp only [stepw, pI, anE, lkN, true_and]
  cases lkp nt i <;> rfl
theorem sw_new {i : Nat} : stepw own ft nt ct oi R sc RT XN K (.new i) 3 pc ls st G k n = (XN i pc ls st G k n ∨ nwE (lkp nt i) R K (pc + 3) ls st G k n) := by
  simp only [stepw, nwE, lkN, true_and]
  cases lkp nt i <;> rfl
theorem sw_iv {i : Nat} : stepw own ft nt ct oi R sc RT XN K (.invokevirtual i) 3 pc ls st G k n = (cvE (lkp ct i) R K (pc + 3) ls st G k n) := by
  simp only [stepw, cvE, lkC, true_and]
  cases lkp ct i <;> rfl
theorem sw_is {i : Nat} : stepw own ft nt ct oi R sc RT XN K (.invokestatic i) 3 pc ls st G k n = (csE (lkp ct i) R K (pc + 3) ls st G k n) := by
  simp only [stepw, csE, lkC, true_and]
  cases lkp ct i <;> rfl
theorem sw_ii {i : Nat} : stepw own ft nt ct oi R sc RT XN K (.invokespecial i) 3 pc ls st G k n = (if i = oi then oi ≠ 0 ∧ (pR st fun o r => nn o fun b => stW r ≤ 8 ∧ K (pc + 3) ls r G k n) else ciE (lkp ct i) R K (pc + 3) ls st G k n) := by
  simp only [stepw, ciE, lkC, true_and]
  cases lkp ct i <;> rfl
theorem sw_ireturn {x : Int32} : stepw own ft nt ct oi R sc RT XN K (.ireturn) 1 pc ls [.inl x] G k n = (RT pc (some (.inl x)) G k n) := by simp [stepw, pI, pR, pL, jmp, nn, br]
theorem sw_areturn {x : Option Nat} : stepw own ft nt ct oi R sc RT XN K (.areturn) 1 pc ls [.inr (.inl x)] G k n = (RT pc (some (.inr (.inl x))) G k n) := by simp [stepw, pI, pR, pL, jmp, nn, br]
theorem sw_return  : stepw own ft nt ct oi R sc RT XN K (.return_) 1 pc ls [] G k n = (RT pc none G k n) := by simp [stepw, pI, pR, pL, jmp, nn, br]
theorem sw_table {x : Int32} {df lo hi : Int} {offs : Array Int} {len : Nat} : stepw own ft nt ct oi R sc RT XN K (.tableswitch df lo hi offs) len pc ls (.inl x :: r) G k n = ((0 ≤ (pc : Int) + df ∧ ((x.toInt < lo ∨ hi < x.toInt) → K ((pc : Int) + df).toNat ls r G k n)) ∧ swt pc lo hi offs.toList 0 x (fun t => K t ls r G k n)) := by simp only [stepw, pI, jmp]
theorem cv_0 {T : TT} {kd mc ms b : Nat} : cvE (some (kd, 0, mc, ms, T)) R K pc ls (.inr (.inl (some b)) :: r) G k n = (kd < 7 ∧ knd G b = kd ∧ stW r ≤ 8 ∧ k + mc ≤ R.cells ∧ n + ms ≤ R.slots ∧ T [.inr (.inl (some b))] G (kE K pc ls r (k + mc) (n + ms)) nX) := by simp [cvE, popN, pR, nn]
theorem ci_0 {T : TT} {kd mc ms b : Nat} : ciE (some (kd, 0, mc, ms, T)) R K pc ls (.inr (.inl (some b)) :: r) G k n = ((kd = 7 ∨ kd = 9) ∧ stW r ≤ 8 ∧ k + mc ≤ R.cells ∧ n + ms ≤ R.slots ∧ T [.inr (.inl (some b))] G (kE K pc ls r (k + mc) (n + ms)) nX) := by simp [ciE, popN, pR, nn]
theorem cv_1 {T : TT} {kd mc ms b : Nat} {v0 : AV} : cvE (some (kd, 1, mc, ms, T)) R K pc ls (v0 :: .inr (.inl (some b)) :: r) G k n = (kd < 7 ∧ knd G b = kd ∧ stW r ≤ 8 ∧ k + mc ≤ R.cells ∧ n + ms ≤ R.slots ∧ T [.inr (.inl (some b)), v0] G (kE K pc ls r (k + mc) (n + ms)) nX) := by simp [cvE, popN, pR, nn]
theorem ci_1 {T : TT} {kd mc ms b : Nat} {v0 : AV} : ciE (some (kd, 1, mc, ms, T)) R K pc ls (v0 :: .inr (.inl (some b)) :: r) G k n = ((kd = 7 ∨ kd = 9) ∧ stW r ≤ 8 ∧ k + mc ≤ R.cells ∧ n + ms ≤ R.slots ∧ T [.inr (.inl (some b)), v0] G (kE K pc ls r (k + mc) (n + ms)) nX) := by simp [ciE, popN, pR, nn]
theorem cs_1 {T : TT} {kd mc ms : Nat} {v0 : AV} : csE (some (kd, 1, mc, ms, T)) R K pc ls (v0 :: r) G k n = (kd = 8 ∧ stW r ≤ 8 ∧ k + mc ≤ R.cells ∧ n + ms ≤ R.slots ∧ T [v0] G (kE K pc ls r (k + mc) (n + ms)) nX) := by simp [csE, popN]
theorem cv_2 {T : TT} {kd mc ms b : Nat} {v0 v1 : AV} : cvE (some (kd, 2, mc, ms, T)) R K pc ls (v1 :: v0 :: .inr (.inl (some b)) :: r) G k n = (kd < 7 ∧ knd G b = kd ∧ stW r ≤ 8 ∧ k + mc ≤ R.cells ∧ n + ms ≤ R.slots ∧ T [.inr (.inl (some b)), v0, v1] G (kE K pc ls r (k + mc) (n + ms)) nX) := by simp [cvE, popN, pR, nn]
theorem ci_2 {T : TT} {kd mc ms b : Nat} {v0 v1 : AV} : ciE (some (kd, 2, mc, ms, T)) R K pc ls (v1 :: v0 :: .inr (.inl (some b)) :: r) G k n = ((kd = 7 ∨ kd = 9) ∧ stW r ≤ 8 ∧ k + mc ≤ R.cells ∧ n + ms ≤ R.slots ∧ T [.inr (.inl (some b)), v0, v1] G (kE K pc ls r (k + mc) (n + ms)) nX) := by simp [ciE, popN, pR, nn]
theorem cs_2 {T : TT} {kd mc ms : Nat} {v0 v1 : AV} : csE (some (kd, 2, mc, ms, T)) R K pc ls (v1 :: v0 :: r) G k n = (kd = 8 ∧ stW r ≤ 8 ∧ k + mc ≤ R.cells ∧ n + ms ≤ R.slots ∧ T [v0, v1] G (kE K pc ls r (k + mc) (n + ms)) nX) := by simp [csE, popN]
theorem cv_3 {T : TT} {kd mc ms b : Nat} {v0 v1 v2 : AV} : cvE (some (kd, 3, mc, ms, T)) R K pc ls (v2 :: v1 :: v0 :: .inr (.inl (some b)) :: r) G k n = (kd < 7 ∧ knd G b = kd ∧ stW r ≤ 8 ∧ k + mc ≤ R.cells ∧ n + ms ≤ R.slots ∧ T [.inr (.inl (some b)), v0, v1, v2] G (kE K pc ls r (k + mc) (n + ms)) nX) := by simp [cvE, popN, pR, nn]
theorem ci_3 {T : TT} {kd mc ms b : Nat} {v0 v1 v2 : AV} : ciE (some (kd, 3, mc, ms, T)) R K pc ls (v2 :: v1 :: v0 :: .inr (.inl (some b)) :: r) G k n = ((kd = 7 ∨ kd = 9) ∧ stW r ≤ 8 ∧ k + mc ≤ R.cells ∧ n + ms ≤ R.slots ∧ T [.inr (.inl (some b)), v0, v1, v2] G (kE K pc ls r (k + mc) (n + ms)) nX) := by simp [ciE, popN, pR, nn]
theorem cs_3 {T : TT} {kd mc ms : Nat} {v0 v1 v2 : AV} : csE (some (kd, 3, mc, ms, T)) R K pc ls (v2 :: v1 :: v0 :: r) G k n = (kd = 8 ∧ stW r ≤ 8 ∧ k + mc ≤ R.cells ∧ n + ms ≤ R.slots ∧ T [v0, v1, v2] G (kE K pc ls r (k + mc) (n + ms)) nX) := by simp [csE, popN]
theorem cv_4 {T : TT} {kd mc ms b : Nat} {v0 v1 v2 v3 : AV} : cvE (some (kd, 4, mc, ms, T)) R K pc ls (v3 :: v2 :: v1 :: v0 :: .inr (.inl (some b)) :: r) G k n = (kd < 7 ∧ knd G b = kd ∧ stW r ≤ 8 ∧ k + mc ≤ R.cells ∧ n + ms ≤ R.slots ∧ T [.inr (.inl (some b)), v0, v1, v2, v3] G (kE K pc ls r (k + mc) (n + ms)) nX) := by simp [cvE, popN, pR, nn]
theorem ci_4 {T : TT} {kd mc ms b : Nat} {v0 v1 v2 v3 : AV} : ciE (some (kd, 4, mc, ms, T)) R K pc ls (v3 :: v2 :: v1 :: v0 :: .inr (.inl (some b)) :: r) G k n = ((kd = 7 ∨ kd = 9) ∧ stW r ≤ 8 ∧ k + mc ≤ R.cells ∧ n + ms ≤ R.slots ∧ T [.inr (.inl (some b)), v0, v1, v2, v3] G (kE K pc ls r (k + mc) (n + ms)) nX) := by simp [ciE, popN, pR, nn]
theorem cs_4 {T : TT} {kd mc ms : Nat} {v0 v1 v2 v3 : AV} : csE (some (kd, 4, mc, ms, T)) R K pc ls (v3 :: v2 :: v1 :: v0 :: r) G k n = (kd = 8 ∧ stW r ≤ 8 ∧ k + mc ≤ R.cells ∧ n + ms ≤ R.slots ∧ T [v0, v1, v2, v3] G (kE K pc ls r (k + mc) (n + ms)) nX) := by simp [csE, popN]
theorem ii_s {b : Nat} : (pR (.inr (.inl (some b)) :: r) fun o r => nn o fun b => stW r ≤ 8 ∧ K pc ls r G k n) = (stW r ≤ 8 ∧ K pc ls r G k n) := by simp [pR, nn]
end EW
