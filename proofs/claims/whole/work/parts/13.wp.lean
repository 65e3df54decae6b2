/-! ===== the instruction's condition, computed: what must hold ahead of it so that K holds behind it ===== -/
abbrev FTb : Type := List (Nat × (Nat × (Nat × (Nat × Bool))))
abbrev CS : Type := Nat × (Nat × (Nat × (Nat × TT)))
abbrev Kt : Type := Nat → List (Option AV) → List AV → GG → Nat → Nat → Prop
def lkp {α : Type} : List (Nat × α) → Nat → Option α
  | [], _ => none
  | x :: r, j => if j = x.1 then some x.2 else lkp r j
theorem lkp_mem {α : Type} : ∀ {l : List (Nat × α)} {j : Nat} {a : α}, lkp l j = some a → (j, a) ∈ l
  | [], _, _, h => by simp [lkp] at h
  | x :: r, j, a, h => by
    unfold lkp at h
    by_cases e : j = x.1
    · rw [if_pos e] at h; cases h; rw [e]; exact List.mem_cons_self
    · rw [if_neg e] at h; exact List.mem_cons_of_mem _ (lkp_mem h)
def pI (st : List AV) (f : Int32 → List AV → Prop) : Prop := match st with
  | .inl x :: r => f x r
  | _ => False
def pR (st : List AV) (f : Option Nat → List AV → Prop) : Prop := match st with
  | .inr (.inl x) :: r => f x r
  | _ => False
def pL (st : List AV) (f : Int64 → List AV → Prop) : Prop := match st with
  | .inr (.inr x) :: r => f x r
  | _ => False
def lI (ls : List (Option AV)) (j : Nat) (f : Int32 → Prop) : Prop := match lk ls j with
  | some (.inl x) => f x
  | _ => False
def lR (ls : List (Option AV)) (j : Nat) (f : Option Nat → Prop) : Prop := match lk ls j with
  | some (.inr (.inl x)) => f x
  | _ => False
def lL (ls : List (Option AV)) (j : Nat) (f : Int64 → Prop) : Prop := match lk ls j with
  | some (.inr (.inr x)) => f x
  | _ => False
theorem pI_el {st : List AV} {f : Int32 → List AV → Prop} (h : pI st f) : ∃ x r, st = .inl x :: r ∧ f x r := by
  unfold pI at h; split at h
  · exact ⟨_, _, rfl, h⟩
  · exact h.elim
theorem pR_el {st : List AV} {f : Option Nat → List AV → Prop} (h : pR st f) : ∃ x r, st = .inr (.inl x) :: r ∧ f x r := by
  unfold pR at h; split at h
  · exact ⟨_, _, rfl, h⟩
  · exact h.elim
theorem pL_el {st : List AV} {f : Int64 → List AV → Prop} (h : pL st f) : ∃ x r, st = .inr (.inr x) :: r ∧ f x r := by
  unfold pL at h; split at h
  · exact ⟨_, _, rfl, h⟩
  · exact h.elim
theorem lI_el {ls : List (Option AV)} {j : Nat} {f : Int32 → Prop} (h : lI ls j f) : ∃ x, lk ls j = some (.inl x) ∧ f x := by
  unfold lI at h; split at h
  · rename_i x e; exact ⟨x, e, h⟩
  · exact h.elim
theorem lR_el {ls : List (Option AV)} {j : Nat} {f : Option Nat → Prop} (h : lR ls j f) : ∃ x, lk ls j = some (.inr (.inl x)) ∧ f x := by
  unfold lR at h; split at h
  · rename_i x e; exact ⟨x, e, h⟩
  · exact h.elim
theorem lL_el {ls : List (Option AV)} {j : Nat} {f : Int64 → Prop} (h : lL ls j f) : ∃ x, lk ls j = some (.inr (.inr x)) ∧ f x := by
  unfold lL at h; split at h
  · rename_i x e; exact ⟨x, e, h⟩
  · exact h.elim
def jmp (pc : Nat) (off : Int) (f : Nat → Prop) : Prop := 0 ≤ (pc : Int) + off ∧ f ((pc : Int) + off).toNat
def nn (o : Option Nat) (f : Nat → Prop) : Prop := ∃ a, o = some a ∧ f a
def br (c A B : Prop) : Prop := (c → A) ∧ (¬ c → B)
def icc (c : Jvm.ClassFile.Cond) (x y : Int32) (A B : Prop) : Prop := match c with
  | .eq => br (x = y) A B
  | .ne => br (x = y) B A
  | .lt => br (x < y) A B
  | .ge => br (y ≤ x) A B
  | .gt => br (y < x) A B
  | .le => br (x ≤ y) A B
def lkF (ft : FTb) (i : Nat) (f : Nat → Nat → Nat → Bool → Prop) : Prop := match lkp ft i with
  | some (ci, j, ty, w) => f ci j ty w
  | none => False
theorem lkF_el {ft : FTb} {i : Nat} {f : Nat → Nat → Nat → Bool → Prop} (h : lkF ft i f) : ∃ ci j ty w, lkp ft i = some (ci, j, ty, w) ∧ f ci j ty w := by
  unfold lkF at h; split at h
  · rename_i ci j ty w e; exact ⟨ci, j, ty, w, e, h⟩
  · exact h.elim
def lkN (nt : List (Nat × Nat)) (i : Nat) (f : Nat → Prop) : Prop := match lkp nt i with
  | some ci => f ci
  | none => False
theorem lkN_el {nt : List (Nat × Nat)} {i : Nat} {f : Nat → Prop} (h : lkN nt i f) : ∃ ci, lkp nt i = some ci ∧ f ci := by
  unfold lkN at h; split at h
  · rename_i ci e; exact ⟨ci, e, h⟩
  · exact h.elim
def lkC (ct : List (Nat × CS)) (i : Nat) (f : Nat → Nat → Nat → Nat → TT → Prop) : Prop := match lkp ct i with
  | some (kd, na, mc, ms, T) => f kd na mc ms T
  | none => False
theorem lkC_el {ct : List (Nat × CS)} {i : Nat} {f : Nat → Nat → Nat → Nat → TT → Prop} (h : lkC ct i f) : ∃ kd na mc ms T, lkp ct i = some (kd, na, mc, ms, T) ∧ f kd na mc ms T := by
  unfold lkC at h; split at h
  · rename_i kd na mc ms T e; exact ⟨kd, na, mc, ms, T, e, h⟩
  · exact h.elim
/-- so many values off the stack, the first pushed first -/
def popN : Nat → List AV → List AV → (List AV → List AV → Prop) → Prop
  | 0, acc, st, f => f acc st
  | n + 1, acc, x :: r, f => popN n (x :: acc) r f
  | _ + 1, _, [], _ => False
theorem popN_el : ∀ {n : Nat} {acc st : List AV} {f : List AV → List AV → Prop}, popN n acc st f → ∃ As r, As.length = n ∧ st = As.reverse ++ r ∧ f (As ++ acc) r
  | 0, acc, st, f, h => ⟨[], st, rfl, rfl, h⟩
  | n + 1, acc, x :: r, f, h => by
    obtain ⟨As, r', h1, h2, h3⟩ := popN_el (n := n) h
    exact ⟨As ++ [x], r', by simp [h1], by rw [h2]; simp, by simpa using h3⟩
  | _ + 1, _, [], _, h => h.elim
def stW (st : List AV) : Nat := (st.map fun v => (tV v).category).sum

def swt (pc : Nat) (lo hi : Int) : List Int → Nat → Int32 → (Nat → Prop) → Prop
  | [], i, _, _ => hi < lo + (i : Int)
  | off :: r, i, x, f => (jmp pc off fun t => x.toInt = lo + (i : Int) → f t) ∧ swt pc lo hi r (i + 1) x f
theorem swt_el {pc : Nat} {lo hi : Int} {x : Int32} {f : Nat → Prop} : ∀ {l : List Int} {i : Nat}, swt pc lo hi l i x f → ∀ j : Nat, x.toInt = lo + ((i + j : Nat) : Int) → x.toInt ≤ hi → ∃ off, l[j]? = some off ∧ 0 ≤ (pc : Int) + off ∧ f ((pc : Int) + off).toNat
  | [], i, h, j, h1, h2 => by
    have h : hi < lo + (i : Int) := h
    omega
  | off :: r, i, h, 0, h1, h2 => ⟨off, rfl, h.1.1, h.1.2 (by simpa using h1)⟩
  | off :: r, i, h, j + 1, h1, h2 => by
    obtain ⟨o, q1, q2⟩ := swt_el (l := r) h.2 j (by rw [h1]; congr 2; omega) h2
    exact ⟨o, by simpa using q1, q2⟩
theorem nar_r {ci j : Nat} (h : isRf ci j = true) (x : Option Nat) : narrow (tyOf ci j) (va_rf x) = va_rf x := by
  unfold isRf at h; cases e : tyOf ci j <;> rw [e] at h <;> simp [isRt] at h <;> cases x <;> rfl
theorem fit_r {ci j : Nat} (h : isRf ci j = true) (x : Option Nat) : fits (tyOf ci j) (va_rf x) = true := by
  unfold isRf at h; cases e : tyOf ci j <;> rw [e] at h <;> simp [isRt] at h <;> cases x <;> rfl
def stepw (own : String) (ft : FTb) (nt : List (Nat × Nat)) (ct : List (Nat × CS)) (oi : Nat) (R : Room) (sc : Bool) (RT : Nat → Option AV → GG → Nat → Nat → Prop) (XN : Nat → Kt) (K : Kt) (i : Instr) (len pc : Nat) (ls : List (Option AV)) (st : List AV) (G : GG) (k n : Nat) : Prop := match i with
  | .iload_n j => len = 1 ∧ lI ls j fun x => K (pc + 1) ls (.inl x :: st) G k n
  | .iload j => len = 2 ∧ lI ls j fun x => K (pc + 2) ls (.inl x :: st) G k n
  | .aload_n j => len = 1 ∧ lR ls j fun x => K (pc + 1) ls (.inr (.inl x) :: st) G k n
  | .aload j => len = 2 ∧ lR ls j fun x => K (pc + 2) ls (.inr (.inl x) :: st) G k n
  | .lload_n j => len = 1 ∧ lL ls j fun x => K (pc + 1) ls (.inr (.inr x) :: st) G k n
  | .lload j => len = 2 ∧ lL ls j fun x => K (pc + 2) ls (.inr (.inr x) :: st) G k n
  | .istore_n j => len = 1 ∧ pI st fun x r => (j : Nat) < ls.length ∧ okS ls j = true ∧ K (pc + 1) (ls.set j (some (.inl x))) r G k n
  | .istore j => len = 2 ∧ pI st fun x r => j < ls.length ∧ okS ls j = true ∧ K (pc + 2) (ls.set j (some (.inl x))) r G k n
  | .astore_n j => len = 1 ∧ pR st fun x r => (j : Nat) < ls.length ∧ okS ls j = true ∧ K (pc + 1) (ls.set j (some (.inr (.inl x)))) r G k n
  | .astore j => len = 2 ∧ pR st fun x r => j < ls.length ∧ okS ls j = true ∧ K (pc + 2) (ls.set j (some (.inr (.inl x)))) r G k n
  | .lstore j => len = 2 ∧ pL st fun x r => j + 1 < ls.length ∧ okS ls j = true ∧ K (pc + 2) ((ls.set j (some (.inr (.inr x)))).set (j + 1) none) r G k n
  | .iinc j d => len = 3 ∧ lI ls j fun x => j < ls.length ∧ okS ls j = true ∧ K (pc + 3) (ls.set j (some (.inl (x + Int32.ofInt d)))) st G k n
  | .iconst d => len = 1 ∧ K (pc + 1) ls (.inl (Int32.ofInt d) :: st) G k n
  | .bipush d => len = 2 ∧ K (pc + 2) ls (.inl (Int8.ofInt d).toInt32 :: st) G k n
  | .sipush d => len = 3 ∧ K (pc + 3) ls (.inl (Int16.ofInt d).toInt32 :: st) G k n
  | .aconst_null => len = 1 ∧ K (pc + 1) ls (.inr (.inl none) :: st) G k n
  | .ldc2_w i => len = 3 ∧ i = 78 ∧ own = RL ∧ K (pc + 3) ls (.inr (.inr 4294967295) :: st) G k n
  | .dup => len = 1 ∧ match st with
    | v :: r => (tV v).category = 1 ∧ K (pc + 1) ls (v :: v :: r) G k n
    | [] => False
  | .dup2 => len = 1 ∧ match st with
    | v :: w :: r => (tV v).category = 1 ∧ (tV w).category = 1 ∧ K (pc + 1) ls (v :: w :: v :: w :: r) G k n
    | _ => False
  | .iadd => len = 1 ∧ pI st fun y r => pI r fun x r => K (pc + 1) ls (.inl (x + y) :: r) G k n
  | .isub => len = 1 ∧ pI st fun y r => pI r fun x r => K (pc + 1) ls (.inl (x - y) :: r) G k n
  | .imul => len = 1 ∧ pI st fun y r => pI r fun x r => K (pc + 1) ls (.inl (x * y) :: r) G k n
  | .iand => len = 1 ∧ pI st fun y r => pI r fun x r => K (pc + 1) ls (.inl (x &&& y) :: r) G k n
  | .ixor => len = 1 ∧ pI st fun y r => pI r fun x r => K (pc + 1) ls (.inl (x ^^^ y) :: r) G k n
  | .ishr => len = 1 ∧ pI st fun y r => pI r fun x r => K (pc + 1) ls (.inl (x >>> (y &&& 31)) :: r) G k n
  | .iushr => len = 1 ∧ pI st fun y r => pI r fun x r => K (pc + 1) ls (.inl ((x.toUInt32 >>> (y.toUInt32 &&& Int32.toUInt32 31)).toInt32) :: r) G k n
  | .idiv => len = 1 ∧ pI st fun y r => pI r fun x r => ¬ y = 0 ∧ K (pc + 1) ls (.inl (x / y) :: r) G k n
  | .irem => len = 1 ∧ pI st fun y r => pI r fun x r => ¬ y = 0 ∧ K (pc + 1) ls (.inl (x - x / y * y) :: r) G k n
  | .land => len = 1 ∧ pL st fun y r => pL r fun x r => K (pc + 1) ls (.inr (.inr (x &&& y)) :: r) G k n
  | .lor => len = 1 ∧ pL st fun y r => pL r fun x r => K (pc + 1) ls (.inr (.inr (x ||| y)) :: r) G k n
  | .lcmp => len = 1 ∧ pL st fun y r => pL r fun x r => K (pc + 1) ls (.inl (lg_cmp x y) :: r) G k n
  | .lshl => len = 1 ∧ pI st fun y r => pL r fun x r => K (pc + 1) ls (.inr (.inr (x <<< (y.toInt64 &&& 63))) :: r) G k n
  | .lshr => len = 1 ∧ pI st fun y r => pL r fun x r => K (pc + 1) ls (.inr (.inr (x >>> (y.toInt64 &&& 63))) :: r) G k n
  | .lushr => len = 1 ∧ pI st fun y r => pL r fun x r => K (pc + 1) ls (.inr (.inr ((x.toUInt64 >>> (y.toInt64.toUInt64 &&& Int64.toUInt64 63)).toInt64)) :: r) G k n
  | .i2l => len = 1 ∧ pI st fun x r => K (pc + 1) ls (.inr (.inr x.toInt64) :: r) G k n
  | .l2i => len = 1 ∧ pL st fun x r => K (pc + 1) ls (.inl x.toInt32 :: r) G k n
  | .i2b => len = 1 ∧ pI st fun x r => K (pc + 1) ls (.inl x.toInt8.toInt32 :: r) G k n
  | .goto off => len = 3 ∧ jmp pc off fun t => K t ls st G k n
  | .if_icmp cd off => len = 3 ∧ pI st fun y r => pI r fun x r => jmp pc off fun t => icc cd x y (K t ls r G k n) (K (pc + 3) ls r G k n)
  | .ifCond cd off => len = 3 ∧ pI st fun x r => jmp pc off fun t => icc cd x 0 (K t ls r G k n) (K (pc + 3) ls r G k n)
  | .ifnull off => len = 3 ∧ pR st fun x r => jmp pc off fun t => br (x = none) (K t ls r G k n) (K (pc + 3) ls r G k n)
  | .ifnonnull off => len = 3 ∧ pR st fun x r => jmp pc off fun t => br (x = none) (K (pc + 3) ls r G k n) (K t ls r G k n)
  | .if_acmp cd off => len = 3 ∧ cd = .ne ∧ pR st fun y r => pR r fun x r => jmp pc off fun t => br (x = y) (K (pc + 3) ls r G k n) (K t ls r G k n)
  | .tableswitch df lo hi offs => pI st fun x r => (jmp pc df fun t => (x.toInt < lo ∨ hi < x.toInt) → K t ls r G k n) ∧ swt pc lo hi offs.toList 0 x (fun t => K t ls r G k n)
  | .getfield i => len = 3 ∧ pR st fun o r => nn o fun a => lkF ft i fun ci j ty w => knd G a = ci ∧ K (pc + 3) ls ((if ty = 1 then .inr (.inl (gr G a j)) else .inl (gi G a j)) :: r) G k n
  | .putfield i => len = 3 ∧ lkF ft i fun ci j ty w => w = true ∧ if ty = 1 then pR st fun x r => pR r fun o r => nn o fun a => knd G a = ci ∧ K (pc + 3) ls r (sR G a j x) k n
    else pI st fun x r => pR r fun o r => nn o fun a => knd G a = ci ∧ (ty = 2 → x = 0 ∨ x = 1) ∧ K (pc + 3) ls r (sI G a j x) k n
  | .iaload => len = 1 ∧ pI st fun i r => pR r fun o r => nn o fun a => (knd G a = 8 ∨ (sc = true ∧ knd G a = 14)) ∧ vp_in i (gn G a) ∧ K (pc + 1) ls (.inl (gi G a i.toNatClampNeg) :: r) G k n
  | .baload => len = 1 ∧ pI st fun i r => pR r fun o r => nn o fun a => (knd G a = 7 ∨ knd G a = 9) ∧ vp_in i (gn G a) ∧ K (pc + 1) ls (.inl (gi G a i.toNatClampNeg) :: r) G k n
  | .laload => len = 1 ∧ pI st fun i r => pR r fun o r => nn o fun a => knd G a = 10 ∧ vp_in i (gn G a) ∧ K (pc + 1) ls (.inr (.inr (gl G a i.toNatClampNeg)) :: r) G k n
  | .aaload => len = 1 ∧ pI st fun i r => pR r fun o r => nn o fun a => (knd G a = 11 ∨ knd G a = 12 ∨ knd G a = 13) ∧ vp_in i (gn G a) ∧ K (pc + 1) ls (.inr (.inl (gr G a i.toNatClampNeg)) :: r) G k n
  | .arraylength => len = 1 ∧ pR st fun o r => nn o fun a => ((7 ≤ knd G a ∧ knd G a < 14) ∨ (sc = true ∧ knd G a = 14)) ∧ K (pc + 1) ls (.inl (nI (gn G a)) :: r) G k n
  | .iastore => len = 1 ∧ pI st fun x r => pI r fun i r => pR r fun o r => nn o fun a => knd G a = 8 ∧ vp_in i (gn G a) ∧ K (pc + 1) ls r (sI G a i.toNatClampNeg x) k n
  | .bastore => len = 1 ∧ pI st fun x r => pI r fun i r => pR r fun o r => nn o fun a => vp_in i (gn G a) ∧ ((knd G a = 7 ∧ K (pc + 1) ls r (sI G a i.toNatClampNeg (vp_nar .byte x)) k n) ∨ (knd G a = 9 ∧ K (pc + 1) ls r (sI G a i.toNatClampNeg (vp_nar .boolean x)) k n))
  | .lastore => len = 1 ∧ pL st fun x r => pI r fun i r => pR r fun o r => nn o fun a => knd G a = 10 ∧ vp_in i (gn G a) ∧ K (pc + 1) ls r (sL G a i.toNatClampNeg x) k n
  | .aastore => len = 1 ∧ pR st fun x r => pI r fun i r => pR r fun o r => nn o fun a => vp_in i (gn G a) ∧ ((x = none ∧ knd G a = 12) ∨ (∃ v, x = some v ∧ ((knd G a = 11 ∧ knd G v = 0) ∨ (knd G a = 12 ∧ knd G v = 1) ∨ (knd G a = 13 ∧ knd G v = 4)))) ∧ K (pc + 1) ls r (sR G a i.toNatClampNeg x) k n
  | .newarray t => len = 2 ∧ pI st fun x r => 0 ≤ x.toInt ∧ x.toInt ≤ 60000 ∧ k + 1 ≤ R.cells ∧ n + x.toNatClampNeg ≤ R.slots ∧ (match t with
    | .byte => ∀ a, knd G a = 99 → K (pc + 2) ls (.inr (.inl (some a)) :: r) (nw G a 7 x.toNatClampNeg) (k + 1) (n + x.toNatClampNeg)
    | .int => ∀ a, knd G a = 99 → K (pc + 2) ls (.inr (.inl (some a)) :: r) (nw G a 8 x.toNatClampNeg) (k + 1) (n + x.toNatClampNeg)
    | .boolean => ∀ a, knd G a = 99 → K (pc + 2) ls (.inr (.inl (some a)) :: r) (nw G a 9 x.toNatClampNeg) (k + 1) (n + x.toNatClampNeg)
    | .long => ∀ a, knd G a = 99 → K (pc + 2) ls (.inr (.inl (some a)) :: r) (nw G a 10 x.toNatClampNeg) (k + 1) (n + x.toNatClampNeg)
    | _ => False)
  | .anewarray i => len = 3 ∧ lkN nt i fun ci => pI st fun x r => 0 ≤ x.toInt ∧ x.toInt ≤ 60000 ∧ k + 1 ≤ R.cells ∧ n + x.toNatClampNeg ≤ R.slots ∧ (if ci = 0 then ∀ a, knd G a = 99 → K (pc + 3) ls (.inr (.inl (some a)) :: r) (nw G a 11 x.toNatClampNeg) (k + 1) (n + x.toNatClampNeg)
    else if ci = 1 then ∀ a, knd G a = 99 → K (pc + 3) ls (.inr (.inl (some a)) :: r) (nw G a 12 x.toNatClampNeg) (k + 1) (n + x.toNatClampNeg)
    else if ci = 4 then ∀ a, knd G a = 99 → K (pc + 3) ls (.inr (.inl (some a)) :: r) (nw G a 13 x.toNatClampNeg) (k + 1) (n + x.toNatClampNeg)
    else False)
  | .new i => len = 3 ∧ (XN i pc ls st G k n ∨ lkN nt i fun ci => k + 1 ≤ R.cells ∧ n + nfO ci ≤ R.slots ∧ ∀ a, knd G a = 99 → K (pc + 3) ls (.inr (.inl (some a)) :: st) (nw G a ci 0) (k + 1) (n + nfO ci))
  | .invokevirtual i => len = 3 ∧ lkC ct i fun kd na mc ms T => kd < 7 ∧ popN na [] st fun As r => pR r fun o r => nn o fun b => knd G b = kd ∧ stW r ≤ 8 ∧ k + mc ≤ R.cells ∧ n + ms ≤ R.slots ∧ T (.inr (.inl (some b)) :: As) G (fun v G' => K (pc + 3) ls (v.toList ++ r) G' (k + mc) (n + ms)) (fun _ _ => False)
  | .invokestatic i => len = 3 ∧ lkC ct i fun kd na mc ms T => kd = 8 ∧ popN na [] st fun As r => stW r ≤ 8 ∧ k + mc ≤ R.cells ∧ n + ms ≤ R.slots ∧ T As G (fun v G' => K (pc + 3) ls (v.toList ++ r) G' (k + mc) (n + ms)) (fun _ _ => False)
  | .invokespecial i => len = 3 ∧ if i = oi then oi ≠ 0 ∧ (pR st fun o r => nn o fun b => stW r ≤ 8 ∧ K (pc + 3) ls r G k n) else lkC ct i fun kd na mc ms T => (kd = 7 ∨ kd = 9) ∧ popN na [] st fun As r => pR r fun o r => nn o fun b => stW r ≤ 8 ∧ k + mc ≤ R.cells ∧ n + ms ≤ R.slots ∧ T (.inr (.inl (some b)) :: As) G (fun v G' => K (pc + 3) ls (v.toList ++ r) G' (k + mc) (n + ms)) (fun _ _ => False)
  | .ireturn => len = 1 ∧ pI st fun x r => r = [] ∧ RT pc (some (.inl x)) G k n
  | .areturn => len = 1 ∧ pR st fun x r => r = [] ∧ RT pc (some (.inr (.inl x))) G k n
  | .return_ => len = 1 ∧ st = [] ∧ RT pc none G k n
  | _ => False
/-- a row of the fields' table -/
abbrev FTg (own : String) (ini : Bool) (x : Nat × (Nat × (Nat × (Nat × Bool)))) : Prop := x.2.1 < 7 ∧ x.2.2.1 < nfO x.2.1 ∧ Cond.fieldLink own x.1 (TO x.2.1 x.2.2.1).1 (TO x.2.1 x.2.2.1).2.1 (TO x.2.1 x.2.2.1).2.2.1 ∈ lwG ∧
  ((x.2.2.2.1 = 0 ∧ tyOf x.2.1 x.2.2.1 = .int) ∨ (x.2.2.2.1 = 1 ∧ isRf x.2.1 x.2.2.1 = true) ∨ (x.2.2.2.1 = 2 ∧ tyOf x.2.1 x.2.2.1 = .boolean)) ∧
  (x.2.2.2.2 = true → (TO x.2.1 x.2.2.1).2.2.2 = false ∨ ((TO x.2.1 x.2.2.1).2.2.2 = true ∧ ini = true ∧ (TO x.2.1 x.2.2.1).1 = own))
abbrev NTg (own : String) (x : Nat × Nat) : Prop := x.2 < 7 ∧ Cond.classLink own x.1 (RO x.2) ∈ lwG
def TMono (T : TT) : Prop := ∀ (av : List AV) (G : GG) (Q1 Q2 : Option AV → GG → Prop) (Qx : String → GG → Prop), T av G Q1 Qx → (∀ v G', Q1 v G' → Q2 v G') → T av G Q2 Qx
/-- a row of the calls' table -/
def CTg (l : Launch) (own : String) (R : Room) (x : Nat × CS) : Prop := TMono x.2.2.2.2.2 ∧
  ∃ (y : MethodName) (bytes : ByteArray) (maxL : Nat) (ret : Option FieldType) (rm : Room), CM l y bytes maxL ret rm x.2.2.2.2.2 ∧ MI y bytes maxL ret x.2.2.1 ∧ rm.cells = x.2.2.2.1 ∧ rm.slots = x.2.2.2.2.1 ∧ (rm.frames + 1 ≤ R.frames ∧ 8 + (maxL + 11) + rm.locals ≤ R.locals) ∧
    (x.2.1 < 7 → MV y ∧ Cond.methodLink own x.1 y ∈ lwG ∧ y.cls = RO x.2.1) ∧ (x.2.1 = 8 → Cond.static y ∈ lwG ∧ Cond.methodLink own x.1 y ∈ lwG) ∧
    (x.2.1 = 7 → Cond.instanceMethod y ∈ lwG ∧ Cond.methodLink own x.1 y ∈ lwG ∧ y.name = "<init>" ∧ ret = none) ∧ (x.2.1 = 9 → Cond.instanceMethod y ∈ lwG ∧ (y = yX2_init ∧ own = RX0 ∧ x.1 = 11) ∧ y.name = "<init>" ∧ ret = none)
section JS
variable {p : Program} {l : Launch} {e : Env} {R : Room} {s : State} {m : MethodId} {args : Array Value} {below : List Frame} {meth : Method} {c : Code} {nL : Nat} {D : va_G} {cy : Nat → ClassId} {base : Nat} {S0 : GG} {Q : State → Prop}
variable {cc : ByteArray} {own : String} {ft : FTb} {nt : List (Nat × Nat)} {ct : List (Nat × CS)} {oi : Nat} {sc ini : Bool} {RT : Nat → Option AV → GG → Nat → Nat → Prop} {XN : Nat → Kt} {K : Kt}
theorem j_sw {pc : Nat} {ls : List (Option AV)} {st : List AV} {G : GG} {k n : Nat} (C : Cx p s m args c cc nL own D cy base) {x : Int32} {df lo hi : Int} {offs : Array Int} {len t0 : Nat} {f : Nat → Prop} (hd : decode cc pc = .ok (.tableswitch df lo hi offs, len)) (h0 : (pc : Int) + df = (t0 : Int))
    (kd : (x.toInt < lo ∨ hi < x.toInt) → JJ p l e R s m args below meth c nL D cy base S0 Q t0 ls st G k n) (kt : ∀ t, f t → JJ p l e R s m args below meth c nL D cy base S0 Q t ls st G k n) (h : swt pc lo hi offs.toList 0 x f) : JJ p l e R s m args below meth c nL D cy base S0 Q pc ls (.inl x :: st) G k n := by
  intro H locs la h1 h2 h3 h4
  by_cases hx : x.toInt < lo ∨ hi < x.toInt
  · exact lv_tableOut C.1 C.2.1 hd hx h0 (kd hx H locs la h1 h2 h3 h4)
  · obtain ⟨off, q1, q2, q3⟩ := swt_el h (x.toInt - lo).toNat (by omega) (by omega)
    rw [Array.getElem?_toList] at q1
    exact lv_tableIn C.1 C.2.1 hd (by omega) (by omega) q1 (Int.toNat_of_nonneg q2).symm (kt _ q3 H locs la h1 h2 h3 h4)
set_option maxHeartbeats 4000000 in
theorem step_ok (C : Cx p s m args c cc nL own D cy base) (hWd : Wd D cy base s s.heap) (hft : ∀ x ∈ ft, FTg own ini x) (hini : ini = true → meth.name = "<init>") (hnt : ∀ x ∈ nt, NTg own x) (hct : ∀ x ∈ ct, CTg l own R x)
    (hoi : oi ≠ 0 → Cond.methodLink own oi objectInit ∈ lwG ∧ 1 ≤ R.frames ∧ 20 ≤ R.locals) (hsc : sc = true → ∀ a, (S0 a).1 = 14 → va_X a (S0 a).2.1 (S0 a).2.2.1 s s.heap)
    (hRi : ∀ pc ls x G k n, decode cc pc = .ok (.ireturn, 1) → RT pc (some (.inl x)) G k n → JJ p l e R s m args below meth c nL D cy base S0 Q pc ls [.inl x] G k n)
    (hRa : ∀ pc ls x G k n, decode cc pc = .ok (.areturn, 1) → RT pc (some (.inr (.inl x))) G k n → JJ p l e R s m args below meth c nL D cy base S0 Q pc ls [.inr (.inl x)] G k n)
    (hRv : ∀ pc ls G k n, decode cc pc = .ok (.return_, 1) → RT pc none G k n → JJ p l e R s m args below meth c nL D cy base S0 Q pc ls [] G k n)
    (hXN : ∀ i pc ls st G k n, decode cc pc = .ok (.new i, 3) → XN i pc ls st G k n → JJ p l e R s m args below meth c nL D cy base S0 Q pc ls st G k n)
    (hK : ∀ pc ls st G k n, K pc ls st G k n → JJ p l e R s m args below meth c nL D cy base S0 Q pc ls st G k n)
    {i : Instr} {len pc : Nat} {ls : List (Option AV)} {st : List AV} {G : GG} {k n : Nat} (hd : decode cc pc = .ok (i, len)) (h : stepw own ft nt ct oi R sc RT XN K i len pc ls st G k n) : JJ p l e R s m args below meth c nL D cy base S0 Q pc ls st G k n := by
  cases i
  case iload_n j =>
    obtain ⟨rfl, h⟩ := h; replace h := lI_el h; obtain ⟨x, q1, h⟩ := h; exact j_iload_n C hd q1 (hK _ _ _ _ _ _ h)
  case iload j =>
    obtain ⟨rfl, h⟩ := h; replace h := lI_el h; obtain ⟨x, q1, h⟩ := h; exact j_iload C hd q1 (hK _ _ _ _ _ _ h)
  case aload_n j =>
    obtain ⟨rfl, h⟩ := h; replace h := lR_el h; obtain ⟨x, q1, h⟩ := h; exact j_aload_n C hd q1 (hK _ _ _ _ _ _ h)
  case aload j =>
    obtain ⟨rfl, h⟩ := h; replace h := lR_el h; obtain ⟨x, q1, h⟩ := h; exact j_aload C hd q1 (hK _ _ _ _ _ _ h)
  case lload_n j =>
    obtain ⟨rfl, h⟩ := h; replace h := lL_el h; obtain ⟨x, q1, h⟩ := h; exact j_lload_n C hd q1 (hK _ _ _ _ _ _ h)
  case lload j =>
    obtain ⟨rfl, h⟩ := h; replace h := lL_el h; obtain ⟨x, q1, h⟩ := h; exact j_lload C hd q1 (hK _ _ _ _ _ _ h)
  case istore_n j =>
    obtain ⟨rfl, h⟩ := h; replace h := pI_el h; obtain ⟨x, r, rfl, q1, q2, h⟩ := h; exact j_istore_n C hd q1 q2 (hK _ _ _ _ _ _ h)
  case istore j =>
    obtain ⟨rfl, h⟩ := h; replace h := pI_el h; obtain ⟨x, r, rfl, q1, q2, h⟩ := h; exact j_istore C hd q1 q2 (hK _ _ _ _ _ _ h)
  case astore_n j =>
    obtain ⟨rfl, h⟩ := h; replace h := pR_el h; obtain ⟨x, r, rfl, q1, q2, h⟩ := h; exact j_astore_n C hd q1 q2 (hK _ _ _ _ _ _ h)
  case astore j =>
    obtain ⟨rfl, h⟩ := h; replace h := pR_el h; obtain ⟨x, r, rfl, q1, q2, h⟩ := h; exact j_astore C hd q1 q2 (hK _ _ _ _ _ _ h)
  case lstore j =>
    obtain ⟨rfl, h⟩ := h; replace h := pL_el h; obtain ⟨x, r, rfl, q1, q2, h⟩ := h; exact j_lstore C hd q1 q2 (hK _ _ _ _ _ _ h)
  case iinc j d =>
    obtain ⟨rfl, h⟩ := h; replace h := lI_el h; obtain ⟨x, q0, q1, q2, h⟩ := h; exact j_iinc C hd q1 q2 q0 (hK _ _ _ _ _ _ h)
  case iconst d =>
    obtain ⟨rfl, h⟩ := h; exact j_iconst C hd (hK _ _ _ _ _ _ h)
  case bipush d =>
    obtain ⟨rfl, h⟩ := h; exact j_bipush C hd (hK _ _ _ _ _ _ h)
  case sipush d =>
    obtain ⟨rfl, h⟩ := h; exact j_sipush C hd (hK _ _ _ _ _ _ h)
  case aconst_null =>
    obtain ⟨rfl, h⟩ := h; exact j_null C hd (hK _ _ _ _ _ _ h)
  case ldc2_w i =>
    obtain ⟨rfl, rfl, rfl, h⟩ := h; exact j_ldc2 C hd (by decide +kernel) (hK _ _ _ _ _ _ h)
  case dup =>
    obtain ⟨rfl, h⟩ := h; cases st with
    | nil => exact h.elim
    | cons v r => exact j_dup C hd h.1 (hK _ _ _ _ _ _ h.2)
  case dup2 =>
    obtain ⟨rfl, h⟩ := h; match st, h with
    | v :: w :: r, h => exact j_dup2 C hd h.1 h.2.1 (hK _ _ _ _ _ _ h.2.2)
    | [_], h => exact h.elim
    | [], h => exact h.elim
  case iadd =>
    obtain ⟨rfl, h⟩ := h; replace h := pI_el h; obtain ⟨y, r, rfl, h⟩ := h; replace h := pI_el h; obtain ⟨x, r, rfl, h⟩ := h; exact j_iadd C hd (hK _ _ _ _ _ _ h)
  case isub =>
    obtain ⟨rfl, h⟩ := h; replace h := pI_el h; obtain ⟨y, r, rfl, h⟩ := h; replace h := pI_el h; obtain ⟨x, r, rfl, h⟩ := h; exact j_isub C hd (hK _ _ _ _ _ _ h)
  case imul =>
    obtain ⟨rfl, h⟩ := h; replace h := pI_el h; obtain ⟨y, r, rfl, h⟩ := h; replace h := pI_el h; obtain ⟨x, r, rfl, h⟩ := h; exact j_imul C hd (hK _ _ _ _ _ _ h)
  case iand =>
    obtain ⟨rfl, h⟩ := h; replace h := pI_el h; obtain ⟨y, r, rfl, h⟩ := h; replace h := pI_el h; obtain ⟨x, r, rfl, h⟩ := h; exact j_iand C hd (hK _ _ _ _ _ _ h)
  case ixor =>
    obtain ⟨rfl, h⟩ := h; replace h := pI_el h; obtain ⟨y, r, rfl, h⟩ := h; replace h := pI_el h; obtain ⟨x, r, rfl, h⟩ := h; exact j_ixor C hd (hK _ _ _ _ _ _ h)
  case ishr =>
    obtain ⟨rfl, h⟩ := h; replace h := pI_el h; obtain ⟨y, r, rfl, h⟩ := h; replace h := pI_el h; obtain ⟨x, r, rfl, h⟩ := h; exact j_ishr C hd (hK _ _ _ _ _ _ h)
  case iushr =>
    obtain ⟨rfl, h⟩ := h; replace h := pI_el h; obtain ⟨y, r, rfl, h⟩ := h; replace h := pI_el h; obtain ⟨x, r, rfl, h⟩ := h; exact j_iushr C hd (hK _ _ _ _ _ _ h)
  case idiv =>
    obtain ⟨rfl, h⟩ := h; replace h := pI_el h; obtain ⟨y, r, rfl, h⟩ := h; replace h := pI_el h; obtain ⟨x, r, rfl, q, h⟩ := h; exact j_idiv C hd q (hK _ _ _ _ _ _ h)
  case irem =>
    obtain ⟨rfl, h⟩ := h; replace h := pI_el h; obtain ⟨y, r, rfl, h⟩ := h; replace h := pI_el h; obtain ⟨x, r, rfl, q, h⟩ := h; exact j_irem C hd q (hK _ _ _ _ _ _ h)
  case land =>
    obtain ⟨rfl, h⟩ := h; replace h := pL_el h; obtain ⟨y, r, rfl, h⟩ := h; replace h := pL_el h; obtain ⟨x, r, rfl, h⟩ := h; exact j_land C hd (hK _ _ _ _ _ _ h)
  case lor =>
    obtain ⟨rfl, h⟩ := h; replace h := pL_el h; obtain ⟨y, r, rfl, h⟩ := h; replace h := pL_el h; obtain ⟨x, r, rfl, h⟩ := h; exact j_lor C hd (hK _ _ _ _ _ _ h)
  case lcmp =>
    obtain ⟨rfl, h⟩ := h; replace h := pL_el h; obtain ⟨y, r, rfl, h⟩ := h; replace h := pL_el h; obtain ⟨x, r, rfl, h⟩ := h; exact j_lcmp C hd (hK _ _ _ _ _ _ h)
  case lshl =>
    obtain ⟨rfl, h⟩ := h; replace h := pI_el h; obtain ⟨y, r, rfl, h⟩ := h; replace h := pL_el h; obtain ⟨x, r, rfl, h⟩ := h; exact j_lshl C hd (hK _ _ _ _ _ _ h)
  case lshr =>
    obtain ⟨rfl, h⟩ := h; replace h := pI_el h; obtain ⟨y, r, rfl, h⟩ := h; replace h := pL_el h; obtain ⟨x, r, rfl, h⟩ := h; exact j_lshr C hd (hK _ _ _ _ _ _ h)
  case lushr =>
    obtain ⟨rfl, h⟩ := h; replace h := pI_el h; obtain ⟨y, r, rfl, h⟩ := h; replace h := pL_el h; obtain ⟨x, r, rfl, h⟩ := h; exact j_lushr C hd (hK _ _ _ _ _ _ h)
  case i2l =>
    obtain ⟨rfl, h⟩ := h; replace h := pI_el h; obtain ⟨x, r, rfl, h⟩ := h; exact j_i2l C hd (hK _ _ _ _ _ _ h)
  case l2i =>
    obtain ⟨rfl, h⟩ := h; replace h := pL_el h; obtain ⟨x, r, rfl, h⟩ := h; exact j_l2i C hd (hK _ _ _ _ _ _ h)
  case i2b =>
    obtain ⟨rfl, h⟩ := h; replace h := pI_el h; obtain ⟨x, r, rfl, h⟩ := h; exact j_i2b C hd (hK _ _ _ _ _ _ h)
  case goto off =>
    obtain ⟨rfl, h⟩ := h; exact j_goto C hd (Int.toNat_of_nonneg h.1).symm (hK _ _ _ _ _ _ h.2)
  case if_icmp cd off =>
    obtain ⟨rfl, h⟩ := h; replace h := pI_el h; obtain ⟨y, r, rfl, h⟩ := h; replace h := pI_el h; obtain ⟨x, r, rfl, h⟩ := h; obtain ⟨h0, h⟩ := h
    have ht := (Int.toNat_of_nonneg h0).symm
    cases cd with
    | eq => exact j_icmp_eq C hd ht (fun q => hK _ _ _ _ _ _ (h.1 q)) (fun q => hK _ _ _ _ _ _ (h.2 q))
    | ne => exact j_icmp_ne C hd ht (fun q => hK _ _ _ _ _ _ (h.2 q)) (fun q => hK _ _ _ _ _ _ (h.1 q))
    | lt => exact j_icmp_lt C hd ht (fun q => hK _ _ _ _ _ _ (h.1 q)) (fun q => hK _ _ _ _ _ _ (h.2 q))
    | ge => exact j_icmp_ge C hd ht (fun q => hK _ _ _ _ _ _ (h.1 q)) (fun q => hK _ _ _ _ _ _ (h.2 q))
    | gt => exact j_icmp_gt C hd ht (fun q => hK _ _ _ _ _ _ (h.1 q)) (fun q => hK _ _ _ _ _ _ (h.2 q))
    | le => exact j_icmp_le C hd ht (fun q => hK _ _ _ _ _ _ (h.1 q)) (fun q => hK _ _ _ _ _ _ (h.2 q))
  case ifCond cd off =>
    obtain ⟨rfl, h⟩ := h; replace h := pI_el h; obtain ⟨x, r, rfl, h⟩ := h; obtain ⟨h0, h⟩ := h
    have ht := (Int.toNat_of_nonneg h0).symm
    cases cd with
    | eq => exact j_if_eq C hd ht (fun q => hK _ _ _ _ _ _ (h.1 q)) (fun q => hK _ _ _ _ _ _ (h.2 q))
    | ne => exact j_if_ne C hd ht (fun q => hK _ _ _ _ _ _ (h.2 q)) (fun q => hK _ _ _ _ _ _ (h.1 q))
    | lt => exact j_if_lt C hd ht (fun q => hK _ _ _ _ _ _ (h.1 q)) (fun q => hK _ _ _ _ _ _ (h.2 q))
    | ge => exact j_if_ge C hd ht (fun q => hK _ _ _ _ _ _ (h.1 q)) (fun q => hK _ _ _ _ _ _ (h.2 q))
    | gt => exact j_if_gt C hd ht (fun q => hK _ _ _ _ _ _ (h.1 q)) (fun q => hK _ _ _ _ _ _ (h.2 q))
    | le => exact j_if_le C hd ht (fun q => hK _ _ _ _ _ _ (h.1 q)) (fun q => hK _ _ _ _ _ _ (h.2 q))
  case ifnull off =>
    obtain ⟨rfl, h⟩ := h; replace h := pR_el h; obtain ⟨x, r, rfl, h⟩ := h; exact j_ifnull C hd (Int.toNat_of_nonneg h.1).symm (fun q => hK _ _ _ _ _ _ (h.2.1 q)) (fun q => hK _ _ _ _ _ _ (h.2.2 q))
  case ifnonnull off =>
    obtain ⟨rfl, h⟩ := h; replace h := pR_el h; obtain ⟨x, r, rfl, h⟩ := h; exact j_ifnonnull C hd (Int.toNat_of_nonneg h.1).symm (fun q => hK _ _ _ _ _ _ (h.2.2 q)) (fun q => hK _ _ _ _ _ _ (h.2.1 q))
  case if_acmp cd off =>
    obtain ⟨rfl, rfl, h⟩ := h; replace h := pR_el h; obtain ⟨y, r, rfl, h⟩ := h; replace h := pR_el h; obtain ⟨x, r, rfl, h⟩ := h; exact j_acmp_ne C hd (Int.toNat_of_nonneg h.1).symm (fun q => hK _ _ _ _ _ _ (h.2.2 q)) (fun q => hK _ _ _ _ _ _ (h.2.1 q))
  case tableswitch df lo hi offs =>
    replace h := pI_el h; obtain ⟨x, r, rfl, h, h2⟩ := h; exact j_sw C hd (Int.toNat_of_nonneg h.1).symm (fun q => hK _ _ _ _ _ _ (h.2 q)) (fun t => hK _ _ _ _ _ _) h2
  case getfield i =>
    obtain ⟨rfl, h⟩ := h; replace h := pR_el h; obtain ⟨o, r, rfl, a, rfl, h⟩ := h; replace h := lkF_el h; obtain ⟨ci, j, ty, w, q1, q2, h⟩ := h
    obtain ⟨f1, f2, f3, f4, -⟩ := hft _ (lkp_mem q1)
    dsimp only at f1 f2 f3 f4
    rcases f4 with ⟨f4, f5⟩ | ⟨f4, f5⟩ | ⟨f4, f5⟩
    · rw [if_neg (by omega)] at h; exact j_getI C hd f1 f2 f3 q2 (by unfold isRf; rw [f5]; rfl) (hK _ _ _ _ _ _ h)
    · rw [if_pos f4] at h; exact j_getR C hd f1 f2 f3 q2 f5 (hK _ _ _ _ _ _ h)
    · rw [if_neg (by omega)] at h; exact j_getI C hd f1 f2 f3 q2 (by unfold isRf; rw [f5]; rfl) (hK _ _ _ _ _ _ h)
  case putfield i =>
    obtain ⟨rfl, h⟩ := h; replace h := lkF_el h; obtain ⟨ci, j, ty, w, q1, q3, h⟩ := h
    obtain ⟨f1, f2, f3, f4, f6⟩ := hft _ (lkp_mem q1)
    dsimp only at f1 f2 f3 f4 f6
    have f7 := f6 q3
    have f8 : (TO ci j).2.2.2 = false ∨ ((TO ci j).2.2.2 = true ∧ meth.name = "<init>" ∧ (TO ci j).1 = own) := f7.elim Or.inl (fun q => Or.inr ⟨q.1, hini q.2.1, q.2.2⟩)
    rcases f4 with ⟨f4, f5⟩ | ⟨f4, f5⟩ | ⟨f4, f5⟩
    · rw [if_neg (by omega)] at h
      replace h := pI_el h; obtain ⟨x, r, rfl, h⟩ := h; replace h := pR_el h; obtain ⟨o, r, rfl, a, rfl, q2, -, h⟩ := h
      exact j_putI C hd f1 f2 f3 q2 (by unfold isRf; rw [f5]; rfl) f8 (by rw [f5]; rfl) (by rw [f5]; rfl) (hK _ _ _ _ _ _ h)
    · rw [if_pos f4] at h
      replace h := pR_el h; obtain ⟨x, r, rfl, h⟩ := h; replace h := pR_el h; obtain ⟨o, r, rfl, a, rfl, q2, h⟩ := h
      exact j_putR C hd f1 f2 f3 q2 f5 f8 (nar_r f5 x) (fit_r f5 x) (hK _ _ _ _ _ _ h)
    · rw [if_neg (by omega)] at h
      replace h := pI_el h; obtain ⟨x, r, rfl, h⟩ := h; replace h := pR_el h; obtain ⟨o, r, rfl, a, rfl, q2, q5, h⟩ := h
      have q6 := q5 f4
      exact j_putI C hd f1 f2 f3 q2 (by unfold isRf; rw [f5]; rfl) f8 (by rw [f5]; rcases q6 with rfl | rfl <;> rfl) (by rw [f5]; rcases q6 with rfl | rfl <;> rfl) (hK _ _ _ _ _ _ h)
  case iaload =>
    obtain ⟨rfl, h⟩ := h; replace h := pI_el h; obtain ⟨i, r, rfl, h⟩ := h; replace h := pR_el h; obtain ⟨o, r, rfl, a, rfl, q1, q2, h⟩ := h
    rcases q1 with q1 | ⟨q0, q1⟩
    · exact j_iald C hd q1 q2 (hK _ _ _ _ _ _ h)
    · intro H locs la h1 h2 h3 h4
      have hG : G a = S0 a ∧ a < base := by
        obtain ⟨L, hL, h14, -⟩ := id h2
        rcases h14 a (by omega) with q | q
        · exact ⟨q.2, q.1⟩
        · omega
      have hk0 : (S0 a).1 = 14 := by rw [← hG.1]; exact q1
      exact j_sld C (hsc q0 a hk0) hG.2 hd q1 q2 (hK _ _ _ _ _ _ h) H locs la h1 h2 h3 h4
  case baload =>
    obtain ⟨rfl, h⟩ := h; replace h := pI_el h; obtain ⟨i, r, rfl, h⟩ := h; replace h := pR_el h; obtain ⟨o, r, rfl, a, rfl, q1, q2, h⟩ := h
    rcases q1 with q1 | q1
    · exact j_bald C hd q1 q2 (hK _ _ _ _ _ _ h)
    · exact j_zald C hd q1 q2 (hK _ _ _ _ _ _ h)
  case laload =>
    obtain ⟨rfl, h⟩ := h; replace h := pI_el h; obtain ⟨i, r, rfl, h⟩ := h; replace h := pR_el h; obtain ⟨o, r, rfl, a, rfl, q1, q2, h⟩ := h
    exact j_lald C hd q1 q2 (hK _ _ _ _ _ _ h)
  case aaload =>
    obtain ⟨rfl, h⟩ := h; replace h := pI_el h; obtain ⟨i, r, rfl, h⟩ := h; replace h := pR_el h; obtain ⟨o, r, rfl, a, rfl, q1, q2, h⟩ := h
    exact j_aald C hd q1 q2 (hK _ _ _ _ _ _ h)
  case arraylength =>
    obtain ⟨rfl, h⟩ := h; replace h := pR_el h; obtain ⟨o, r, rfl, a, rfl, q1, h⟩ := h
    rcases q1 with q1 | ⟨q0, q1⟩
    · exact j_alen C hd q1 (hK _ _ _ _ _ _ h)
    · intro H locs la h1 h2 h3 h4
      have hG : G a = S0 a ∧ a < base := by
        obtain ⟨L, hL, h14, -⟩ := id h2
        rcases h14 a (by omega) with q | q
        · exact ⟨q.2, q.1⟩
        · omega
      have hk0 : (S0 a).1 = 14 := by rw [← hG.1]; exact q1
      exact j_slen C (hsc q0 a hk0) hG.2 hd q1 (hK _ _ _ _ _ _ h) H locs la h1 h2 h3 h4
  case iastore =>
    obtain ⟨rfl, h⟩ := h; replace h := pI_el h; obtain ⟨x, r, rfl, h⟩ := h; replace h := pI_el h; obtain ⟨i, r, rfl, h⟩ := h; replace h := pR_el h; obtain ⟨o, r, rfl, a, rfl, q1, q2, h⟩ := h
    exact j_iast C hd q1 q2 (hK _ _ _ _ _ _ h)
  case bastore =>
    obtain ⟨rfl, h⟩ := h; replace h := pI_el h; obtain ⟨x, r, rfl, h⟩ := h; replace h := pI_el h; obtain ⟨i, r, rfl, h⟩ := h; replace h := pR_el h; obtain ⟨o, r, rfl, a, rfl, q2, h⟩ := h
    rcases h with ⟨q1, h⟩ | ⟨q1, h⟩
    · exact j_bast C hd q1 q2 (hK _ _ _ _ _ _ h)
    · exact j_zast C hd q1 q2 (hK _ _ _ _ _ _ h)
  case lastore =>
    obtain ⟨rfl, h⟩ := h; replace h := pL_el h; obtain ⟨x, r, rfl, h⟩ := h; replace h := pI_el h; obtain ⟨i, r, rfl, h⟩ := h; replace h := pR_el h; obtain ⟨o, r, rfl, a, rfl, q1, q2, h⟩ := h
    exact j_last C hd q1 q2 (hK _ _ _ _ _ _ h)
  case aastore =>
    obtain ⟨rfl, h⟩ := h; replace h := pR_el h; obtain ⟨x, r, rfl, h⟩ := h; replace h := pI_el h; obtain ⟨i, r, rfl, h⟩ := h; replace h := pR_el h; obtain ⟨o, r, rfl, a, rfl, q2, q1, h⟩ := h
    rcases q1 with ⟨rfl, q1⟩ | ⟨v, rfl, ⟨q1, q3⟩ | ⟨q1, q3⟩ | ⟨q1, q3⟩⟩
    · exact j_aastN C hd q1 q2 (hK _ _ _ _ _ _ h)
    · exact j_aast11 C hd q1 q3 q2 (hK _ _ _ _ _ _ h)
    · exact j_aast12 C hd q1 q3 q2 (hK _ _ _ _ _ _ h)
    · exact j_aast13 C hd q1 q3 q2 (hK _ _ _ _ _ _ h)
  case newarray t =>
    obtain ⟨rfl, h⟩ := h; replace h := pI_el h; obtain ⟨x, r, rfl, q1, q2, q3, q4, h⟩ := h
    cases t
    case byte => exact j_newa7 C hd q1 q2 q3 q4 (fun a ha => hK _ _ _ _ _ _ (h a ha))
    case int => exact j_newa8 C hd q1 q2 q3 q4 (fun a ha => hK _ _ _ _ _ _ (h a ha))
    case boolean => exact j_newa9 C hd q1 q2 q3 q4 (fun a ha => hK _ _ _ _ _ _ (h a ha))
    case long => exact j_newa10 C hd q1 q2 q3 q4 (fun a ha => hK _ _ _ _ _ _ (h a ha))
    all_goals exact h.elim
  case anewarray i =>
    obtain ⟨rfl, h⟩ := h; replace h := lkN_el h; obtain ⟨ci, q0, h⟩ := h; replace h := pI_el h; obtain ⟨x, r, rfl, q1, q2, q3, q4, h⟩ := h
    obtain ⟨f1, f2⟩ := hnt _ (lkp_mem q0)
    dsimp only at f1 f2
    by_cases e0 : ci = 0
    · subst e0; rw [if_pos rfl] at h; exact j_anew11 C hd hWd.2.2.1.1 f2 q1 q2 q3 q4 (fun a ha => hK _ _ _ _ _ _ (h a ha))
    · rw [if_neg e0] at h
      by_cases e1 : ci = 1
      · subst e1; rw [if_pos rfl] at h; exact j_anew12 C hd hWd.2.2.1.2.1 f2 q1 q2 q3 q4 (fun a ha => hK _ _ _ _ _ _ (h a ha))
      · rw [if_neg e1] at h
        by_cases e4 : ci = 4
        · subst e4; rw [if_pos rfl] at h; exact j_anew13 C hd hWd.2.2.1.2.2 f2 q1 q2 q3 q4 (fun a ha => hK _ _ _ _ _ _ (h a ha))
        · rw [if_neg e4] at h; exact h.elim
  case new i =>
    obtain ⟨rfl, h⟩ := h; rcases h with h | h
    · exact hXN _ _ _ _ _ _ _ hd h
    · replace h := lkN_el h; obtain ⟨ci, q0, q3, q4, h⟩ := h
      obtain ⟨f1, f2⟩ := hnt _ (lkp_mem q0)
      exact j_new C hd f1 f2 q3 q4 (fun a ha => hK _ _ _ _ _ _ (h a ha))
  case invokevirtual i =>
    obtain ⟨rfl, h⟩ := h; replace h := lkC_el h; obtain ⟨kd, na, mc, ms, T, q0, q7, h⟩ := h; replace h := popN_el h; obtain ⟨As, r, q1, rfl, h⟩ := h; replace h := pR_el h; obtain ⟨o, r, rfl, b, rfl, q2, q3, q4, q5, h⟩ := h
    rw [List.append_nil] at h
    obtain ⟨mono, y, bytes, maxL, ret, rm, f1, f2, f3, f4, f5, f6, -⟩ := hct _ (lkp_mem q0)
    dsimp only at f1 f2 f3 f4 f5 f6 mono
    obtain ⟨g1, g2, g3⟩ := f6 q7
    subst f3; subst f4
    exact j_callV C hWd f1 f2 g1 g2 q7 g3 q2 As q1 hd f5 q3 ⟨q4, q5⟩ (mono _ _ _ _ _ h (fun v G' q => hK _ _ _ _ _ _ q))
  case invokestatic i =>
    obtain ⟨rfl, h⟩ := h; replace h := lkC_el h; obtain ⟨kd, na, mc, ms, T, q0, q7, h⟩ := h; replace h := popN_el h; obtain ⟨As, r, q1, rfl, q3, q4, q5, h⟩ := h
    rw [List.append_nil] at h
    obtain ⟨mono, y, bytes, maxL, ret, rm, f1, f2, f3, f4, f5, -, f6, -⟩ := hct _ (lkp_mem q0)
    dsimp only at f1 f2 f3 f4 f5 f6 mono
    obtain ⟨g1, g2⟩ := f6 q7
    subst f3; subst f4
    exact j_callS C hWd f1 f2 g1 g2 As q1 hd f5 q3 ⟨q4, q5⟩ (mono _ _ _ _ _ h (fun v G' q => hK _ _ _ _ _ _ q))
  case invokespecial i =>
    obtain ⟨rfl, h⟩ := h
    by_cases eo : i = oi
    · rw [if_pos eo] at h
      obtain ⟨q9, h⟩ := h
      replace h := pR_el h; obtain ⟨o, r, rfl, b, rfl, q3, h⟩ := h
      obtain ⟨f1, f2, f3⟩ := hoi q9
      rw [← eo] at f1
      exact j_objInit C hd f1 f2 (by unfold stW at q3; omega) (hK _ _ _ _ _ _ h)
    · rw [if_neg eo] at h
      replace h := lkC_el h; obtain ⟨kd, na, mc, ms, T, q0, q7, h⟩ := h; replace h := popN_el h; obtain ⟨As, r, q1, rfl, h⟩ := h; replace h := pR_el h; obtain ⟨o, r, rfl, b, rfl, q3, q4, q5, h⟩ := h
      rw [List.append_nil] at h
      obtain ⟨mono, y, bytes, maxL, ret, rm, f1, f2, f3, f4, f5, -, -, f6, f7⟩ := hct _ (lkp_mem q0)
      dsimp only at f1 f2 f3 f4 f5 f6 f7 mono
      rcases q7 with q7 | q7
      · obtain ⟨g1, g2, g3, g4⟩ := f6 q7
        subst f3; subst f4; subst g4
        exact j_callI C hWd f1 f2 g1 g2 g3 As q1 hd f5 q3 ⟨q4, q5⟩ (mono _ _ _ _ _ h (fun v G' q => hK _ _ _ _ _ _ q))
      · obtain ⟨g1, g2, g3, g4⟩ := f7 q7
        subst f3; subst f4; subst g4
        obtain ⟨g5, g7⟩ := g2
        subst g5
        have g8 : va_Nw (.methodLinkNest own i yX2_init RX5) s := by rw [g7.1, g7.2]; exact hWd.2.2.2.2.2.2.2
        exact j_callIN C hWd f1 f2 g1 g8 g3 As q1 hd f5 q3 ⟨q4, q5⟩ (mono _ _ _ _ _ h (fun v G' q => hK _ _ _ _ _ _ q))
  case ireturn =>
    obtain ⟨rfl, h⟩ := h; replace h := pI_el h; obtain ⟨x, r, rfl, rfl, h⟩ := h; exact hRi _ _ _ _ _ _ hd h
  case areturn =>
    obtain ⟨rfl, h⟩ := h; replace h := pR_el h; obtain ⟨x, r, rfl, rfl, h⟩ := h; exact hRa _ _ _ _ _ _ hd h
  case return_ =>
    obtain ⟨rfl, rfl, h⟩ := h; exact hRv _ _ _ _ _ hd h
  all_goals exact False.elim h
end JS
