/-! ===== locals ===== -/
def lk : List (Option AV) → Nat → Option AV
  | [], _ => none
  | x :: _, 0 => x
  | _ :: r, j + 1 => lk r j
def lsP : Nat → List (Option AV) → List (Nat × Value)
  | _, [] => []
  | i, none :: r => lsP (i + 1) r
  | i, some v :: r => (i, tV v) :: lsP (i + 1) r
theorem lsP_mem : ∀ (ls : List (Option AV)) (i : Nat) (q : Nat × Value), q ∈ lsP i ls ↔ ∃ (j : Nat) (v : AV), lk ls j = some v ∧ q = (i + j, tV v) := by
  intro ls
  induction ls with
  | nil => intro i q; simp [lsP, lk]
  | cons x r ih =>
    intro i q
    cases x with
    | none =>
      rw [show lsP i (none :: r) = lsP (i + 1) r from rfl, ih]
      constructor
      · rintro ⟨j, v, h1, h2⟩; exact ⟨j + 1, v, h1, by rw [h2]; congr 1; omega⟩
      · rintro ⟨j, v, h1, h2⟩
        cases j with
        | zero => simp [lk] at h1
        | succ j => exact ⟨j, v, h1, by rw [h2]; congr 1; omega⟩
    | some w =>
      rw [show lsP i (some w :: r) = (i, tV w) :: lsP (i + 1) r from rfl, List.mem_cons, ih]
      constructor
      · rintro (h | ⟨j, v, h1, h2⟩)
        · exact ⟨0, w, rfl, by rw [h]; rfl⟩
        · exact ⟨j + 1, v, h1, by rw [h2]; congr 1; omega⟩
      · rintro ⟨j, v, h1, h2⟩
        cases j with
        | zero => left; simp [lk] at h1; subst h1; exact h2
        | succ j => right; exact ⟨j, v, h1, by rw [h2]; congr 1; omega⟩
theorem lk_set : ∀ (ls : List (Option AV)) (i j : Nat) (v : Option AV), i < ls.length → lk (ls.set i v) j = if j = i then v else lk ls j := by
  intro ls
  induction ls with
  | nil => intro i j v h; simp at h
  | cons x r ih =>
    intro i j v h
    cases i with
    | zero => cases j <;> simp [lk]
    | succ i =>
      cases j with
      | zero => simp [lk]
      | succ j =>
        have := ih i j v (by simpa using h)
        simp only [List.set_cons_succ, lk, this]
        by_cases e : j = i <;> simp [e]
def okS (ls : List (Option AV)) (j : Nat) : Bool := match j with
  | 0 => true
  | i + 1 => match lk ls i with
    | some (.inr (.inr _)) => false
    | _ => true
theorem tV_cat2 {v : AV} (h : (tV v).category = 2) : ∃ z, v = .inr (.inr z) := by
  match v, h with
  | .inl x, h => simp [tV, Value.category] at h
  | .inr (.inl none), h => simp [tV, va_rf, Value.category] at h
  | .inr (.inl (some a)), h => simp [tV, va_rf, Value.category] at h
  | .inr (.inr z), _ => exact ⟨z, rfl⟩
theorem tV_rcat (o : Option Nat) : (va_rf o).category = 1 := by cases o <;> rfl
theorem has_at {la : Array Slot} {nL : Nat} {ls : List (Option AV)} (h : lv_has la nL (lsP 0 ls)) {j : Nat} {v : AV} (hj : lk ls j = some v) : la[j]? = some (.val (tV v)) := by
  have := h.2.2 (j, tV v) ((lsP_mem ls 0 _).mpr ⟨j, v, hj, by simp⟩)
  exact this
theorem has_set {la : Array Slot} {nL : Nat} {ls : List (Option AV)} {j : Nat} {v : AV} (hj : j < ls.length) (ho : okS ls j = true)
    (h : lv_has la nL ((j, tV v) :: (lsP 0 ls).filter (fun q => !(q.1 == j) && !(q.1 + 1 == j && q.2.category == 2)))) : lv_has la nL (lsP 0 (ls.set j (some v))) := by
  refine ⟨h.1, h.2.1, fun q hq => ?_⟩
  obtain ⟨i, w, h1, h2⟩ := (lsP_mem _ _ _).mp hq
  rw [lk_set _ _ _ _ hj] at h1
  rw [Nat.zero_add] at h2
  refine h.2.2 q (List.mem_cons.mpr ?_)
  by_cases e : i = j
  · rw [if_pos e] at h1
    left; rw [h2, e]; cases h1; rfl
  · rw [if_neg e] at h1
    right
    refine List.mem_filter.mpr ⟨(lsP_mem _ _ _).mpr ⟨i, w, h1, by rw [h2, Nat.zero_add]⟩, ?_⟩
    rw [h2]
    have e1 : (i == j) = false := by simpa using e
    have e2 : (i + 1 == j && (tV w).category == 2) = false := by
      cases hb : (i + 1 == j && (tV w).category == 2) with
      | false => rfl
      | true =>
        simp only [Bool.and_eq_true, beq_iff_eq] at hb
        obtain ⟨hb1, hb2⟩ := hb
        obtain ⟨z, rfl⟩ := tV_cat2 hb2
        subst hb1
        simp [okS, h1] at ho
    simp only [e1, e2, Bool.not_false, Bool.and_self]
theorem has_set2 {la : Array Slot} {nL : Nat} {ls : List (Option AV)} {j : Nat} {z : Int64} (hj : j + 1 < ls.length) (ho : okS ls j = true)
    (h : lv_has la nL ((j, Value.long z) :: (lsP 0 ls).filter (fun q => !(q.1 == j) && (!(q.1 == j + 1) && !(q.1 + 1 == j && q.2.category == 2))))) : lv_has la nL (lsP 0 ((ls.set j (some (.inr (.inr z)))).set (j + 1) none)) := by
  refine ⟨h.1, h.2.1, fun q hq => ?_⟩
  obtain ⟨i, w, h1, h2⟩ := (lsP_mem _ _ _).mp hq
  rw [lk_set _ _ _ _ (by simpa using hj), lk_set _ _ _ _ (by omega)] at h1
  rw [Nat.zero_add] at h2
  refine h.2.2 q (List.mem_cons.mpr ?_)
  by_cases e3 : i = j + 1
  · rw [if_pos e3] at h1; cases h1
  · rw [if_neg e3] at h1
    by_cases e : i = j
    · rw [if_pos e] at h1
      left; rw [h2, e]; cases h1; rfl
    · rw [if_neg e] at h1
      right
      refine List.mem_filter.mpr ⟨(lsP_mem _ _ _).mpr ⟨i, w, h1, by rw [h2, Nat.zero_add]⟩, ?_⟩
      rw [h2]
      have e1 : (i == j) = false := by simpa using e
      have e4 : (i == j + 1) = false := by simpa using e3
      have e2 : (i + 1 == j && (tV w).category == 2) = false := by
        cases hb : (i + 1 == j && (tV w).category == 2) with
        | false => rfl
        | true =>
          simp only [Bool.and_eq_true, beq_iff_eq] at hb
          obtain ⟨hb1, hb2⟩ := hb
          obtain ⟨z, rfl⟩ := tV_cat2 hb2
          subst hb1
          simp [okS, h1] at ho
      simp only [e1, e2, e4, Bool.not_false, Bool.and_self]
/-! ===== the judgement over the abstract heap ===== -/
def Cx (p : Program) (s : State) (m : MethodId) (args : Array Value) (c : Code) (cc : ByteArray) (nL : Nat) (own : String) (D : va_G) (cy : Nat → ClassId) (base : Nat) : Prop :=
  p.tables.exec = Jvm.exec ∧ c.code = cc ∧ c.maxLocals = nL ∧ s.vm.findClass own = some m.cls ∧ (∀ w ∈ lwG, w.before args s = true) ∧ va_K D vwCl (tysY cy) s ∧ base ≤ s.heap.size
def JJ (p : Program) (l : Launch) (e : Env) (R : Room) (s : State) (m : MethodId) (args : Array Value) (below : List Frame) (meth : Method) (c : Code) (nL : Nat) (D : va_G) (cy : Nat → ClassId) (base : Nat) (S0 : GG) (Q : State → Prop)
    (pc : Nat) (ls : List (Option AV)) (st : List AV) (G : GG) (k n : Nat) : Prop :=
  ∀ (H : Heap) (locs : List Loc) (la : Array Slot), ls.length = nL → Hp D cy base S0 G H → va_S (Ab base) s.heap H locs → lv_has la nL (lsP 0 ls) → W p l e R s m args below meth c H locs k n Q (F0 m pc la (st.map tV))
section JR
variable {p : Program} {l : Launch} {e : Env} {R : Room} {s : State} {m : MethodId} {args : Array Value} {below : List Frame} {meth : Method} {c : Code} {nL : Nat} {D : va_G} {cy : Nat → ClassId} {base : Nat} {S0 : GG} {Q : State → Prop}
variable {cc : ByteArray} {own : String} {pc : Nat} {ls : List (Option AV)} {st : List AV} {G : GG} {k n : Nat}
theorem hAb (C : Cx p s m args c cc nL own D cy base) : ∀ q, s.heap.size ≤ q → Ab base q := fun q h => Nat.le_trans C.2.2.2.2.2.2 h
-- loads
theorem j_iload_n (C : Cx p s m args c cc nL own D cy base) {j : Fin 4} {x : Int32} (hd : decode cc pc = .ok (.iload_n j, 1)) (hj : lk ls j = some (.inl x)) (kk : JJ p l e R s m args below meth c nL D cy base S0 Q (pc + 1) ls (.inl x :: st) G k n) : JJ p l e R s m args below meth c nL D cy base S0 Q pc ls st G k n :=
  fun H locs la h1 h2 h3 h4 => lv_iload_n C.1 C.2.1 hd rfl (has_at h4 hj) (kk H locs la h1 h2 h3 h4)
theorem j_iload (C : Cx p s m args c cc nL own D cy base) {j : Nat} {x : Int32} (hd : decode cc pc = .ok (.iload j, 2)) (hj : lk ls j = some (.inl x)) (kk : JJ p l e R s m args below meth c nL D cy base S0 Q (pc + 2) ls (.inl x :: st) G k n) : JJ p l e R s m args below meth c nL D cy base S0 Q pc ls st G k n :=
  fun H locs la h1 h2 h3 h4 => lv_iload C.1 C.2.1 hd (has_at h4 hj) (kk H locs la h1 h2 h3 h4)
theorem j_lload_n (C : Cx p s m args c cc nL own D cy base) {j : Fin 4} {x : Int64} (hd : decode cc pc = .ok (.lload_n j, 1)) (hj : lk ls j = some (.inr (.inr x))) (kk : JJ p l e R s m args below meth c nL D cy base S0 Q (pc + 1) ls (.inr (.inr x) :: st) G k n) : JJ p l e R s m args below meth c nL D cy base S0 Q pc ls st G k n :=
  fun H locs la h1 h2 h3 h4 => lv_lload_n C.1 C.2.1 hd rfl (has_at h4 hj) (kk H locs la h1 h2 h3 h4)
theorem j_lload (C : Cx p s m args c cc nL own D cy base) {j : Nat} {x : Int64} (hd : decode cc pc = .ok (.lload j, 2)) (hj : lk ls j = some (.inr (.inr x))) (kk : JJ p l e R s m args below meth c nL D cy base S0 Q (pc + 2) ls (.inr (.inr x) :: st) G k n) : JJ p l e R s m args below meth c nL D cy base S0 Q pc ls st G k n :=
  fun H locs la h1 h2 h3 h4 => lv_lload C.1 C.2.1 hd (has_at h4 hj) (kk H locs la h1 h2 h3 h4)
theorem j_aload_n (C : Cx p s m args c cc nL own D cy base) {j : Fin 4} {x : Option Nat} (hd : decode cc pc = .ok (.aload_n j, 1)) (hj : lk ls j = some (.inr (.inl x))) (kk : JJ p l e R s m args below meth c nL D cy base S0 Q (pc + 1) ls (.inr (.inl x) :: st) G k n) : JJ p l e R s m args below meth c nL D cy base S0 Q pc ls st G k n :=
  fun H locs la h1 h2 h3 h4 => match x, hj, kk with
    | none, hj, kk => lv_aload_nN C.1 C.2.1 hd rfl (has_at h4 hj) (kk H locs la h1 h2 h3 h4)
    | some _, hj, kk => lv_aload_n C.1 C.2.1 hd rfl (has_at h4 hj) (kk H locs la h1 h2 h3 h4)
theorem j_aload (C : Cx p s m args c cc nL own D cy base) {j : Nat} {x : Option Nat} (hd : decode cc pc = .ok (.aload j, 2)) (hj : lk ls j = some (.inr (.inl x))) (kk : JJ p l e R s m args below meth c nL D cy base S0 Q (pc + 2) ls (.inr (.inl x) :: st) G k n) : JJ p l e R s m args below meth c nL D cy base S0 Q pc ls st G k n :=
  fun H locs la h1 h2 h3 h4 => match x, hj, kk with
    | none, hj, kk => lv_aloadN C.1 C.2.1 hd (has_at h4 hj) (kk H locs la h1 h2 h3 h4)
    | some _, hj, kk => lv_aload C.1 C.2.1 hd (has_at h4 hj) (kk H locs la h1 h2 h3 h4)
-- stores
theorem j_istore_n (C : Cx p s m args c cc nL own D cy base) {j : Fin 4} {x : Int32} (hd : decode cc pc = .ok (.istore_n j, 1)) (hj : (j : Nat) < ls.length) (ho : okS ls j = true) (kk : JJ p l e R s m args below meth c nL D cy base S0 Q (pc + 1) (ls.set j (some (.inl x))) st G k n) : JJ p l e R s m args below meth c nL D cy base S0 Q pc ls (.inl x :: st) G k n :=
  fun H locs la h1 h2 h3 h4 => lv_istore_n C.1 C.2.1 hd rfl h4 (h1 ▸ hj) rfl (fun la' h => kk H locs la' (by simpa using h1) h2 h3 (has_set hj ho h))
theorem j_istore (C : Cx p s m args c cc nL own D cy base) {j : Nat} {x : Int32} (hd : decode cc pc = .ok (.istore j, 2)) (hj : j < ls.length) (ho : okS ls j = true) (kk : JJ p l e R s m args below meth c nL D cy base S0 Q (pc + 2) (ls.set j (some (.inl x))) st G k n) : JJ p l e R s m args below meth c nL D cy base S0 Q pc ls (.inl x :: st) G k n :=
  fun H locs la h1 h2 h3 h4 => lv_istore C.1 C.2.1 hd h4 (h1 ▸ hj) rfl (fun la' h => kk H locs la' (by simpa using h1) h2 h3 (has_set hj ho h))
theorem j_lstore (C : Cx p s m args c cc nL own D cy base) {j : Nat} {x : Int64} (hd : decode cc pc = .ok (.lstore j, 2)) (hj : j + 1 < ls.length) (ho : okS ls j = true) (kk : JJ p l e R s m args below meth c nL D cy base S0 Q (pc + 2) ((ls.set j (some (.inr (.inr x)))).set (j + 1) none) st G k n) : JJ p l e R s m args below meth c nL D cy base S0 Q pc ls (.inr (.inr x) :: st) G k n :=
  fun H locs la h1 h2 h3 h4 => lv_lstore C.1 C.2.1 hd h4 (h1 ▸ hj) rfl (fun la' h => kk H locs la' (by simpa using h1) h2 h3 (has_set2 hj ho h))
theorem j_astore_n (C : Cx p s m args c cc nL own D cy base) {j : Fin 4} {x : Option Nat} (hd : decode cc pc = .ok (.astore_n j, 1)) (hj : (j : Nat) < ls.length) (ho : okS ls j = true) (kk : JJ p l e R s m args below meth c nL D cy base S0 Q (pc + 1) (ls.set j (some (.inr (.inl x)))) st G k n) : JJ p l e R s m args below meth c nL D cy base S0 Q pc ls (.inr (.inl x) :: st) G k n :=
  fun H locs la h1 h2 h3 h4 => match x, kk with
    | none, kk => lv_astore_nN C.1 C.2.1 hd rfl h4 (h1 ▸ hj) rfl (fun la' h => kk H locs la' (by simpa using h1) h2 h3 (has_set (v := .inr (.inl none)) hj ho h))
    | some a, kk => lv_astore_n C.1 C.2.1 hd rfl h4 (h1 ▸ hj) rfl (fun la' h => kk H locs la' (by simpa using h1) h2 h3 (has_set (v := .inr (.inl (some a))) hj ho h))
theorem j_astore (C : Cx p s m args c cc nL own D cy base) {j : Nat} {x : Option Nat} (hd : decode cc pc = .ok (.astore j, 2)) (hj : j < ls.length) (ho : okS ls j = true) (kk : JJ p l e R s m args below meth c nL D cy base S0 Q (pc + 2) (ls.set j (some (.inr (.inl x)))) st G k n) : JJ p l e R s m args below meth c nL D cy base S0 Q pc ls (.inr (.inl x) :: st) G k n :=
  fun H locs la h1 h2 h3 h4 => match x, kk with
    | none, kk => lv_astoreN C.1 C.2.1 hd h4 (h1 ▸ hj) rfl (fun la' h => kk H locs la' (by simpa using h1) h2 h3 (has_set (v := .inr (.inl none)) hj ho h))
    | some a, kk => lv_astore C.1 C.2.1 hd h4 (h1 ▸ hj) rfl (fun la' h => kk H locs la' (by simpa using h1) h2 h3 (has_set (v := .inr (.inl (some a))) hj ho h))
theorem lsP_at {ls : List (Option AV)} {j : Nat} {v : AV} (h : lk ls j = some v) : ∃ t : Nat, (lsP 0 ls)[t]? = some (j, tV v) :=
  List.getElem?_of_mem ((lsP_mem ls 0 _).mpr ⟨j, v, h, by simp⟩)
theorem j_iinc (C : Cx p s m args c cc nL own D cy base) {j : Nat} {d : Int} {x : Int32} (hd : decode cc pc = .ok (.iinc j d, 3)) (hj : j < ls.length) (ho : okS ls j = true) (hx : lk ls j = some (.inl x)) (kk : JJ p l e R s m args below meth c nL D cy base S0 Q (pc + 3) (ls.set j (some (.inl (x + Int32.ofInt d)))) st G k n) : JJ p l e R s m args below meth c nL D cy base S0 Q pc ls st G k n :=
  fun H locs la h1 h2 h3 h4 => by
    obtain ⟨t, ht⟩ := lsP_at hx
    exact lv_iinc (k := t) C.1 C.2.1 hd h4 ht rfl (h1 ▸ hj) rfl (fun la' h => kk H locs la' (by simpa using h1) h2 h3 (has_set (v := .inl (x + Int32.ofInt d)) hj ho h))
-- constants
theorem j_iconst (C : Cx p s m args c cc nL own D cy base) {d : Int} (hd : decode cc pc = .ok (.iconst d, 1)) (kk : JJ p l e R s m args below meth c nL D cy base S0 Q (pc + 1) ls (.inl (Int32.ofInt d) :: st) G k n) : JJ p l e R s m args below meth c nL D cy base S0 Q pc ls st G k n :=
  fun H locs la h1 h2 h3 h4 => lv_iconst C.1 C.2.1 hd rfl (kk H locs la h1 h2 h3 h4)
theorem j_bipush (C : Cx p s m args c cc nL own D cy base) {d : Int} (hd : decode cc pc = .ok (.bipush d, 2)) (kk : JJ p l e R s m args below meth c nL D cy base S0 Q (pc + 2) ls (.inl (Int8.ofInt d).toInt32 :: st) G k n) : JJ p l e R s m args below meth c nL D cy base S0 Q pc ls st G k n :=
  fun H locs la h1 h2 h3 h4 => lv_bipush C.1 C.2.1 hd rfl (kk H locs la h1 h2 h3 h4)
theorem j_sipush (C : Cx p s m args c cc nL own D cy base) {d : Int} (hd : decode cc pc = .ok (.sipush d, 3)) (kk : JJ p l e R s m args below meth c nL D cy base S0 Q (pc + 3) ls (.inl (Int16.ofInt d).toInt32 :: st) G k n) : JJ p l e R s m args below meth c nL D cy base S0 Q pc ls st G k n :=
  fun H locs la h1 h2 h3 h4 => lv_sipush C.1 C.2.1 hd rfl (kk H locs la h1 h2 h3 h4)
theorem j_ldc2 (C : Cx p s m args c cc nL own D cy base) {i : Nat} {v : Int64} (hd : decode cc pc = .ok (.ldc2_w i, 3)) (hw : Cond.constantLong own i v ∈ lwG) (kk : JJ p l e R s m args below meth c nL D cy base S0 Q (pc + 3) ls (.inr (.inr v) :: st) G k n) : JJ p l e R s m args below meth c nL D cy base S0 Q pc ls st G k n :=
  fun H locs la h1 h2 h3 h4 => lv_ldc2 C.1 C.2.1 C.2.2.2.1 (C.2.2.2.2.1 _ hw) hd (kk H locs la h1 h2 h3 h4)
theorem j_null (C : Cx p s m args c cc nL own D cy base) (hd : decode cc pc = .ok (.aconst_null, 1)) (kk : JJ p l e R s m args below meth c nL D cy base S0 Q (pc + 1) ls (.inr (.inl none) :: st) G k n) : JJ p l e R s m args below meth c nL D cy base S0 Q pc ls st G k n :=
  fun H locs la h1 h2 h3 h4 => lv_null C.1 C.2.1 hd (kk H locs la h1 h2 h3 h4)
theorem j_dup (C : Cx p s m args c cc nL own D cy base) {v : AV} (hd : decode cc pc = .ok (.dup, 1)) (hv : (tV v).category = 1) (kk : JJ p l e R s m args below meth c nL D cy base S0 Q (pc + 1) ls (v :: v :: st) G k n) : JJ p l e R s m args below meth c nL D cy base S0 Q pc ls (v :: st) G k n :=
  fun H locs la h1 h2 h3 h4 => lv_dup C.1 C.2.1 hd hv (kk H locs la h1 h2 h3 h4)
theorem j_dup2 (C : Cx p s m args c cc nL own D cy base) {v w : AV} (hd : decode cc pc = .ok (.dup2, 1)) (hv : (tV v).category = 1) (hw : (tV w).category = 1) (kk : JJ p l e R s m args below meth c nL D cy base S0 Q (pc + 1) ls (v :: w :: v :: w :: st) G k n) : JJ p l e R s m args below meth c nL D cy base S0 Q pc ls (v :: w :: st) G k n :=
  fun H locs la h1 h2 h3 h4 => lv_dup2_11 C.1 C.2.1 hd hv hw (kk H locs la h1 h2 h3 h4)
end JR
