/-! ===== the walk, computed: by fuel, up to cuts ===== -/
abbrev Ip : Type := List (Option AV) → List AV → GG → Nat → Nat → Prop
def wpf (cc : ByteArray) (own : String) (ft : FTb) (nt : List (Nat × Nat)) (ct : List (Nat × CS)) (oi : Nat) (R : Room) (sc : Bool) (RT : Nat → Option AV → GG → Nat → Nat → Prop) (XN : Nat → Kt) (cuts : List (Nat × Ip)) : Nat → Kt
  | 0 => fun _ _ _ _ _ _ => False
  | f + 1 => fun pc ls st G k n => match lkp cuts pc with
    | some I => I ls st G k n
    | none => match decode cc pc with
      | .ok q => stepw own ft nt ct oi R sc RT XN (wpf cc own ft nt ct oi R sc RT XN cuts f) q.1 q.2 pc ls st G k n
      | .error _ => False
def wpA (cc : ByteArray) (own : String) (ft : FTb) (nt : List (Nat × Nat)) (ct : List (Nat × CS)) (oi : Nat) (R : Room) (sc : Bool) (RT : Nat → Option AV → GG → Nat → Nat → Prop) (XN : Nat → Kt) (cuts : List (Nat × Ip)) (f : Nat) : Kt := fun pc ls st G k n => match decode cc pc with
  | .ok q => stepw own ft nt ct oi R sc RT XN (wpf cc own ft nt ct oi R sc RT XN cuts f) q.1 q.2 pc ls st G k n
  | .error _ => False
/-- what a body may use: J holds where the computed walk up to places where J holds says so -/
def EvJ (cc : ByteArray) (own : String) (ft : FTb) (nt : List (Nat × Nat)) (ct : List (Nat × CS)) (oi : Nat) (R : Room) (sc : Bool) (RT : Nat → Option AV → GG → Nat → Nat → Prop) (XN : Nat → Kt) (J : Kt) : Prop :=
  ∀ (cuts : List (Nat × Ip)) (f pc : Nat) (ls : List (Option AV)) (st : List AV) (G : GG) (k n : Nat), (∀ x ∈ cuts, ∀ ls st G k n, x.2 ls st G k n → J x.1 ls st G k n) → wpA cc own ft nt ct oi R sc RT XN cuts f pc ls st G k n → J pc ls st G k n
section EV
variable {p : Program} {l : Launch} {e : Env} {R : Room} {s : State} {m : MethodId} {args : Array Value} {below : List Frame} {meth : Method} {c : Code} {nL : Nat} {D : va_G} {cy : Nat → ClassId} {base : Nat} {S0 : GG} {Q : State → Prop}
variable {cc : ByteArray} {own : String} {ft : FTb} {nt : List (Nat × Nat)} {ct : List (Nat × CS)} {oi : Nat} {sc ini : Bool} {RT : Nat → Option AV → GG → Nat → Nat → Prop} {XN : Nat → Kt}
theorem ev_ok (C : Cx p s m args c cc nL own D cy base) (hWd : Wd D cy base s s.heap) (hft : ∀ x ∈ ft, FTg own ini x) (hini : ini = true → meth.name = "<init>") (hnt : ∀ x ∈ nt, NTg own x) (hct : ∀ x ∈ ct, CTg l own R x)
    (hoi : oi ≠ 0 → Cond.methodLink own oi objectInit ∈ lwG ∧ 1 ≤ R.frames ∧ 20 ≤ R.locals) (hsc : sc = true → ∀ a, (S0 a).1 = 14 → va_X a (S0 a).2.1 (S0 a).2.2.1 s s.heap)
    (hRi : ∀ pc ls x G k n, decode cc pc = .ok (.ireturn, 1) → RT pc (some (.inl x)) G k n → JJ p l e R s m args below meth c nL D cy base S0 Q pc ls [.inl x] G k n)
    (hRa : ∀ pc ls x G k n, decode cc pc = .ok (.areturn, 1) → RT pc (some (.inr (.inl x))) G k n → JJ p l e R s m args below meth c nL D cy base S0 Q pc ls [.inr (.inl x)] G k n)
    (hRv : ∀ pc ls G k n, decode cc pc = .ok (.return_, 1) → RT pc none G k n → JJ p l e R s m args below meth c nL D cy base S0 Q pc ls [] G k n)
    (hXN : ∀ i pc ls st G k n, decode cc pc = .ok (.new i, 3) → XN i pc ls st G k n → JJ p l e R s m args below meth c nL D cy base S0 Q pc ls st G k n) :
    EvJ cc own ft nt ct oi R sc RT XN (JJ p l e R s m args below meth c nL D cy base S0 Q) := by
  intro cuts f
  have key : ∀ f pc ls st G k n, (∀ x ∈ cuts, ∀ ls st G k n, x.2 ls st G k n → JJ p l e R s m args below meth c nL D cy base S0 Q x.1 ls st G k n) → wpf cc own ft nt ct oi R sc RT XN cuts f pc ls st G k n → JJ p l e R s m args below meth c nL D cy base S0 Q pc ls st G k n := by
    intro f
    induction f with
    | zero => intro pc ls st G k n _ h; exact h.elim
    | succ f ih =>
      intro pc ls st G k n hc h
      unfold wpf at h
      split at h
      · rename_i I eI
        exact hc _ (lkp_mem eI) _ _ _ _ _ h
      · split at h
        · rename_i q eq
          exact step_ok C hWd hft hini hnt hct hoi hsc hRi hRa hRv hXN (fun pc ls st G k n h => ih pc ls st G k n hc h) (by rw [eq]) h
        · exact h.elim
  intro pc ls st G k n hc h
  unfold wpA at h
  split at h
  · rename_i q eq
    exact step_ok C hWd hft hini hnt hct hoi hsc hRi hRa hRv hXN (fun pc ls st G k n h => key f pc ls st G k n hc h) (by rw [eq]) h
  · exact h.elim
end EV
def rOK (rt : Nat) (r : Option AV) : Prop := match rt, r with
  | 0, none => True
  | 1, some (.inl _) => True
  | 2, some (.inl x) => x = 0 ∨ x = 1
  | 3, some (.inr (.inl _)) => True
  | _, _ => False
def RTm (rm : Room) (rt : Nat) (Qr : Option AV → GG → Prop) : Nat → Option AV → GG → Nat → Nat → Prop := fun _ r G k n => k ≤ rm.cells ∧ n ≤ rm.slots ∧ rOK rt r ∧ Qr r G
def rtT (rt : Nat) (ret : Option FieldType) : Prop := (rt = 0 ∧ ret = none) ∨ (rt = 1 ∧ ret = some .int) ∨ (rt = 2 ∧ ret = some .boolean) ∨ (rt = 3 ∧ ∃ t, ret = some t ∧ isRt t = true)
def noX : Nat → Kt := fun _ _ _ _ _ _ _ => False
/-- a contract out of the computed walk (no throw) -/
theorem CM.ev {l : Launch} {y : MethodName} {bytes : ByteArray} {maxL : Nat} {ret : Option FieldType} {rm : Room} {T : TT} {ft : FTb} {nt : List (Nat × Nat)} {ct : List (Nat × CS)} {oi rt : Nat} {ini : Bool} (hpl : plainFor y = true) (hrt : rtT rt ret)
    (hft : ∀ x ∈ ft, FTg y.cls ini x) (hini : ini = true → y.name = "<init>") (hnt : ∀ x ∈ nt, NTg y.cls x) (hct : ∀ x ∈ ct, CTg l y.cls rm x) (hoi : oi ≠ 0 → Cond.methodLink y.cls oi objectInit ∈ lwG ∧ 1 ≤ rm.frames ∧ 20 ≤ rm.locals)
    (body : ∀ (av : List AV) (G : GG) (Qr : Option AV → GG → Prop) (Qx : String → GG → Prop), T av G Qr Qx → (enL av).length ≤ maxL ∧ ∀ J : Kt, EvJ bytes y.cls ft nt ct oi rm false (RTm rm rt Qr) noX J → J 0 (enP av maxL) [] G 0 0) : CM l y bytes maxL ret rm T := by
  refine CM.of hpl (fun D cy base S0 av G Qr Qx hT => ⟨(body av G Qr Qx hT).1, fun p e s m args below meth c B => ?_⟩)
  obtain ⟨C, hWd, hr, hlk, hnm, htb⟩ := B
  refine (body av G Qr Qx hT).2 _ (ev_ok (ini := ini) C hWd hft (fun q => by rw [hnm]; exact hini q) hnt hct hoi (fun q => by cases q) ?_ ?_ ?_ (fun _ _ _ _ _ _ _ _ q => q.elim))
  · intro pc ls x G k n hd h
    obtain ⟨h1, h2, h3, h4⟩ := h
    rcases hrt with ⟨q1, q2⟩ | ⟨q1, q2⟩ | ⟨q1, q2⟩ | ⟨q1, t, q2, q3⟩ <;> subst q1
    · exact h3.elim
    · exact j_iret C (by rw [hr, q2]) hlk rfl hd h1 h2 h4
    · refine j_iret C (by rw [hr, q2]) hlk ?_ hd h1 h2 h4
      have h3 : x = 0 ∨ x = 1 := h3
      rcases h3 with rfl | rfl <;> rfl
    · exact h3.elim
  · intro pc ls x G k n hd h
    obtain ⟨h1, h2, h3, h4⟩ := h
    rcases hrt with ⟨q1, q2⟩ | ⟨q1, q2⟩ | ⟨q1, q2⟩ | ⟨q1, t, q2, q3⟩ <;> subst q1
    · exact h3.elim
    · exact h3.elim
    · exact h3.elim
    · exact j_aret C (by rw [hr, q2]) q3 hlk hd h1 h2 h4
  · intro pc ls G k n hd h
    obtain ⟨h1, h2, h3, h4⟩ := h
    rcases hrt with ⟨q1, q2⟩ | ⟨q1, q2⟩ | ⟨q1, q2⟩ | ⟨q1, t, q2, q3⟩ <;> subst q1
    · exact j_vret C (by rw [hr, q2]) hlk hd h1 h2 h4
    · exact h3.elim
    · exact h3.elim
    · exact h3.elim
