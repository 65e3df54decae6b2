/-! ===== the abstract heap: by address a kind, a length, ints, references, longs ===== -/
abbrev AV : Type := Int32 ⊕ (Option Nat ⊕ Int64)
def tV (v : AV) : Value := match v with
  | .inl x => .int x
  | .inr (.inl o) => va_rf o
  | .inr (.inr z) => .long z
abbrev Cl : Type := Nat × (Nat × ((Nat → Int32) × ((Nat → Option Nat) × (Nat → Int64))))
abbrev GG : Type := Nat → Cl
def knd (G : GG) (a : Nat) : Nat := (G a).1
def gn (G : GG) (a : Nat) : Nat := (G a).2.1
def gi (G : GG) (a k : Nat) : Int32 := (G a).2.2.1 k
def gr (G : GG) (a k : Nat) : Option Nat := (G a).2.2.2.1 k
def gl (G : GG) (a k : Nat) : Int64 := (G a).2.2.2.2 k
def sI (G : GG) (a k : Nat) (x : Int32) : GG := va_up G a ((G a).1, (G a).2.1, va_up (G a).2.2.1 k x, (G a).2.2.2.1, (G a).2.2.2.2)
def sR (G : GG) (a k : Nat) (x : Option Nat) : GG := va_up G a ((G a).1, (G a).2.1, (G a).2.2.1, va_up (G a).2.2.2.1 k x, (G a).2.2.2.2)
def sL (G : GG) (a k : Nat) (x : Int64) : GG := va_up G a ((G a).1, (G a).2.1, (G a).2.2.1, (G a).2.2.2.1, va_up (G a).2.2.2.2 k x)
def nw (G : GG) (a kd n : Nat) : GG := va_up G a (kd, n, fun _ => 0, fun _ => none, fun _ => 0)
theorem knd_sI (G : GG) (a k : Nat) (x : Int32) (b : Nat) : knd (sI G a k x) b = knd G b := by unfold knd sI va_up; split <;> simp_all
theorem knd_sR (G : GG) (a k : Nat) (x : Option Nat) (b : Nat) : knd (sR G a k x) b = knd G b := by unfold knd sR va_up; split <;> simp_all
theorem knd_sL (G : GG) (a k : Nat) (x : Int64) (b : Nat) : knd (sL G a k x) b = knd G b := by unfold knd sL va_up; split <;> simp_all
theorem knd_nw (G : GG) (a kd n b : Nat) : knd (nw G a kd n) b = if b = a then kd else knd G b := by unfold knd nw va_up; split <;> simp_all
theorem gn_sI (G : GG) (a k : Nat) (x : Int32) (b : Nat) : gn (sI G a k x) b = gn G b := by unfold gn sI va_up; split <;> simp_all
theorem gn_sR (G : GG) (a k : Nat) (x : Option Nat) (b : Nat) : gn (sR G a k x) b = gn G b := by unfold gn sR va_up; split <;> simp_all
theorem gn_sL (G : GG) (a k : Nat) (x : Int64) (b : Nat) : gn (sL G a k x) b = gn G b := by unfold gn sL va_up; split <;> simp_all
theorem gn_nw (G : GG) (a kd n b : Nat) : gn (nw G a kd n) b = if b = a then n else gn G b := by unfold gn nw va_up; split <;> simp_all
theorem gi_sI (G : GG) (a k : Nat) (x : Int32) (b j : Nat) : gi (sI G a k x) b j = if b = a ∧ j = k then x else gi G b j := by
  unfold gi sI va_up
  by_cases h : b = a
  · subst h; by_cases h2 : j = k <;> simp [h2]
  · simp [h]
theorem gi_sR (G : GG) (a k : Nat) (x : Option Nat) (b j : Nat) : gi (sR G a k x) b j = gi G b j := by unfold gi sR va_up; split <;> simp_all
theorem gi_sL (G : GG) (a k : Nat) (x : Int64) (b j : Nat) : gi (sL G a k x) b j = gi G b j := by unfold gi sL va_up; split <;> simp_all
theorem gi_nw (G : GG) (a kd n b j : Nat) : gi (nw G a kd n) b j = if b = a then 0 else gi G b j := by unfold gi nw va_up; split <;> simp_all
theorem gr_sR (G : GG) (a k : Nat) (x : Option Nat) (b j : Nat) : gr (sR G a k x) b j = if b = a ∧ j = k then x else gr G b j := by
  unfold gr sR va_up
  by_cases h : b = a
  · subst h; by_cases h2 : j = k <;> simp [h2]
  · simp [h]
theorem gr_sI (G : GG) (a k : Nat) (x : Int32) (b j : Nat) : gr (sI G a k x) b j = gr G b j := by unfold gr sI va_up; split <;> simp_all
theorem gr_sL (G : GG) (a k : Nat) (x : Int64) (b j : Nat) : gr (sL G a k x) b j = gr G b j := by unfold gr sL va_up; split <;> simp_all
theorem gr_nw (G : GG) (a kd n b j : Nat) : gr (nw G a kd n) b j = if b = a then none else gr G b j := by unfold gr nw va_up; split <;> simp_all
theorem gl_sL (G : GG) (a k : Nat) (x : Int64) (b j : Nat) : gl (sL G a k x) b j = if b = a ∧ j = k then x else gl G b j := by
  unfold gl sL va_up
  by_cases h : b = a
  · subst h; by_cases h2 : j = k <;> simp [h2]
  · simp [h]
theorem gl_sI (G : GG) (a k : Nat) (x : Int32) (b j : Nat) : gl (sI G a k x) b j = gl G b j := by unfold gl sI va_up; split <;> simp_all
theorem gl_sR (G : GG) (a k : Nat) (x : Option Nat) (b j : Nat) : gl (sR G a k x) b j = gl G b j := by unfold gl sR va_up; split <;> simp_all
theorem gl_nw (G : GG) (a kd n b j : Nat) : gl (nw G a kd n) b j = if b = a then 0 else gl G b j := by unfold gl nw va_up; split <;> simp_all
/-! ===== the classes by their numbers ===== -/
def tyOf (ci : Nat) : Nat → FieldType := match ci with
  | 0 => tyX0
  | 1 => tyX1
  | 2 => tyX2
  | 3 => tyX3
  | 4 => tyX4
  | 5 => tyX5
  | _ => tyX6
def RO (ci : Nat) : String := match ci with
  | 0 => RX0
  | 1 => RX1
  | 2 => RX2
  | 3 => RX3
  | 4 => RX4
  | 5 => RX5
  | _ => RX6
def TO (ci : Nat) : u_T := match ci with
  | 0 => TX0
  | 1 => TX1
  | 2 => TX2
  | 3 => TX3
  | 4 => TX4
  | 5 => TX5
  | _ => TX6
def nfO (ci : Nat) : Nat := match ci with
  | 0 => 13
  | 1 => 3
  | 2 => 3
  | 3 => 16
  | 4 => 9
  | 5 => 4
  | _ => 39
theorem by7 {P : Nat → Prop} (h0 : P 0) (h1 : P 1) (h2 : P 2) (h3 : P 3) (h4 : P 4) (h5 : P 5) (h6 : P 6) : ∀ ci, ci < 7 → P ci := fun ci h => match ci, h with
  | 0, _ => h0
  | 1, _ => h1
  | 2, _ => h2
  | 3, _ => h3
  | 4, _ => h4
  | 5, _ => h5
  | 6, _ => h6
  | n + 7, h => absurd h (by omega)
theorem vw_at : ∀ ci, ci < 7 → vwCl[ci]? = some (RO ci, TO ci, nfO ci) := by7 rfl rfl rfl rfl rfl rfl rfl
theorem ty_ok : ∀ ci, ci < 7 → ∀ k, k < nfO ci → parseFieldDescriptor (TO ci k).2.2.1 = some (tyOf ci k) := by7 tyX0_ok tyX1_ok tyX2_ok tyX3_ok tyX4_ok tyX5_ok tyX6_ok
theorem nm_ok : ∀ ci, ci < 7 → ∀ a, a < nfO ci → ∀ b, b < nfO ci → a ≠ b → (TO ci a).2.1 ≠ (TO ci b).2.1 := by7 nmX0 nmX1 nmX2 nmX3 nmX4 nmX5 nmX6
def lwG : List Cond := lw_tbl.filter goodWord
theorem in0 : ∀ w ∈ u_ws RX0 TX0 13, w ∈ lwG := by decide +kernel
theorem in1 : ∀ w ∈ u_ws RX1 TX1 3, w ∈ lwG := by decide +kernel
theorem in2 : ∀ w ∈ u_ws RX2 TX2 3, w ∈ lwG := by decide +kernel
theorem in3 : ∀ w ∈ u_ws RX3 TX3 16, w ∈ lwG := by decide +kernel
theorem in4 : ∀ w ∈ u_ws RX4 TX4 9, w ∈ lwG := by decide +kernel
theorem in5 : ∀ w ∈ u_ws RX5 TX5 4, w ∈ lwG := by decide +kernel
theorem in6 : ∀ w ∈ u_ws RX6 TX6 39, w ∈ lwG := by decide +kernel
theorem in_ok : ∀ ci, ci < 7 → ∀ w ∈ u_ws (RO ci) (TO ci) (nfO ci), w ∈ lwG := by7 in0 in1 in2 in3 in4 in5 in6
theorem inst_ok : ∀ ci, ci < 7 → Cond.instantiable (RO ci) (nfO ci) ∈ lwG := by7 (by decide +kernel) (by decide +kernel) (by decide +kernel) (by decide +kernel) (by decide +kernel) (by decide +kernel) (by decide +kernel)
theorem init_ok : ∀ ci, ci < 7 → Cond.initialized (RO ci) ∈ lwG := by7 (by decide +kernel) (by decide +kernel) (by decide +kernel) (by decide +kernel) (by decide +kernel) (by decide +kernel) (by decide +kernel)
/-! ===== cells ===== -/
def isRt (t : FieldType) : Bool := match t with
  | .object _ => true
  | .array _ => true
  | _ => false
def isRf (ci k : Nat) : Bool := isRt (tyOf ci k)
def encF (c : Cl) (k : Nat) : Value := if isRf c.1 k then va_rf (c.2.2.2.1 k) else .int (c.2.2.1 k)
def enc (cy : Nat → ClassId) (c : Cl) : va_E := if c.1 < 7 then .inr (c.1, (List.range (nfO c.1)).map (encF c)) else if c.1 < 10 then .inl (cy c.1, c.2.1, .inl c.2.2.1) else if c.1 = 10 then .inl (cy 10, c.2.1, .inr (.inl c.2.2.2.2)) else .inl (cy c.1, c.2.1, .inr (.inr (.inr (.inr c.2.2.2.1))))
theorem enc_o (cy : Nat → ClassId) {c : Cl} {ci : Nat} (h : c.1 = ci) (h7 : ci < 7) : enc cy c = .inr (ci, (List.range (nfO ci)).map (encF c)) := by
  subst h; unfold enc; rw [if_pos h7]
theorem enc_i (cy : Nat → ClassId) {c : Cl} {kd : Nat} (h : c.1 = kd) (h7 : 7 ≤ kd) (h8 : kd < 10) : enc cy c = .inl (cy kd, c.2.1, .inl c.2.2.1) := by
  subst h; unfold enc; rw [if_neg (by omega), if_pos h8]
theorem enc_l (cy : Nat → ClassId) {c : Cl} (h : c.1 = 10) : enc cy c = .inl (cy 10, c.2.1, .inr (.inl c.2.2.2.2)) := by
  unfold enc; rw [if_neg (by omega), if_neg (by omega), if_pos h]
theorem enc_r (cy : Nat → ClassId) {c : Cl} {kd : Nat} (h : c.1 = kd) (h7 : 10 < kd) : enc cy c = .inl (cy kd, c.2.1, .inr (.inr (.inr (.inr c.2.2.2.1)))) := by
  subst h; unfold enc; rw [if_neg (by omega), if_neg (by omega), if_neg (by omega)]
def Ab (base : Nat) : Nat → Prop := fun q => base ≤ q
def tysY (cy : Nat → ClassId) : List (ClassId × FieldType) := [(cy 7, .byte), (cy 8, .int), (cy 9, .boolean), (cy 10, .long), (cy 11, .object RX0), (cy 12, .object RX1), (cy 13, .object RX4)]
/-- the heap H holds what G tells: the kinds below 14 from base on, kind 14 what S0 tells (below base, never written) -/
def Hp (D : va_G) (cy : Nat → ClassId) (base : Nat) (S0 G : GG) (H : Heap) : Prop :=
  ∃ L : List Nat, (∀ a, a ∈ L ↔ knd G a < 14) ∧ (∀ a, 14 ≤ knd G a → (a < base ∧ G a = S0 a) ∨ knd G a = 99) ∧ va_P D vwCl (va_pl L (fun a => enc cy (G a))) H ∧ va_D (Ab base) (va_pl L (fun a => enc cy (G a)))
theorem plc {cy : Nat → ClassId} {L : List Nat} {G : GG} {a : Nat} {c : Cl} : va_pl L (va_up (fun a => enc cy (G a)) a (enc cy c)) = va_pl L (fun b => enc cy (va_up G a c b)) := by
  refine va_pl_congr fun b => ?_
  unfold va_up
  split <;> rfl
/-- one cell of it: where it stands in a list of cells; another content there; one cell more -/
theorem Hp.at {D : va_G} {cy : Nat → ClassId} {base : Nat} {S0 G : GG} {H : Heap} (h : Hp D cy base S0 G H) {a : Nat} (ha : knd G a < 14) :
    ∃ (ws : va_W) (q0 : Nat), va_P D vwCl ws H ∧ va_D (Ab base) ws ∧ ws[q0]? = some (a, enc cy (G a)) ∧
      ∀ (c : Cl) (H1 : Heap), c.1 = knd G a → va_P D vwCl (ws.set q0 (a, enc cy c)) H1 → va_D (Ab base) (ws.set q0 (a, enc cy c)) → Hp D cy base S0 (va_up G a c) H1 := by
  obtain ⟨L, hL, h14, hP, hD⟩ := h
  have haL : a ∈ L := (hL a).mpr ha
  obtain ⟨k, hk⟩ := va_pl_get (X := []) (f := fun a => enc cy (G a)) haL
  refine ⟨[] ++ va_pl L (fun a => enc cy (G a)), k, hP, hD, hk, fun c H1 hc hP1 hD1 => ?_⟩
  have hkk : ∀ b, knd (va_up G a c) b = knd G b := fun b => by
    unfold knd va_up at *
    by_cases hb : b = a
    · subst hb; simp [hc]
    · simp [hb]
  rw [va_pl_set (X := []) hD haL hk, plc] at hP1 hD1
  refine ⟨L, fun b => by rw [hkk]; exact hL b, fun b hb => ?_, hP1, hD1⟩
  rw [hkk] at hb
  have hne : b ≠ a := fun e => by subst e; omega
  have hu : va_up G a c b = G b := by unfold va_up; rw [if_neg hne]
  rcases h14 b hb with ⟨q1, q2⟩ | q
  · exact Or.inl ⟨q1, by rw [hu]; exact q2⟩
  · exact Or.inr (by rw [hkk]; exact q)
theorem Hp.more {D : va_G} {cy : Nat → ClassId} {base : Nat} {S0 G : GG} {H : Heap} (h : Hp D cy base S0 G H) :
    ∃ ws : va_W, va_P D vwCl ws H ∧ va_D (Ab base) ws ∧
      ∀ (q : Nat) (c : Cl) (H1 : Heap), c.1 < 14 → va_P D vwCl (ws ++ [(q, enc cy c)]) H1 → va_D (Ab base) (ws ++ [(q, enc cy c)]) → knd G q = 99 ∧ Hp D cy base S0 (va_up G q c) H1 := by
  obtain ⟨L, hL, h14, hP, hD⟩ := h
  refine ⟨va_pl L (fun a => enc cy (G a)), hP, hD, fun q c H1 hc hP1 hD1 => ?_⟩
  have hl : (va_pl L (fun a => enc cy (G a)) ++ [(q, enc cy c)])[(va_pl L (fun a => enc cy (G a))).length]? = some (q, enc cy c) := by simp
  have hqA : base ≤ q := hD1.2 _ _ hl
  have hqL : q ∉ L := fun hq => by
    obtain ⟨k, hk⟩ := va_pl_get (X := []) (f := fun a => enc cy (G a)) hq
    rw [List.nil_append] at hk
    have hlt := (List.getElem?_eq_some_iff.mp hk).1
    have hk2 : (va_pl L (fun a => enc cy (G a)) ++ [(q, enc cy c)])[k]? = some (q, enc cy (G q)) := by rw [List.getElem?_append_left hlt]; exact hk
    have := hD1.1 _ _ _ _ hk2 hl rfl
    omega
  have hq99 : knd G q = 99 := by
    have hge : 14 ≤ knd G q := Nat.not_lt.mp fun hlt => hqL ((hL q).mpr hlt)
    rcases h14 q hge with ⟨q1, -⟩ | q
    · omega
    · exact q
  refine ⟨hq99, L ++ [q], fun b => ?_, fun b hb => ?_, ?_, ?_⟩
  · by_cases hb : b = q
    · subst hb
      have : knd (va_up G b c) b = c.1 := by unfold knd va_up; simp
      rw [this]; simp [hc]
    · have : knd (va_up G q c) b = knd G b := by unfold knd va_up; simp [hb]
      rw [this, List.mem_append, List.mem_singleton]
      exact ⟨fun h => h.elim (hL b).mp (fun e => absurd e hb), fun h => Or.inl ((hL b).mpr h)⟩
  · by_cases hbq : b = q
    · subst hbq
      have : knd (va_up G b c) b = c.1 := by unfold knd va_up; simp
      rw [this] at hb; omega
    · have e1 : va_up G q c b = G b := by unfold va_up; rw [if_neg hbq]
      have e2 : knd (va_up G q c) b = knd G b := by unfold knd; rw [e1]
      rw [e2] at hb ⊢
      rw [e1]
      exact h14 b hb
  · rw [← plc, ← va_pl_push hqL]; exact hP1
  · rw [← plc, ← va_pl_push hqL]; exact hD1
