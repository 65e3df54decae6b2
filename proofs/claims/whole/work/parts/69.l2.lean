theorem PcN.blind (D : va_G) (cy : Nat → ClassId) (base : Nat) (S0 : GG) (av : List AV) (G : GG) : FrameBlind (PcN D cy base S0 av G) := by
  intro a U g mk h
  exact ⟨PcA.blind D cy base S0 av G a U g mk h.1, h.2⟩
def MW (y : MethodName) (bytes : ByteArray) (maxL : Nat) (ret : Option FieldType) (hh : List (Nat × Nat × Nat × Nat)) (na : Nat) : Prop := Cond.codeWith y bytes maxL ret hh ∈ lwG ∧ Cond.initialized y.cls ∈ lwG ∧ Cond.static y ∈ lwG ∧ (y.cls ≠ "java/lang/invoke/MethodHandle" ∧ y.cls ≠ "java/lang/invoke/VarHandle") ∧ (parseMethodDescriptor y.desc).map (fun d => d.parameters.length) = some na
section JX
variable {p : Program} {l : Launch} {e : Env} {R : Room} {s : State} {m : MethodId} {args : Array Value} {below : List Frame} {meth : Method} {c : Code} {nL : Nat} {D : va_G} {cy : Nat → ClassId} {base : Nat} {S0 : GG} {Q : State → Prop}
variable {cc : ByteArray} {pc : Nat} {ls : List (Option AV)} {st : List AV} {G : GG} {k n : Nat}
variable {y : MethodName} {bytes : ByteArray} {maxL : Nat} {ret : Option FieldType} {hh : List (Nat × Nat × Nat × Nat)} {rm : Room} {T : TT} {na idx : Nat}
theorem j_callSW (C : Cx p s m args c cc nL RL D cy base) (hWd : Wd D cy base s s.heap) (hNc : Nc s) (hM : CMW l y bytes maxL ret hh rm T) (hI : MW y bytes maxL ret hh na) (hl : Cond.methodLink RL idx y ∈ lwG) (As : List AV) (hna : As.length = na)
    (hd : decode cc pc = .ok (.invokestatic idx, 3)) (hR : rm.frames + 1 ≤ R.frames ∧ 8 + (maxL + 11) + rm.locals ≤ R.locals) (hst : (st.map fun v => (tV v).category).sum ≤ 8) (hc : k + rm.cells ≤ R.cells ∧ n + rm.slots ≤ R.slots)
    (hT : T As G (fun r G' => JJ p l e R s m args below meth c nL D cy base S0 Q (pc + 3) ls (r.toList ++ st) G' (k + rm.cells) (n + rm.slots)) (fun _ _ => False)) : JJ p l e R s m args below meth c nL D cy base S0 Q pc ls (As.reverse ++ st) G k n := by
  intro H locs la h1 h2 h3 h4
  have hmet := metOf (hM D cy base S0 As G _ _ hT) (fun E st t h => by obtain ⟨⟨G', h1, -⟩, -⟩ := h; exact h1)
  have hgood : GoodIn lwG (va_wsS RL idx y (Cond.codeWith y bytes maxL ret hh :: lwG)) := fun w hw => by
    have hm : w ∈ lwG := by
      unfold va_wsS at hw
      simp only [List.cons_append, List.nil_append, List.mem_cons] at hw
      rcases hw with rfl | rfl | rfl | rfl | hw
      · first | exact hl | exact hI.2.2.1 | exact hI.2.1 | exact hI.1
      · first | exact hl | exact hI.2.2.1 | exact hI.2.1 | exact hI.1
      · first | exact hl | exact hI.2.2.1 | exact hI.2.1 | exact hI.1
      · first | exact hl | exact hI.2.2.1 | exact hI.2.1 | exact hI.1
      · exact hw
    exact ⟨hm, lwG_good _ hm⟩
  have hr := vx_runSW (p := p) (e := e) (below := below) (meth := meth) (locs := locs) (cells := k) (slots := n) (As := As.map tV) (rest := st.map tV) (g := F0 m pc la ((As.reverse ++ st).map tV)) (H := H)
    ⟨C.1, C.2.1, C.2.2.1, C.2.2.2.1, C.2.2.2.2.1⟩ hmet (vx_cwSW (R := R) na C.2.2.2.2.1 hgood rfl rfl rfl ⟨hI.2.2.2.1.1, hI.2.2.2.1.2, hI.2.2.2.2⟩ hR)
    ⟨PcN.blind _ _ _ _ _ _, fun U hU hW => ⟨pre_A C hWd h3 h2 U hU hW, va_Nc.moved hW.alike hNc.1, va_Nc.moved hW.alike hNc.2⟩⟩ rfl (by rw [List.length_map]; exact hna) h4.1 (by simp) (st_room hst) hd hc
  exact j_run hr h3 h1 h4 (fun r G' h => h)
end JX
theorem mw_L_link : MW yL_link cL_link 6 (some .int) [(0, 9, 12, 13)] 5 := ⟨by decide +kernel, by decide +kernel, by decide +kernel, by decide +kernel, by decide +kernel⟩
theorem mw_L_depth : MW yL_depth cL_depth 5 (some .int) [(0, 10, 13, 13), (0, 10, 17, 19)] 4 := ⟨by decide +kernel, by decide +kernel, by decide +kernel, by decide +kernel, by decide +kernel⟩
theorem mw_L_weight : MW yL_weight cL_weight 5 (some .int) [(0, 10, 13, 13)] 4 := ⟨by decide +kernel, by decide +kernel, by decide +kernel, by decide +kernel, by decide +kernel⟩
theorem mw_L_arbiter : MW yL_arbiter cL_arbiter 4 (some .int) [(0, 9, 12, 13)] 3 := ⟨by decide +kernel, by decide +kernel, by decide +kernel, by decide +kernel, by decide +kernel⟩
theorem mw_L_mask : MW yL_mask cL_mask 4 (some .int) [(0, 9, 12, 31)] 3 := ⟨by decide +kernel, by decide +kernel, by decide +kernel, by decide +kernel, by decide +kernel⟩
theorem mw_L_feed : MW yL_feed cL_feed 8 (some .int) [(0, 13, 16, 13), (0, 13, 20, 31)] 5 := ⟨by decide +kernel, by decide +kernel, by decide +kernel, by decide +kernel, by decide +kernel⟩
theorem mw_L_offer : MW yL_offer cL_offer 4 (some .int) [(0, 9, 12, 13), (0, 9, 15, 31)] 3 := ⟨by decide +kernel, by decide +kernel, by decide +kernel, by decide +kernel, by decide +kernel⟩
theorem mw_L_run : MW yL_run cL_run 4 (some .int) [(0, 9, 12, 13)] 3 := ⟨by decide +kernel, by decide +kernel, by decide +kernel, by decide +kernel, by decide +kernel⟩
theorem mw_L_take : MW yL_take cL_take 4 (some .int) [(0, 9, 12, 13)] 3 := ⟨by decide +kernel, by decide +kernel, by decide +kernel, by decide +kernel, by decide +kernel⟩
