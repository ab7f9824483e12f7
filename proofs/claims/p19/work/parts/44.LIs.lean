abbrev b_LI_isState : ByteArray := prog_1_method_20_code
abbrev y_LI_isState : MethodName := ⟨"LoopInduction", "isState", "(I)Z"⟩
abbrev w_LI_isState : List Cond := .code y_LI_isState b_LI_isState 1 (some .boolean) :: allW
theorem pn_LI_isState : y_LI_isState.cls ≠ "java/lang/invoke/MethodHandle" ∧ y_LI_isState.cls ≠ "java/lang/invoke/VarHandle" ∧ (parseMethodDescriptor y_LI_isState.desc).map (fun d => d.parameters.length) = some 1 := by decide +kernel
theorem pd_LI_isState : y_LI_isState.cls = "LoopInduction" ∧ y_LI_isState.cls ≠ "java/lang/invoke/MethodHandle" ∧ y_LI_isState.cls ≠ "java/lang/invoke/VarHandle" ∧ (parseMethodDescriptor y_LI_isState.desc).map (fun d => d.parameters.length) = some 1 := by decide +kernel
theorem d_LI_isState_0 : decode b_LI_isState 0 = .ok (.iload_n 0, 1) := by decide +kernel
theorem d_LI_isState_1 : decode b_LI_isState 1 = .ok (.ifCond .lt 14, 3) := by decide +kernel
theorem d_LI_isState_4 : decode b_LI_isState 4 = .ok (.iload_n 0, 1) := by decide +kernel
theorem d_LI_isState_5 : decode b_LI_isState 5 = .ok (.sipush 4096, 3) := by decide +kernel
theorem d_LI_isState_8 : decode b_LI_isState 8 = .ok (.if_icmp .ge 7, 3) := by decide +kernel
theorem d_LI_isState_11 : decode b_LI_isState 11 = .ok (.iconst 1, 1) := by decide +kernel
theorem d_LI_isState_12 : decode b_LI_isState 12 = .ok (.goto 4, 3) := by decide +kernel
theorem d_LI_isState_15 : decode b_LI_isState 15 = .ok (.iconst 0, 1) := by decide +kernel
theorem d_LI_isState_16 : decode b_LI_isState 16 = .ok (.ireturn, 1) := by decide +kernel
set_option maxHeartbeats 4000000 in
set_option maxRecDepth 100000 in
theorem c_LI_isState (l : Launch) (dC : Nat → ClassId) (dI : Nat → Nat → Nat) (cI cB cZ : ClassId) (adK adV : Nat → Nat) (sz : Nat) (x0 : Int32) (post : Int32 → Prop) (h : wp_LI_isState x0 post) : Met l y_LI_isState w_LI_isState ({ frames := 0, cells := 0, slots := 0, locals := 0 }) (pc_ (dC, dI) [(cI, .int), (cB, .byte), (cZ, .boolean)] [] sz adK adV [.int x0]) (va_Qi (fun (r : Int32) (u : Unit) => post r ) (fun (u : Unit) t => bw_ (dC, dI) [(cI, .int), (cB, .byte), (cZ, .boolean)] (va_A [] sz) [] t) (va_A [] sz)) 0 0 (va_A [] sz) := by
  refine Met.ofW (cc := b_LI_isState) (maxL := 1) (ret := (some .boolean)) (by decide) rfl ?_
  intro p e s m args below meth c s₁ B hml hv
  obtain ⟨rfl, hsz, hP, hK, hD0, hN, hT⟩ := hv
  have hx := B.exec
  have hb := B.bytes
  have hr := B.returns
  have hts := atoms_spec (ws := w_LI_isState) B.pre
  have hown : s.vm.findClass "LoopInduction" = some m.cls := findClass_of_methodNamed B.named
  have hlocks := B.notSynchronized
  subst hsz
  have hD := hD0.self (sz := s.heap.size)
  generalize hAe : va_A [] s.heap.size = A at hD hT ⊢
  have hA : ∀ q : Nat, s.heap.size ≤ q → A q := fun q h => by rw [← hAe]; exact Or.inr h
  have hS : va_S A s.heap s.heap [] := va_S.rf
  generalize hQ : MQ below _ _ s 0 0 _ = QQ
  have hl := lv_entry ([.int x0]) (n := 1) (Nat.le_of_ble_eq_true rfl)
  rw [lg_entry_eq]
  generalize (lg_sl ([.int x0]) ++ List.replicate (1 - (lg_sl ([.int x0])).length) Slot.unset).toArray = ls at hl ⊢
  have hl : lv_has ls 1 [(0, .int x0)] := hl
  refine lv_iload_n hx hb d_LI_isState_0 rfl (lv_at hl 0 rfl) ?_
  refine lv_if_lt (tgt := 15) hx hb d_LI_isState_1 (by decide) (fun c_1 => ?_) (fun c_1 => ?_)
  · have h := And.left h c_1
    refine lv_iconst (v := 0) hx hb d_LI_isState_15 (by decide) ?_
    rw [← hQ]
    have hP9 := hP
    have hD9 := hD
    exact W.zret (v := 0) hx hb hr rfl (fun t ht hW => ⟨⟨0, (), rfl, h, by rw [ht]; exact hP9, va_K.moved hW.alike hK, hD9⟩, hS.F ht⟩) hS.2.2 d_LI_isState_16
  · have h := And.right h c_1
    refine lv_iload_n hx hb d_LI_isState_4 rfl (lv_at hl 0 rfl) ?_
    refine lv_sipush (v := 4096) hx hb d_LI_isState_5 (by decide) ?_
    refine lv_icmp_ge (tgt := 15) hx hb d_LI_isState_8 (by decide) (fun c_8 => ?_) (fun c_8 => ?_)
    · have h := And.left h c_8
      refine lv_iconst (v := 0) hx hb d_LI_isState_15 (by decide) ?_
      rw [← hQ]
      have hP9 := hP
      have hD9 := hD
      exact W.zret (v := 0) hx hb hr rfl (fun t ht hW => ⟨⟨0, (), rfl, h, by rw [ht]; exact hP9, va_K.moved hW.alike hK, hD9⟩, hS.F ht⟩) hS.2.2 d_LI_isState_16
    · have h := And.right h c_8
      refine lv_iconst (v := 1) hx hb d_LI_isState_11 (by decide) ?_
      refine lv_goto (tgt := 16) hx hb d_LI_isState_12 (by decide) ?_
      rw [← hQ]
      have hP9 := hP
      have hD9 := hD
      exact W.zret (v := 1) hx hb hr rfl (fun t ht hW => ⟨⟨1, (), rfl, h, by rw [ht]; exact hP9, va_K.moved hW.alike hK, hD9⟩, hS.F ht⟩) hS.2.2 d_LI_isState_16
