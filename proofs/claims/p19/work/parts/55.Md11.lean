abbrev b_Md_two : ByteArray := prog_13_method_34_code
abbrev y_Md_two : MethodName := ⟨"LoopInductionModel", "two", "(III)I"⟩
abbrev w_Md_two : List Cond := .code y_Md_two b_Md_two 3 (some .int) :: allW
theorem pn_Md_two : y_Md_two.cls ≠ "java/lang/invoke/MethodHandle" ∧ y_Md_two.cls ≠ "java/lang/invoke/VarHandle" ∧ (parseMethodDescriptor y_Md_two.desc).map (fun d => d.parameters.length) = some 3 := by decide +kernel
theorem pd_Md_two : y_Md_two.cls = "LoopInductionModel" ∧ y_Md_two.cls ≠ "java/lang/invoke/MethodHandle" ∧ y_Md_two.cls ≠ "java/lang/invoke/VarHandle" ∧ (parseMethodDescriptor y_Md_two.desc).map (fun d => d.parameters.length) = some 3 := by decide +kernel
theorem d_Md_two_0 : decode b_Md_two 0 = .ok (.iload_n 0, 1) := by decide +kernel
theorem d_Md_two_1 : decode b_Md_two 1 = .ok (.lookupswitch 122 #[(5, 67), (6, 71), (35, 97), (43, 108), (45, 115), (60, 75), (61, 86)], 67) := by decide +kernel
theorem d_Md_two_68 : decode b_Md_two 68 = .ok (.iload_n 1, 1) := by decide +kernel
theorem d_Md_two_69 : decode b_Md_two 69 = .ok (.iload_n 2, 1) := by decide +kernel
theorem d_Md_two_70 : decode b_Md_two 70 = .ok (.iand, 1) := by decide +kernel
theorem d_Md_two_71 : decode b_Md_two 71 = .ok (.ireturn, 1) := by decide +kernel
theorem d_Md_two_72 : decode b_Md_two 72 = .ok (.iload_n 1, 1) := by decide +kernel
theorem d_Md_two_73 : decode b_Md_two 73 = .ok (.iload_n 2, 1) := by decide +kernel
theorem d_Md_two_74 : decode b_Md_two 74 = .ok (.ior, 1) := by decide +kernel
theorem d_Md_two_75 : decode b_Md_two 75 = .ok (.ireturn, 1) := by decide +kernel
theorem d_Md_two_76 : decode b_Md_two 76 = .ok (.iload_n 1, 1) := by decide +kernel
theorem d_Md_two_77 : decode b_Md_two 77 = .ok (.iload_n 2, 1) := by decide +kernel
theorem d_Md_two_78 : decode b_Md_two 78 = .ok (.if_icmp .ge 7, 3) := by decide +kernel
theorem d_Md_two_81 : decode b_Md_two 81 = .ok (.iconst 1, 1) := by decide +kernel
theorem d_Md_two_82 : decode b_Md_two 82 = .ok (.goto 4, 3) := by decide +kernel
theorem d_Md_two_85 : decode b_Md_two 85 = .ok (.iconst 0, 1) := by decide +kernel
theorem d_Md_two_86 : decode b_Md_two 86 = .ok (.ireturn, 1) := by decide +kernel
theorem d_Md_two_87 : decode b_Md_two 87 = .ok (.iload_n 1, 1) := by decide +kernel
theorem d_Md_two_88 : decode b_Md_two 88 = .ok (.iload_n 2, 1) := by decide +kernel
theorem d_Md_two_89 : decode b_Md_two 89 = .ok (.if_icmp .ne 7, 3) := by decide +kernel
theorem d_Md_two_92 : decode b_Md_two 92 = .ok (.iconst 1, 1) := by decide +kernel
theorem d_Md_two_93 : decode b_Md_two 93 = .ok (.goto 4, 3) := by decide +kernel
theorem d_Md_two_96 : decode b_Md_two 96 = .ok (.iconst 0, 1) := by decide +kernel
theorem d_Md_two_97 : decode b_Md_two 97 = .ok (.ireturn, 1) := by decide +kernel
theorem d_Md_two_98 : decode b_Md_two 98 = .ok (.iload_n 1, 1) := by decide +kernel
theorem d_Md_two_99 : decode b_Md_two 99 = .ok (.iload_n 2, 1) := by decide +kernel
theorem d_Md_two_100 : decode b_Md_two 100 = .ok (.if_icmp .eq 7, 3) := by decide +kernel
theorem d_Md_two_103 : decode b_Md_two 103 = .ok (.iconst 1, 1) := by decide +kernel
theorem d_Md_two_104 : decode b_Md_two 104 = .ok (.goto 4, 3) := by decide +kernel
theorem d_Md_two_107 : decode b_Md_two 107 = .ok (.iconst 0, 1) := by decide +kernel
theorem d_Md_two_108 : decode b_Md_two 108 = .ok (.ireturn, 1) := by decide +kernel
theorem d_Md_two_109 : decode b_Md_two 109 = .ok (.iload_n 1, 1) := by decide +kernel
theorem d_Md_two_110 : decode b_Md_two 110 = .ok (.iload_n 2, 1) := by decide +kernel
theorem d_Md_two_111 : decode b_Md_two 111 = .ok (.iadd, 1) := by decide +kernel
theorem d_Md_two_112 : decode b_Md_two 112 = .ok (.bipush 15, 2) := by decide +kernel
theorem d_Md_two_114 : decode b_Md_two 114 = .ok (.iand, 1) := by decide +kernel
theorem d_Md_two_115 : decode b_Md_two 115 = .ok (.ireturn, 1) := by decide +kernel
theorem d_Md_two_116 : decode b_Md_two 116 = .ok (.iload_n 1, 1) := by decide +kernel
theorem d_Md_two_117 : decode b_Md_two 117 = .ok (.iload_n 2, 1) := by decide +kernel
theorem d_Md_two_118 : decode b_Md_two 118 = .ok (.isub, 1) := by decide +kernel
theorem d_Md_two_119 : decode b_Md_two 119 = .ok (.bipush 15, 2) := by decide +kernel
theorem d_Md_two_121 : decode b_Md_two 121 = .ok (.iand, 1) := by decide +kernel
theorem d_Md_two_122 : decode b_Md_two 122 = .ok (.ireturn, 1) := by decide +kernel
theorem d_Md_two_123 : decode b_Md_two 123 = .ok (.iload_n 1, 1) := by decide +kernel
theorem d_Md_two_124 : decode b_Md_two 124 = .ok (.iload_n 2, 1) := by decide +kernel
theorem d_Md_two_125 : decode b_Md_two 125 = .ok (.imul, 1) := by decide +kernel
theorem d_Md_two_126 : decode b_Md_two 126 = .ok (.bipush 15, 2) := by decide +kernel
theorem d_Md_two_128 : decode b_Md_two 128 = .ok (.iand, 1) := by decide +kernel
theorem d_Md_two_129 : decode b_Md_two 129 = .ok (.ireturn, 1) := by decide +kernel
set_option maxHeartbeats 4000000 in
set_option maxRecDepth 100000 in
theorem c_Md_two (l : Launch) (dC : Nat → ClassId) (dI : Nat → Nat → Nat) (cI cB cZ : ClassId) (adK adV : Nat → Nat) (sz : Nat) (x0 : Int32) (x1 : Int32) (x2 : Int32) (post : Int32 → Prop) (h : wp_Md_two x0 x1 x2 post) : Met l y_Md_two w_Md_two ({ frames := 0, cells := 0, slots := 0, locals := 0 }) (pc_ (dC, dI) [(cI, .int), (cB, .byte), (cZ, .boolean)] [] sz adK adV [.int x0, .int x1, .int x2]) (va_Qi (fun (r : Int32) (u : Unit) => post r ) (fun (u : Unit) t => bw_ (dC, dI) [(cI, .int), (cB, .byte), (cZ, .boolean)] (va_A [] sz) [] t) (va_A [] sz)) 0 0 (va_A [] sz) := by
  refine Met.ofW (cc := b_Md_two) (maxL := 3) (ret := (some .int)) (by decide) rfl ?_
  intro p e s m args below meth c s₁ B hml hv
  obtain ⟨rfl, hsz, hP, hK, hD0, hN, hT⟩ := hv
  have hx := B.exec
  have hb := B.bytes
  have hr := B.returns
  have hts := atoms_spec (ws := w_Md_two) B.pre
  have hown : s.vm.findClass "LoopInductionModel" = some m.cls := findClass_of_methodNamed B.named
  have hlocks := B.notSynchronized
  subst hsz
  have hD := hD0.self (sz := s.heap.size)
  generalize hAe : va_A [] s.heap.size = A at hD hT ⊢
  have hA : ∀ q : Nat, s.heap.size ≤ q → A q := fun q h => by rw [← hAe]; exact Or.inr h
  have hS : va_S A s.heap s.heap [] := va_S.rf
  generalize hQ : MQ below _ _ s 0 0 _ = QQ
  have hl := lv_entry ([.int x0, .int x1, .int x2]) (n := 3) (Nat.le_of_ble_eq_true rfl)
  rw [lg_entry_eq]
  generalize (lg_sl ([.int x0, .int x1, .int x2]) ++ List.replicate (3 - (lg_sl ([.int x0, .int x1, .int x2])).length) Slot.unset).toArray = ls at hl ⊢
  have hl : lv_has ls 3 [(0, .int x0), (1, .int x1), (2, .int x2)] := hl
  refine lv_iload_n hx hb d_Md_two_0 rfl (lv_at hl 0 rfl) ?_
  rcases Classical.em ((x0 : Int32) = 5) with e_1_0 | e_1_0
  · have h := h.1 e_1_0
    refine lv_lookup (off := 67) (tgt := 68) hx hb d_Md_two_1 (by decide) (by rw [e_1_0]; rfl) (by decide) ?_
    refine lv_iload_n hx hb d_Md_two_68 rfl (lv_at hl 1 rfl) ?_
    refine lv_iload_n hx hb d_Md_two_69 rfl (lv_at hl 2 rfl) ?_
    refine lv_iand hx hb d_Md_two_70 ?_
    rw [← hQ]
    have hP9 := hP
    have hD9 := hD
    exact W.iret (v := x1 &&& x2) hx hb hr (fun t ht hW => ⟨⟨(x1 &&& x2), (), rfl, h, by rw [ht]; exact hP9, va_K.moved hW.alike hK, hD9⟩, hS.F ht⟩) hS.2.2 d_Md_two_71
  rcases Classical.em ((x0 : Int32) = 6) with e_1_1 | e_1_1
  · have h := h.2.1 e_1_1
    refine lv_lookup (off := 71) (tgt := 72) hx hb d_Md_two_1 (by decide) (by rw [lv_osw e_1_0 (a := 5) (by decide)]; rw [e_1_1]; rfl) (by decide) ?_
    refine lv_iload_n hx hb d_Md_two_72 rfl (lv_at hl 1 rfl) ?_
    refine lv_iload_n hx hb d_Md_two_73 rfl (lv_at hl 2 rfl) ?_
    refine lv_ior hx hb d_Md_two_74 ?_
    rw [← hQ]
    have hP9 := hP
    have hD9 := hD
    exact W.iret (v := x1 ||| x2) hx hb hr (fun t ht hW => ⟨⟨(x1 ||| x2), (), rfl, h, by rw [ht]; exact hP9, va_K.moved hW.alike hK, hD9⟩, hS.F ht⟩) hS.2.2 d_Md_two_75
  rcases Classical.em ((x0 : Int32) = 35) with e_1_2 | e_1_2
  · have h := h.2.2.1 e_1_2
    refine lv_lookup (off := 97) (tgt := 98) hx hb d_Md_two_1 (by decide) (by rw [lv_osw e_1_0 (a := 5) (by decide)]; rw [lv_osw e_1_1 (a := 6) (by decide)]; rw [e_1_2]; rfl) (by decide) ?_
    refine lv_iload_n hx hb d_Md_two_98 rfl (lv_at hl 1 rfl) ?_
    refine lv_iload_n hx hb d_Md_two_99 rfl (lv_at hl 2 rfl) ?_
    refine lv_icmp_eq (tgt := 107) hx hb d_Md_two_100 (by decide) (fun c_100 => ?_) (fun c_100 => ?_)
    · have h := And.left h c_100
      refine lv_iconst (v := 0) hx hb d_Md_two_107 (by decide) ?_
      rw [← hQ]
      have hP9 := hP
      have hD9 := hD
      exact W.iret (v := 0) hx hb hr (fun t ht hW => ⟨⟨0, (), rfl, h, by rw [ht]; exact hP9, va_K.moved hW.alike hK, hD9⟩, hS.F ht⟩) hS.2.2 d_Md_two_108
    · have h := And.right h c_100
      refine lv_iconst (v := 1) hx hb d_Md_two_103 (by decide) ?_
      refine lv_goto (tgt := 108) hx hb d_Md_two_104 (by decide) ?_
      rw [← hQ]
      have hP9 := hP
      have hD9 := hD
      exact W.iret (v := 1) hx hb hr (fun t ht hW => ⟨⟨1, (), rfl, h, by rw [ht]; exact hP9, va_K.moved hW.alike hK, hD9⟩, hS.F ht⟩) hS.2.2 d_Md_two_108
  rcases Classical.em ((x0 : Int32) = 43) with e_1_3 | e_1_3
  · have h := h.2.2.2.1 e_1_3
    refine lv_lookup (off := 108) (tgt := 109) hx hb d_Md_two_1 (by decide) (by rw [lv_osw e_1_0 (a := 5) (by decide)]; rw [lv_osw e_1_1 (a := 6) (by decide)]; rw [lv_osw e_1_2 (a := 35) (by decide)]; rw [e_1_3]; rfl) (by decide) ?_
    refine lv_iload_n hx hb d_Md_two_109 rfl (lv_at hl 1 rfl) ?_
    refine lv_iload_n hx hb d_Md_two_110 rfl (lv_at hl 2 rfl) ?_
    refine lv_iadd hx hb d_Md_two_111 ?_
    refine lv_bipush (v := 15) hx hb d_Md_two_112 (by decide) ?_
    refine lv_iand hx hb d_Md_two_114 ?_
    rw [← hQ]
    have hP9 := hP
    have hD9 := hD
    exact W.iret (v := (x1 + x2) &&& 15) hx hb hr (fun t ht hW => ⟨⟨((x1 + x2) &&& 15), (), rfl, h, by rw [ht]; exact hP9, va_K.moved hW.alike hK, hD9⟩, hS.F ht⟩) hS.2.2 d_Md_two_115
  rcases Classical.em ((x0 : Int32) = 45) with e_1_4 | e_1_4
  · have h := h.2.2.2.2.1 e_1_4
    refine lv_lookup (off := 115) (tgt := 116) hx hb d_Md_two_1 (by decide) (by rw [lv_osw e_1_0 (a := 5) (by decide)]; rw [lv_osw e_1_1 (a := 6) (by decide)]; rw [lv_osw e_1_2 (a := 35) (by decide)]; rw [lv_osw e_1_3 (a := 43) (by decide)]; rw [e_1_4]; rfl) (by decide) ?_
    refine lv_iload_n hx hb d_Md_two_116 rfl (lv_at hl 1 rfl) ?_
    refine lv_iload_n hx hb d_Md_two_117 rfl (lv_at hl 2 rfl) ?_
    refine lv_isub hx hb d_Md_two_118 ?_
    refine lv_bipush (v := 15) hx hb d_Md_two_119 (by decide) ?_
    refine lv_iand hx hb d_Md_two_121 ?_
    rw [← hQ]
    have hP9 := hP
    have hD9 := hD
    exact W.iret (v := (x1 - x2) &&& 15) hx hb hr (fun t ht hW => ⟨⟨((x1 - x2) &&& 15), (), rfl, h, by rw [ht]; exact hP9, va_K.moved hW.alike hK, hD9⟩, hS.F ht⟩) hS.2.2 d_Md_two_122
  rcases Classical.em ((x0 : Int32) = 60) with e_1_5 | e_1_5
  · have h := h.2.2.2.2.2.1 e_1_5
    refine lv_lookup (off := 75) (tgt := 76) hx hb d_Md_two_1 (by decide) (by rw [lv_osw e_1_0 (a := 5) (by decide)]; rw [lv_osw e_1_1 (a := 6) (by decide)]; rw [lv_osw e_1_2 (a := 35) (by decide)]; rw [lv_osw e_1_3 (a := 43) (by decide)]; rw [lv_osw e_1_4 (a := 45) (by decide)]; rw [e_1_5]; rfl) (by decide) ?_
    refine lv_iload_n hx hb d_Md_two_76 rfl (lv_at hl 1 rfl) ?_
    refine lv_iload_n hx hb d_Md_two_77 rfl (lv_at hl 2 rfl) ?_
    refine lv_icmp_ge (tgt := 85) hx hb d_Md_two_78 (by decide) (fun c_78 => ?_) (fun c_78 => ?_)
    · have h := And.left h c_78
      refine lv_iconst (v := 0) hx hb d_Md_two_85 (by decide) ?_
      rw [← hQ]
      have hP9 := hP
      have hD9 := hD
      exact W.iret (v := 0) hx hb hr (fun t ht hW => ⟨⟨0, (), rfl, h, by rw [ht]; exact hP9, va_K.moved hW.alike hK, hD9⟩, hS.F ht⟩) hS.2.2 d_Md_two_86
    · have h := And.right h c_78
      refine lv_iconst (v := 1) hx hb d_Md_two_81 (by decide) ?_
      refine lv_goto (tgt := 86) hx hb d_Md_two_82 (by decide) ?_
      rw [← hQ]
      have hP9 := hP
      have hD9 := hD
      exact W.iret (v := 1) hx hb hr (fun t ht hW => ⟨⟨1, (), rfl, h, by rw [ht]; exact hP9, va_K.moved hW.alike hK, hD9⟩, hS.F ht⟩) hS.2.2 d_Md_two_86
  rcases Classical.em ((x0 : Int32) = 61) with e_1_6 | e_1_6
  · have h := h.2.2.2.2.2.2.1 e_1_6
    refine lv_lookup (off := 86) (tgt := 87) hx hb d_Md_two_1 (by decide) (by rw [lv_osw e_1_0 (a := 5) (by decide)]; rw [lv_osw e_1_1 (a := 6) (by decide)]; rw [lv_osw e_1_2 (a := 35) (by decide)]; rw [lv_osw e_1_3 (a := 43) (by decide)]; rw [lv_osw e_1_4 (a := 45) (by decide)]; rw [lv_osw e_1_5 (a := 60) (by decide)]; rw [e_1_6]; rfl) (by decide) ?_
    refine lv_iload_n hx hb d_Md_two_87 rfl (lv_at hl 1 rfl) ?_
    refine lv_iload_n hx hb d_Md_two_88 rfl (lv_at hl 2 rfl) ?_
    refine lv_icmp_ne (tgt := 96) hx hb d_Md_two_89 (by decide) (fun c_89 => ?_) (fun c_89 => ?_)
    · have h := And.left h c_89
      refine lv_iconst (v := 0) hx hb d_Md_two_96 (by decide) ?_
      rw [← hQ]
      have hP9 := hP
      have hD9 := hD
      exact W.iret (v := 0) hx hb hr (fun t ht hW => ⟨⟨0, (), rfl, h, by rw [ht]; exact hP9, va_K.moved hW.alike hK, hD9⟩, hS.F ht⟩) hS.2.2 d_Md_two_97
    · have h := And.right h c_89
      refine lv_iconst (v := 1) hx hb d_Md_two_92 (by decide) ?_
      refine lv_goto (tgt := 97) hx hb d_Md_two_93 (by decide) ?_
      rw [← hQ]
      have hP9 := hP
      have hD9 := hD
      exact W.iret (v := 1) hx hb hr (fun t ht hW => ⟨⟨1, (), rfl, h, by rw [ht]; exact hP9, va_K.moved hW.alike hK, hD9⟩, hS.F ht⟩) hS.2.2 d_Md_two_97
  have h := h.2.2.2.2.2.2.2 e_1_0 e_1_1 e_1_2 e_1_3 e_1_4 e_1_5 e_1_6
  refine lv_lookup (off := 122) (tgt := 123) hx hb d_Md_two_1 (by decide) (by rw [lv_osw e_1_0 (a := 5) (by decide)]; rw [lv_osw e_1_1 (a := 6) (by decide)]; rw [lv_osw e_1_2 (a := 35) (by decide)]; rw [lv_osw e_1_3 (a := 43) (by decide)]; rw [lv_osw e_1_4 (a := 45) (by decide)]; rw [lv_osw e_1_5 (a := 60) (by decide)]; rw [lv_osw e_1_6 (a := 61) (by decide)]; rfl) (by decide) ?_
  refine lv_iload_n hx hb d_Md_two_123 rfl (lv_at hl 1 rfl) ?_
  refine lv_iload_n hx hb d_Md_two_124 rfl (lv_at hl 2 rfl) ?_
  refine lv_imul hx hb d_Md_two_125 ?_
  refine lv_bipush (v := 15) hx hb d_Md_two_126 (by decide) ?_
  refine lv_iand hx hb d_Md_two_128 ?_
  rw [← hQ]
  have hP9 := hP
  have hD9 := hD
  exact W.iret (v := (x1 * x2) &&& 15) hx hb hr (fun t ht hW => ⟨⟨((x1 * x2) &&& 15), (), rfl, h, by rw [ht]; exact hP9, va_K.moved hW.alike hK, hD9⟩, hS.F ht⟩) hS.2.2 d_Md_two_129
