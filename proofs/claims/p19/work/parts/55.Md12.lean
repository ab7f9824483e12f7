abbrev b_Md_work : ByteArray := prog_13_method_33_code
abbrev y_Md_work : MethodName := ⟨"LoopInductionModel", "work", "(II)I"⟩
abbrev w_Md_work : List Cond := .code y_Md_work b_Md_work 8 (some .int) :: allW
theorem pn_Md_work : y_Md_work.cls ≠ "java/lang/invoke/MethodHandle" ∧ y_Md_work.cls ≠ "java/lang/invoke/VarHandle" ∧ (parseMethodDescriptor y_Md_work.desc).map (fun d => d.parameters.length) = some 2 := by decide +kernel
theorem pd_Md_work : y_Md_work.cls = "LoopInductionModel" ∧ y_Md_work.cls ≠ "java/lang/invoke/MethodHandle" ∧ y_Md_work.cls ≠ "java/lang/invoke/VarHandle" ∧ (parseMethodDescriptor y_Md_work.desc).map (fun d => d.parameters.length) = some 2 := by decide +kernel
theorem d_Md_work_0 : decode b_Md_work 0 = .ok (.iconst 0, 1) := by decide +kernel
theorem d_Md_work_1 : decode b_Md_work 1 = .ok (.istore_n 3, 1) := by decide +kernel
theorem d_Md_work_2 : decode b_Md_work 2 = .ok (.iload_n 1, 1) := by decide +kernel
theorem d_Md_work_3 : decode b_Md_work 3 = .ok (.istore 4, 2) := by decide +kernel
theorem d_Md_work_5 : decode b_Md_work 5 = .ok (.aload_n 0, 1) := by decide +kernel
theorem d_Md_work_6 : decode b_Md_work 6 = .ok (.getfield 17, 3) := by decide +kernel
theorem d_Md_work_9 : decode b_Md_work 9 = .ok (.iload 4, 2) := by decide +kernel
theorem d_Md_work_11 : decode b_Md_work 11 = .ok (.iaload, 1) := by decide +kernel
theorem d_Md_work_12 : decode b_Md_work 12 = .ok (.bipush 7, 2) := by decide +kernel
theorem d_Md_work_14 : decode b_Md_work 14 = .ok (.if_icmp .eq 163, 3) := by decide +kernel
theorem d_Md_work_17 : decode b_Md_work 17 = .ok (.aload_n 0, 1) := by decide +kernel
theorem d_Md_work_18 : decode b_Md_work 18 = .ok (.getfield 17, 3) := by decide +kernel
theorem d_Md_work_21 : decode b_Md_work 21 = .ok (.iload 4, 2) := by decide +kernel
theorem d_Md_work_23 : decode b_Md_work 23 = .ok (.iaload, 1) := by decide +kernel
theorem d_Md_work_24 : decode b_Md_work 24 = .ok (.istore 5, 2) := by decide +kernel
theorem d_Md_work_26 : decode b_Md_work 26 = .ok (.iload 5, 2) := by decide +kernel
theorem d_Md_work_28 : decode b_Md_work 28 = .ok (.iconst 1, 1) := by decide +kernel
theorem d_Md_work_29 : decode b_Md_work 29 = .ok (.if_icmp .eq 9, 3) := by decide +kernel
theorem d_Md_work_32 : decode b_Md_work 32 = .ok (.iload 5, 2) := by decide +kernel
theorem d_Md_work_34 : decode b_Md_work 34 = .ok (.iconst 2, 1) := by decide +kernel
theorem d_Md_work_35 : decode b_Md_work 35 = .ok (.if_icmp .ne 42, 3) := by decide +kernel
theorem d_Md_work_38 : decode b_Md_work 38 = .ok (.aload_n 0, 1) := by decide +kernel
theorem d_Md_work_39 : decode b_Md_work 39 = .ok (.getfield 60, 3) := by decide +kernel
theorem d_Md_work_42 : decode b_Md_work 42 = .ok (.iload_n 3, 1) := by decide +kernel
theorem d_Md_work_43 : decode b_Md_work 43 = .ok (.iload 5, 2) := by decide +kernel
theorem d_Md_work_45 : decode b_Md_work 45 = .ok (.iconst 1, 1) := by decide +kernel
theorem d_Md_work_46 : decode b_Md_work 46 = .ok (.if_icmp .ne 13, 3) := by decide +kernel
theorem d_Md_work_49 : decode b_Md_work 49 = .ok (.aload_n 0, 1) := by decide +kernel
theorem d_Md_work_50 : decode b_Md_work 50 = .ok (.getfield 21, 3) := by decide +kernel
theorem d_Md_work_53 : decode b_Md_work 53 = .ok (.iload 4, 2) := by decide +kernel
theorem d_Md_work_55 : decode b_Md_work 55 = .ok (.iaload, 1) := by decide +kernel
theorem d_Md_work_56 : decode b_Md_work 56 = .ok (.goto 14, 3) := by decide +kernel
theorem d_Md_work_59 : decode b_Md_work 59 = .ok (.iload_n 2, 1) := by decide +kernel
theorem d_Md_work_60 : decode b_Md_work 60 = .ok (.aload_n 0, 1) := by decide +kernel
theorem d_Md_work_61 : decode b_Md_work 61 = .ok (.getfield 21, 3) := by decide +kernel
theorem d_Md_work_64 : decode b_Md_work 64 = .ok (.iload 4, 2) := by decide +kernel
theorem d_Md_work_66 : decode b_Md_work 66 = .ok (.iaload, 1) := by decide +kernel
theorem d_Md_work_67 : decode b_Md_work 67 = .ok (.invokestatic 244, 3) := by decide +kernel
theorem d_Md_work_70 : decode b_Md_work 70 = .ok (.iastore, 1) := by decide +kernel
theorem d_Md_work_71 : decode b_Md_work 71 = .ok (.iinc 3 1, 3) := by decide +kernel
theorem d_Md_work_74 : decode b_Md_work 74 = .ok (.goto 97, 3) := by decide +kernel
theorem d_Md_work_77 : decode b_Md_work 77 = .ok (.iload 5, 2) := by decide +kernel
theorem d_Md_work_79 : decode b_Md_work 79 = .ok (.iconst 3, 1) := by decide +kernel
theorem d_Md_work_80 : decode b_Md_work 80 = .ok (.if_icmp .ne 26, 3) := by decide +kernel
theorem d_Md_work_83 : decode b_Md_work 83 = .ok (.aload_n 0, 1) := by decide +kernel
theorem d_Md_work_84 : decode b_Md_work 84 = .ok (.getfield 60, 3) := by decide +kernel
theorem d_Md_work_87 : decode b_Md_work 87 = .ok (.iload_n 3, 1) := by decide +kernel
theorem d_Md_work_88 : decode b_Md_work 88 = .ok (.iconst 1, 1) := by decide +kernel
theorem d_Md_work_89 : decode b_Md_work 89 = .ok (.isub, 1) := by decide +kernel
theorem d_Md_work_90 : decode b_Md_work 90 = .ok (.aload_n 0, 1) := by decide +kernel
theorem d_Md_work_91 : decode b_Md_work 91 = .ok (.getfield 60, 3) := by decide +kernel
theorem d_Md_work_94 : decode b_Md_work 94 = .ok (.iload_n 3, 1) := by decide +kernel
theorem d_Md_work_95 : decode b_Md_work 95 = .ok (.iconst 1, 1) := by decide +kernel
theorem d_Md_work_96 : decode b_Md_work 96 = .ok (.isub, 1) := by decide +kernel
theorem d_Md_work_97 : decode b_Md_work 97 = .ok (.iaload, 1) := by decide +kernel
theorem d_Md_work_98 : decode b_Md_work 98 = .ok (.ineg, 1) := by decide +kernel
theorem d_Md_work_99 : decode b_Md_work 99 = .ok (.bipush 15, 2) := by decide +kernel
theorem d_Md_work_101 : decode b_Md_work 101 = .ok (.iand, 1) := by decide +kernel
theorem d_Md_work_102 : decode b_Md_work 102 = .ok (.iastore, 1) := by decide +kernel
theorem d_Md_work_103 : decode b_Md_work 103 = .ok (.goto 68, 3) := by decide +kernel
theorem d_Md_work_106 : decode b_Md_work 106 = .ok (.iload 5, 2) := by decide +kernel
theorem d_Md_work_108 : decode b_Md_work 108 = .ok (.iconst 4, 1) := by decide +kernel
theorem d_Md_work_109 : decode b_Md_work 109 = .ok (.if_icmp .ne 24, 3) := by decide +kernel
theorem d_Md_work_112 : decode b_Md_work 112 = .ok (.aload_n 0, 1) := by decide +kernel
theorem d_Md_work_113 : decode b_Md_work 113 = .ok (.getfield 60, 3) := by decide +kernel
theorem d_Md_work_116 : decode b_Md_work 116 = .ok (.iload_n 3, 1) := by decide +kernel
theorem d_Md_work_117 : decode b_Md_work 117 = .ok (.iconst 1, 1) := by decide +kernel
theorem d_Md_work_118 : decode b_Md_work 118 = .ok (.isub, 1) := by decide +kernel
theorem d_Md_work_119 : decode b_Md_work 119 = .ok (.iconst 1, 1) := by decide +kernel
theorem d_Md_work_120 : decode b_Md_work 120 = .ok (.aload_n 0, 1) := by decide +kernel
theorem d_Md_work_121 : decode b_Md_work 121 = .ok (.getfield 60, 3) := by decide +kernel
theorem d_Md_work_124 : decode b_Md_work 124 = .ok (.iload_n 3, 1) := by decide +kernel
theorem d_Md_work_125 : decode b_Md_work 125 = .ok (.iconst 1, 1) := by decide +kernel
theorem d_Md_work_126 : decode b_Md_work 126 = .ok (.isub, 1) := by decide +kernel
theorem d_Md_work_127 : decode b_Md_work 127 = .ok (.iaload, 1) := by decide +kernel
theorem d_Md_work_128 : decode b_Md_work 128 = .ok (.isub, 1) := by decide +kernel
theorem d_Md_work_129 : decode b_Md_work 129 = .ok (.iastore, 1) := by decide +kernel
theorem d_Md_work_130 : decode b_Md_work 130 = .ok (.goto 41, 3) := by decide +kernel
theorem d_Md_work_133 : decode b_Md_work 133 = .ok (.iinc 3 (-1), 3) := by decide +kernel
theorem d_Md_work_136 : decode b_Md_work 136 = .ok (.aload_n 0, 1) := by decide +kernel
theorem d_Md_work_137 : decode b_Md_work 137 = .ok (.getfield 60, 3) := by decide +kernel
theorem d_Md_work_140 : decode b_Md_work 140 = .ok (.iload_n 3, 1) := by decide +kernel
theorem d_Md_work_141 : decode b_Md_work 141 = .ok (.iconst 1, 1) := by decide +kernel
theorem d_Md_work_142 : decode b_Md_work 142 = .ok (.isub, 1) := by decide +kernel
theorem d_Md_work_143 : decode b_Md_work 143 = .ok (.iaload, 1) := by decide +kernel
theorem d_Md_work_144 : decode b_Md_work 144 = .ok (.istore 6, 2) := by decide +kernel
theorem d_Md_work_146 : decode b_Md_work 146 = .ok (.aload_n 0, 1) := by decide +kernel
theorem d_Md_work_147 : decode b_Md_work 147 = .ok (.getfield 60, 3) := by decide +kernel
theorem d_Md_work_150 : decode b_Md_work 150 = .ok (.iload_n 3, 1) := by decide +kernel
theorem d_Md_work_151 : decode b_Md_work 151 = .ok (.iaload, 1) := by decide +kernel
theorem d_Md_work_152 : decode b_Md_work 152 = .ok (.istore 7, 2) := by decide +kernel
theorem d_Md_work_154 : decode b_Md_work 154 = .ok (.aload_n 0, 1) := by decide +kernel
theorem d_Md_work_155 : decode b_Md_work 155 = .ok (.getfield 60, 3) := by decide +kernel
theorem d_Md_work_158 : decode b_Md_work 158 = .ok (.iload_n 3, 1) := by decide +kernel
theorem d_Md_work_159 : decode b_Md_work 159 = .ok (.iconst 1, 1) := by decide +kernel
theorem d_Md_work_160 : decode b_Md_work 160 = .ok (.isub, 1) := by decide +kernel
theorem d_Md_work_161 : decode b_Md_work 161 = .ok (.iload 5, 2) := by decide +kernel
theorem d_Md_work_163 : decode b_Md_work 163 = .ok (.iload 6, 2) := by decide +kernel
theorem d_Md_work_165 : decode b_Md_work 165 = .ok (.iload 7, 2) := by decide +kernel
theorem d_Md_work_167 : decode b_Md_work 167 = .ok (.invokestatic 248, 3) := by decide +kernel
theorem d_Md_work_170 : decode b_Md_work 170 = .ok (.iastore, 1) := by decide +kernel
theorem d_Md_work_171 : decode b_Md_work 171 = .ok (.iinc 4 1, 3) := by decide +kernel
theorem d_Md_work_174 : decode b_Md_work 174 = .ok (.goto (-169), 3) := by decide +kernel
theorem d_Md_work_177 : decode b_Md_work 177 = .ok (.aload_n 0, 1) := by decide +kernel
theorem d_Md_work_178 : decode b_Md_work 178 = .ok (.getfield 60, 3) := by decide +kernel
theorem d_Md_work_181 : decode b_Md_work 181 = .ok (.iconst 0, 1) := by decide +kernel
theorem d_Md_work_182 : decode b_Md_work 182 = .ok (.iaload, 1) := by decide +kernel
theorem d_Md_work_183 : decode b_Md_work 183 = .ok (.ireturn, 1) := by decide +kernel
set_option maxHeartbeats 4000000 in
set_option maxRecDepth 100000 in
theorem c_Md_work (l : Launch) (dC : Nat → ClassId) (dI : Nat → Nat → Nat) (cI cB cZ : ClassId) (adK adV : Nat → Nat) (sz : Nat) (a_md a_md_tape a_md_acts a_md_actNumbers a_md_actCounts a_md_pile a_md_begins a_md_goals a_md_ranks a_md_choiceCounts a_md_whens a_md_becomes a_md_guessCounts a_md_guesses a_md_unaryCounts a_md_stack a_md_nexts a_md_isBegin a_md_isGoal a_md_levels a_md_queue a_md_hasGuesses a_md_rounds a_md_marked a_md_other a_md_heights : Nat) (md_size : Int32) (md_at : Int32) (md_token : Int32) (md_tokenPlace : Int32) (md_number : Int32) (md_sign : Int32) (md_bad : Int32) (md_faultPlace : Int32) (md_place : Int32) (md_bank : Int32) (md_unaries : Int32) (md_opens : Int32) (md_piled : Int32) (md_loop : Int32) (md_keptBits : Int32) (md_acts : Nat → Int32) (md_actNumbers : Nat → Int32) (md_stack : Nat → Int32) (x1 : Int32) (x2 : Int32) (post : Int32 → (Nat → Int32) → Prop) (h : wp_Md_work x1 x2 md_acts md_actNumbers md_stack post) : Met l y_Md_work w_Md_work ({ frames := 1, cells := 0, slots := 0, locals := 22 }) (pc_ (dC, dI) [(cI, .int), (cB, .byte), (cZ, .boolean)] [(a_md, .inr (11, [.ref a_md_tape, .int md_size, .int md_at, .int md_token, .int md_tokenPlace, .int md_number, .int md_sign, .int md_bad, .int md_faultPlace, .int md_place, .ref a_md_acts, .ref a_md_actNumbers, .ref a_md_actCounts, .int md_bank, .int md_unaries, .int md_opens, .ref a_md_pile, .int md_piled, .int md_loop, .ref a_md_begins, .ref a_md_goals, .ref a_md_ranks, .ref a_md_choiceCounts, .ref a_md_whens, .ref a_md_becomes, .ref a_md_guessCounts, .ref a_md_guesses, .ref a_md_unaryCounts, .ref a_md_stack, .ref a_md_nexts, .ref a_md_isBegin, .ref a_md_isGoal, .ref a_md_levels, .ref a_md_queue, .ref a_md_hasGuesses, .int md_keptBits, .ref a_md_rounds, .ref a_md_marked, .ref a_md_other, .ref a_md_heights])), (a_md_acts, .inl (cI, 3000, .inl md_acts)), (a_md_actNumbers, .inl (cI, 3000, .inl md_actNumbers)), (a_md_stack, .inl (cI, 300, .inl md_stack))] sz adK adV [.ref a_md, .int x1, .int x2]) (va_Qi (fun (r : Int32) (u : (Nat → Int32)) => post r u) (fun (u : (Nat → Int32)) t => bw_ (dC, dI) [(cI, .int), (cB, .byte), (cZ, .boolean)] (va_A [(a_md, .inr (11, [.ref a_md_tape, .int md_size, .int md_at, .int md_token, .int md_tokenPlace, .int md_number, .int md_sign, .int md_bad, .int md_faultPlace, .int md_place, .ref a_md_acts, .ref a_md_actNumbers, .ref a_md_actCounts, .int md_bank, .int md_unaries, .int md_opens, .ref a_md_pile, .int md_piled, .int md_loop, .ref a_md_begins, .ref a_md_goals, .ref a_md_ranks, .ref a_md_choiceCounts, .ref a_md_whens, .ref a_md_becomes, .ref a_md_guessCounts, .ref a_md_guesses, .ref a_md_unaryCounts, .ref a_md_stack, .ref a_md_nexts, .ref a_md_isBegin, .ref a_md_isGoal, .ref a_md_levels, .ref a_md_queue, .ref a_md_hasGuesses, .int md_keptBits, .ref a_md_rounds, .ref a_md_marked, .ref a_md_other, .ref a_md_heights])), (a_md_acts, .inl (cI, 3000, .inl md_acts)), (a_md_actNumbers, .inl (cI, 3000, .inl md_actNumbers)), (a_md_stack, .inl (cI, 300, .inl md_stack))] sz) [(a_md, .inr (11, [.ref a_md_tape, .int md_size, .int md_at, .int md_token, .int md_tokenPlace, .int md_number, .int md_sign, .int md_bad, .int md_faultPlace, .int md_place, .ref a_md_acts, .ref a_md_actNumbers, .ref a_md_actCounts, .int md_bank, .int md_unaries, .int md_opens, .ref a_md_pile, .int md_piled, .int md_loop, .ref a_md_begins, .ref a_md_goals, .ref a_md_ranks, .ref a_md_choiceCounts, .ref a_md_whens, .ref a_md_becomes, .ref a_md_guessCounts, .ref a_md_guesses, .ref a_md_unaryCounts, .ref a_md_stack, .ref a_md_nexts, .ref a_md_isBegin, .ref a_md_isGoal, .ref a_md_levels, .ref a_md_queue, .ref a_md_hasGuesses, .int md_keptBits, .ref a_md_rounds, .ref a_md_marked, .ref a_md_other, .ref a_md_heights])), (a_md_acts, .inl (cI, 3000, .inl md_acts)), (a_md_actNumbers, .inl (cI, 3000, .inl md_actNumbers)), (a_md_stack, .inl (cI, 300, .inl u))] t) (va_A [(a_md, .inr (11, [.ref a_md_tape, .int md_size, .int md_at, .int md_token, .int md_tokenPlace, .int md_number, .int md_sign, .int md_bad, .int md_faultPlace, .int md_place, .ref a_md_acts, .ref a_md_actNumbers, .ref a_md_actCounts, .int md_bank, .int md_unaries, .int md_opens, .ref a_md_pile, .int md_piled, .int md_loop, .ref a_md_begins, .ref a_md_goals, .ref a_md_ranks, .ref a_md_choiceCounts, .ref a_md_whens, .ref a_md_becomes, .ref a_md_guessCounts, .ref a_md_guesses, .ref a_md_unaryCounts, .ref a_md_stack, .ref a_md_nexts, .ref a_md_isBegin, .ref a_md_isGoal, .ref a_md_levels, .ref a_md_queue, .ref a_md_hasGuesses, .int md_keptBits, .ref a_md_rounds, .ref a_md_marked, .ref a_md_other, .ref a_md_heights])), (a_md_acts, .inl (cI, 3000, .inl md_acts)), (a_md_actNumbers, .inl (cI, 3000, .inl md_actNumbers)), (a_md_stack, .inl (cI, 300, .inl md_stack))] sz)) 0 0 (va_A [(a_md, .inr (11, [.ref a_md_tape, .int md_size, .int md_at, .int md_token, .int md_tokenPlace, .int md_number, .int md_sign, .int md_bad, .int md_faultPlace, .int md_place, .ref a_md_acts, .ref a_md_actNumbers, .ref a_md_actCounts, .int md_bank, .int md_unaries, .int md_opens, .ref a_md_pile, .int md_piled, .int md_loop, .ref a_md_begins, .ref a_md_goals, .ref a_md_ranks, .ref a_md_choiceCounts, .ref a_md_whens, .ref a_md_becomes, .ref a_md_guessCounts, .ref a_md_guesses, .ref a_md_unaryCounts, .ref a_md_stack, .ref a_md_nexts, .ref a_md_isBegin, .ref a_md_isGoal, .ref a_md_levels, .ref a_md_queue, .ref a_md_hasGuesses, .int md_keptBits, .ref a_md_rounds, .ref a_md_marked, .ref a_md_other, .ref a_md_heights])), (a_md_acts, .inl (cI, 3000, .inl md_acts)), (a_md_actNumbers, .inl (cI, 3000, .inl md_actNumbers)), (a_md_stack, .inl (cI, 300, .inl md_stack))] sz) := by
  refine Met.ofW (cc := b_Md_work) (maxL := 8) (ret := (some .int)) (by decide) rfl ?_
  intro p e s m args below meth c s₁ B hml hv
  obtain ⟨rfl, hsz, hP, hK, hD0, hN, hT⟩ := hv
  have hx := B.exec
  have hb := B.bytes
  have hr := B.returns
  have hts := atoms_spec (ws := w_Md_work) B.pre
  have hown : s.vm.findClass "LoopInductionModel" = some m.cls := findClass_of_methodNamed B.named
  have hlocks := B.notSynchronized
  subst hsz
  have hD := hD0.self (sz := s.heap.size)
  generalize hAe : va_A [(a_md, .inr (11, [.ref a_md_tape, .int md_size, .int md_at, .int md_token, .int md_tokenPlace, .int md_number, .int md_sign, .int md_bad, .int md_faultPlace, .int md_place, .ref a_md_acts, .ref a_md_actNumbers, .ref a_md_actCounts, .int md_bank, .int md_unaries, .int md_opens, .ref a_md_pile, .int md_piled, .int md_loop, .ref a_md_begins, .ref a_md_goals, .ref a_md_ranks, .ref a_md_choiceCounts, .ref a_md_whens, .ref a_md_becomes, .ref a_md_guessCounts, .ref a_md_guesses, .ref a_md_unaryCounts, .ref a_md_stack, .ref a_md_nexts, .ref a_md_isBegin, .ref a_md_isGoal, .ref a_md_levels, .ref a_md_queue, .ref a_md_hasGuesses, .int md_keptBits, .ref a_md_rounds, .ref a_md_marked, .ref a_md_other, .ref a_md_heights])), (a_md_acts, .inl (cI, 3000, .inl md_acts)), (a_md_actNumbers, .inl (cI, 3000, .inl md_actNumbers)), (a_md_stack, .inl (cI, 300, .inl md_stack))] s.heap.size = A at hD hT ⊢
  have hA : ∀ q : Nat, s.heap.size ≤ q → A q := fun q h => by rw [← hAe]; exact Or.inr h
  have hS : va_S A s.heap s.heap [] := va_S.rf
  generalize hQ : MQ below _ _ s 0 0 _ = QQ
  have hl := lv_entry ([.ref a_md, .int x1, .int x2]) (n := 8) (Nat.le_of_ble_eq_true rfl)
  rw [lg_entry_eq]
  generalize (lg_sl ([.ref a_md, .int x1, .int x2]) ++ List.replicate (8 - (lg_sl ([.ref a_md, .int x1, .int x2])).length) Slot.unset).toArray = ls at hl ⊢
  have hl : lv_has ls 8 [(0, .ref a_md), (1, .int x1), (2, .int x2)] := hl
  have fl_17 := (hts _ (List.mem_cons_of_mem _ m_1100))
  have fl_21 := (hts _ (List.mem_cons_of_mem _ m_1101))
  have fl_60 := (hts _ (List.mem_cons_of_mem _ m_1118))
  refine lv_iconst (v := 0) hx hb d_Md_work_0 (by decide) ?_
  refine lv_istore_n (lv' := [(3, .int 0), (0, .ref a_md), (1, .int x1), (2, .int x2)]) hx hb d_Md_work_1 rfl hl (by decide) rfl (fun ls hl => ?_)
  refine lv_iload_n hx hb d_Md_work_2 rfl (lv_at hl 2 rfl) ?_
  refine lv_istore (lv' := [(4, .int x1), (3, .int 0), (0, .ref a_md), (1, .int x1), (2, .int x2)]) hx hb d_Md_work_3 hl (by decide) rfl (fun ls hl => ?_)
  have L5_q_4 : ∀ (k177 : (Nat → Int32) → Prop) (hk177 : ∀ (md_stack_5 : Nat → Int32), k177 md_stack_5 → ∀ (H : Heap) (locs : List Loc), va_P (dC, dI) vwCl [(a_md, .inr (11, [.ref a_md_tape, .int md_size, .int md_at, .int md_token, .int md_tokenPlace, .int md_number, .int md_sign, .int md_bad, .int md_faultPlace, .int md_place, .ref a_md_acts, .ref a_md_actNumbers, .ref a_md_actCounts, .int md_bank, .int md_unaries, .int md_opens, .ref a_md_pile, .int md_piled, .int md_loop, .ref a_md_begins, .ref a_md_goals, .ref a_md_ranks, .ref a_md_choiceCounts, .ref a_md_whens, .ref a_md_becomes, .ref a_md_guessCounts, .ref a_md_guesses, .ref a_md_unaryCounts, .ref a_md_stack, .ref a_md_nexts, .ref a_md_isBegin, .ref a_md_isGoal, .ref a_md_levels, .ref a_md_queue, .ref a_md_hasGuesses, .int md_keptBits, .ref a_md_rounds, .ref a_md_marked, .ref a_md_other, .ref a_md_heights])), (a_md_acts, .inl (cI, 3000, .inl md_acts)), (a_md_actNumbers, .inl (cI, 3000, .inl md_actNumbers)), (a_md_stack, .inl (cI, 300, .inl md_stack_5))] H → va_D A [(a_md, .inr (11, [.ref a_md_tape, .int md_size, .int md_at, .int md_token, .int md_tokenPlace, .int md_number, .int md_sign, .int md_bad, .int md_faultPlace, .int md_place, .ref a_md_acts, .ref a_md_actNumbers, .ref a_md_actCounts, .int md_bank, .int md_unaries, .int md_opens, .ref a_md_pile, .int md_piled, .int md_loop, .ref a_md_begins, .ref a_md_goals, .ref a_md_ranks, .ref a_md_choiceCounts, .ref a_md_whens, .ref a_md_becomes, .ref a_md_guessCounts, .ref a_md_guesses, .ref a_md_unaryCounts, .ref a_md_stack, .ref a_md_nexts, .ref a_md_isBegin, .ref a_md_isGoal, .ref a_md_levels, .ref a_md_queue, .ref a_md_hasGuesses, .int md_keptBits, .ref a_md_rounds, .ref a_md_marked, .ref a_md_other, .ref a_md_heights])), (a_md_acts, .inl (cI, 3000, .inl md_acts)), (a_md_actNumbers, .inl (cI, 3000, .inl md_actNumbers)), (a_md_stack, .inl (cI, 300, .inl md_stack_5))] → va_S A s.heap H locs → ∀ ls : Array Slot, lv_has ls 8 [(0, .ref a_md)] → W p l e (headSpec w_Md_work ({ frames := 1, cells := 0, slots := 0, locals := 22 })).room s m (([.ref a_md, .int x1, .int x2] : List Value).toArray) below meth c H locs 0 0 QQ (F0 m 177 ls [])) (n : Nat) (x3_1 : Int32) (x4_2 : Int32) (md_stack_3 : Nat → Int32), wp_Md_work_L5 x2 md_acts md_actNumbers k177 n x3_1 x4_2 md_stack_3 → ∀ (H : Heap) (locs : List Loc), va_P (dC, dI) vwCl [(a_md, .inr (11, [.ref a_md_tape, .int md_size, .int md_at, .int md_token, .int md_tokenPlace, .int md_number, .int md_sign, .int md_bad, .int md_faultPlace, .int md_place, .ref a_md_acts, .ref a_md_actNumbers, .ref a_md_actCounts, .int md_bank, .int md_unaries, .int md_opens, .ref a_md_pile, .int md_piled, .int md_loop, .ref a_md_begins, .ref a_md_goals, .ref a_md_ranks, .ref a_md_choiceCounts, .ref a_md_whens, .ref a_md_becomes, .ref a_md_guessCounts, .ref a_md_guesses, .ref a_md_unaryCounts, .ref a_md_stack, .ref a_md_nexts, .ref a_md_isBegin, .ref a_md_isGoal, .ref a_md_levels, .ref a_md_queue, .ref a_md_hasGuesses, .int md_keptBits, .ref a_md_rounds, .ref a_md_marked, .ref a_md_other, .ref a_md_heights])), (a_md_acts, .inl (cI, 3000, .inl md_acts)), (a_md_actNumbers, .inl (cI, 3000, .inl md_actNumbers)), (a_md_stack, .inl (cI, 300, .inl md_stack_3))] H → va_D A [(a_md, .inr (11, [.ref a_md_tape, .int md_size, .int md_at, .int md_token, .int md_tokenPlace, .int md_number, .int md_sign, .int md_bad, .int md_faultPlace, .int md_place, .ref a_md_acts, .ref a_md_actNumbers, .ref a_md_actCounts, .int md_bank, .int md_unaries, .int md_opens, .ref a_md_pile, .int md_piled, .int md_loop, .ref a_md_begins, .ref a_md_goals, .ref a_md_ranks, .ref a_md_choiceCounts, .ref a_md_whens, .ref a_md_becomes, .ref a_md_guessCounts, .ref a_md_guesses, .ref a_md_unaryCounts, .ref a_md_stack, .ref a_md_nexts, .ref a_md_isBegin, .ref a_md_isGoal, .ref a_md_levels, .ref a_md_queue, .ref a_md_hasGuesses, .int md_keptBits, .ref a_md_rounds, .ref a_md_marked, .ref a_md_other, .ref a_md_heights])), (a_md_acts, .inl (cI, 3000, .inl md_acts)), (a_md_actNumbers, .inl (cI, 3000, .inl md_actNumbers)), (a_md_stack, .inl (cI, 300, .inl md_stack_3))] → va_S A s.heap H locs → ∀ ls : Array Slot, lv_has ls 8 [(0, .ref a_md), (2, .int x2), (3, .int x3_1), (4, .int x4_2)] → W p l e (headSpec w_Md_work ({ frames := 1, cells := 0, slots := 0, locals := 22 })).room s m (([.ref a_md, .int x1, .int x2] : List Value).toArray) below meth c H locs 0 0 QQ (F0 m 5 ls []) := by
    intro k177 hk177 n
    induction n with
    | zero => intro x3_1 x4_2 md_stack_3 h; exact (show False from h).elim
    | succ n il =>
      intro x3_1 x4_2 md_stack_3 h
      intro H locs hP hD hS ls hl
      refine lv_aload_n hx hb d_Md_work_5 rfl (lv_at hl 0 rfl) ?_
      refine va_get (D := (dC, dI)) (ci := 11) (v := .ref a_md_acts) (C := "LoopInductionModel") (T := F_Md) (N := 40) hx hb hts iC_Md hown hK hP 0 rfl rfl 10 (by decide) fl_17 (fun _ h9 => h9) rfl d_Md_work_6 ?_
      refine lv_iload hx hb d_Md_work_9 (lv_at hl 3 rfl) ?_
      obtain ⟨hin_11, h⟩ := h
      refine va_iald hx hb hK hP 1 0 rfl rfl hin_11 d_Md_work_11 ?_
      refine lv_bipush (v := 7) hx hb d_Md_work_12 (by decide) ?_
      refine lv_icmp_eq (tgt := 177) hx hb d_Md_work_14 (by decide) (fun c_14 => ?_) (fun c_14 => ?_)
      · have h := And.left h c_14
        exact hk177 _ h _ _ hP hD hS _ (lv_sub hl [0] rfl)
      · have h := And.right h c_14
        refine lv_aload_n hx hb d_Md_work_17 rfl (lv_at hl 0 rfl) ?_
        refine va_get (D := (dC, dI)) (ci := 11) (v := .ref a_md_acts) (C := "LoopInductionModel") (T := F_Md) (N := 40) hx hb hts iC_Md hown hK hP 0 rfl rfl 10 (by decide) fl_17 (fun _ h9 => h9) rfl d_Md_work_18 ?_
        refine lv_iload hx hb d_Md_work_21 (lv_at hl 3 rfl) ?_
        obtain ⟨hin_23, h⟩ := h
        refine va_iald hx hb hK hP 1 0 rfl rfl hin_23 d_Md_work_23 ?_
        refine lv_topi (fun x5_6 ex5_6 => ?_)
        have h := h x5_6 ex5_6
        refine lv_istore (lv' := [(5, .int x5_6), (0, .ref a_md), (2, .int x2), (3, .int x3_1), (4, .int x4_2)]) hx hb d_Md_work_24 hl (by decide) rfl (fun ls hl => ?_)
        refine lv_iload hx hb d_Md_work_26 (lv_at hl 0 rfl) ?_
        refine lv_iconst (v := 1) hx hb d_Md_work_28 (by decide) ?_
        refine lv_icmp_eq (tgt := 38) hx hb d_Md_work_29 (by decide) (fun c_29 => ?_) (fun c_29 => ?_)
        · have h := And.left h c_29
          refine lv_aload_n hx hb d_Md_work_38 rfl (lv_at hl 1 rfl) ?_
          refine va_get (D := (dC, dI)) (ci := 11) (v := .ref a_md_stack) (C := "LoopInductionModel") (T := F_Md) (N := 40) hx hb hts iC_Md hown hK hP 0 rfl rfl 28 (by decide) fl_60 (fun _ h9 => h9) rfl d_Md_work_39 ?_
          refine lv_iload_n hx hb d_Md_work_42 rfl (lv_at hl 3 rfl) ?_
          refine lv_iload hx hb d_Md_work_43 (lv_at hl 0 rfl) ?_
          refine lv_iconst (v := 1) hx hb d_Md_work_45 (by decide) ?_
          refine lv_icmp_ne (tgt := 59) hx hb d_Md_work_46 (by decide) (fun c_46 => ?_) (fun c_46 => ?_)
          · have h := And.left h c_46
            refine lv_iload_n hx hb d_Md_work_59 rfl (lv_at hl 2 rfl) ?_
            refine lv_aload_n hx hb d_Md_work_60 rfl (lv_at hl 1 rfl) ?_
            refine va_get (D := (dC, dI)) (ci := 11) (v := .ref a_md_actNumbers) (C := "LoopInductionModel") (T := F_Md) (N := 40) hx hb hts iC_Md hown hK hP 0 rfl rfl 11 (by decide) fl_21 (fun _ h9 => h9) rfl d_Md_work_61 ?_
            refine lv_iload hx hb d_Md_work_64 (lv_at hl 4 rfl) ?_
            obtain ⟨hin_66, h⟩ := h
            refine va_iald hx hb hK hP 2 0 rfl rfl hin_66 d_Md_work_66 ?_
            refine jn_i (wr := [(a_md, .inr (11, [.ref a_md_tape, .int md_size, .int md_at, .int md_token, .int md_tokenPlace, .int md_number, .int md_sign, .int md_bad, .int md_faultPlace, .int md_place, .ref a_md_acts, .ref a_md_actNumbers, .ref a_md_actCounts, .int md_bank, .int md_unaries, .int md_opens, .ref a_md_pile, .int md_piled, .int md_loop, .ref a_md_begins, .ref a_md_goals, .ref a_md_ranks, .ref a_md_choiceCounts, .ref a_md_whens, .ref a_md_becomes, .ref a_md_guessCounts, .ref a_md_guesses, .ref a_md_unaryCounts, .ref a_md_stack, .ref a_md_nexts, .ref a_md_isBegin, .ref a_md_isGoal, .ref a_md_levels, .ref a_md_queue, .ref a_md_hasGuesses, .int md_keptBits, .ref a_md_rounds, .ref a_md_marked, .ref a_md_other, .ref a_md_heights])), (a_md_acts, .inl (cI, 3000, .inl md_acts)), (a_md_actNumbers, .inl (cI, 3000, .inl md_actNumbers)), (a_md_stack, .inl (cI, 300, .inl md_stack_3))]) (va_runS (As := [.int x2, .int (md_actNumbers (x4_2 : Int32).toNatClampNeg)]) (rest := [.int x3_1, .ref a_md_stack]) ⟨hx, hb, hml, hown, hts⟩ (c_Md_variableOf l dC dI cI cB cZ adK adV _ x2 (md_actNumbers (x4_2 : Int32).toNatClampNeg) _ h) (cwS 2 hts (gs_ m_1343 m_1344 m_96 m_1345) rfl rfl rfl pd_Md_variableOf ⟨Nat.le_of_ble_eq_true rfl, Nat.le_of_ble_eq_true rfl⟩) ⟨pc_blind, pc_of (hP.sub [] rfl) hK (hD.sub [] (by decide) rfl) hN hT hS hA⟩ rfl rfl hl.1 rfl (lv_room (Nat.le_of_ble_eq_true rfl)) d_Md_work_67 ⟨Nat.zero_le _, Nat.zero_le _⟩) hP hD hS hA [] [0, 1, 2, 3] rfl rfl (by decide) (by decide) (fun r_7 u_ H locs h hP hD hS => ?_)
            have hP : va_P (dC, dI) vwCl [(a_md, .inr (11, [.ref a_md_tape, .int md_size, .int md_at, .int md_token, .int md_tokenPlace, .int md_number, .int md_sign, .int md_bad, .int md_faultPlace, .int md_place, .ref a_md_acts, .ref a_md_actNumbers, .ref a_md_actCounts, .int md_bank, .int md_unaries, .int md_opens, .ref a_md_pile, .int md_piled, .int md_loop, .ref a_md_begins, .ref a_md_goals, .ref a_md_ranks, .ref a_md_choiceCounts, .ref a_md_whens, .ref a_md_becomes, .ref a_md_guessCounts, .ref a_md_guesses, .ref a_md_unaryCounts, .ref a_md_stack, .ref a_md_nexts, .ref a_md_isBegin, .ref a_md_isGoal, .ref a_md_levels, .ref a_md_queue, .ref a_md_hasGuesses, .int md_keptBits, .ref a_md_rounds, .ref a_md_marked, .ref a_md_other, .ref a_md_heights])), (a_md_acts, .inl (cI, 3000, .inl md_acts)), (a_md_actNumbers, .inl (cI, 3000, .inl md_actNumbers)), (a_md_stack, .inl (cI, 300, .inl md_stack_3))] H := hP
            have hD : va_D A [(a_md, .inr (11, [.ref a_md_tape, .int md_size, .int md_at, .int md_token, .int md_tokenPlace, .int md_number, .int md_sign, .int md_bad, .int md_faultPlace, .int md_place, .ref a_md_acts, .ref a_md_actNumbers, .ref a_md_actCounts, .int md_bank, .int md_unaries, .int md_opens, .ref a_md_pile, .int md_piled, .int md_loop, .ref a_md_begins, .ref a_md_goals, .ref a_md_ranks, .ref a_md_choiceCounts, .ref a_md_whens, .ref a_md_becomes, .ref a_md_guessCounts, .ref a_md_guesses, .ref a_md_unaryCounts, .ref a_md_stack, .ref a_md_nexts, .ref a_md_isBegin, .ref a_md_isGoal, .ref a_md_levels, .ref a_md_queue, .ref a_md_hasGuesses, .int md_keptBits, .ref a_md_rounds, .ref a_md_marked, .ref a_md_other, .ref a_md_heights])), (a_md_acts, .inl (cI, 3000, .inl md_acts)), (a_md_actNumbers, .inl (cI, 3000, .inl md_actNumbers)), (a_md_stack, .inl (cI, 300, .inl md_stack_3))] := hD
            obtain ⟨hin_70, h⟩ := h
            refine va_iast hx hb hK hP hD hS 3 0 rfl rfl hin_70 d_Md_work_70 (fun H locs hP hD hS => ?_)
            have hP : va_P (dC, dI) vwCl [(a_md, .inr (11, [.ref a_md_tape, .int md_size, .int md_at, .int md_token, .int md_tokenPlace, .int md_number, .int md_sign, .int md_bad, .int md_faultPlace, .int md_place, .ref a_md_acts, .ref a_md_actNumbers, .ref a_md_actCounts, .int md_bank, .int md_unaries, .int md_opens, .ref a_md_pile, .int md_piled, .int md_loop, .ref a_md_begins, .ref a_md_goals, .ref a_md_ranks, .ref a_md_choiceCounts, .ref a_md_whens, .ref a_md_becomes, .ref a_md_guessCounts, .ref a_md_guesses, .ref a_md_unaryCounts, .ref a_md_stack, .ref a_md_nexts, .ref a_md_isBegin, .ref a_md_isGoal, .ref a_md_levels, .ref a_md_queue, .ref a_md_hasGuesses, .int md_keptBits, .ref a_md_rounds, .ref a_md_marked, .ref a_md_other, .ref a_md_heights])), (a_md_acts, .inl (cI, 3000, .inl md_acts)), (a_md_actNumbers, .inl (cI, 3000, .inl md_actNumbers)), (a_md_stack, .inl (cI, 300, .inl (upd md_stack_3 (x3_1 : Int32).toNatClampNeg r_7)))] H := hP
            have hD : va_D A [(a_md, .inr (11, [.ref a_md_tape, .int md_size, .int md_at, .int md_token, .int md_tokenPlace, .int md_number, .int md_sign, .int md_bad, .int md_faultPlace, .int md_place, .ref a_md_acts, .ref a_md_actNumbers, .ref a_md_actCounts, .int md_bank, .int md_unaries, .int md_opens, .ref a_md_pile, .int md_piled, .int md_loop, .ref a_md_begins, .ref a_md_goals, .ref a_md_ranks, .ref a_md_choiceCounts, .ref a_md_whens, .ref a_md_becomes, .ref a_md_guessCounts, .ref a_md_guesses, .ref a_md_unaryCounts, .ref a_md_stack, .ref a_md_nexts, .ref a_md_isBegin, .ref a_md_isGoal, .ref a_md_levels, .ref a_md_queue, .ref a_md_hasGuesses, .int md_keptBits, .ref a_md_rounds, .ref a_md_marked, .ref a_md_other, .ref a_md_heights])), (a_md_acts, .inl (cI, 3000, .inl md_acts)), (a_md_actNumbers, .inl (cI, 3000, .inl md_actNumbers)), (a_md_stack, .inl (cI, 300, .inl (upd md_stack_3 (x3_1 : Int32).toNatClampNeg r_7)))] := hD
            refine lv_iinc (v := x3_1 + 1) (lv' := [(3, .int (x3_1 + 1)), (5, .int x5_6), (0, .ref a_md), (2, .int x2), (4, .int x4_2)]) hx hb d_Md_work_71 hl (k := 3) rfl rfl (by decide) rfl (fun ls hl => ?_)
            refine lv_goto (tgt := 171) hx hb d_Md_work_74 (by decide) ?_
            refine lv_iinc (v := x4_2 + 1) (lv' := [(4, .int (x4_2 + 1)), (3, .int (x3_1 + 1)), (5, .int x5_6), (0, .ref a_md), (2, .int x2)]) hx hb d_Md_work_171 hl (k := 4) rfl rfl (by decide) rfl (fun ls hl => ?_)
            refine lv_goto (tgt := 5) hx hb d_Md_work_174 (by decide) ?_
            exact il _ _ _ h _ _ hP hD hS _ (lv_sub hl [3, 4, 1, 0] rfl)
          · have h := And.right h c_46
            refine lv_aload_n hx hb d_Md_work_49 rfl (lv_at hl 1 rfl) ?_
            refine va_get (D := (dC, dI)) (ci := 11) (v := .ref a_md_actNumbers) (C := "LoopInductionModel") (T := F_Md) (N := 40) hx hb hts iC_Md hown hK hP 0 rfl rfl 11 (by decide) fl_21 (fun _ h9 => h9) rfl d_Md_work_50 ?_
            refine lv_iload hx hb d_Md_work_53 (lv_at hl 4 rfl) ?_
            obtain ⟨hin_55, h⟩ := h
            refine va_iald hx hb hK hP 2 0 rfl rfl hin_55 d_Md_work_55 ?_
            refine lv_goto (tgt := 70) hx hb d_Md_work_56 (by decide) ?_
            obtain ⟨hin_70, h⟩ := h
            refine va_iast hx hb hK hP hD hS 3 0 rfl rfl hin_70 d_Md_work_70 (fun H locs hP hD hS => ?_)
            have hP : va_P (dC, dI) vwCl [(a_md, .inr (11, [.ref a_md_tape, .int md_size, .int md_at, .int md_token, .int md_tokenPlace, .int md_number, .int md_sign, .int md_bad, .int md_faultPlace, .int md_place, .ref a_md_acts, .ref a_md_actNumbers, .ref a_md_actCounts, .int md_bank, .int md_unaries, .int md_opens, .ref a_md_pile, .int md_piled, .int md_loop, .ref a_md_begins, .ref a_md_goals, .ref a_md_ranks, .ref a_md_choiceCounts, .ref a_md_whens, .ref a_md_becomes, .ref a_md_guessCounts, .ref a_md_guesses, .ref a_md_unaryCounts, .ref a_md_stack, .ref a_md_nexts, .ref a_md_isBegin, .ref a_md_isGoal, .ref a_md_levels, .ref a_md_queue, .ref a_md_hasGuesses, .int md_keptBits, .ref a_md_rounds, .ref a_md_marked, .ref a_md_other, .ref a_md_heights])), (a_md_acts, .inl (cI, 3000, .inl md_acts)), (a_md_actNumbers, .inl (cI, 3000, .inl md_actNumbers)), (a_md_stack, .inl (cI, 300, .inl (upd md_stack_3 (x3_1 : Int32).toNatClampNeg (md_actNumbers (x4_2 : Int32).toNatClampNeg))))] H := hP
            have hD : va_D A [(a_md, .inr (11, [.ref a_md_tape, .int md_size, .int md_at, .int md_token, .int md_tokenPlace, .int md_number, .int md_sign, .int md_bad, .int md_faultPlace, .int md_place, .ref a_md_acts, .ref a_md_actNumbers, .ref a_md_actCounts, .int md_bank, .int md_unaries, .int md_opens, .ref a_md_pile, .int md_piled, .int md_loop, .ref a_md_begins, .ref a_md_goals, .ref a_md_ranks, .ref a_md_choiceCounts, .ref a_md_whens, .ref a_md_becomes, .ref a_md_guessCounts, .ref a_md_guesses, .ref a_md_unaryCounts, .ref a_md_stack, .ref a_md_nexts, .ref a_md_isBegin, .ref a_md_isGoal, .ref a_md_levels, .ref a_md_queue, .ref a_md_hasGuesses, .int md_keptBits, .ref a_md_rounds, .ref a_md_marked, .ref a_md_other, .ref a_md_heights])), (a_md_acts, .inl (cI, 3000, .inl md_acts)), (a_md_actNumbers, .inl (cI, 3000, .inl md_actNumbers)), (a_md_stack, .inl (cI, 300, .inl (upd md_stack_3 (x3_1 : Int32).toNatClampNeg (md_actNumbers (x4_2 : Int32).toNatClampNeg))))] := hD
            refine lv_iinc (v := x3_1 + 1) (lv' := [(3, .int (x3_1 + 1)), (5, .int x5_6), (0, .ref a_md), (2, .int x2), (4, .int x4_2)]) hx hb d_Md_work_71 hl (k := 3) rfl rfl (by decide) rfl (fun ls hl => ?_)
            refine lv_goto (tgt := 171) hx hb d_Md_work_74 (by decide) ?_
            refine lv_iinc (v := x4_2 + 1) (lv' := [(4, .int (x4_2 + 1)), (3, .int (x3_1 + 1)), (5, .int x5_6), (0, .ref a_md), (2, .int x2)]) hx hb d_Md_work_171 hl (k := 4) rfl rfl (by decide) rfl (fun ls hl => ?_)
            refine lv_goto (tgt := 5) hx hb d_Md_work_174 (by decide) ?_
            exact il _ _ _ h _ _ hP hD hS _ (lv_sub hl [3, 4, 1, 0] rfl)
        · have h := And.right h c_29
          refine lv_iload hx hb d_Md_work_32 (lv_at hl 0 rfl) ?_
          refine lv_iconst (v := 2) hx hb d_Md_work_34 (by decide) ?_
          refine lv_icmp_ne (tgt := 77) hx hb d_Md_work_35 (by decide) (fun c_35 => ?_) (fun c_35 => ?_)
          · have h := And.left h c_35
            refine lv_iload hx hb d_Md_work_77 (lv_at hl 0 rfl) ?_
            refine lv_iconst (v := 3) hx hb d_Md_work_79 (by decide) ?_
            refine lv_icmp_ne (tgt := 106) hx hb d_Md_work_80 (by decide) (fun c_80 => ?_) (fun c_80 => ?_)
            · have h := And.left h c_80
              refine lv_iload hx hb d_Md_work_106 (lv_at hl 0 rfl) ?_
              refine lv_iconst (v := 4) hx hb d_Md_work_108 (by decide) ?_
              refine lv_icmp_ne (tgt := 133) hx hb d_Md_work_109 (by decide) (fun c_109 => ?_) (fun c_109 => ?_)
              · have h := And.left h c_109
                refine lv_iinc (v := x3_1 + (-1)) (lv' := [(3, .int (x3_1 + (-1))), (5, .int x5_6), (0, .ref a_md), (2, .int x2), (4, .int x4_2)]) hx hb d_Md_work_133 hl (k := 3) rfl rfl (by decide) rfl (fun ls hl => ?_)
                refine lv_aload_n hx hb d_Md_work_136 rfl (lv_at hl 2 rfl) ?_
                refine va_get (D := (dC, dI)) (ci := 11) (v := .ref a_md_stack) (C := "LoopInductionModel") (T := F_Md) (N := 40) hx hb hts iC_Md hown hK hP 0 rfl rfl 28 (by decide) fl_60 (fun _ h9 => h9) rfl d_Md_work_137 ?_
                refine lv_iload_n hx hb d_Md_work_140 rfl (lv_at hl 0 rfl) ?_
                refine lv_iconst (v := 1) hx hb d_Md_work_141 (by decide) ?_
                refine lv_isub hx hb d_Md_work_142 ?_
                obtain ⟨hin_143, h⟩ := h
                refine va_iald hx hb hK hP 3 0 rfl rfl hin_143 d_Md_work_143 ?_
                refine lv_topi (fun x6_8 ex6_8 => ?_)
                have h := h x6_8 ex6_8
                refine lv_istore (lv' := [(6, .int x6_8), (3, .int (x3_1 + (-1))), (5, .int x5_6), (0, .ref a_md), (2, .int x2), (4, .int x4_2)]) hx hb d_Md_work_144 hl (by decide) rfl (fun ls hl => ?_)
                refine lv_aload_n hx hb d_Md_work_146 rfl (lv_at hl 3 rfl) ?_
                refine va_get (D := (dC, dI)) (ci := 11) (v := .ref a_md_stack) (C := "LoopInductionModel") (T := F_Md) (N := 40) hx hb hts iC_Md hown hK hP 0 rfl rfl 28 (by decide) fl_60 (fun _ h9 => h9) rfl d_Md_work_147 ?_
                refine lv_iload_n hx hb d_Md_work_150 rfl (lv_at hl 1 rfl) ?_
                obtain ⟨hin_151, h⟩ := h
                refine va_iald hx hb hK hP 3 0 rfl rfl hin_151 d_Md_work_151 ?_
                refine lv_topi (fun x7_9 ex7_9 => ?_)
                have h := h x7_9 ex7_9
                refine lv_istore (lv' := [(7, .int x7_9), (6, .int x6_8), (3, .int (x3_1 + (-1))), (5, .int x5_6), (0, .ref a_md), (2, .int x2), (4, .int x4_2)]) hx hb d_Md_work_152 hl (by decide) rfl (fun ls hl => ?_)
                refine lv_aload_n hx hb d_Md_work_154 rfl (lv_at hl 4 rfl) ?_
                refine va_get (D := (dC, dI)) (ci := 11) (v := .ref a_md_stack) (C := "LoopInductionModel") (T := F_Md) (N := 40) hx hb hts iC_Md hown hK hP 0 rfl rfl 28 (by decide) fl_60 (fun _ h9 => h9) rfl d_Md_work_155 ?_
                refine lv_iload_n hx hb d_Md_work_158 rfl (lv_at hl 2 rfl) ?_
                refine lv_iconst (v := 1) hx hb d_Md_work_159 (by decide) ?_
                refine lv_isub hx hb d_Md_work_160 ?_
                refine lv_iload hx hb d_Md_work_161 (lv_at hl 3 rfl) ?_
                refine lv_iload hx hb d_Md_work_163 (lv_at hl 1 rfl) ?_
                refine lv_iload hx hb d_Md_work_165 (lv_at hl 0 rfl) ?_
                refine jn_i (wr := [(a_md, .inr (11, [.ref a_md_tape, .int md_size, .int md_at, .int md_token, .int md_tokenPlace, .int md_number, .int md_sign, .int md_bad, .int md_faultPlace, .int md_place, .ref a_md_acts, .ref a_md_actNumbers, .ref a_md_actCounts, .int md_bank, .int md_unaries, .int md_opens, .ref a_md_pile, .int md_piled, .int md_loop, .ref a_md_begins, .ref a_md_goals, .ref a_md_ranks, .ref a_md_choiceCounts, .ref a_md_whens, .ref a_md_becomes, .ref a_md_guessCounts, .ref a_md_guesses, .ref a_md_unaryCounts, .ref a_md_stack, .ref a_md_nexts, .ref a_md_isBegin, .ref a_md_isGoal, .ref a_md_levels, .ref a_md_queue, .ref a_md_hasGuesses, .int md_keptBits, .ref a_md_rounds, .ref a_md_marked, .ref a_md_other, .ref a_md_heights])), (a_md_acts, .inl (cI, 3000, .inl md_acts)), (a_md_actNumbers, .inl (cI, 3000, .inl md_actNumbers)), (a_md_stack, .inl (cI, 300, .inl md_stack_3))]) (va_runS (As := [.int x5_6, .int x6_8, .int x7_9]) (rest := [.int ((x3_1 + (-1)) - 1), .ref a_md_stack]) ⟨hx, hb, hml, hown, hts⟩ (c_Md_two l dC dI cI cB cZ adK adV _ x5_6 x6_8 x7_9 _ h) (cwS 3 hts (gs_ m_1346 m_1347 m_96 m_1348) rfl rfl rfl pd_Md_two ⟨Nat.le_of_ble_eq_true rfl, Nat.le_of_ble_eq_true rfl⟩) ⟨pc_blind, pc_of (hP.sub [] rfl) hK (hD.sub [] (by decide) rfl) hN hT hS hA⟩ rfl rfl hl.1 rfl (lv_room (Nat.le_of_ble_eq_true rfl)) d_Md_work_167 ⟨Nat.zero_le _, Nat.zero_le _⟩) hP hD hS hA [] [0, 1, 2, 3] rfl rfl (by decide) (by decide) (fun r_10 u_ H locs h hP hD hS => ?_)
                have hP : va_P (dC, dI) vwCl [(a_md, .inr (11, [.ref a_md_tape, .int md_size, .int md_at, .int md_token, .int md_tokenPlace, .int md_number, .int md_sign, .int md_bad, .int md_faultPlace, .int md_place, .ref a_md_acts, .ref a_md_actNumbers, .ref a_md_actCounts, .int md_bank, .int md_unaries, .int md_opens, .ref a_md_pile, .int md_piled, .int md_loop, .ref a_md_begins, .ref a_md_goals, .ref a_md_ranks, .ref a_md_choiceCounts, .ref a_md_whens, .ref a_md_becomes, .ref a_md_guessCounts, .ref a_md_guesses, .ref a_md_unaryCounts, .ref a_md_stack, .ref a_md_nexts, .ref a_md_isBegin, .ref a_md_isGoal, .ref a_md_levels, .ref a_md_queue, .ref a_md_hasGuesses, .int md_keptBits, .ref a_md_rounds, .ref a_md_marked, .ref a_md_other, .ref a_md_heights])), (a_md_acts, .inl (cI, 3000, .inl md_acts)), (a_md_actNumbers, .inl (cI, 3000, .inl md_actNumbers)), (a_md_stack, .inl (cI, 300, .inl md_stack_3))] H := hP
                have hD : va_D A [(a_md, .inr (11, [.ref a_md_tape, .int md_size, .int md_at, .int md_token, .int md_tokenPlace, .int md_number, .int md_sign, .int md_bad, .int md_faultPlace, .int md_place, .ref a_md_acts, .ref a_md_actNumbers, .ref a_md_actCounts, .int md_bank, .int md_unaries, .int md_opens, .ref a_md_pile, .int md_piled, .int md_loop, .ref a_md_begins, .ref a_md_goals, .ref a_md_ranks, .ref a_md_choiceCounts, .ref a_md_whens, .ref a_md_becomes, .ref a_md_guessCounts, .ref a_md_guesses, .ref a_md_unaryCounts, .ref a_md_stack, .ref a_md_nexts, .ref a_md_isBegin, .ref a_md_isGoal, .ref a_md_levels, .ref a_md_queue, .ref a_md_hasGuesses, .int md_keptBits, .ref a_md_rounds, .ref a_md_marked, .ref a_md_other, .ref a_md_heights])), (a_md_acts, .inl (cI, 3000, .inl md_acts)), (a_md_actNumbers, .inl (cI, 3000, .inl md_actNumbers)), (a_md_stack, .inl (cI, 300, .inl md_stack_3))] := hD
                obtain ⟨hin_170, h⟩ := h
                refine va_iast hx hb hK hP hD hS 3 0 rfl rfl hin_170 d_Md_work_170 (fun H locs hP hD hS => ?_)
                have hP : va_P (dC, dI) vwCl [(a_md, .inr (11, [.ref a_md_tape, .int md_size, .int md_at, .int md_token, .int md_tokenPlace, .int md_number, .int md_sign, .int md_bad, .int md_faultPlace, .int md_place, .ref a_md_acts, .ref a_md_actNumbers, .ref a_md_actCounts, .int md_bank, .int md_unaries, .int md_opens, .ref a_md_pile, .int md_piled, .int md_loop, .ref a_md_begins, .ref a_md_goals, .ref a_md_ranks, .ref a_md_choiceCounts, .ref a_md_whens, .ref a_md_becomes, .ref a_md_guessCounts, .ref a_md_guesses, .ref a_md_unaryCounts, .ref a_md_stack, .ref a_md_nexts, .ref a_md_isBegin, .ref a_md_isGoal, .ref a_md_levels, .ref a_md_queue, .ref a_md_hasGuesses, .int md_keptBits, .ref a_md_rounds, .ref a_md_marked, .ref a_md_other, .ref a_md_heights])), (a_md_acts, .inl (cI, 3000, .inl md_acts)), (a_md_actNumbers, .inl (cI, 3000, .inl md_actNumbers)), (a_md_stack, .inl (cI, 300, .inl (upd md_stack_3 ((x3_1 + (-1)) - 1 : Int32).toNatClampNeg r_10)))] H := hP
                have hD : va_D A [(a_md, .inr (11, [.ref a_md_tape, .int md_size, .int md_at, .int md_token, .int md_tokenPlace, .int md_number, .int md_sign, .int md_bad, .int md_faultPlace, .int md_place, .ref a_md_acts, .ref a_md_actNumbers, .ref a_md_actCounts, .int md_bank, .int md_unaries, .int md_opens, .ref a_md_pile, .int md_piled, .int md_loop, .ref a_md_begins, .ref a_md_goals, .ref a_md_ranks, .ref a_md_choiceCounts, .ref a_md_whens, .ref a_md_becomes, .ref a_md_guessCounts, .ref a_md_guesses, .ref a_md_unaryCounts, .ref a_md_stack, .ref a_md_nexts, .ref a_md_isBegin, .ref a_md_isGoal, .ref a_md_levels, .ref a_md_queue, .ref a_md_hasGuesses, .int md_keptBits, .ref a_md_rounds, .ref a_md_marked, .ref a_md_other, .ref a_md_heights])), (a_md_acts, .inl (cI, 3000, .inl md_acts)), (a_md_actNumbers, .inl (cI, 3000, .inl md_actNumbers)), (a_md_stack, .inl (cI, 300, .inl (upd md_stack_3 ((x3_1 + (-1)) - 1 : Int32).toNatClampNeg r_10)))] := hD
                refine lv_iinc (v := x4_2 + 1) (lv' := [(4, .int (x4_2 + 1)), (7, .int x7_9), (6, .int x6_8), (3, .int (x3_1 + (-1))), (5, .int x5_6), (0, .ref a_md), (2, .int x2)]) hx hb d_Md_work_171 hl (k := 6) rfl rfl (by decide) rfl (fun ls hl => ?_)
                refine lv_goto (tgt := 5) hx hb d_Md_work_174 (by decide) ?_
                exact il _ _ _ h _ _ hP hD hS _ (lv_sub hl [5, 6, 3, 0] rfl)
              · have h := And.right h c_109
                refine lv_aload_n hx hb d_Md_work_112 rfl (lv_at hl 1 rfl) ?_
                refine va_get (D := (dC, dI)) (ci := 11) (v := .ref a_md_stack) (C := "LoopInductionModel") (T := F_Md) (N := 40) hx hb hts iC_Md hown hK hP 0 rfl rfl 28 (by decide) fl_60 (fun _ h9 => h9) rfl d_Md_work_113 ?_
                refine lv_iload_n hx hb d_Md_work_116 rfl (lv_at hl 3 rfl) ?_
                refine lv_iconst (v := 1) hx hb d_Md_work_117 (by decide) ?_
                refine lv_isub hx hb d_Md_work_118 ?_
                refine lv_iconst (v := 1) hx hb d_Md_work_119 (by decide) ?_
                refine lv_aload_n hx hb d_Md_work_120 rfl (lv_at hl 1 rfl) ?_
                refine va_get (D := (dC, dI)) (ci := 11) (v := .ref a_md_stack) (C := "LoopInductionModel") (T := F_Md) (N := 40) hx hb hts iC_Md hown hK hP 0 rfl rfl 28 (by decide) fl_60 (fun _ h9 => h9) rfl d_Md_work_121 ?_
                refine lv_iload_n hx hb d_Md_work_124 rfl (lv_at hl 3 rfl) ?_
                refine lv_iconst (v := 1) hx hb d_Md_work_125 (by decide) ?_
                refine lv_isub hx hb d_Md_work_126 ?_
                obtain ⟨hin_127, h⟩ := h
                refine va_iald hx hb hK hP 3 0 rfl rfl hin_127 d_Md_work_127 ?_
                refine lv_isub hx hb d_Md_work_128 ?_
                obtain ⟨hin_129, h⟩ := h
                refine va_iast hx hb hK hP hD hS 3 0 rfl rfl hin_129 d_Md_work_129 (fun H locs hP hD hS => ?_)
                have hP : va_P (dC, dI) vwCl [(a_md, .inr (11, [.ref a_md_tape, .int md_size, .int md_at, .int md_token, .int md_tokenPlace, .int md_number, .int md_sign, .int md_bad, .int md_faultPlace, .int md_place, .ref a_md_acts, .ref a_md_actNumbers, .ref a_md_actCounts, .int md_bank, .int md_unaries, .int md_opens, .ref a_md_pile, .int md_piled, .int md_loop, .ref a_md_begins, .ref a_md_goals, .ref a_md_ranks, .ref a_md_choiceCounts, .ref a_md_whens, .ref a_md_becomes, .ref a_md_guessCounts, .ref a_md_guesses, .ref a_md_unaryCounts, .ref a_md_stack, .ref a_md_nexts, .ref a_md_isBegin, .ref a_md_isGoal, .ref a_md_levels, .ref a_md_queue, .ref a_md_hasGuesses, .int md_keptBits, .ref a_md_rounds, .ref a_md_marked, .ref a_md_other, .ref a_md_heights])), (a_md_acts, .inl (cI, 3000, .inl md_acts)), (a_md_actNumbers, .inl (cI, 3000, .inl md_actNumbers)), (a_md_stack, .inl (cI, 300, .inl (upd md_stack_3 (x3_1 - 1 : Int32).toNatClampNeg (1 - (md_stack_3 (x3_1 - 1 : Int32).toNatClampNeg)))))] H := hP
                have hD : va_D A [(a_md, .inr (11, [.ref a_md_tape, .int md_size, .int md_at, .int md_token, .int md_tokenPlace, .int md_number, .int md_sign, .int md_bad, .int md_faultPlace, .int md_place, .ref a_md_acts, .ref a_md_actNumbers, .ref a_md_actCounts, .int md_bank, .int md_unaries, .int md_opens, .ref a_md_pile, .int md_piled, .int md_loop, .ref a_md_begins, .ref a_md_goals, .ref a_md_ranks, .ref a_md_choiceCounts, .ref a_md_whens, .ref a_md_becomes, .ref a_md_guessCounts, .ref a_md_guesses, .ref a_md_unaryCounts, .ref a_md_stack, .ref a_md_nexts, .ref a_md_isBegin, .ref a_md_isGoal, .ref a_md_levels, .ref a_md_queue, .ref a_md_hasGuesses, .int md_keptBits, .ref a_md_rounds, .ref a_md_marked, .ref a_md_other, .ref a_md_heights])), (a_md_acts, .inl (cI, 3000, .inl md_acts)), (a_md_actNumbers, .inl (cI, 3000, .inl md_actNumbers)), (a_md_stack, .inl (cI, 300, .inl (upd md_stack_3 (x3_1 - 1 : Int32).toNatClampNeg (1 - (md_stack_3 (x3_1 - 1 : Int32).toNatClampNeg)))))] := hD
                refine lv_goto (tgt := 171) hx hb d_Md_work_130 (by decide) ?_
                refine lv_iinc (v := x4_2 + 1) (lv' := [(4, .int (x4_2 + 1)), (5, .int x5_6), (0, .ref a_md), (2, .int x2), (3, .int x3_1)]) hx hb d_Md_work_171 hl (k := 4) rfl rfl (by decide) rfl (fun ls hl => ?_)
                refine lv_goto (tgt := 5) hx hb d_Md_work_174 (by decide) ?_
                exact il _ _ _ h _ _ hP hD hS _ (lv_sub hl [2, 3, 4, 0] rfl)
            · have h := And.right h c_80
              refine lv_aload_n hx hb d_Md_work_83 rfl (lv_at hl 1 rfl) ?_
              refine va_get (D := (dC, dI)) (ci := 11) (v := .ref a_md_stack) (C := "LoopInductionModel") (T := F_Md) (N := 40) hx hb hts iC_Md hown hK hP 0 rfl rfl 28 (by decide) fl_60 (fun _ h9 => h9) rfl d_Md_work_84 ?_
              refine lv_iload_n hx hb d_Md_work_87 rfl (lv_at hl 3 rfl) ?_
              refine lv_iconst (v := 1) hx hb d_Md_work_88 (by decide) ?_
              refine lv_isub hx hb d_Md_work_89 ?_
              refine lv_aload_n hx hb d_Md_work_90 rfl (lv_at hl 1 rfl) ?_
              refine va_get (D := (dC, dI)) (ci := 11) (v := .ref a_md_stack) (C := "LoopInductionModel") (T := F_Md) (N := 40) hx hb hts iC_Md hown hK hP 0 rfl rfl 28 (by decide) fl_60 (fun _ h9 => h9) rfl d_Md_work_91 ?_
              refine lv_iload_n hx hb d_Md_work_94 rfl (lv_at hl 3 rfl) ?_
              refine lv_iconst (v := 1) hx hb d_Md_work_95 (by decide) ?_
              refine lv_isub hx hb d_Md_work_96 ?_
              obtain ⟨hin_97, h⟩ := h
              refine va_iald hx hb hK hP 3 0 rfl rfl hin_97 d_Md_work_97 ?_
              refine lv_ineg hx hb d_Md_work_98 ?_
              refine lv_bipush (v := 15) hx hb d_Md_work_99 (by decide) ?_
              refine lv_iand hx hb d_Md_work_101 ?_
              obtain ⟨hin_102, h⟩ := h
              refine va_iast hx hb hK hP hD hS 3 0 rfl rfl hin_102 d_Md_work_102 (fun H locs hP hD hS => ?_)
              have hP : va_P (dC, dI) vwCl [(a_md, .inr (11, [.ref a_md_tape, .int md_size, .int md_at, .int md_token, .int md_tokenPlace, .int md_number, .int md_sign, .int md_bad, .int md_faultPlace, .int md_place, .ref a_md_acts, .ref a_md_actNumbers, .ref a_md_actCounts, .int md_bank, .int md_unaries, .int md_opens, .ref a_md_pile, .int md_piled, .int md_loop, .ref a_md_begins, .ref a_md_goals, .ref a_md_ranks, .ref a_md_choiceCounts, .ref a_md_whens, .ref a_md_becomes, .ref a_md_guessCounts, .ref a_md_guesses, .ref a_md_unaryCounts, .ref a_md_stack, .ref a_md_nexts, .ref a_md_isBegin, .ref a_md_isGoal, .ref a_md_levels, .ref a_md_queue, .ref a_md_hasGuesses, .int md_keptBits, .ref a_md_rounds, .ref a_md_marked, .ref a_md_other, .ref a_md_heights])), (a_md_acts, .inl (cI, 3000, .inl md_acts)), (a_md_actNumbers, .inl (cI, 3000, .inl md_actNumbers)), (a_md_stack, .inl (cI, 300, .inl (upd md_stack_3 (x3_1 - 1 : Int32).toNatClampNeg ((-(md_stack_3 (x3_1 - 1 : Int32).toNatClampNeg)) &&& 15))))] H := hP
              have hD : va_D A [(a_md, .inr (11, [.ref a_md_tape, .int md_size, .int md_at, .int md_token, .int md_tokenPlace, .int md_number, .int md_sign, .int md_bad, .int md_faultPlace, .int md_place, .ref a_md_acts, .ref a_md_actNumbers, .ref a_md_actCounts, .int md_bank, .int md_unaries, .int md_opens, .ref a_md_pile, .int md_piled, .int md_loop, .ref a_md_begins, .ref a_md_goals, .ref a_md_ranks, .ref a_md_choiceCounts, .ref a_md_whens, .ref a_md_becomes, .ref a_md_guessCounts, .ref a_md_guesses, .ref a_md_unaryCounts, .ref a_md_stack, .ref a_md_nexts, .ref a_md_isBegin, .ref a_md_isGoal, .ref a_md_levels, .ref a_md_queue, .ref a_md_hasGuesses, .int md_keptBits, .ref a_md_rounds, .ref a_md_marked, .ref a_md_other, .ref a_md_heights])), (a_md_acts, .inl (cI, 3000, .inl md_acts)), (a_md_actNumbers, .inl (cI, 3000, .inl md_actNumbers)), (a_md_stack, .inl (cI, 300, .inl (upd md_stack_3 (x3_1 - 1 : Int32).toNatClampNeg ((-(md_stack_3 (x3_1 - 1 : Int32).toNatClampNeg)) &&& 15))))] := hD
              refine lv_goto (tgt := 171) hx hb d_Md_work_103 (by decide) ?_
              refine lv_iinc (v := x4_2 + 1) (lv' := [(4, .int (x4_2 + 1)), (5, .int x5_6), (0, .ref a_md), (2, .int x2), (3, .int x3_1)]) hx hb d_Md_work_171 hl (k := 4) rfl rfl (by decide) rfl (fun ls hl => ?_)
              refine lv_goto (tgt := 5) hx hb d_Md_work_174 (by decide) ?_
              exact il _ _ _ h _ _ hP hD hS _ (lv_sub hl [2, 3, 4, 0] rfl)
          · have h := And.right h c_35
            refine lv_aload_n hx hb d_Md_work_38 rfl (lv_at hl 1 rfl) ?_
            refine va_get (D := (dC, dI)) (ci := 11) (v := .ref a_md_stack) (C := "LoopInductionModel") (T := F_Md) (N := 40) hx hb hts iC_Md hown hK hP 0 rfl rfl 28 (by decide) fl_60 (fun _ h9 => h9) rfl d_Md_work_39 ?_
            refine lv_iload_n hx hb d_Md_work_42 rfl (lv_at hl 3 rfl) ?_
            refine lv_iload hx hb d_Md_work_43 (lv_at hl 0 rfl) ?_
            refine lv_iconst (v := 1) hx hb d_Md_work_45 (by decide) ?_
            refine lv_icmp_ne (tgt := 59) hx hb d_Md_work_46 (by decide) (fun c_46 => ?_) (fun c_46 => ?_)
            · have h := And.left h c_46
              refine lv_iload_n hx hb d_Md_work_59 rfl (lv_at hl 2 rfl) ?_
              refine lv_aload_n hx hb d_Md_work_60 rfl (lv_at hl 1 rfl) ?_
              refine va_get (D := (dC, dI)) (ci := 11) (v := .ref a_md_actNumbers) (C := "LoopInductionModel") (T := F_Md) (N := 40) hx hb hts iC_Md hown hK hP 0 rfl rfl 11 (by decide) fl_21 (fun _ h9 => h9) rfl d_Md_work_61 ?_
              refine lv_iload hx hb d_Md_work_64 (lv_at hl 4 rfl) ?_
              obtain ⟨hin_66, h⟩ := h
              refine va_iald hx hb hK hP 2 0 rfl rfl hin_66 d_Md_work_66 ?_
              refine jn_i (wr := [(a_md, .inr (11, [.ref a_md_tape, .int md_size, .int md_at, .int md_token, .int md_tokenPlace, .int md_number, .int md_sign, .int md_bad, .int md_faultPlace, .int md_place, .ref a_md_acts, .ref a_md_actNumbers, .ref a_md_actCounts, .int md_bank, .int md_unaries, .int md_opens, .ref a_md_pile, .int md_piled, .int md_loop, .ref a_md_begins, .ref a_md_goals, .ref a_md_ranks, .ref a_md_choiceCounts, .ref a_md_whens, .ref a_md_becomes, .ref a_md_guessCounts, .ref a_md_guesses, .ref a_md_unaryCounts, .ref a_md_stack, .ref a_md_nexts, .ref a_md_isBegin, .ref a_md_isGoal, .ref a_md_levels, .ref a_md_queue, .ref a_md_hasGuesses, .int md_keptBits, .ref a_md_rounds, .ref a_md_marked, .ref a_md_other, .ref a_md_heights])), (a_md_acts, .inl (cI, 3000, .inl md_acts)), (a_md_actNumbers, .inl (cI, 3000, .inl md_actNumbers)), (a_md_stack, .inl (cI, 300, .inl md_stack_3))]) (va_runS (As := [.int x2, .int (md_actNumbers (x4_2 : Int32).toNatClampNeg)]) (rest := [.int x3_1, .ref a_md_stack]) ⟨hx, hb, hml, hown, hts⟩ (c_Md_variableOf l dC dI cI cB cZ adK adV _ x2 (md_actNumbers (x4_2 : Int32).toNatClampNeg) _ h) (cwS 2 hts (gs_ m_1343 m_1344 m_96 m_1345) rfl rfl rfl pd_Md_variableOf ⟨Nat.le_of_ble_eq_true rfl, Nat.le_of_ble_eq_true rfl⟩) ⟨pc_blind, pc_of (hP.sub [] rfl) hK (hD.sub [] (by decide) rfl) hN hT hS hA⟩ rfl rfl hl.1 rfl (lv_room (Nat.le_of_ble_eq_true rfl)) d_Md_work_67 ⟨Nat.zero_le _, Nat.zero_le _⟩) hP hD hS hA [] [0, 1, 2, 3] rfl rfl (by decide) (by decide) (fun r_11 u_ H locs h hP hD hS => ?_)
              have hP : va_P (dC, dI) vwCl [(a_md, .inr (11, [.ref a_md_tape, .int md_size, .int md_at, .int md_token, .int md_tokenPlace, .int md_number, .int md_sign, .int md_bad, .int md_faultPlace, .int md_place, .ref a_md_acts, .ref a_md_actNumbers, .ref a_md_actCounts, .int md_bank, .int md_unaries, .int md_opens, .ref a_md_pile, .int md_piled, .int md_loop, .ref a_md_begins, .ref a_md_goals, .ref a_md_ranks, .ref a_md_choiceCounts, .ref a_md_whens, .ref a_md_becomes, .ref a_md_guessCounts, .ref a_md_guesses, .ref a_md_unaryCounts, .ref a_md_stack, .ref a_md_nexts, .ref a_md_isBegin, .ref a_md_isGoal, .ref a_md_levels, .ref a_md_queue, .ref a_md_hasGuesses, .int md_keptBits, .ref a_md_rounds, .ref a_md_marked, .ref a_md_other, .ref a_md_heights])), (a_md_acts, .inl (cI, 3000, .inl md_acts)), (a_md_actNumbers, .inl (cI, 3000, .inl md_actNumbers)), (a_md_stack, .inl (cI, 300, .inl md_stack_3))] H := hP
              have hD : va_D A [(a_md, .inr (11, [.ref a_md_tape, .int md_size, .int md_at, .int md_token, .int md_tokenPlace, .int md_number, .int md_sign, .int md_bad, .int md_faultPlace, .int md_place, .ref a_md_acts, .ref a_md_actNumbers, .ref a_md_actCounts, .int md_bank, .int md_unaries, .int md_opens, .ref a_md_pile, .int md_piled, .int md_loop, .ref a_md_begins, .ref a_md_goals, .ref a_md_ranks, .ref a_md_choiceCounts, .ref a_md_whens, .ref a_md_becomes, .ref a_md_guessCounts, .ref a_md_guesses, .ref a_md_unaryCounts, .ref a_md_stack, .ref a_md_nexts, .ref a_md_isBegin, .ref a_md_isGoal, .ref a_md_levels, .ref a_md_queue, .ref a_md_hasGuesses, .int md_keptBits, .ref a_md_rounds, .ref a_md_marked, .ref a_md_other, .ref a_md_heights])), (a_md_acts, .inl (cI, 3000, .inl md_acts)), (a_md_actNumbers, .inl (cI, 3000, .inl md_actNumbers)), (a_md_stack, .inl (cI, 300, .inl md_stack_3))] := hD
              obtain ⟨hin_70, h⟩ := h
              refine va_iast hx hb hK hP hD hS 3 0 rfl rfl hin_70 d_Md_work_70 (fun H locs hP hD hS => ?_)
              have hP : va_P (dC, dI) vwCl [(a_md, .inr (11, [.ref a_md_tape, .int md_size, .int md_at, .int md_token, .int md_tokenPlace, .int md_number, .int md_sign, .int md_bad, .int md_faultPlace, .int md_place, .ref a_md_acts, .ref a_md_actNumbers, .ref a_md_actCounts, .int md_bank, .int md_unaries, .int md_opens, .ref a_md_pile, .int md_piled, .int md_loop, .ref a_md_begins, .ref a_md_goals, .ref a_md_ranks, .ref a_md_choiceCounts, .ref a_md_whens, .ref a_md_becomes, .ref a_md_guessCounts, .ref a_md_guesses, .ref a_md_unaryCounts, .ref a_md_stack, .ref a_md_nexts, .ref a_md_isBegin, .ref a_md_isGoal, .ref a_md_levels, .ref a_md_queue, .ref a_md_hasGuesses, .int md_keptBits, .ref a_md_rounds, .ref a_md_marked, .ref a_md_other, .ref a_md_heights])), (a_md_acts, .inl (cI, 3000, .inl md_acts)), (a_md_actNumbers, .inl (cI, 3000, .inl md_actNumbers)), (a_md_stack, .inl (cI, 300, .inl (upd md_stack_3 (x3_1 : Int32).toNatClampNeg r_11)))] H := hP
              have hD : va_D A [(a_md, .inr (11, [.ref a_md_tape, .int md_size, .int md_at, .int md_token, .int md_tokenPlace, .int md_number, .int md_sign, .int md_bad, .int md_faultPlace, .int md_place, .ref a_md_acts, .ref a_md_actNumbers, .ref a_md_actCounts, .int md_bank, .int md_unaries, .int md_opens, .ref a_md_pile, .int md_piled, .int md_loop, .ref a_md_begins, .ref a_md_goals, .ref a_md_ranks, .ref a_md_choiceCounts, .ref a_md_whens, .ref a_md_becomes, .ref a_md_guessCounts, .ref a_md_guesses, .ref a_md_unaryCounts, .ref a_md_stack, .ref a_md_nexts, .ref a_md_isBegin, .ref a_md_isGoal, .ref a_md_levels, .ref a_md_queue, .ref a_md_hasGuesses, .int md_keptBits, .ref a_md_rounds, .ref a_md_marked, .ref a_md_other, .ref a_md_heights])), (a_md_acts, .inl (cI, 3000, .inl md_acts)), (a_md_actNumbers, .inl (cI, 3000, .inl md_actNumbers)), (a_md_stack, .inl (cI, 300, .inl (upd md_stack_3 (x3_1 : Int32).toNatClampNeg r_11)))] := hD
              refine lv_iinc (v := x3_1 + 1) (lv' := [(3, .int (x3_1 + 1)), (5, .int x5_6), (0, .ref a_md), (2, .int x2), (4, .int x4_2)]) hx hb d_Md_work_71 hl (k := 3) rfl rfl (by decide) rfl (fun ls hl => ?_)
              refine lv_goto (tgt := 171) hx hb d_Md_work_74 (by decide) ?_
              refine lv_iinc (v := x4_2 + 1) (lv' := [(4, .int (x4_2 + 1)), (3, .int (x3_1 + 1)), (5, .int x5_6), (0, .ref a_md), (2, .int x2)]) hx hb d_Md_work_171 hl (k := 4) rfl rfl (by decide) rfl (fun ls hl => ?_)
              refine lv_goto (tgt := 5) hx hb d_Md_work_174 (by decide) ?_
              exact il _ _ _ h _ _ hP hD hS _ (lv_sub hl [3, 4, 1, 0] rfl)
            · have h := And.right h c_46
              refine lv_aload_n hx hb d_Md_work_49 rfl (lv_at hl 1 rfl) ?_
              refine va_get (D := (dC, dI)) (ci := 11) (v := .ref a_md_actNumbers) (C := "LoopInductionModel") (T := F_Md) (N := 40) hx hb hts iC_Md hown hK hP 0 rfl rfl 11 (by decide) fl_21 (fun _ h9 => h9) rfl d_Md_work_50 ?_
              refine lv_iload hx hb d_Md_work_53 (lv_at hl 4 rfl) ?_
              obtain ⟨hin_55, h⟩ := h
              refine va_iald hx hb hK hP 2 0 rfl rfl hin_55 d_Md_work_55 ?_
              refine lv_goto (tgt := 70) hx hb d_Md_work_56 (by decide) ?_
              obtain ⟨hin_70, h⟩ := h
              refine va_iast hx hb hK hP hD hS 3 0 rfl rfl hin_70 d_Md_work_70 (fun H locs hP hD hS => ?_)
              have hP : va_P (dC, dI) vwCl [(a_md, .inr (11, [.ref a_md_tape, .int md_size, .int md_at, .int md_token, .int md_tokenPlace, .int md_number, .int md_sign, .int md_bad, .int md_faultPlace, .int md_place, .ref a_md_acts, .ref a_md_actNumbers, .ref a_md_actCounts, .int md_bank, .int md_unaries, .int md_opens, .ref a_md_pile, .int md_piled, .int md_loop, .ref a_md_begins, .ref a_md_goals, .ref a_md_ranks, .ref a_md_choiceCounts, .ref a_md_whens, .ref a_md_becomes, .ref a_md_guessCounts, .ref a_md_guesses, .ref a_md_unaryCounts, .ref a_md_stack, .ref a_md_nexts, .ref a_md_isBegin, .ref a_md_isGoal, .ref a_md_levels, .ref a_md_queue, .ref a_md_hasGuesses, .int md_keptBits, .ref a_md_rounds, .ref a_md_marked, .ref a_md_other, .ref a_md_heights])), (a_md_acts, .inl (cI, 3000, .inl md_acts)), (a_md_actNumbers, .inl (cI, 3000, .inl md_actNumbers)), (a_md_stack, .inl (cI, 300, .inl (upd md_stack_3 (x3_1 : Int32).toNatClampNeg (md_actNumbers (x4_2 : Int32).toNatClampNeg))))] H := hP
              have hD : va_D A [(a_md, .inr (11, [.ref a_md_tape, .int md_size, .int md_at, .int md_token, .int md_tokenPlace, .int md_number, .int md_sign, .int md_bad, .int md_faultPlace, .int md_place, .ref a_md_acts, .ref a_md_actNumbers, .ref a_md_actCounts, .int md_bank, .int md_unaries, .int md_opens, .ref a_md_pile, .int md_piled, .int md_loop, .ref a_md_begins, .ref a_md_goals, .ref a_md_ranks, .ref a_md_choiceCounts, .ref a_md_whens, .ref a_md_becomes, .ref a_md_guessCounts, .ref a_md_guesses, .ref a_md_unaryCounts, .ref a_md_stack, .ref a_md_nexts, .ref a_md_isBegin, .ref a_md_isGoal, .ref a_md_levels, .ref a_md_queue, .ref a_md_hasGuesses, .int md_keptBits, .ref a_md_rounds, .ref a_md_marked, .ref a_md_other, .ref a_md_heights])), (a_md_acts, .inl (cI, 3000, .inl md_acts)), (a_md_actNumbers, .inl (cI, 3000, .inl md_actNumbers)), (a_md_stack, .inl (cI, 300, .inl (upd md_stack_3 (x3_1 : Int32).toNatClampNeg (md_actNumbers (x4_2 : Int32).toNatClampNeg))))] := hD
              refine lv_iinc (v := x3_1 + 1) (lv' := [(3, .int (x3_1 + 1)), (5, .int x5_6), (0, .ref a_md), (2, .int x2), (4, .int x4_2)]) hx hb d_Md_work_71 hl (k := 3) rfl rfl (by decide) rfl (fun ls hl => ?_)
              refine lv_goto (tgt := 171) hx hb d_Md_work_74 (by decide) ?_
              refine lv_iinc (v := x4_2 + 1) (lv' := [(4, .int (x4_2 + 1)), (3, .int (x3_1 + 1)), (5, .int x5_6), (0, .ref a_md), (2, .int x2)]) hx hb d_Md_work_171 hl (k := 4) rfl rfl (by decide) rfl (fun ls hl => ?_)
              refine lv_goto (tgt := 5) hx hb d_Md_work_174 (by decide) ?_
              exact il _ _ _ h _ _ hP hD hS _ (lv_sub hl [3, 4, 1, 0] rfl)
  obtain ⟨n_, h⟩ := h
  refine L5_q_4 _ ?_ n_ _ _ _ h _ _ hP hD hS _ (lv_sub hl [2, 4, 1, 0] rfl)
  intro md_stack_12 h
  intro H locs hP hD hS ls hl
  refine lv_aload_n hx hb d_Md_work_177 rfl (lv_at hl 0 rfl) ?_
  refine va_get (D := (dC, dI)) (ci := 11) (v := .ref a_md_stack) (C := "LoopInductionModel") (T := F_Md) (N := 40) hx hb hts iC_Md hown hK hP 0 rfl rfl 28 (by decide) fl_60 (fun _ h9 => h9) rfl d_Md_work_178 ?_
  refine lv_iconst (v := 0) hx hb d_Md_work_181 (by decide) ?_
  obtain ⟨hin_182, h⟩ := h
  refine va_iald hx hb hK hP 3 0 rfl rfl hin_182 d_Md_work_182 ?_
  rw [← hQ]
  have hP9 := hP
  have hD9 := hD
  exact W.iret (v := md_stack_12 (0 : Int32).toNatClampNeg) hx hb hr (fun t ht hW => ⟨⟨(md_stack_12 (0 : Int32).toNatClampNeg), (md_stack_12), rfl, h, by rw [ht]; exact hP9, va_K.moved hW.alike hK, hD9⟩, hS.F ht⟩) hS.2.2 d_Md_work_183
