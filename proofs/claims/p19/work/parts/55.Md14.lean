abbrev b_Md_findKept : ByteArray := prog_13_method_37_code
abbrev y_Md_findKept : MethodName := ⟨"LoopInductionModel", "findKept", "()V"⟩
abbrev w_Md_findKept : List Cond := .code y_Md_findKept b_Md_findKept 9 none :: allW
theorem pn_Md_findKept : y_Md_findKept.cls ≠ "java/lang/invoke/MethodHandle" ∧ y_Md_findKept.cls ≠ "java/lang/invoke/VarHandle" ∧ (parseMethodDescriptor y_Md_findKept.desc).map (fun d => d.parameters.length) = some 0 := by decide +kernel
theorem pd_Md_findKept : y_Md_findKept.cls = "LoopInductionModel" ∧ y_Md_findKept.cls ≠ "java/lang/invoke/MethodHandle" ∧ y_Md_findKept.cls ≠ "java/lang/invoke/VarHandle" ∧ (parseMethodDescriptor y_Md_findKept.desc).map (fun d => d.parameters.length) = some 0 := by decide +kernel
theorem d_Md_findKept_0 : decode b_Md_findKept 0 = .ok (.iconst 1, 1) := by decide +kernel
theorem d_Md_findKept_1 : decode b_Md_findKept 1 = .ok (.aload_n 0, 1) := by decide +kernel
theorem d_Md_findKept_2 : decode b_Md_findKept 2 = .ok (.getfield 51, 3) := by decide +kernel
theorem d_Md_findKept_5 : decode b_Md_findKept 5 = .ok (.aload_n 0, 1) := by decide +kernel
theorem d_Md_findKept_6 : decode b_Md_findKept 6 = .ok (.getfield 30, 3) := by decide +kernel
theorem d_Md_findKept_9 : decode b_Md_findKept 9 = .ok (.iaload, 1) := by decide +kernel
theorem d_Md_findKept_10 : decode b_Md_findKept 10 = .ok (.ishl, 1) := by decide +kernel
theorem d_Md_findKept_11 : decode b_Md_findKept 11 = .ok (.iconst 1, 1) := by decide +kernel
theorem d_Md_findKept_12 : decode b_Md_findKept 12 = .ok (.isub, 1) := by decide +kernel
theorem d_Md_findKept_13 : decode b_Md_findKept 13 = .ok (.istore_n 1, 1) := by decide +kernel
theorem d_Md_findKept_14 : decode b_Md_findKept 14 = .ok (.iload_n 1, 1) := by decide +kernel
theorem d_Md_findKept_15 : decode b_Md_findKept 15 = .ok (.istore_n 2, 1) := by decide +kernel
theorem d_Md_findKept_16 : decode b_Md_findKept 16 = .ok (.iconst 0, 1) := by decide +kernel
theorem d_Md_findKept_17 : decode b_Md_findKept 17 = .ok (.istore_n 3, 1) := by decide +kernel
theorem d_Md_findKept_18 : decode b_Md_findKept 18 = .ok (.iload_n 3, 1) := by decide +kernel
theorem d_Md_findKept_19 : decode b_Md_findKept 19 = .ok (.sipush 4096, 3) := by decide +kernel
theorem d_Md_findKept_22 : decode b_Md_findKept 22 = .ok (.if_icmp .ge 31, 3) := by decide +kernel
theorem d_Md_findKept_25 : decode b_Md_findKept 25 = .ok (.aload_n 0, 1) := by decide +kernel
theorem d_Md_findKept_26 : decode b_Md_findKept 26 = .ok (.getfield 66, 3) := by decide +kernel
theorem d_Md_findKept_29 : decode b_Md_findKept 29 = .ok (.iload_n 3, 1) := by decide +kernel
theorem d_Md_findKept_30 : decode b_Md_findKept 30 = .ok (.baload, 1) := by decide +kernel
theorem d_Md_findKept_31 : decode b_Md_findKept 31 = .ok (.ifCond .eq 14, 3) := by decide +kernel
theorem d_Md_findKept_34 : decode b_Md_findKept 34 = .ok (.iload_n 2, 1) := by decide +kernel
theorem d_Md_findKept_35 : decode b_Md_findKept 35 = .ok (.aload_n 0, 1) := by decide +kernel
theorem d_Md_findKept_36 : decode b_Md_findKept 36 = .ok (.getfield 79, 3) := by decide +kernel
theorem d_Md_findKept_39 : decode b_Md_findKept 39 = .ok (.iload_n 3, 1) := by decide +kernel
theorem d_Md_findKept_40 : decode b_Md_findKept 40 = .ok (.iaload, 1) := by decide +kernel
theorem d_Md_findKept_41 : decode b_Md_findKept 41 = .ok (.iand, 1) := by decide +kernel
theorem d_Md_findKept_42 : decode b_Md_findKept 42 = .ok (.goto 4, 3) := by decide +kernel
theorem d_Md_findKept_45 : decode b_Md_findKept 45 = .ok (.iload_n 2, 1) := by decide +kernel
theorem d_Md_findKept_46 : decode b_Md_findKept 46 = .ok (.istore_n 2, 1) := by decide +kernel
theorem d_Md_findKept_47 : decode b_Md_findKept 47 = .ok (.iinc 3 1, 3) := by decide +kernel
theorem d_Md_findKept_50 : decode b_Md_findKept 50 = .ok (.goto (-32), 3) := by decide +kernel
theorem d_Md_findKept_53 : decode b_Md_findKept 53 = .ok (.aload_n 0, 1) := by decide +kernel
theorem d_Md_findKept_54 : decode b_Md_findKept 54 = .ok (.iload_n 1, 1) := by decide +kernel
theorem d_Md_findKept_55 : decode b_Md_findKept 55 = .ok (.iload_n 2, 1) := by decide +kernel
theorem d_Md_findKept_56 : decode b_Md_findKept 56 = .ok (.iconst (-1), 1) := by decide +kernel
theorem d_Md_findKept_57 : decode b_Md_findKept 57 = .ok (.ixor, 1) := by decide +kernel
theorem d_Md_findKept_58 : decode b_Md_findKept 58 = .ok (.iand, 1) := by decide +kernel
theorem d_Md_findKept_59 : decode b_Md_findKept 59 = .ok (.iconst 0, 1) := by decide +kernel
theorem d_Md_findKept_60 : decode b_Md_findKept 60 = .ok (.invokevirtual 261, 3) := by decide +kernel
theorem d_Md_findKept_63 : decode b_Md_findKept 63 = .ok (.iconst 1, 1) := by decide +kernel
theorem d_Md_findKept_64 : decode b_Md_findKept 64 = .ok (.istore_n 3, 1) := by decide +kernel
theorem d_Md_findKept_65 : decode b_Md_findKept 65 = .ok (.iconst 1, 1) := by decide +kernel
theorem d_Md_findKept_66 : decode b_Md_findKept 66 = .ok (.istore 4, 2) := by decide +kernel
theorem d_Md_findKept_68 : decode b_Md_findKept 68 = .ok (.iload 4, 2) := by decide +kernel
theorem d_Md_findKept_70 : decode b_Md_findKept 70 = .ok (.ifCond .eq 122, 3) := by decide +kernel
theorem d_Md_findKept_73 : decode b_Md_findKept 73 = .ok (.iload_n 2, 1) := by decide +kernel
theorem d_Md_findKept_74 : decode b_Md_findKept 74 = .ok (.istore 5, 2) := by decide +kernel
theorem d_Md_findKept_76 : decode b_Md_findKept 76 = .ok (.iconst 0, 1) := by decide +kernel
theorem d_Md_findKept_77 : decode b_Md_findKept 77 = .ok (.istore 6, 2) := by decide +kernel
theorem d_Md_findKept_79 : decode b_Md_findKept 79 = .ok (.iload 6, 2) := by decide +kernel
theorem d_Md_findKept_81 : decode b_Md_findKept 81 = .ok (.sipush 4096, 3) := by decide +kernel
theorem d_Md_findKept_84 : decode b_Md_findKept 84 = .ok (.if_icmp .ge 75, 3) := by decide +kernel
theorem d_Md_findKept_87 : decode b_Md_findKept 87 = .ok (.iconst 0, 1) := by decide +kernel
theorem d_Md_findKept_88 : decode b_Md_findKept 88 = .ok (.istore 7, 2) := by decide +kernel
theorem d_Md_findKept_90 : decode b_Md_findKept 90 = .ok (.iload 7, 2) := by decide +kernel
theorem d_Md_findKept_92 : decode b_Md_findKept 92 = .ok (.bipush 6, 2) := by decide +kernel
theorem d_Md_findKept_94 : decode b_Md_findKept 94 = .ok (.if_icmp .ge 59, 3) := by decide +kernel
theorem d_Md_findKept_97 : decode b_Md_findKept 97 = .ok (.aload_n 0, 1) := by decide +kernel
theorem d_Md_findKept_98 : decode b_Md_findKept 98 = .ok (.getfield 79, 3) := by decide +kernel
theorem d_Md_findKept_101 : decode b_Md_findKept 101 = .ok (.iload 6, 2) := by decide +kernel
theorem d_Md_findKept_103 : decode b_Md_findKept 103 = .ok (.iaload, 1) := by decide +kernel
theorem d_Md_findKept_104 : decode b_Md_findKept 104 = .ok (.iload_n 2, 1) := by decide +kernel
theorem d_Md_findKept_105 : decode b_Md_findKept 105 = .ok (.iand, 1) := by decide +kernel
theorem d_Md_findKept_106 : decode b_Md_findKept 106 = .ok (.iload_n 2, 1) := by decide +kernel
theorem d_Md_findKept_107 : decode b_Md_findKept 107 = .ok (.if_icmp .ne 46, 3) := by decide +kernel
theorem d_Md_findKept_110 : decode b_Md_findKept 110 = .ok (.aload_n 0, 1) := by decide +kernel
theorem d_Md_findKept_111 : decode b_Md_findKept 111 = .ok (.getfield 63, 3) := by decide +kernel
theorem d_Md_findKept_114 : decode b_Md_findKept 114 = .ok (.bipush 6, 2) := by decide +kernel
theorem d_Md_findKept_116 : decode b_Md_findKept 116 = .ok (.iload 6, 2) := by decide +kernel
theorem d_Md_findKept_118 : decode b_Md_findKept 118 = .ok (.imul, 1) := by decide +kernel
theorem d_Md_findKept_119 : decode b_Md_findKept 119 = .ok (.iload 7, 2) := by decide +kernel
theorem d_Md_findKept_121 : decode b_Md_findKept 121 = .ok (.iadd, 1) := by decide +kernel
theorem d_Md_findKept_122 : decode b_Md_findKept 122 = .ok (.iaload, 1) := by decide +kernel
theorem d_Md_findKept_123 : decode b_Md_findKept 123 = .ok (.istore 8, 2) := by decide +kernel
theorem d_Md_findKept_125 : decode b_Md_findKept 125 = .ok (.iload 8, 2) := by decide +kernel
theorem d_Md_findKept_127 : decode b_Md_findKept 127 = .ok (.ifCond .ge 8, 3) := by decide +kernel
theorem d_Md_findKept_130 : decode b_Md_findKept 130 = .ok (.iload 5, 2) := by decide +kernel
theorem d_Md_findKept_132 : decode b_Md_findKept 132 = .ok (.goto 13, 3) := by decide +kernel
theorem d_Md_findKept_135 : decode b_Md_findKept 135 = .ok (.iload 5, 2) := by decide +kernel
theorem d_Md_findKept_137 : decode b_Md_findKept 137 = .ok (.aload_n 0, 1) := by decide +kernel
theorem d_Md_findKept_138 : decode b_Md_findKept 138 = .ok (.getfield 79, 3) := by decide +kernel
theorem d_Md_findKept_141 : decode b_Md_findKept 141 = .ok (.iload 8, 2) := by decide +kernel
theorem d_Md_findKept_143 : decode b_Md_findKept 143 = .ok (.iaload, 1) := by decide +kernel
theorem d_Md_findKept_144 : decode b_Md_findKept 144 = .ok (.iand, 1) := by decide +kernel
theorem d_Md_findKept_145 : decode b_Md_findKept 145 = .ok (.istore 5, 2) := by decide +kernel
theorem d_Md_findKept_147 : decode b_Md_findKept 147 = .ok (.iinc 7 1, 3) := by decide +kernel
theorem d_Md_findKept_150 : decode b_Md_findKept 150 = .ok (.goto (-60), 3) := by decide +kernel
theorem d_Md_findKept_153 : decode b_Md_findKept 153 = .ok (.iinc 6 1, 3) := by decide +kernel
theorem d_Md_findKept_156 : decode b_Md_findKept 156 = .ok (.goto (-77), 3) := by decide +kernel
theorem d_Md_findKept_159 : decode b_Md_findKept 159 = .ok (.aload_n 0, 1) := by decide +kernel
theorem d_Md_findKept_160 : decode b_Md_findKept 160 = .ok (.iload_n 2, 1) := by decide +kernel
theorem d_Md_findKept_161 : decode b_Md_findKept 161 = .ok (.iload 5, 2) := by decide +kernel
theorem d_Md_findKept_163 : decode b_Md_findKept 163 = .ok (.iconst (-1), 1) := by decide +kernel
theorem d_Md_findKept_164 : decode b_Md_findKept 164 = .ok (.ixor, 1) := by decide +kernel
theorem d_Md_findKept_165 : decode b_Md_findKept 165 = .ok (.iand, 1) := by decide +kernel
theorem d_Md_findKept_166 : decode b_Md_findKept 166 = .ok (.iload_n 3, 1) := by decide +kernel
theorem d_Md_findKept_167 : decode b_Md_findKept 167 = .ok (.invokevirtual 261, 3) := by decide +kernel
theorem d_Md_findKept_170 : decode b_Md_findKept 170 = .ok (.iload 5, 2) := by decide +kernel
theorem d_Md_findKept_172 : decode b_Md_findKept 172 = .ok (.iload_n 2, 1) := by decide +kernel
theorem d_Md_findKept_173 : decode b_Md_findKept 173 = .ok (.if_icmp .eq 7, 3) := by decide +kernel
theorem d_Md_findKept_176 : decode b_Md_findKept 176 = .ok (.iconst 1, 1) := by decide +kernel
theorem d_Md_findKept_177 : decode b_Md_findKept 177 = .ok (.goto 4, 3) := by decide +kernel
theorem d_Md_findKept_180 : decode b_Md_findKept 180 = .ok (.iconst 0, 1) := by decide +kernel
theorem d_Md_findKept_181 : decode b_Md_findKept 181 = .ok (.istore 4, 2) := by decide +kernel
theorem d_Md_findKept_183 : decode b_Md_findKept 183 = .ok (.iload 5, 2) := by decide +kernel
theorem d_Md_findKept_185 : decode b_Md_findKept 185 = .ok (.istore_n 2, 1) := by decide +kernel
theorem d_Md_findKept_186 : decode b_Md_findKept 186 = .ok (.iinc 3 1, 3) := by decide +kernel
theorem d_Md_findKept_189 : decode b_Md_findKept 189 = .ok (.goto (-121), 3) := by decide +kernel
theorem d_Md_findKept_192 : decode b_Md_findKept 192 = .ok (.aload_n 0, 1) := by decide +kernel
theorem d_Md_findKept_193 : decode b_Md_findKept 193 = .ok (.iload_n 2, 1) := by decide +kernel
theorem d_Md_findKept_194 : decode b_Md_findKept 194 = .ok (.bipush 100, 2) := by decide +kernel
theorem d_Md_findKept_196 : decode b_Md_findKept 196 = .ok (.invokevirtual 261, 3) := by decide +kernel
theorem d_Md_findKept_199 : decode b_Md_findKept 199 = .ok (.aload_n 0, 1) := by decide +kernel
theorem d_Md_findKept_200 : decode b_Md_findKept 200 = .ok (.iload_n 2, 1) := by decide +kernel
theorem d_Md_findKept_201 : decode b_Md_findKept 201 = .ok (.putfield 264, 3) := by decide +kernel
theorem d_Md_findKept_204 : decode b_Md_findKept 204 = .ok (.return_, 1) := by decide +kernel
set_option maxHeartbeats 4000000 in
set_option maxRecDepth 100000 in
theorem c_Md_findKept (l : Launch) (dC : Nat → ClassId) (dI : Nat → Nat → Nat) (cI cB cZ : ClassId) (adK adV : Nat → Nat) (sz : Nat) (a_md a_md_tape a_md_acts a_md_actNumbers a_md_actCounts a_md_pile a_md_begins a_md_goals a_md_ranks a_md_choiceCounts a_md_whens a_md_becomes a_md_guessCounts a_md_guesses a_md_unaryCounts a_md_stack a_md_nexts a_md_isBegin a_md_isGoal a_md_levels a_md_queue a_md_hasGuesses a_md_rounds a_md_marked a_md_other a_md_heights : Nat) (md_size : Int32) (md_at : Int32) (md_token : Int32) (md_tokenPlace : Int32) (md_number : Int32) (md_sign : Int32) (md_bad : Int32) (md_faultPlace : Int32) (md_place : Int32) (md_bank : Int32) (md_unaries : Int32) (md_opens : Int32) (md_piled : Int32) (md_loop : Int32) (md_keptBits : Int32) (md_guessCounts : Nat → Int32) (md_nexts : Nat → Int32) (md_isBegin : Nat → Int32) (md_hasGuesses : Nat → Int32) (md_rounds : Nat → Int32) (post : Int32 → (Nat → Int32) → Prop) (h : wp_Md_findKept md_loop md_keptBits md_guessCounts md_nexts md_isBegin md_hasGuesses md_rounds post) : Met l y_Md_findKept w_Md_findKept ({ frames := 1, cells := 0, slots := 0, locals := 23 }) (pc_ (dC, dI) [(cI, .int), (cB, .byte), (cZ, .boolean)] [(a_md, .inr (11, [.ref a_md_tape, .int md_size, .int md_at, .int md_token, .int md_tokenPlace, .int md_number, .int md_sign, .int md_bad, .int md_faultPlace, .int md_place, .ref a_md_acts, .ref a_md_actNumbers, .ref a_md_actCounts, .int md_bank, .int md_unaries, .int md_opens, .ref a_md_pile, .int md_piled, .int md_loop, .ref a_md_begins, .ref a_md_goals, .ref a_md_ranks, .ref a_md_choiceCounts, .ref a_md_whens, .ref a_md_becomes, .ref a_md_guessCounts, .ref a_md_guesses, .ref a_md_unaryCounts, .ref a_md_stack, .ref a_md_nexts, .ref a_md_isBegin, .ref a_md_isGoal, .ref a_md_levels, .ref a_md_queue, .ref a_md_hasGuesses, .int md_keptBits, .ref a_md_rounds, .ref a_md_marked, .ref a_md_other, .ref a_md_heights])), (a_md_guessCounts, .inl (cI, 2, .inl md_guessCounts)), (a_md_nexts, .inl (cI, 24576, .inl md_nexts)), (a_md_isBegin, .inl (cZ, 4096, .inl md_isBegin)), (a_md_hasGuesses, .inl (cI, 4096, .inl md_hasGuesses)), (a_md_rounds, .inl (cI, 12, .inl md_rounds))] sz adK adV [.ref a_md]) (va_Qv (fun (u : Int32 × (Nat → Int32)) => post u.1 u.2) (fun (u : Int32 × (Nat → Int32)) t => bw_ (dC, dI) [(cI, .int), (cB, .byte), (cZ, .boolean)] (va_A [(a_md, .inr (11, [.ref a_md_tape, .int md_size, .int md_at, .int md_token, .int md_tokenPlace, .int md_number, .int md_sign, .int md_bad, .int md_faultPlace, .int md_place, .ref a_md_acts, .ref a_md_actNumbers, .ref a_md_actCounts, .int md_bank, .int md_unaries, .int md_opens, .ref a_md_pile, .int md_piled, .int md_loop, .ref a_md_begins, .ref a_md_goals, .ref a_md_ranks, .ref a_md_choiceCounts, .ref a_md_whens, .ref a_md_becomes, .ref a_md_guessCounts, .ref a_md_guesses, .ref a_md_unaryCounts, .ref a_md_stack, .ref a_md_nexts, .ref a_md_isBegin, .ref a_md_isGoal, .ref a_md_levels, .ref a_md_queue, .ref a_md_hasGuesses, .int md_keptBits, .ref a_md_rounds, .ref a_md_marked, .ref a_md_other, .ref a_md_heights])), (a_md_guessCounts, .inl (cI, 2, .inl md_guessCounts)), (a_md_nexts, .inl (cI, 24576, .inl md_nexts)), (a_md_isBegin, .inl (cZ, 4096, .inl md_isBegin)), (a_md_hasGuesses, .inl (cI, 4096, .inl md_hasGuesses)), (a_md_rounds, .inl (cI, 12, .inl md_rounds))] sz) [(a_md, .inr (11, [.ref a_md_tape, .int md_size, .int md_at, .int md_token, .int md_tokenPlace, .int md_number, .int md_sign, .int md_bad, .int md_faultPlace, .int md_place, .ref a_md_acts, .ref a_md_actNumbers, .ref a_md_actCounts, .int md_bank, .int md_unaries, .int md_opens, .ref a_md_pile, .int md_piled, .int md_loop, .ref a_md_begins, .ref a_md_goals, .ref a_md_ranks, .ref a_md_choiceCounts, .ref a_md_whens, .ref a_md_becomes, .ref a_md_guessCounts, .ref a_md_guesses, .ref a_md_unaryCounts, .ref a_md_stack, .ref a_md_nexts, .ref a_md_isBegin, .ref a_md_isGoal, .ref a_md_levels, .ref a_md_queue, .ref a_md_hasGuesses, .int u.1, .ref a_md_rounds, .ref a_md_marked, .ref a_md_other, .ref a_md_heights])), (a_md_guessCounts, .inl (cI, 2, .inl md_guessCounts)), (a_md_nexts, .inl (cI, 24576, .inl md_nexts)), (a_md_isBegin, .inl (cZ, 4096, .inl md_isBegin)), (a_md_hasGuesses, .inl (cI, 4096, .inl md_hasGuesses)), (a_md_rounds, .inl (cI, 12, .inl u.2))] t) (va_A [(a_md, .inr (11, [.ref a_md_tape, .int md_size, .int md_at, .int md_token, .int md_tokenPlace, .int md_number, .int md_sign, .int md_bad, .int md_faultPlace, .int md_place, .ref a_md_acts, .ref a_md_actNumbers, .ref a_md_actCounts, .int md_bank, .int md_unaries, .int md_opens, .ref a_md_pile, .int md_piled, .int md_loop, .ref a_md_begins, .ref a_md_goals, .ref a_md_ranks, .ref a_md_choiceCounts, .ref a_md_whens, .ref a_md_becomes, .ref a_md_guessCounts, .ref a_md_guesses, .ref a_md_unaryCounts, .ref a_md_stack, .ref a_md_nexts, .ref a_md_isBegin, .ref a_md_isGoal, .ref a_md_levels, .ref a_md_queue, .ref a_md_hasGuesses, .int md_keptBits, .ref a_md_rounds, .ref a_md_marked, .ref a_md_other, .ref a_md_heights])), (a_md_guessCounts, .inl (cI, 2, .inl md_guessCounts)), (a_md_nexts, .inl (cI, 24576, .inl md_nexts)), (a_md_isBegin, .inl (cZ, 4096, .inl md_isBegin)), (a_md_hasGuesses, .inl (cI, 4096, .inl md_hasGuesses)), (a_md_rounds, .inl (cI, 12, .inl md_rounds))] sz)) 0 0 (va_A [(a_md, .inr (11, [.ref a_md_tape, .int md_size, .int md_at, .int md_token, .int md_tokenPlace, .int md_number, .int md_sign, .int md_bad, .int md_faultPlace, .int md_place, .ref a_md_acts, .ref a_md_actNumbers, .ref a_md_actCounts, .int md_bank, .int md_unaries, .int md_opens, .ref a_md_pile, .int md_piled, .int md_loop, .ref a_md_begins, .ref a_md_goals, .ref a_md_ranks, .ref a_md_choiceCounts, .ref a_md_whens, .ref a_md_becomes, .ref a_md_guessCounts, .ref a_md_guesses, .ref a_md_unaryCounts, .ref a_md_stack, .ref a_md_nexts, .ref a_md_isBegin, .ref a_md_isGoal, .ref a_md_levels, .ref a_md_queue, .ref a_md_hasGuesses, .int md_keptBits, .ref a_md_rounds, .ref a_md_marked, .ref a_md_other, .ref a_md_heights])), (a_md_guessCounts, .inl (cI, 2, .inl md_guessCounts)), (a_md_nexts, .inl (cI, 24576, .inl md_nexts)), (a_md_isBegin, .inl (cZ, 4096, .inl md_isBegin)), (a_md_hasGuesses, .inl (cI, 4096, .inl md_hasGuesses)), (a_md_rounds, .inl (cI, 12, .inl md_rounds))] sz) := by
  refine Met.ofW (cc := b_Md_findKept) (maxL := 9) (ret := none) (by decide) rfl ?_
  intro p e s m args below meth c s₁ B hml hv
  obtain ⟨rfl, hsz, hP, hK, hD0, hN, hT⟩ := hv
  have hx := B.exec
  have hb := B.bytes
  have hr := B.returns
  have hts := atoms_spec (ws := w_Md_findKept) B.pre
  have hown : s.vm.findClass "LoopInductionModel" = some m.cls := findClass_of_methodNamed B.named
  have hlocks := B.notSynchronized
  subst hsz
  have hD := hD0.self (sz := s.heap.size)
  generalize hAe : va_A [(a_md, .inr (11, [.ref a_md_tape, .int md_size, .int md_at, .int md_token, .int md_tokenPlace, .int md_number, .int md_sign, .int md_bad, .int md_faultPlace, .int md_place, .ref a_md_acts, .ref a_md_actNumbers, .ref a_md_actCounts, .int md_bank, .int md_unaries, .int md_opens, .ref a_md_pile, .int md_piled, .int md_loop, .ref a_md_begins, .ref a_md_goals, .ref a_md_ranks, .ref a_md_choiceCounts, .ref a_md_whens, .ref a_md_becomes, .ref a_md_guessCounts, .ref a_md_guesses, .ref a_md_unaryCounts, .ref a_md_stack, .ref a_md_nexts, .ref a_md_isBegin, .ref a_md_isGoal, .ref a_md_levels, .ref a_md_queue, .ref a_md_hasGuesses, .int md_keptBits, .ref a_md_rounds, .ref a_md_marked, .ref a_md_other, .ref a_md_heights])), (a_md_guessCounts, .inl (cI, 2, .inl md_guessCounts)), (a_md_nexts, .inl (cI, 24576, .inl md_nexts)), (a_md_isBegin, .inl (cZ, 4096, .inl md_isBegin)), (a_md_hasGuesses, .inl (cI, 4096, .inl md_hasGuesses)), (a_md_rounds, .inl (cI, 12, .inl md_rounds))] s.heap.size = A at hD hT ⊢
  have hA : ∀ q : Nat, s.heap.size ≤ q → A q := fun q h => by rw [← hAe]; exact Or.inr h
  have hS : va_S A s.heap s.heap [] := va_S.rf
  generalize hQ : MQ below _ _ s 0 0 _ = QQ
  have hl := lv_entry ([.ref a_md]) (n := 9) (Nat.le_of_ble_eq_true rfl)
  rw [lg_entry_eq]
  generalize (lg_sl ([.ref a_md]) ++ List.replicate (9 - (lg_sl ([.ref a_md])).length) Slot.unset).toArray = ls at hl ⊢
  have hl : lv_has ls 9 [(0, .ref a_md)] := hl
  have fl_30 := (hts _ (List.mem_cons_of_mem _ m_1108))
  have fl_51 := (hts _ (List.mem_cons_of_mem _ m_1115))
  have fl_63 := (hts _ (List.mem_cons_of_mem _ m_1119))
  have fl_66 := (hts _ (List.mem_cons_of_mem _ m_1120))
  have fl_79 := (hts _ (List.mem_cons_of_mem _ m_1124))
  have fl_264 := (hts _ (List.mem_cons_of_mem _ m_1125))
  refine lv_iconst (v := 1) hx hb d_Md_findKept_0 (by decide) ?_
  refine lv_aload_n hx hb d_Md_findKept_1 rfl (lv_at hl 0 rfl) ?_
  refine va_get (D := (dC, dI)) (ci := 11) (v := .ref a_md_guessCounts) (C := "LoopInductionModel") (T := F_Md) (N := 40) hx hb hts iC_Md hown hK hP 0 rfl rfl 25 (by decide) fl_51 (fun _ h9 => h9) rfl d_Md_findKept_2 ?_
  refine lv_aload_n hx hb d_Md_findKept_5 rfl (lv_at hl 0 rfl) ?_
  refine va_get (D := (dC, dI)) (ci := 11) (v := .int md_loop) (C := "LoopInductionModel") (T := F_Md) (N := 40) hx hb hts iC_Md hown hK hP 0 rfl rfl 18 (by decide) fl_30 (fun _ h9 => h9) rfl d_Md_findKept_6 ?_
  obtain ⟨hin_9, h⟩ := h
  refine va_iald hx hb hK hP 1 0 rfl rfl hin_9 d_Md_findKept_9 ?_
  refine lv_ishl hx hb d_Md_findKept_10 ?_
  refine lv_iconst (v := 1) hx hb d_Md_findKept_11 (by decide) ?_
  refine lv_isub hx hb d_Md_findKept_12 ?_
  refine lv_topi (fun x1_1 ex1_1 => ?_)
  have h := h x1_1 ex1_1
  refine lv_istore_n (lv' := [(1, .int x1_1), (0, .ref a_md)]) hx hb d_Md_findKept_13 rfl hl (by decide) rfl (fun ls hl => ?_)
  refine lv_iload_n hx hb d_Md_findKept_14 rfl (lv_at hl 0 rfl) ?_
  refine lv_istore_n (lv' := [(2, .int x1_1), (1, .int x1_1), (0, .ref a_md)]) hx hb d_Md_findKept_15 rfl hl (by decide) rfl (fun ls hl => ?_)
  refine lv_iconst (v := 0) hx hb d_Md_findKept_16 (by decide) ?_
  refine lv_istore_n (lv' := [(3, .int 0), (2, .int x1_1), (1, .int x1_1), (0, .ref a_md)]) hx hb d_Md_findKept_17 rfl hl (by decide) rfl (fun ls hl => ?_)
  have L18_q_4 : ∀ (k53 : Int32 → Prop) (hk53 : ∀ (x2_5 : Int32), k53 x2_5 → ∀ (H : Heap) (locs : List Loc), va_P (dC, dI) vwCl [(a_md, .inr (11, [.ref a_md_tape, .int md_size, .int md_at, .int md_token, .int md_tokenPlace, .int md_number, .int md_sign, .int md_bad, .int md_faultPlace, .int md_place, .ref a_md_acts, .ref a_md_actNumbers, .ref a_md_actCounts, .int md_bank, .int md_unaries, .int md_opens, .ref a_md_pile, .int md_piled, .int md_loop, .ref a_md_begins, .ref a_md_goals, .ref a_md_ranks, .ref a_md_choiceCounts, .ref a_md_whens, .ref a_md_becomes, .ref a_md_guessCounts, .ref a_md_guesses, .ref a_md_unaryCounts, .ref a_md_stack, .ref a_md_nexts, .ref a_md_isBegin, .ref a_md_isGoal, .ref a_md_levels, .ref a_md_queue, .ref a_md_hasGuesses, .int md_keptBits, .ref a_md_rounds, .ref a_md_marked, .ref a_md_other, .ref a_md_heights])), (a_md_guessCounts, .inl (cI, 2, .inl md_guessCounts)), (a_md_nexts, .inl (cI, 24576, .inl md_nexts)), (a_md_isBegin, .inl (cZ, 4096, .inl md_isBegin)), (a_md_hasGuesses, .inl (cI, 4096, .inl md_hasGuesses)), (a_md_rounds, .inl (cI, 12, .inl md_rounds))] H → va_D A [(a_md, .inr (11, [.ref a_md_tape, .int md_size, .int md_at, .int md_token, .int md_tokenPlace, .int md_number, .int md_sign, .int md_bad, .int md_faultPlace, .int md_place, .ref a_md_acts, .ref a_md_actNumbers, .ref a_md_actCounts, .int md_bank, .int md_unaries, .int md_opens, .ref a_md_pile, .int md_piled, .int md_loop, .ref a_md_begins, .ref a_md_goals, .ref a_md_ranks, .ref a_md_choiceCounts, .ref a_md_whens, .ref a_md_becomes, .ref a_md_guessCounts, .ref a_md_guesses, .ref a_md_unaryCounts, .ref a_md_stack, .ref a_md_nexts, .ref a_md_isBegin, .ref a_md_isGoal, .ref a_md_levels, .ref a_md_queue, .ref a_md_hasGuesses, .int md_keptBits, .ref a_md_rounds, .ref a_md_marked, .ref a_md_other, .ref a_md_heights])), (a_md_guessCounts, .inl (cI, 2, .inl md_guessCounts)), (a_md_nexts, .inl (cI, 24576, .inl md_nexts)), (a_md_isBegin, .inl (cZ, 4096, .inl md_isBegin)), (a_md_hasGuesses, .inl (cI, 4096, .inl md_hasGuesses)), (a_md_rounds, .inl (cI, 12, .inl md_rounds))] → va_S A s.heap H locs → ∀ ls : Array Slot, lv_has ls 9 [(0, .ref a_md), (1, .int x1_1), (2, .int x2_5)] → W p l e (headSpec w_Md_findKept ({ frames := 1, cells := 0, slots := 0, locals := 23 })).room s m (([.ref a_md] : List Value).toArray) below meth c H locs 0 0 QQ (F0 m 53 ls [])) (n : Nat) (x2_2 : Int32) (x3_3 : Int32), wp_Md_findKept_L18 x1_1 md_isBegin md_hasGuesses k53 n x2_2 x3_3 → ∀ (H : Heap) (locs : List Loc), va_P (dC, dI) vwCl [(a_md, .inr (11, [.ref a_md_tape, .int md_size, .int md_at, .int md_token, .int md_tokenPlace, .int md_number, .int md_sign, .int md_bad, .int md_faultPlace, .int md_place, .ref a_md_acts, .ref a_md_actNumbers, .ref a_md_actCounts, .int md_bank, .int md_unaries, .int md_opens, .ref a_md_pile, .int md_piled, .int md_loop, .ref a_md_begins, .ref a_md_goals, .ref a_md_ranks, .ref a_md_choiceCounts, .ref a_md_whens, .ref a_md_becomes, .ref a_md_guessCounts, .ref a_md_guesses, .ref a_md_unaryCounts, .ref a_md_stack, .ref a_md_nexts, .ref a_md_isBegin, .ref a_md_isGoal, .ref a_md_levels, .ref a_md_queue, .ref a_md_hasGuesses, .int md_keptBits, .ref a_md_rounds, .ref a_md_marked, .ref a_md_other, .ref a_md_heights])), (a_md_guessCounts, .inl (cI, 2, .inl md_guessCounts)), (a_md_nexts, .inl (cI, 24576, .inl md_nexts)), (a_md_isBegin, .inl (cZ, 4096, .inl md_isBegin)), (a_md_hasGuesses, .inl (cI, 4096, .inl md_hasGuesses)), (a_md_rounds, .inl (cI, 12, .inl md_rounds))] H → va_D A [(a_md, .inr (11, [.ref a_md_tape, .int md_size, .int md_at, .int md_token, .int md_tokenPlace, .int md_number, .int md_sign, .int md_bad, .int md_faultPlace, .int md_place, .ref a_md_acts, .ref a_md_actNumbers, .ref a_md_actCounts, .int md_bank, .int md_unaries, .int md_opens, .ref a_md_pile, .int md_piled, .int md_loop, .ref a_md_begins, .ref a_md_goals, .ref a_md_ranks, .ref a_md_choiceCounts, .ref a_md_whens, .ref a_md_becomes, .ref a_md_guessCounts, .ref a_md_guesses, .ref a_md_unaryCounts, .ref a_md_stack, .ref a_md_nexts, .ref a_md_isBegin, .ref a_md_isGoal, .ref a_md_levels, .ref a_md_queue, .ref a_md_hasGuesses, .int md_keptBits, .ref a_md_rounds, .ref a_md_marked, .ref a_md_other, .ref a_md_heights])), (a_md_guessCounts, .inl (cI, 2, .inl md_guessCounts)), (a_md_nexts, .inl (cI, 24576, .inl md_nexts)), (a_md_isBegin, .inl (cZ, 4096, .inl md_isBegin)), (a_md_hasGuesses, .inl (cI, 4096, .inl md_hasGuesses)), (a_md_rounds, .inl (cI, 12, .inl md_rounds))] → va_S A s.heap H locs → ∀ ls : Array Slot, lv_has ls 9 [(0, .ref a_md), (1, .int x1_1), (2, .int x2_2), (3, .int x3_3)] → W p l e (headSpec w_Md_findKept ({ frames := 1, cells := 0, slots := 0, locals := 23 })).room s m (([.ref a_md] : List Value).toArray) below meth c H locs 0 0 QQ (F0 m 18 ls []) := by
    intro k53 hk53 n
    induction n with
    | zero => intro x2_2 x3_3 h; exact (show False from h).elim
    | succ n il =>
      intro x2_2 x3_3 h
      intro H locs hP hD hS ls hl
      refine lv_iload_n hx hb d_Md_findKept_18 rfl (lv_at hl 3 rfl) ?_
      refine lv_sipush (v := 4096) hx hb d_Md_findKept_19 (by decide) ?_
      refine lv_icmp_ge (tgt := 53) hx hb d_Md_findKept_22 (by decide) (fun c_22 => ?_) (fun c_22 => ?_)
      · have h := And.left h c_22
        exact hk53 _ h _ _ hP hD hS _ (lv_sub hl [0, 1, 2] rfl)
      · have h := And.right h c_22
        refine lv_aload_n hx hb d_Md_findKept_25 rfl (lv_at hl 0 rfl) ?_
        refine va_get (D := (dC, dI)) (ci := 11) (v := .ref a_md_isBegin) (C := "LoopInductionModel") (T := F_Md) (N := 40) hx hb hts iC_Md hown hK hP 0 rfl rfl 30 (by decide) fl_66 (fun _ h9 => h9) rfl d_Md_findKept_26 ?_
        refine lv_iload_n hx hb d_Md_findKept_29 rfl (lv_at hl 3 rfl) ?_
        obtain ⟨hin_30, h⟩ := h
        refine va_zald hx hb hK hP 3 2 rfl rfl hin_30 d_Md_findKept_30 ?_
        refine lv_if_eq (tgt := 45) hx hb d_Md_findKept_31 (by decide) (fun c_31 => ?_) (fun c_31 => ?_)
        · have h := And.left h c_31
          refine lv_iload_n hx hb d_Md_findKept_45 rfl (lv_at hl 2 rfl) ?_
          refine lv_istore_n (lv' := [(2, .int x2_2), (0, .ref a_md), (1, .int x1_1), (3, .int x3_3)]) hx hb d_Md_findKept_46 rfl hl (by decide) rfl (fun ls hl => ?_)
          refine lv_iinc (v := x3_3 + 1) (lv' := [(3, .int (x3_3 + 1)), (2, .int x2_2), (0, .ref a_md), (1, .int x1_1)]) hx hb d_Md_findKept_47 hl (k := 3) rfl rfl (by decide) rfl (fun ls hl => ?_)
          refine lv_goto (tgt := 18) hx hb d_Md_findKept_50 (by decide) ?_
          exact il _ _ h _ _ hP hD hS _ (lv_sub hl [2, 3, 1, 0] rfl)
        · have h := And.right h c_31
          refine lv_iload_n hx hb d_Md_findKept_34 rfl (lv_at hl 2 rfl) ?_
          refine lv_aload_n hx hb d_Md_findKept_35 rfl (lv_at hl 0 rfl) ?_
          refine va_get (D := (dC, dI)) (ci := 11) (v := .ref a_md_hasGuesses) (C := "LoopInductionModel") (T := F_Md) (N := 40) hx hb hts iC_Md hown hK hP 0 rfl rfl 34 (by decide) fl_79 (fun _ h9 => h9) rfl d_Md_findKept_36 ?_
          refine lv_iload_n hx hb d_Md_findKept_39 rfl (lv_at hl 3 rfl) ?_
          obtain ⟨hin_40, h⟩ := h
          refine va_iald hx hb hK hP 4 0 rfl rfl hin_40 d_Md_findKept_40 ?_
          refine lv_iand hx hb d_Md_findKept_41 ?_
          refine lv_goto (tgt := 46) hx hb d_Md_findKept_42 (by decide) ?_
          refine lv_topi (fun x2_6 ex2_6 => ?_)
          have h := h x2_6 ex2_6
          refine lv_istore_n (lv' := [(2, .int x2_6), (0, .ref a_md), (1, .int x1_1), (3, .int x3_3)]) hx hb d_Md_findKept_46 rfl hl (by decide) rfl (fun ls hl => ?_)
          refine lv_iinc (v := x3_3 + 1) (lv' := [(3, .int (x3_3 + 1)), (2, .int x2_6), (0, .ref a_md), (1, .int x1_1)]) hx hb d_Md_findKept_47 hl (k := 3) rfl rfl (by decide) rfl (fun ls hl => ?_)
          refine lv_goto (tgt := 18) hx hb d_Md_findKept_50 (by decide) ?_
          exact il _ _ h _ _ hP hD hS _ (lv_sub hl [2, 3, 1, 0] rfl)
  obtain ⟨n_, h⟩ := h
  refine L18_q_4 _ ?_ n_ _ _ h _ _ hP hD hS _ (lv_sub hl [3, 2, 1, 0] rfl)
  intro x2_7 h
  intro H locs hP hD hS ls hl
  refine lv_aload_n hx hb d_Md_findKept_53 rfl (lv_at hl 0 rfl) ?_
  refine lv_iload_n hx hb d_Md_findKept_54 rfl (lv_at hl 1 rfl) ?_
  refine lv_iload_n hx hb d_Md_findKept_55 rfl (lv_at hl 2 rfl) ?_
  refine lv_iconst (v := (-1)) hx hb d_Md_findKept_56 (by decide) ?_
  refine lv_ixor hx hb d_Md_findKept_57 ?_
  refine lv_iand hx hb d_Md_findKept_58 ?_
  refine lv_iconst (v := 0) hx hb d_Md_findKept_59 (by decide) ?_
  refine jn_v (wr := [(a_md_guessCounts, .inl (cI, 2, .inl md_guessCounts)), (a_md_nexts, .inl (cI, 24576, .inl md_nexts)), (a_md_isBegin, .inl (cZ, 4096, .inl md_isBegin)), (a_md_hasGuesses, .inl (cI, 4096, .inl md_hasGuesses))]) (va_runV (As := [.int (x1_1 &&& (x2_7 ^^^ (-1))), .int 0]) (rest := []) ⟨hx, hb, hml, hown, hts⟩ (c_Md_mark l dC dI cI cB cZ adK adV _ a_md a_md_tape a_md_acts a_md_actNumbers a_md_actCounts a_md_pile a_md_begins a_md_goals a_md_ranks a_md_choiceCounts a_md_whens a_md_becomes a_md_guessCounts a_md_guesses a_md_unaryCounts a_md_stack a_md_nexts a_md_isBegin a_md_isGoal a_md_levels a_md_queue a_md_hasGuesses a_md_rounds a_md_marked a_md_other a_md_heights md_size md_at md_token md_tokenPlace md_number md_sign md_bad md_faultPlace md_place md_bank md_unaries md_opens md_piled md_loop md_keptBits md_rounds (x1_1 &&& (x2_7 ^^^ (-1))) 0 _ h) (cwV 2 hts (gv_ m_1357 m_1359 m_76 m_96 m_1360) rfl rfl rfl pd_Md_mark ⟨Nat.le_of_ble_eq_true rfl, Nat.le_of_ble_eq_true rfl⟩) ⟨pc_blind, va_recv hK hP (ci := 11) (q0 := 0) rfl rfl, pc_of (hP.sub [0, 5] rfl) hK (hD.sub [0, 5] (by decide) rfl) hN hT hS hA⟩ rfl rfl hl.1 rfl (lv_room (Nat.le_of_ble_eq_true rfl)) d_Md_findKept_60 ⟨Nat.zero_le _, Nat.zero_le _⟩) hP hD hS hA [0, 5] [1, 2, 3, 4] rfl rfl (by decide) (by decide) (fun md_rounds_8 H locs h hP hD hS => ?_)
  have hP : va_P (dC, dI) vwCl [(a_md_guessCounts, .inl (cI, 2, .inl md_guessCounts)), (a_md_nexts, .inl (cI, 24576, .inl md_nexts)), (a_md_isBegin, .inl (cZ, 4096, .inl md_isBegin)), (a_md_hasGuesses, .inl (cI, 4096, .inl md_hasGuesses)), (a_md, .inr (11, [.ref a_md_tape, .int md_size, .int md_at, .int md_token, .int md_tokenPlace, .int md_number, .int md_sign, .int md_bad, .int md_faultPlace, .int md_place, .ref a_md_acts, .ref a_md_actNumbers, .ref a_md_actCounts, .int md_bank, .int md_unaries, .int md_opens, .ref a_md_pile, .int md_piled, .int md_loop, .ref a_md_begins, .ref a_md_goals, .ref a_md_ranks, .ref a_md_choiceCounts, .ref a_md_whens, .ref a_md_becomes, .ref a_md_guessCounts, .ref a_md_guesses, .ref a_md_unaryCounts, .ref a_md_stack, .ref a_md_nexts, .ref a_md_isBegin, .ref a_md_isGoal, .ref a_md_levels, .ref a_md_queue, .ref a_md_hasGuesses, .int md_keptBits, .ref a_md_rounds, .ref a_md_marked, .ref a_md_other, .ref a_md_heights])), (a_md_rounds, .inl (cI, 12, .inl md_rounds_8))] H := hP
  have hD : va_D A [(a_md_guessCounts, .inl (cI, 2, .inl md_guessCounts)), (a_md_nexts, .inl (cI, 24576, .inl md_nexts)), (a_md_isBegin, .inl (cZ, 4096, .inl md_isBegin)), (a_md_hasGuesses, .inl (cI, 4096, .inl md_hasGuesses)), (a_md, .inr (11, [.ref a_md_tape, .int md_size, .int md_at, .int md_token, .int md_tokenPlace, .int md_number, .int md_sign, .int md_bad, .int md_faultPlace, .int md_place, .ref a_md_acts, .ref a_md_actNumbers, .ref a_md_actCounts, .int md_bank, .int md_unaries, .int md_opens, .ref a_md_pile, .int md_piled, .int md_loop, .ref a_md_begins, .ref a_md_goals, .ref a_md_ranks, .ref a_md_choiceCounts, .ref a_md_whens, .ref a_md_becomes, .ref a_md_guessCounts, .ref a_md_guesses, .ref a_md_unaryCounts, .ref a_md_stack, .ref a_md_nexts, .ref a_md_isBegin, .ref a_md_isGoal, .ref a_md_levels, .ref a_md_queue, .ref a_md_hasGuesses, .int md_keptBits, .ref a_md_rounds, .ref a_md_marked, .ref a_md_other, .ref a_md_heights])), (a_md_rounds, .inl (cI, 12, .inl md_rounds_8))] := hD
  refine lv_iconst (v := 1) hx hb d_Md_findKept_63 (by decide) ?_
  refine lv_istore_n (lv' := [(3, .int 1), (0, .ref a_md), (1, .int x1_1), (2, .int x2_7)]) hx hb d_Md_findKept_64 rfl hl (by decide) rfl (fun ls hl => ?_)
  refine lv_iconst (v := 1) hx hb d_Md_findKept_65 (by decide) ?_
  refine lv_istore (lv' := [(4, .int 1), (3, .int 1), (0, .ref a_md), (1, .int x1_1), (2, .int x2_7)]) hx hb d_Md_findKept_66 hl (by decide) rfl (fun ls hl => ?_)
  have L68_q_13 : ∀ (k192 : Int32 → (Nat → Int32) → Prop) (hk192 : ∀ (x2_14 : Int32) (md_rounds_15 : Nat → Int32), k192 x2_14 md_rounds_15 → ∀ (H : Heap) (locs : List Loc), va_P (dC, dI) vwCl [(a_md_guessCounts, .inl (cI, 2, .inl md_guessCounts)), (a_md_nexts, .inl (cI, 24576, .inl md_nexts)), (a_md_isBegin, .inl (cZ, 4096, .inl md_isBegin)), (a_md_hasGuesses, .inl (cI, 4096, .inl md_hasGuesses)), (a_md, .inr (11, [.ref a_md_tape, .int md_size, .int md_at, .int md_token, .int md_tokenPlace, .int md_number, .int md_sign, .int md_bad, .int md_faultPlace, .int md_place, .ref a_md_acts, .ref a_md_actNumbers, .ref a_md_actCounts, .int md_bank, .int md_unaries, .int md_opens, .ref a_md_pile, .int md_piled, .int md_loop, .ref a_md_begins, .ref a_md_goals, .ref a_md_ranks, .ref a_md_choiceCounts, .ref a_md_whens, .ref a_md_becomes, .ref a_md_guessCounts, .ref a_md_guesses, .ref a_md_unaryCounts, .ref a_md_stack, .ref a_md_nexts, .ref a_md_isBegin, .ref a_md_isGoal, .ref a_md_levels, .ref a_md_queue, .ref a_md_hasGuesses, .int md_keptBits, .ref a_md_rounds, .ref a_md_marked, .ref a_md_other, .ref a_md_heights])), (a_md_rounds, .inl (cI, 12, .inl md_rounds_15))] H → va_D A [(a_md_guessCounts, .inl (cI, 2, .inl md_guessCounts)), (a_md_nexts, .inl (cI, 24576, .inl md_nexts)), (a_md_isBegin, .inl (cZ, 4096, .inl md_isBegin)), (a_md_hasGuesses, .inl (cI, 4096, .inl md_hasGuesses)), (a_md, .inr (11, [.ref a_md_tape, .int md_size, .int md_at, .int md_token, .int md_tokenPlace, .int md_number, .int md_sign, .int md_bad, .int md_faultPlace, .int md_place, .ref a_md_acts, .ref a_md_actNumbers, .ref a_md_actCounts, .int md_bank, .int md_unaries, .int md_opens, .ref a_md_pile, .int md_piled, .int md_loop, .ref a_md_begins, .ref a_md_goals, .ref a_md_ranks, .ref a_md_choiceCounts, .ref a_md_whens, .ref a_md_becomes, .ref a_md_guessCounts, .ref a_md_guesses, .ref a_md_unaryCounts, .ref a_md_stack, .ref a_md_nexts, .ref a_md_isBegin, .ref a_md_isGoal, .ref a_md_levels, .ref a_md_queue, .ref a_md_hasGuesses, .int md_keptBits, .ref a_md_rounds, .ref a_md_marked, .ref a_md_other, .ref a_md_heights])), (a_md_rounds, .inl (cI, 12, .inl md_rounds_15))] → va_S A s.heap H locs → ∀ ls : Array Slot, lv_has ls 9 [(0, .ref a_md), (2, .int x2_14)] → W p l e (headSpec w_Md_findKept ({ frames := 1, cells := 0, slots := 0, locals := 23 })).room s m (([.ref a_md] : List Value).toArray) below meth c H locs 0 0 QQ (F0 m 192 ls [])) (n : Nat) (x2_9 : Int32) (x3_10 : Int32) (x4_11 : Int32) (md_rounds_12 : Nat → Int32), wp_Md_findKept_L68 md_nexts md_hasGuesses k192 n x2_9 x3_10 x4_11 md_rounds_12 → ∀ (H : Heap) (locs : List Loc), va_P (dC, dI) vwCl [(a_md_guessCounts, .inl (cI, 2, .inl md_guessCounts)), (a_md_nexts, .inl (cI, 24576, .inl md_nexts)), (a_md_isBegin, .inl (cZ, 4096, .inl md_isBegin)), (a_md_hasGuesses, .inl (cI, 4096, .inl md_hasGuesses)), (a_md, .inr (11, [.ref a_md_tape, .int md_size, .int md_at, .int md_token, .int md_tokenPlace, .int md_number, .int md_sign, .int md_bad, .int md_faultPlace, .int md_place, .ref a_md_acts, .ref a_md_actNumbers, .ref a_md_actCounts, .int md_bank, .int md_unaries, .int md_opens, .ref a_md_pile, .int md_piled, .int md_loop, .ref a_md_begins, .ref a_md_goals, .ref a_md_ranks, .ref a_md_choiceCounts, .ref a_md_whens, .ref a_md_becomes, .ref a_md_guessCounts, .ref a_md_guesses, .ref a_md_unaryCounts, .ref a_md_stack, .ref a_md_nexts, .ref a_md_isBegin, .ref a_md_isGoal, .ref a_md_levels, .ref a_md_queue, .ref a_md_hasGuesses, .int md_keptBits, .ref a_md_rounds, .ref a_md_marked, .ref a_md_other, .ref a_md_heights])), (a_md_rounds, .inl (cI, 12, .inl md_rounds_12))] H → va_D A [(a_md_guessCounts, .inl (cI, 2, .inl md_guessCounts)), (a_md_nexts, .inl (cI, 24576, .inl md_nexts)), (a_md_isBegin, .inl (cZ, 4096, .inl md_isBegin)), (a_md_hasGuesses, .inl (cI, 4096, .inl md_hasGuesses)), (a_md, .inr (11, [.ref a_md_tape, .int md_size, .int md_at, .int md_token, .int md_tokenPlace, .int md_number, .int md_sign, .int md_bad, .int md_faultPlace, .int md_place, .ref a_md_acts, .ref a_md_actNumbers, .ref a_md_actCounts, .int md_bank, .int md_unaries, .int md_opens, .ref a_md_pile, .int md_piled, .int md_loop, .ref a_md_begins, .ref a_md_goals, .ref a_md_ranks, .ref a_md_choiceCounts, .ref a_md_whens, .ref a_md_becomes, .ref a_md_guessCounts, .ref a_md_guesses, .ref a_md_unaryCounts, .ref a_md_stack, .ref a_md_nexts, .ref a_md_isBegin, .ref a_md_isGoal, .ref a_md_levels, .ref a_md_queue, .ref a_md_hasGuesses, .int md_keptBits, .ref a_md_rounds, .ref a_md_marked, .ref a_md_other, .ref a_md_heights])), (a_md_rounds, .inl (cI, 12, .inl md_rounds_12))] → va_S A s.heap H locs → ∀ ls : Array Slot, lv_has ls 9 [(0, .ref a_md), (2, .int x2_9), (3, .int x3_10), (4, .int x4_11)] → W p l e (headSpec w_Md_findKept ({ frames := 1, cells := 0, slots := 0, locals := 23 })).room s m (([.ref a_md] : List Value).toArray) below meth c H locs 0 0 QQ (F0 m 68 ls []) := by
    intro k192 hk192 n
    induction n with
    | zero => intro x2_9 x3_10 x4_11 md_rounds_12 h; exact (show False from h).elim
    | succ n il =>
      intro x2_9 x3_10 x4_11 md_rounds_12 h
      intro H locs hP hD hS ls hl
      refine lv_iload hx hb d_Md_findKept_68 (lv_at hl 3 rfl) ?_
      refine lv_if_eq (tgt := 192) hx hb d_Md_findKept_70 (by decide) (fun c_70 => ?_) (fun c_70 => ?_)
      · have h := And.left h c_70
        exact hk192 _ _ h _ _ hP hD hS _ (lv_sub hl [0, 1] rfl)
      · have h := And.right h c_70
        refine lv_iload_n hx hb d_Md_findKept_73 rfl (lv_at hl 1 rfl) ?_
        refine lv_istore (lv' := [(5, .int x2_9), (0, .ref a_md), (2, .int x2_9), (3, .int x3_10), (4, .int x4_11)]) hx hb d_Md_findKept_74 hl (by decide) rfl (fun ls hl => ?_)
        refine lv_iconst (v := 0) hx hb d_Md_findKept_76 (by decide) ?_
        refine lv_istore (lv' := [(6, .int 0), (5, .int x2_9), (0, .ref a_md), (2, .int x2_9), (3, .int x3_10), (4, .int x4_11)]) hx hb d_Md_findKept_77 hl (by decide) rfl (fun ls hl => ?_)
        have L79_q_18 : ∀ (k159 : Int32 → Prop) (hk159 : ∀ (x5_19 : Int32), k159 x5_19 → ∀ (H : Heap) (locs : List Loc), va_P (dC, dI) vwCl [(a_md_guessCounts, .inl (cI, 2, .inl md_guessCounts)), (a_md_nexts, .inl (cI, 24576, .inl md_nexts)), (a_md_isBegin, .inl (cZ, 4096, .inl md_isBegin)), (a_md_hasGuesses, .inl (cI, 4096, .inl md_hasGuesses)), (a_md, .inr (11, [.ref a_md_tape, .int md_size, .int md_at, .int md_token, .int md_tokenPlace, .int md_number, .int md_sign, .int md_bad, .int md_faultPlace, .int md_place, .ref a_md_acts, .ref a_md_actNumbers, .ref a_md_actCounts, .int md_bank, .int md_unaries, .int md_opens, .ref a_md_pile, .int md_piled, .int md_loop, .ref a_md_begins, .ref a_md_goals, .ref a_md_ranks, .ref a_md_choiceCounts, .ref a_md_whens, .ref a_md_becomes, .ref a_md_guessCounts, .ref a_md_guesses, .ref a_md_unaryCounts, .ref a_md_stack, .ref a_md_nexts, .ref a_md_isBegin, .ref a_md_isGoal, .ref a_md_levels, .ref a_md_queue, .ref a_md_hasGuesses, .int md_keptBits, .ref a_md_rounds, .ref a_md_marked, .ref a_md_other, .ref a_md_heights])), (a_md_rounds, .inl (cI, 12, .inl md_rounds_12))] H → va_D A [(a_md_guessCounts, .inl (cI, 2, .inl md_guessCounts)), (a_md_nexts, .inl (cI, 24576, .inl md_nexts)), (a_md_isBegin, .inl (cZ, 4096, .inl md_isBegin)), (a_md_hasGuesses, .inl (cI, 4096, .inl md_hasGuesses)), (a_md, .inr (11, [.ref a_md_tape, .int md_size, .int md_at, .int md_token, .int md_tokenPlace, .int md_number, .int md_sign, .int md_bad, .int md_faultPlace, .int md_place, .ref a_md_acts, .ref a_md_actNumbers, .ref a_md_actCounts, .int md_bank, .int md_unaries, .int md_opens, .ref a_md_pile, .int md_piled, .int md_loop, .ref a_md_begins, .ref a_md_goals, .ref a_md_ranks, .ref a_md_choiceCounts, .ref a_md_whens, .ref a_md_becomes, .ref a_md_guessCounts, .ref a_md_guesses, .ref a_md_unaryCounts, .ref a_md_stack, .ref a_md_nexts, .ref a_md_isBegin, .ref a_md_isGoal, .ref a_md_levels, .ref a_md_queue, .ref a_md_hasGuesses, .int md_keptBits, .ref a_md_rounds, .ref a_md_marked, .ref a_md_other, .ref a_md_heights])), (a_md_rounds, .inl (cI, 12, .inl md_rounds_12))] → va_S A s.heap H locs → ∀ ls : Array Slot, lv_has ls 9 [(0, .ref a_md), (2, .int x2_9), (3, .int x3_10), (5, .int x5_19)] → W p l e (headSpec w_Md_findKept ({ frames := 1, cells := 0, slots := 0, locals := 23 })).room s m (([.ref a_md] : List Value).toArray) below meth c H locs 0 0 QQ (F0 m 159 ls [])) (n : Nat) (x5_16 : Int32) (x6_17 : Int32), wp_Md_findKept_L79 x2_9 x3_10 md_nexts md_hasGuesses k159 n x5_16 x6_17 → ∀ (H : Heap) (locs : List Loc), va_P (dC, dI) vwCl [(a_md_guessCounts, .inl (cI, 2, .inl md_guessCounts)), (a_md_nexts, .inl (cI, 24576, .inl md_nexts)), (a_md_isBegin, .inl (cZ, 4096, .inl md_isBegin)), (a_md_hasGuesses, .inl (cI, 4096, .inl md_hasGuesses)), (a_md, .inr (11, [.ref a_md_tape, .int md_size, .int md_at, .int md_token, .int md_tokenPlace, .int md_number, .int md_sign, .int md_bad, .int md_faultPlace, .int md_place, .ref a_md_acts, .ref a_md_actNumbers, .ref a_md_actCounts, .int md_bank, .int md_unaries, .int md_opens, .ref a_md_pile, .int md_piled, .int md_loop, .ref a_md_begins, .ref a_md_goals, .ref a_md_ranks, .ref a_md_choiceCounts, .ref a_md_whens, .ref a_md_becomes, .ref a_md_guessCounts, .ref a_md_guesses, .ref a_md_unaryCounts, .ref a_md_stack, .ref a_md_nexts, .ref a_md_isBegin, .ref a_md_isGoal, .ref a_md_levels, .ref a_md_queue, .ref a_md_hasGuesses, .int md_keptBits, .ref a_md_rounds, .ref a_md_marked, .ref a_md_other, .ref a_md_heights])), (a_md_rounds, .inl (cI, 12, .inl md_rounds_12))] H → va_D A [(a_md_guessCounts, .inl (cI, 2, .inl md_guessCounts)), (a_md_nexts, .inl (cI, 24576, .inl md_nexts)), (a_md_isBegin, .inl (cZ, 4096, .inl md_isBegin)), (a_md_hasGuesses, .inl (cI, 4096, .inl md_hasGuesses)), (a_md, .inr (11, [.ref a_md_tape, .int md_size, .int md_at, .int md_token, .int md_tokenPlace, .int md_number, .int md_sign, .int md_bad, .int md_faultPlace, .int md_place, .ref a_md_acts, .ref a_md_actNumbers, .ref a_md_actCounts, .int md_bank, .int md_unaries, .int md_opens, .ref a_md_pile, .int md_piled, .int md_loop, .ref a_md_begins, .ref a_md_goals, .ref a_md_ranks, .ref a_md_choiceCounts, .ref a_md_whens, .ref a_md_becomes, .ref a_md_guessCounts, .ref a_md_guesses, .ref a_md_unaryCounts, .ref a_md_stack, .ref a_md_nexts, .ref a_md_isBegin, .ref a_md_isGoal, .ref a_md_levels, .ref a_md_queue, .ref a_md_hasGuesses, .int md_keptBits, .ref a_md_rounds, .ref a_md_marked, .ref a_md_other, .ref a_md_heights])), (a_md_rounds, .inl (cI, 12, .inl md_rounds_12))] → va_S A s.heap H locs → ∀ ls : Array Slot, lv_has ls 9 [(0, .ref a_md), (2, .int x2_9), (3, .int x3_10), (5, .int x5_16), (6, .int x6_17)] → W p l e (headSpec w_Md_findKept ({ frames := 1, cells := 0, slots := 0, locals := 23 })).room s m (([.ref a_md] : List Value).toArray) below meth c H locs 0 0 QQ (F0 m 79 ls []) := by
          intro k159 hk159 n
          induction n with
          | zero => intro x5_16 x6_17 h; exact (show False from h).elim
          | succ n il =>
            intro x5_16 x6_17 h
            intro H locs hP hD hS ls hl
            refine lv_iload hx hb d_Md_findKept_79 (lv_at hl 4 rfl) ?_
            refine lv_sipush (v := 4096) hx hb d_Md_findKept_81 (by decide) ?_
            refine lv_icmp_ge (tgt := 159) hx hb d_Md_findKept_84 (by decide) (fun c_84 => ?_) (fun c_84 => ?_)
            · have h := And.left h c_84
              exact hk159 _ h _ _ hP hD hS _ (lv_sub hl [0, 1, 2, 3] rfl)
            · have h := And.right h c_84
              refine lv_iconst (v := 0) hx hb d_Md_findKept_87 (by decide) ?_
              refine lv_istore (lv' := [(7, .int 0), (0, .ref a_md), (2, .int x2_9), (3, .int x3_10), (5, .int x5_16), (6, .int x6_17)]) hx hb d_Md_findKept_88 hl (by decide) rfl (fun ls hl => ?_)
              have L90_q_22 : ∀ (k153 : Int32 → Prop) (hk153 : ∀ (x5_23 : Int32), k153 x5_23 → ∀ (H : Heap) (locs : List Loc), va_P (dC, dI) vwCl [(a_md_guessCounts, .inl (cI, 2, .inl md_guessCounts)), (a_md_nexts, .inl (cI, 24576, .inl md_nexts)), (a_md_isBegin, .inl (cZ, 4096, .inl md_isBegin)), (a_md_hasGuesses, .inl (cI, 4096, .inl md_hasGuesses)), (a_md, .inr (11, [.ref a_md_tape, .int md_size, .int md_at, .int md_token, .int md_tokenPlace, .int md_number, .int md_sign, .int md_bad, .int md_faultPlace, .int md_place, .ref a_md_acts, .ref a_md_actNumbers, .ref a_md_actCounts, .int md_bank, .int md_unaries, .int md_opens, .ref a_md_pile, .int md_piled, .int md_loop, .ref a_md_begins, .ref a_md_goals, .ref a_md_ranks, .ref a_md_choiceCounts, .ref a_md_whens, .ref a_md_becomes, .ref a_md_guessCounts, .ref a_md_guesses, .ref a_md_unaryCounts, .ref a_md_stack, .ref a_md_nexts, .ref a_md_isBegin, .ref a_md_isGoal, .ref a_md_levels, .ref a_md_queue, .ref a_md_hasGuesses, .int md_keptBits, .ref a_md_rounds, .ref a_md_marked, .ref a_md_other, .ref a_md_heights])), (a_md_rounds, .inl (cI, 12, .inl md_rounds_12))] H → va_D A [(a_md_guessCounts, .inl (cI, 2, .inl md_guessCounts)), (a_md_nexts, .inl (cI, 24576, .inl md_nexts)), (a_md_isBegin, .inl (cZ, 4096, .inl md_isBegin)), (a_md_hasGuesses, .inl (cI, 4096, .inl md_hasGuesses)), (a_md, .inr (11, [.ref a_md_tape, .int md_size, .int md_at, .int md_token, .int md_tokenPlace, .int md_number, .int md_sign, .int md_bad, .int md_faultPlace, .int md_place, .ref a_md_acts, .ref a_md_actNumbers, .ref a_md_actCounts, .int md_bank, .int md_unaries, .int md_opens, .ref a_md_pile, .int md_piled, .int md_loop, .ref a_md_begins, .ref a_md_goals, .ref a_md_ranks, .ref a_md_choiceCounts, .ref a_md_whens, .ref a_md_becomes, .ref a_md_guessCounts, .ref a_md_guesses, .ref a_md_unaryCounts, .ref a_md_stack, .ref a_md_nexts, .ref a_md_isBegin, .ref a_md_isGoal, .ref a_md_levels, .ref a_md_queue, .ref a_md_hasGuesses, .int md_keptBits, .ref a_md_rounds, .ref a_md_marked, .ref a_md_other, .ref a_md_heights])), (a_md_rounds, .inl (cI, 12, .inl md_rounds_12))] → va_S A s.heap H locs → ∀ ls : Array Slot, lv_has ls 9 [(0, .ref a_md), (2, .int x2_9), (3, .int x3_10), (5, .int x5_23), (6, .int x6_17)] → W p l e (headSpec w_Md_findKept ({ frames := 1, cells := 0, slots := 0, locals := 23 })).room s m (([.ref a_md] : List Value).toArray) below meth c H locs 0 0 QQ (F0 m 153 ls [])) (n : Nat) (x5_20 : Int32) (x7_21 : Int32), wp_Md_findKept_L90 x2_9 x3_10 x6_17 md_nexts md_hasGuesses k153 n x5_20 x7_21 → ∀ (H : Heap) (locs : List Loc), va_P (dC, dI) vwCl [(a_md_guessCounts, .inl (cI, 2, .inl md_guessCounts)), (a_md_nexts, .inl (cI, 24576, .inl md_nexts)), (a_md_isBegin, .inl (cZ, 4096, .inl md_isBegin)), (a_md_hasGuesses, .inl (cI, 4096, .inl md_hasGuesses)), (a_md, .inr (11, [.ref a_md_tape, .int md_size, .int md_at, .int md_token, .int md_tokenPlace, .int md_number, .int md_sign, .int md_bad, .int md_faultPlace, .int md_place, .ref a_md_acts, .ref a_md_actNumbers, .ref a_md_actCounts, .int md_bank, .int md_unaries, .int md_opens, .ref a_md_pile, .int md_piled, .int md_loop, .ref a_md_begins, .ref a_md_goals, .ref a_md_ranks, .ref a_md_choiceCounts, .ref a_md_whens, .ref a_md_becomes, .ref a_md_guessCounts, .ref a_md_guesses, .ref a_md_unaryCounts, .ref a_md_stack, .ref a_md_nexts, .ref a_md_isBegin, .ref a_md_isGoal, .ref a_md_levels, .ref a_md_queue, .ref a_md_hasGuesses, .int md_keptBits, .ref a_md_rounds, .ref a_md_marked, .ref a_md_other, .ref a_md_heights])), (a_md_rounds, .inl (cI, 12, .inl md_rounds_12))] H → va_D A [(a_md_guessCounts, .inl (cI, 2, .inl md_guessCounts)), (a_md_nexts, .inl (cI, 24576, .inl md_nexts)), (a_md_isBegin, .inl (cZ, 4096, .inl md_isBegin)), (a_md_hasGuesses, .inl (cI, 4096, .inl md_hasGuesses)), (a_md, .inr (11, [.ref a_md_tape, .int md_size, .int md_at, .int md_token, .int md_tokenPlace, .int md_number, .int md_sign, .int md_bad, .int md_faultPlace, .int md_place, .ref a_md_acts, .ref a_md_actNumbers, .ref a_md_actCounts, .int md_bank, .int md_unaries, .int md_opens, .ref a_md_pile, .int md_piled, .int md_loop, .ref a_md_begins, .ref a_md_goals, .ref a_md_ranks, .ref a_md_choiceCounts, .ref a_md_whens, .ref a_md_becomes, .ref a_md_guessCounts, .ref a_md_guesses, .ref a_md_unaryCounts, .ref a_md_stack, .ref a_md_nexts, .ref a_md_isBegin, .ref a_md_isGoal, .ref a_md_levels, .ref a_md_queue, .ref a_md_hasGuesses, .int md_keptBits, .ref a_md_rounds, .ref a_md_marked, .ref a_md_other, .ref a_md_heights])), (a_md_rounds, .inl (cI, 12, .inl md_rounds_12))] → va_S A s.heap H locs → ∀ ls : Array Slot, lv_has ls 9 [(0, .ref a_md), (2, .int x2_9), (3, .int x3_10), (5, .int x5_20), (6, .int x6_17), (7, .int x7_21)] → W p l e (headSpec w_Md_findKept ({ frames := 1, cells := 0, slots := 0, locals := 23 })).room s m (([.ref a_md] : List Value).toArray) below meth c H locs 0 0 QQ (F0 m 90 ls []) := by
                intro k153 hk153 n
                induction n with
                | zero => intro x5_20 x7_21 h; exact (show False from h).elim
                | succ n il =>
                  intro x5_20 x7_21 h
                  intro H locs hP hD hS ls hl
                  refine lv_iload hx hb d_Md_findKept_90 (lv_at hl 5 rfl) ?_
                  refine lv_bipush (v := 6) hx hb d_Md_findKept_92 (by decide) ?_
                  refine lv_icmp_ge (tgt := 153) hx hb d_Md_findKept_94 (by decide) (fun c_94 => ?_) (fun c_94 => ?_)
                  · have h := And.left h c_94
                    exact hk153 _ h _ _ hP hD hS _ (lv_sub hl [0, 1, 2, 3, 4] rfl)
                  · have h := And.right h c_94
                    refine lv_aload_n hx hb d_Md_findKept_97 rfl (lv_at hl 0 rfl) ?_
                    refine va_get (D := (dC, dI)) (ci := 11) (v := .ref a_md_hasGuesses) (C := "LoopInductionModel") (T := F_Md) (N := 40) hx hb hts iC_Md hown hK hP 4 rfl rfl 34 (by decide) fl_79 (fun _ h9 => h9) rfl d_Md_findKept_98 ?_
                    refine lv_iload hx hb d_Md_findKept_101 (lv_at hl 4 rfl) ?_
                    obtain ⟨hin_103, h⟩ := h
                    refine va_iald hx hb hK hP 3 0 rfl rfl hin_103 d_Md_findKept_103 ?_
                    refine lv_iload_n hx hb d_Md_findKept_104 rfl (lv_at hl 1 rfl) ?_
                    refine lv_iand hx hb d_Md_findKept_105 ?_
                    refine lv_iload_n hx hb d_Md_findKept_106 rfl (lv_at hl 1 rfl) ?_
                    refine lv_icmp_ne (tgt := 153) hx hb d_Md_findKept_107 (by decide) (fun c_107 => ?_) (fun c_107 => ?_)
                    · have h := And.left h c_107
                      exact hk153 _ h _ _ hP hD hS _ (lv_sub hl [0, 1, 2, 3, 4] rfl)
                    · have h := And.right h c_107
                      refine lv_aload_n hx hb d_Md_findKept_110 rfl (lv_at hl 0 rfl) ?_
                      refine va_get (D := (dC, dI)) (ci := 11) (v := .ref a_md_nexts) (C := "LoopInductionModel") (T := F_Md) (N := 40) hx hb hts iC_Md hown hK hP 4 rfl rfl 29 (by decide) fl_63 (fun _ h9 => h9) rfl d_Md_findKept_111 ?_
                      refine lv_bipush (v := 6) hx hb d_Md_findKept_114 (by decide) ?_
                      refine lv_iload hx hb d_Md_findKept_116 (lv_at hl 4 rfl) ?_
                      refine lv_imul hx hb d_Md_findKept_118 ?_
                      refine lv_iload hx hb d_Md_findKept_119 (lv_at hl 5 rfl) ?_
                      refine lv_iadd hx hb d_Md_findKept_121 ?_
                      obtain ⟨hin_122, h⟩ := h
                      refine va_iald hx hb hK hP 1 0 rfl rfl hin_122 d_Md_findKept_122 ?_
                      refine lv_topi (fun x8_24 ex8_24 => ?_)
                      have h := h x8_24 ex8_24
                      refine lv_istore (lv' := [(8, .int x8_24), (0, .ref a_md), (2, .int x2_9), (3, .int x3_10), (5, .int x5_20), (6, .int x6_17), (7, .int x7_21)]) hx hb d_Md_findKept_123 hl (by decide) rfl (fun ls hl => ?_)
                      refine lv_iload hx hb d_Md_findKept_125 (lv_at hl 0 rfl) ?_
                      refine lv_if_ge (tgt := 135) hx hb d_Md_findKept_127 (by decide) (fun c_127 => ?_) (fun c_127 => ?_)
                      · have h := And.left h c_127
                        refine lv_iload hx hb d_Md_findKept_135 (lv_at hl 4 rfl) ?_
                        refine lv_aload_n hx hb d_Md_findKept_137 rfl (lv_at hl 1 rfl) ?_
                        refine va_get (D := (dC, dI)) (ci := 11) (v := .ref a_md_hasGuesses) (C := "LoopInductionModel") (T := F_Md) (N := 40) hx hb hts iC_Md hown hK hP 4 rfl rfl 34 (by decide) fl_79 (fun _ h9 => h9) rfl d_Md_findKept_138 ?_
                        refine lv_iload hx hb d_Md_findKept_141 (lv_at hl 0 rfl) ?_
                        obtain ⟨hin_143, h⟩ := h
                        refine va_iald hx hb hK hP 3 0 rfl rfl hin_143 d_Md_findKept_143 ?_
                        refine lv_iand hx hb d_Md_findKept_144 ?_
                        refine lv_topi (fun x5_25 ex5_25 => ?_)
                        have h := h x5_25 ex5_25
                        refine lv_istore (lv' := [(5, .int x5_25), (8, .int x8_24), (0, .ref a_md), (2, .int x2_9), (3, .int x3_10), (6, .int x6_17), (7, .int x7_21)]) hx hb d_Md_findKept_145 hl (by decide) rfl (fun ls hl => ?_)
                        refine lv_iinc (v := x7_21 + 1) (lv' := [(7, .int (x7_21 + 1)), (5, .int x5_25), (8, .int x8_24), (0, .ref a_md), (2, .int x2_9), (3, .int x3_10), (6, .int x6_17)]) hx hb d_Md_findKept_147 hl (k := 6) rfl rfl (by decide) rfl (fun ls hl => ?_)
                        refine lv_goto (tgt := 90) hx hb d_Md_findKept_150 (by decide) ?_
                        exact il _ _ h _ _ hP hD hS _ (lv_sub hl [3, 4, 5, 1, 6, 0] rfl)
                      · have h := And.right h c_127
                        refine lv_iload hx hb d_Md_findKept_130 (lv_at hl 4 rfl) ?_
                        refine lv_goto (tgt := 145) hx hb d_Md_findKept_132 (by decide) ?_
                        refine lv_istore (lv' := [(5, .int x5_20), (8, .int x8_24), (0, .ref a_md), (2, .int x2_9), (3, .int x3_10), (6, .int x6_17), (7, .int x7_21)]) hx hb d_Md_findKept_145 hl (by decide) rfl (fun ls hl => ?_)
                        refine lv_iinc (v := x7_21 + 1) (lv' := [(7, .int (x7_21 + 1)), (5, .int x5_20), (8, .int x8_24), (0, .ref a_md), (2, .int x2_9), (3, .int x3_10), (6, .int x6_17)]) hx hb d_Md_findKept_147 hl (k := 6) rfl rfl (by decide) rfl (fun ls hl => ?_)
                        refine lv_goto (tgt := 90) hx hb d_Md_findKept_150 (by decide) ?_
                        exact il _ _ h _ _ hP hD hS _ (lv_sub hl [3, 4, 5, 1, 6, 0] rfl)
              obtain ⟨n_, h⟩ := h
              refine L90_q_22 _ ?_ n_ _ _ h _ _ hP hD hS _ (lv_sub hl [1, 2, 3, 4, 5, 0] rfl)
              intro x5_26 h
              intro H locs hP hD hS ls hl
              refine lv_iinc (v := x6_17 + 1) (lv' := [(6, .int (x6_17 + 1)), (0, .ref a_md), (2, .int x2_9), (3, .int x3_10), (5, .int x5_26)]) hx hb d_Md_findKept_153 hl (k := 4) rfl rfl (by decide) rfl (fun ls hl => ?_)
              refine lv_goto (tgt := 79) hx hb d_Md_findKept_156 (by decide) ?_
              exact il _ _ h _ _ hP hD hS _ (lv_sub hl [1, 2, 3, 4, 0] rfl)
        obtain ⟨n_, h⟩ := h
        refine L79_q_18 _ ?_ n_ _ _ h _ _ hP hD hS _ (lv_sub hl [2, 3, 4, 1, 0] rfl)
        intro x5_27 h
        intro H locs hP hD hS ls hl
        refine lv_aload_n hx hb d_Md_findKept_159 rfl (lv_at hl 0 rfl) ?_
        refine lv_iload_n hx hb d_Md_findKept_160 rfl (lv_at hl 1 rfl) ?_
        refine lv_iload hx hb d_Md_findKept_161 (lv_at hl 3 rfl) ?_
        refine lv_iconst (v := (-1)) hx hb d_Md_findKept_163 (by decide) ?_
        refine lv_ixor hx hb d_Md_findKept_164 ?_
        refine lv_iand hx hb d_Md_findKept_165 ?_
        refine lv_iload_n hx hb d_Md_findKept_166 rfl (lv_at hl 2 rfl) ?_
        refine jn_v (wr := [(a_md_guessCounts, .inl (cI, 2, .inl md_guessCounts)), (a_md_nexts, .inl (cI, 24576, .inl md_nexts)), (a_md_isBegin, .inl (cZ, 4096, .inl md_isBegin)), (a_md_hasGuesses, .inl (cI, 4096, .inl md_hasGuesses))]) (va_runV (As := [.int (x2_9 &&& (x5_27 ^^^ (-1))), .int x3_10]) (rest := []) ⟨hx, hb, hml, hown, hts⟩ (c_Md_mark l dC dI cI cB cZ adK adV _ a_md a_md_tape a_md_acts a_md_actNumbers a_md_actCounts a_md_pile a_md_begins a_md_goals a_md_ranks a_md_choiceCounts a_md_whens a_md_becomes a_md_guessCounts a_md_guesses a_md_unaryCounts a_md_stack a_md_nexts a_md_isBegin a_md_isGoal a_md_levels a_md_queue a_md_hasGuesses a_md_rounds a_md_marked a_md_other a_md_heights md_size md_at md_token md_tokenPlace md_number md_sign md_bad md_faultPlace md_place md_bank md_unaries md_opens md_piled md_loop md_keptBits md_rounds_12 (x2_9 &&& (x5_27 ^^^ (-1))) x3_10 _ h) (cwV 2 hts (gv_ m_1357 m_1359 m_76 m_96 m_1360) rfl rfl rfl pd_Md_mark ⟨Nat.le_of_ble_eq_true rfl, Nat.le_of_ble_eq_true rfl⟩) ⟨pc_blind, va_recv hK hP (ci := 11) (q0 := 4) rfl rfl, pc_of (hP.sub [4, 5] rfl) hK (hD.sub [4, 5] (by decide) rfl) hN hT hS hA⟩ rfl rfl hl.1 rfl (lv_room (Nat.le_of_ble_eq_true rfl)) d_Md_findKept_167 ⟨Nat.zero_le _, Nat.zero_le _⟩) hP hD hS hA [4, 5] [0, 1, 2, 3] rfl rfl (by decide) (by decide) (fun md_rounds_28 H locs h hP hD hS => ?_)
        have hP : va_P (dC, dI) vwCl [(a_md_guessCounts, .inl (cI, 2, .inl md_guessCounts)), (a_md_nexts, .inl (cI, 24576, .inl md_nexts)), (a_md_isBegin, .inl (cZ, 4096, .inl md_isBegin)), (a_md_hasGuesses, .inl (cI, 4096, .inl md_hasGuesses)), (a_md, .inr (11, [.ref a_md_tape, .int md_size, .int md_at, .int md_token, .int md_tokenPlace, .int md_number, .int md_sign, .int md_bad, .int md_faultPlace, .int md_place, .ref a_md_acts, .ref a_md_actNumbers, .ref a_md_actCounts, .int md_bank, .int md_unaries, .int md_opens, .ref a_md_pile, .int md_piled, .int md_loop, .ref a_md_begins, .ref a_md_goals, .ref a_md_ranks, .ref a_md_choiceCounts, .ref a_md_whens, .ref a_md_becomes, .ref a_md_guessCounts, .ref a_md_guesses, .ref a_md_unaryCounts, .ref a_md_stack, .ref a_md_nexts, .ref a_md_isBegin, .ref a_md_isGoal, .ref a_md_levels, .ref a_md_queue, .ref a_md_hasGuesses, .int md_keptBits, .ref a_md_rounds, .ref a_md_marked, .ref a_md_other, .ref a_md_heights])), (a_md_rounds, .inl (cI, 12, .inl md_rounds_28))] H := hP
        have hD : va_D A [(a_md_guessCounts, .inl (cI, 2, .inl md_guessCounts)), (a_md_nexts, .inl (cI, 24576, .inl md_nexts)), (a_md_isBegin, .inl (cZ, 4096, .inl md_isBegin)), (a_md_hasGuesses, .inl (cI, 4096, .inl md_hasGuesses)), (a_md, .inr (11, [.ref a_md_tape, .int md_size, .int md_at, .int md_token, .int md_tokenPlace, .int md_number, .int md_sign, .int md_bad, .int md_faultPlace, .int md_place, .ref a_md_acts, .ref a_md_actNumbers, .ref a_md_actCounts, .int md_bank, .int md_unaries, .int md_opens, .ref a_md_pile, .int md_piled, .int md_loop, .ref a_md_begins, .ref a_md_goals, .ref a_md_ranks, .ref a_md_choiceCounts, .ref a_md_whens, .ref a_md_becomes, .ref a_md_guessCounts, .ref a_md_guesses, .ref a_md_unaryCounts, .ref a_md_stack, .ref a_md_nexts, .ref a_md_isBegin, .ref a_md_isGoal, .ref a_md_levels, .ref a_md_queue, .ref a_md_hasGuesses, .int md_keptBits, .ref a_md_rounds, .ref a_md_marked, .ref a_md_other, .ref a_md_heights])), (a_md_rounds, .inl (cI, 12, .inl md_rounds_28))] := hD
        refine lv_iload hx hb d_Md_findKept_170 (lv_at hl 3 rfl) ?_
        refine lv_iload_n hx hb d_Md_findKept_172 rfl (lv_at hl 1 rfl) ?_
        refine lv_icmp_eq (tgt := 180) hx hb d_Md_findKept_173 (by decide) (fun c_173 => ?_) (fun c_173 => ?_)
        · have h := And.left h c_173
          refine lv_iconst (v := 0) hx hb d_Md_findKept_180 (by decide) ?_
          refine lv_istore (lv' := [(4, .int 0), (0, .ref a_md), (2, .int x2_9), (3, .int x3_10), (5, .int x5_27)]) hx hb d_Md_findKept_181 hl (by decide) rfl (fun ls hl => ?_)
          refine lv_iload hx hb d_Md_findKept_183 (lv_at hl 4 rfl) ?_
          refine lv_istore_n (lv' := [(2, .int x5_27), (4, .int 0), (0, .ref a_md), (3, .int x3_10), (5, .int x5_27)]) hx hb d_Md_findKept_185 rfl hl (by decide) rfl (fun ls hl => ?_)
          refine lv_iinc (v := x3_10 + 1) (lv' := [(3, .int (x3_10 + 1)), (2, .int x5_27), (4, .int 0), (0, .ref a_md), (5, .int x5_27)]) hx hb d_Md_findKept_186 hl (k := 3) rfl rfl (by decide) rfl (fun ls hl => ?_)
          refine lv_goto (tgt := 68) hx hb d_Md_findKept_189 (by decide) ?_
          exact il _ _ _ _ h _ _ hP hD hS _ (lv_sub hl [3, 1, 0, 2] rfl)
        · have h := And.right h c_173
          refine lv_iconst (v := 1) hx hb d_Md_findKept_176 (by decide) ?_
          refine lv_goto (tgt := 181) hx hb d_Md_findKept_177 (by decide) ?_
          refine lv_istore (lv' := [(4, .int 1), (0, .ref a_md), (2, .int x2_9), (3, .int x3_10), (5, .int x5_27)]) hx hb d_Md_findKept_181 hl (by decide) rfl (fun ls hl => ?_)
          refine lv_iload hx hb d_Md_findKept_183 (lv_at hl 4 rfl) ?_
          refine lv_istore_n (lv' := [(2, .int x5_27), (4, .int 1), (0, .ref a_md), (3, .int x3_10), (5, .int x5_27)]) hx hb d_Md_findKept_185 rfl hl (by decide) rfl (fun ls hl => ?_)
          refine lv_iinc (v := x3_10 + 1) (lv' := [(3, .int (x3_10 + 1)), (2, .int x5_27), (4, .int 1), (0, .ref a_md), (5, .int x5_27)]) hx hb d_Md_findKept_186 hl (k := 3) rfl rfl (by decide) rfl (fun ls hl => ?_)
          refine lv_goto (tgt := 68) hx hb d_Md_findKept_189 (by decide) ?_
          exact il _ _ _ _ h _ _ hP hD hS _ (lv_sub hl [3, 1, 0, 2] rfl)
  obtain ⟨n_, h⟩ := h
  refine L68_q_13 _ ?_ n_ _ _ _ _ h _ _ hP hD hS _ (lv_sub hl [2, 4, 1, 0] rfl)
  intro x2_29 md_rounds_30 h
  intro H locs hP hD hS ls hl
  refine lv_aload_n hx hb d_Md_findKept_192 rfl (lv_at hl 0 rfl) ?_
  refine lv_iload_n hx hb d_Md_findKept_193 rfl (lv_at hl 1 rfl) ?_
  refine lv_bipush (v := 100) hx hb d_Md_findKept_194 (by decide) ?_
  refine jn_v (wr := [(a_md_guessCounts, .inl (cI, 2, .inl md_guessCounts)), (a_md_nexts, .inl (cI, 24576, .inl md_nexts)), (a_md_isBegin, .inl (cZ, 4096, .inl md_isBegin)), (a_md_hasGuesses, .inl (cI, 4096, .inl md_hasGuesses))]) (va_runV (As := [.int x2_29, .int 100]) (rest := []) ⟨hx, hb, hml, hown, hts⟩ (c_Md_mark l dC dI cI cB cZ adK adV _ a_md a_md_tape a_md_acts a_md_actNumbers a_md_actCounts a_md_pile a_md_begins a_md_goals a_md_ranks a_md_choiceCounts a_md_whens a_md_becomes a_md_guessCounts a_md_guesses a_md_unaryCounts a_md_stack a_md_nexts a_md_isBegin a_md_isGoal a_md_levels a_md_queue a_md_hasGuesses a_md_rounds a_md_marked a_md_other a_md_heights md_size md_at md_token md_tokenPlace md_number md_sign md_bad md_faultPlace md_place md_bank md_unaries md_opens md_piled md_loop md_keptBits md_rounds_30 x2_29 100 _ h) (cwV 2 hts (gv_ m_1357 m_1359 m_76 m_96 m_1360) rfl rfl rfl pd_Md_mark ⟨Nat.le_of_ble_eq_true rfl, Nat.le_of_ble_eq_true rfl⟩) ⟨pc_blind, va_recv hK hP (ci := 11) (q0 := 4) rfl rfl, pc_of (hP.sub [4, 5] rfl) hK (hD.sub [4, 5] (by decide) rfl) hN hT hS hA⟩ rfl rfl hl.1 rfl (lv_room (Nat.le_of_ble_eq_true rfl)) d_Md_findKept_196 ⟨Nat.zero_le _, Nat.zero_le _⟩) hP hD hS hA [4, 5] [0, 1, 2, 3] rfl rfl (by decide) (by decide) (fun md_rounds_31 H locs h hP hD hS => ?_)
  have hP : va_P (dC, dI) vwCl [(a_md_guessCounts, .inl (cI, 2, .inl md_guessCounts)), (a_md_nexts, .inl (cI, 24576, .inl md_nexts)), (a_md_isBegin, .inl (cZ, 4096, .inl md_isBegin)), (a_md_hasGuesses, .inl (cI, 4096, .inl md_hasGuesses)), (a_md, .inr (11, [.ref a_md_tape, .int md_size, .int md_at, .int md_token, .int md_tokenPlace, .int md_number, .int md_sign, .int md_bad, .int md_faultPlace, .int md_place, .ref a_md_acts, .ref a_md_actNumbers, .ref a_md_actCounts, .int md_bank, .int md_unaries, .int md_opens, .ref a_md_pile, .int md_piled, .int md_loop, .ref a_md_begins, .ref a_md_goals, .ref a_md_ranks, .ref a_md_choiceCounts, .ref a_md_whens, .ref a_md_becomes, .ref a_md_guessCounts, .ref a_md_guesses, .ref a_md_unaryCounts, .ref a_md_stack, .ref a_md_nexts, .ref a_md_isBegin, .ref a_md_isGoal, .ref a_md_levels, .ref a_md_queue, .ref a_md_hasGuesses, .int md_keptBits, .ref a_md_rounds, .ref a_md_marked, .ref a_md_other, .ref a_md_heights])), (a_md_rounds, .inl (cI, 12, .inl md_rounds_31))] H := hP
  have hD : va_D A [(a_md_guessCounts, .inl (cI, 2, .inl md_guessCounts)), (a_md_nexts, .inl (cI, 24576, .inl md_nexts)), (a_md_isBegin, .inl (cZ, 4096, .inl md_isBegin)), (a_md_hasGuesses, .inl (cI, 4096, .inl md_hasGuesses)), (a_md, .inr (11, [.ref a_md_tape, .int md_size, .int md_at, .int md_token, .int md_tokenPlace, .int md_number, .int md_sign, .int md_bad, .int md_faultPlace, .int md_place, .ref a_md_acts, .ref a_md_actNumbers, .ref a_md_actCounts, .int md_bank, .int md_unaries, .int md_opens, .ref a_md_pile, .int md_piled, .int md_loop, .ref a_md_begins, .ref a_md_goals, .ref a_md_ranks, .ref a_md_choiceCounts, .ref a_md_whens, .ref a_md_becomes, .ref a_md_guessCounts, .ref a_md_guesses, .ref a_md_unaryCounts, .ref a_md_stack, .ref a_md_nexts, .ref a_md_isBegin, .ref a_md_isGoal, .ref a_md_levels, .ref a_md_queue, .ref a_md_hasGuesses, .int md_keptBits, .ref a_md_rounds, .ref a_md_marked, .ref a_md_other, .ref a_md_heights])), (a_md_rounds, .inl (cI, 12, .inl md_rounds_31))] := hD
  refine lv_aload_n hx hb d_Md_findKept_199 rfl (lv_at hl 0 rfl) ?_
  refine lv_iload_n hx hb d_Md_findKept_200 rfl (lv_at hl 1 rfl) ?_
  refine va_put (D := (dC, dI)) (ci := 11) (v := .int x2_29) (ty := .int) (C := "LoopInductionModel") (T := F_Md) (N := 40) hx hb hts iC_Md t_Md t_Md_ok n_Md hown hK hP hD hS 4 rfl rfl 35 (by decide) fl_264 (fun _ h9 => h9) rfl (by decide +kernel) rfl rfl (Nat.le_of_ble_eq_true rfl) d_Md_findKept_201 (fun H locs hP hD hS => ?_)
  have hP : va_P (dC, dI) vwCl [(a_md_guessCounts, .inl (cI, 2, .inl md_guessCounts)), (a_md_nexts, .inl (cI, 24576, .inl md_nexts)), (a_md_isBegin, .inl (cZ, 4096, .inl md_isBegin)), (a_md_hasGuesses, .inl (cI, 4096, .inl md_hasGuesses)), (a_md, .inr (11, [.ref a_md_tape, .int md_size, .int md_at, .int md_token, .int md_tokenPlace, .int md_number, .int md_sign, .int md_bad, .int md_faultPlace, .int md_place, .ref a_md_acts, .ref a_md_actNumbers, .ref a_md_actCounts, .int md_bank, .int md_unaries, .int md_opens, .ref a_md_pile, .int md_piled, .int md_loop, .ref a_md_begins, .ref a_md_goals, .ref a_md_ranks, .ref a_md_choiceCounts, .ref a_md_whens, .ref a_md_becomes, .ref a_md_guessCounts, .ref a_md_guesses, .ref a_md_unaryCounts, .ref a_md_stack, .ref a_md_nexts, .ref a_md_isBegin, .ref a_md_isGoal, .ref a_md_levels, .ref a_md_queue, .ref a_md_hasGuesses, .int x2_29, .ref a_md_rounds, .ref a_md_marked, .ref a_md_other, .ref a_md_heights])), (a_md_rounds, .inl (cI, 12, .inl md_rounds_31))] H := hP
  have hD : va_D A [(a_md_guessCounts, .inl (cI, 2, .inl md_guessCounts)), (a_md_nexts, .inl (cI, 24576, .inl md_nexts)), (a_md_isBegin, .inl (cZ, 4096, .inl md_isBegin)), (a_md_hasGuesses, .inl (cI, 4096, .inl md_hasGuesses)), (a_md, .inr (11, [.ref a_md_tape, .int md_size, .int md_at, .int md_token, .int md_tokenPlace, .int md_number, .int md_sign, .int md_bad, .int md_faultPlace, .int md_place, .ref a_md_acts, .ref a_md_actNumbers, .ref a_md_actCounts, .int md_bank, .int md_unaries, .int md_opens, .ref a_md_pile, .int md_piled, .int md_loop, .ref a_md_begins, .ref a_md_goals, .ref a_md_ranks, .ref a_md_choiceCounts, .ref a_md_whens, .ref a_md_becomes, .ref a_md_guessCounts, .ref a_md_guesses, .ref a_md_unaryCounts, .ref a_md_stack, .ref a_md_nexts, .ref a_md_isBegin, .ref a_md_isGoal, .ref a_md_levels, .ref a_md_queue, .ref a_md_hasGuesses, .int x2_29, .ref a_md_rounds, .ref a_md_marked, .ref a_md_other, .ref a_md_heights])), (a_md_rounds, .inl (cI, 12, .inl md_rounds_31))] := hD
  rw [← hQ]
  have hP9 := hP.sub (ws' := [(a_md, .inr (11, [.ref a_md_tape, .int md_size, .int md_at, .int md_token, .int md_tokenPlace, .int md_number, .int md_sign, .int md_bad, .int md_faultPlace, .int md_place, .ref a_md_acts, .ref a_md_actNumbers, .ref a_md_actCounts, .int md_bank, .int md_unaries, .int md_opens, .ref a_md_pile, .int md_piled, .int md_loop, .ref a_md_begins, .ref a_md_goals, .ref a_md_ranks, .ref a_md_choiceCounts, .ref a_md_whens, .ref a_md_becomes, .ref a_md_guessCounts, .ref a_md_guesses, .ref a_md_unaryCounts, .ref a_md_stack, .ref a_md_nexts, .ref a_md_isBegin, .ref a_md_isGoal, .ref a_md_levels, .ref a_md_queue, .ref a_md_hasGuesses, .int x2_29, .ref a_md_rounds, .ref a_md_marked, .ref a_md_other, .ref a_md_heights])), (a_md_guessCounts, .inl (cI, 2, .inl md_guessCounts)), (a_md_nexts, .inl (cI, 24576, .inl md_nexts)), (a_md_isBegin, .inl (cZ, 4096, .inl md_isBegin)), (a_md_hasGuesses, .inl (cI, 4096, .inl md_hasGuesses)), (a_md_rounds, .inl (cI, 12, .inl md_rounds_31))]) [4, 0, 1, 2, 3, 5] rfl
  have hD9 := hD.sub (ws' := [(a_md, .inr (11, [.ref a_md_tape, .int md_size, .int md_at, .int md_token, .int md_tokenPlace, .int md_number, .int md_sign, .int md_bad, .int md_faultPlace, .int md_place, .ref a_md_acts, .ref a_md_actNumbers, .ref a_md_actCounts, .int md_bank, .int md_unaries, .int md_opens, .ref a_md_pile, .int md_piled, .int md_loop, .ref a_md_begins, .ref a_md_goals, .ref a_md_ranks, .ref a_md_choiceCounts, .ref a_md_whens, .ref a_md_becomes, .ref a_md_guessCounts, .ref a_md_guesses, .ref a_md_unaryCounts, .ref a_md_stack, .ref a_md_nexts, .ref a_md_isBegin, .ref a_md_isGoal, .ref a_md_levels, .ref a_md_queue, .ref a_md_hasGuesses, .int x2_29, .ref a_md_rounds, .ref a_md_marked, .ref a_md_other, .ref a_md_heights])), (a_md_guessCounts, .inl (cI, 2, .inl md_guessCounts)), (a_md_nexts, .inl (cI, 24576, .inl md_nexts)), (a_md_isBegin, .inl (cZ, 4096, .inl md_isBegin)), (a_md_hasGuesses, .inl (cI, 4096, .inl md_hasGuesses)), (a_md_rounds, .inl (cI, 12, .inl md_rounds_31))]) [4, 0, 1, 2, 3, 5] (by decide) rfl
  exact W.vret hx hb hr (fun t ht hW => ⟨⟨(x2_29, md_rounds_31), rfl, h, by rw [ht]; exact hP9, va_K.moved hW.alike hK, hD9⟩, hS.F ht⟩) hS.2.2 d_Md_findKept_204
