abbrev b_Md_byteAt : ByteArray := prog_13_method_2_code
abbrev y_Md_byteAt : MethodName := ⟨"LoopInductionModel", "byteAt", "(I)I"⟩
abbrev w_Md_byteAt : List Cond := .code y_Md_byteAt b_Md_byteAt 2 (some .int) :: allW
theorem pn_Md_byteAt : y_Md_byteAt.cls ≠ "java/lang/invoke/MethodHandle" ∧ y_Md_byteAt.cls ≠ "java/lang/invoke/VarHandle" ∧ (parseMethodDescriptor y_Md_byteAt.desc).map (fun d => d.parameters.length) = some 1 := by decide +kernel
theorem pd_Md_byteAt : y_Md_byteAt.cls = "LoopInductionModel" ∧ y_Md_byteAt.cls ≠ "java/lang/invoke/MethodHandle" ∧ y_Md_byteAt.cls ≠ "java/lang/invoke/VarHandle" ∧ (parseMethodDescriptor y_Md_byteAt.desc).map (fun d => d.parameters.length) = some 1 := by decide +kernel
abbrev b_Md_isSmall : ByteArray := prog_13_method_3_code
abbrev y_Md_isSmall : MethodName := ⟨"LoopInductionModel", "isSmall", "(I)Z"⟩
abbrev w_Md_isSmall : List Cond := .code y_Md_isSmall b_Md_isSmall 1 (some .boolean) :: allW
theorem pn_Md_isSmall : y_Md_isSmall.cls ≠ "java/lang/invoke/MethodHandle" ∧ y_Md_isSmall.cls ≠ "java/lang/invoke/VarHandle" ∧ (parseMethodDescriptor y_Md_isSmall.desc).map (fun d => d.parameters.length) = some 1 := by decide +kernel
theorem pd_Md_isSmall : y_Md_isSmall.cls = "LoopInductionModel" ∧ y_Md_isSmall.cls ≠ "java/lang/invoke/MethodHandle" ∧ y_Md_isSmall.cls ≠ "java/lang/invoke/VarHandle" ∧ (parseMethodDescriptor y_Md_isSmall.desc).map (fun d => d.parameters.length) = some 1 := by decide +kernel
abbrev b_Md_isFigure : ByteArray := prog_13_method_4_code
abbrev y_Md_isFigure : MethodName := ⟨"LoopInductionModel", "isFigure", "(I)Z"⟩
abbrev w_Md_isFigure : List Cond := .code y_Md_isFigure b_Md_isFigure 1 (some .boolean) :: allW
theorem pn_Md_isFigure : y_Md_isFigure.cls ≠ "java/lang/invoke/MethodHandle" ∧ y_Md_isFigure.cls ≠ "java/lang/invoke/VarHandle" ∧ (parseMethodDescriptor y_Md_isFigure.desc).map (fun d => d.parameters.length) = some 1 := by decide +kernel
theorem pd_Md_isFigure : y_Md_isFigure.cls = "LoopInductionModel" ∧ y_Md_isFigure.cls ≠ "java/lang/invoke/MethodHandle" ∧ y_Md_isFigure.cls ≠ "java/lang/invoke/VarHandle" ∧ (parseMethodDescriptor y_Md_isFigure.desc).map (fun d => d.parameters.length) = some 1 := by decide +kernel
abbrev b_Md_isSignByte : ByteArray := prog_13_method_5_code
abbrev y_Md_isSignByte : MethodName := ⟨"LoopInductionModel", "isSignByte", "(I)Z"⟩
abbrev w_Md_isSignByte : List Cond := .code y_Md_isSignByte b_Md_isSignByte 1 (some .boolean) :: allW
theorem pn_Md_isSignByte : y_Md_isSignByte.cls ≠ "java/lang/invoke/MethodHandle" ∧ y_Md_isSignByte.cls ≠ "java/lang/invoke/VarHandle" ∧ (parseMethodDescriptor y_Md_isSignByte.desc).map (fun d => d.parameters.length) = some 1 := by decide +kernel
theorem pd_Md_isSignByte : y_Md_isSignByte.cls = "LoopInductionModel" ∧ y_Md_isSignByte.cls ≠ "java/lang/invoke/MethodHandle" ∧ y_Md_isSignByte.cls ≠ "java/lang/invoke/VarHandle" ∧ (parseMethodDescriptor y_Md_isSignByte.desc).map (fun d => d.parameters.length) = some 1 := by decide +kernel
abbrev b_Md_wordOf : ByteArray := prog_13_method_6_code
abbrev y_Md_wordOf : MethodName := ⟨"LoopInductionModel", "wordOf", "(J)I"⟩
abbrev w_Md_wordOf : List Cond := .code y_Md_wordOf b_Md_wordOf 2 (some .int) :: allW
theorem pn_Md_wordOf : y_Md_wordOf.cls ≠ "java/lang/invoke/MethodHandle" ∧ y_Md_wordOf.cls ≠ "java/lang/invoke/VarHandle" ∧ (parseMethodDescriptor y_Md_wordOf.desc).map (fun d => d.parameters.length) = some 1 := by decide +kernel
theorem pd_Md_wordOf : y_Md_wordOf.cls = "LoopInductionModel" ∧ y_Md_wordOf.cls ≠ "java/lang/invoke/MethodHandle" ∧ y_Md_wordOf.cls ≠ "java/lang/invoke/VarHandle" ∧ (parseMethodDescriptor y_Md_wordOf.desc).map (fun d => d.parameters.length) = some 1 := by decide +kernel
theorem d_Md_byteAt_0 : decode b_Md_byteAt 0 = .ok (.iload_n 1, 1) := by decide +kernel
theorem d_Md_byteAt_1 : decode b_Md_byteAt 1 = .ok (.aload_n 0, 1) := by decide +kernel
theorem d_Md_byteAt_2 : decode b_Md_byteAt 2 = .ok (.getfield 94, 3) := by decide +kernel
theorem d_Md_byteAt_5 : decode b_Md_byteAt 5 = .ok (.if_icmp .ge 16, 3) := by decide +kernel
theorem d_Md_byteAt_8 : decode b_Md_byteAt 8 = .ok (.aload_n 0, 1) := by decide +kernel
theorem d_Md_byteAt_9 : decode b_Md_byteAt 9 = .ok (.getfield 7, 3) := by decide +kernel
theorem d_Md_byteAt_12 : decode b_Md_byteAt 12 = .ok (.iload_n 1, 1) := by decide +kernel
theorem d_Md_byteAt_13 : decode b_Md_byteAt 13 = .ok (.baload, 1) := by decide +kernel
theorem d_Md_byteAt_14 : decode b_Md_byteAt 14 = .ok (.sipush 255, 3) := by decide +kernel
theorem d_Md_byteAt_17 : decode b_Md_byteAt 17 = .ok (.iand, 1) := by decide +kernel
theorem d_Md_byteAt_18 : decode b_Md_byteAt 18 = .ok (.goto 4, 3) := by decide +kernel
theorem d_Md_byteAt_21 : decode b_Md_byteAt 21 = .ok (.iconst (-1), 1) := by decide +kernel
theorem d_Md_byteAt_22 : decode b_Md_byteAt 22 = .ok (.ireturn, 1) := by decide +kernel
theorem d_Md_isSmall_0 : decode b_Md_isSmall 0 = .ok (.iload_n 0, 1) := by decide +kernel
theorem d_Md_isSmall_1 : decode b_Md_isSmall 1 = .ok (.bipush 97, 2) := by decide +kernel
theorem d_Md_isSmall_3 : decode b_Md_isSmall 3 = .ok (.if_icmp .lt 13, 3) := by decide +kernel
theorem d_Md_isSmall_6 : decode b_Md_isSmall 6 = .ok (.iload_n 0, 1) := by decide +kernel
theorem d_Md_isSmall_7 : decode b_Md_isSmall 7 = .ok (.bipush 122, 2) := by decide +kernel
theorem d_Md_isSmall_9 : decode b_Md_isSmall 9 = .ok (.if_icmp .gt 7, 3) := by decide +kernel
theorem d_Md_isSmall_12 : decode b_Md_isSmall 12 = .ok (.iconst 1, 1) := by decide +kernel
theorem d_Md_isSmall_13 : decode b_Md_isSmall 13 = .ok (.goto 4, 3) := by decide +kernel
theorem d_Md_isSmall_16 : decode b_Md_isSmall 16 = .ok (.iconst 0, 1) := by decide +kernel
theorem d_Md_isSmall_17 : decode b_Md_isSmall 17 = .ok (.ireturn, 1) := by decide +kernel
theorem d_Md_isFigure_0 : decode b_Md_isFigure 0 = .ok (.iload_n 0, 1) := by decide +kernel
theorem d_Md_isFigure_1 : decode b_Md_isFigure 1 = .ok (.bipush 48, 2) := by decide +kernel
theorem d_Md_isFigure_3 : decode b_Md_isFigure 3 = .ok (.if_icmp .lt 13, 3) := by decide +kernel
theorem d_Md_isFigure_6 : decode b_Md_isFigure 6 = .ok (.iload_n 0, 1) := by decide +kernel
theorem d_Md_isFigure_7 : decode b_Md_isFigure 7 = .ok (.bipush 57, 2) := by decide +kernel
theorem d_Md_isFigure_9 : decode b_Md_isFigure 9 = .ok (.if_icmp .gt 7, 3) := by decide +kernel
theorem d_Md_isFigure_12 : decode b_Md_isFigure 12 = .ok (.iconst 1, 1) := by decide +kernel
theorem d_Md_isFigure_13 : decode b_Md_isFigure 13 = .ok (.goto 4, 3) := by decide +kernel
theorem d_Md_isFigure_16 : decode b_Md_isFigure 16 = .ok (.iconst 0, 1) := by decide +kernel
theorem d_Md_isFigure_17 : decode b_Md_isFigure 17 = .ok (.ireturn, 1) := by decide +kernel
theorem d_Md_isSignByte_0 : decode b_Md_isSignByte 0 = .ok (.iload_n 0, 1) := by decide +kernel
theorem d_Md_isSignByte_1 : decode b_Md_isSignByte 1 = .ok (.lookupswitch 109 #[(35, 107), (40, 107), (41, 107), (42, 107), (43, 107), (44, 107), (45, 107), (59, 107), (60, 107), (61, 107), (91, 107), (93, 107)], 107) := by decide +kernel
theorem d_Md_isSignByte_108 : decode b_Md_isSignByte 108 = .ok (.iconst 1, 1) := by decide +kernel
theorem d_Md_isSignByte_109 : decode b_Md_isSignByte 109 = .ok (.ireturn, 1) := by decide +kernel
theorem d_Md_isSignByte_110 : decode b_Md_isSignByte 110 = .ok (.iconst 0, 1) := by decide +kernel
theorem d_Md_isSignByte_111 : decode b_Md_isSignByte 111 = .ok (.ireturn, 1) := by decide +kernel
theorem d_Md_wordOf_0 : decode b_Md_wordOf 0 = .ok (.lload_n 0, 1) := by decide +kernel
theorem d_Md_wordOf_1 : decode b_Md_wordOf 1 = .ok (.ldc2_w 97, 3) := by decide +kernel
theorem d_Md_wordOf_4 : decode b_Md_wordOf 4 = .ok (.lcmp, 1) := by decide +kernel
theorem d_Md_wordOf_5 : decode b_Md_wordOf 5 = .ok (.ifCond .ne 5, 3) := by decide +kernel
theorem d_Md_wordOf_8 : decode b_Md_wordOf 8 = .ok (.iconst 0, 1) := by decide +kernel
theorem d_Md_wordOf_9 : decode b_Md_wordOf 9 = .ok (.ireturn, 1) := by decide +kernel
theorem d_Md_wordOf_10 : decode b_Md_wordOf 10 = .ok (.lload_n 0, 1) := by decide +kernel
theorem d_Md_wordOf_11 : decode b_Md_wordOf 11 = .ok (.ldc2_w 99, 3) := by decide +kernel
theorem d_Md_wordOf_14 : decode b_Md_wordOf 14 = .ok (.lcmp, 1) := by decide +kernel
theorem d_Md_wordOf_15 : decode b_Md_wordOf 15 = .ok (.ifCond .ne 5, 3) := by decide +kernel
theorem d_Md_wordOf_18 : decode b_Md_wordOf 18 = .ok (.iconst 1, 1) := by decide +kernel
theorem d_Md_wordOf_19 : decode b_Md_wordOf 19 = .ok (.ireturn, 1) := by decide +kernel
theorem d_Md_wordOf_20 : decode b_Md_wordOf 20 = .ok (.lload_n 0, 1) := by decide +kernel
theorem d_Md_wordOf_21 : decode b_Md_wordOf 21 = .ok (.ldc2_w 101, 3) := by decide +kernel
theorem d_Md_wordOf_24 : decode b_Md_wordOf 24 = .ok (.lcmp, 1) := by decide +kernel
theorem d_Md_wordOf_25 : decode b_Md_wordOf 25 = .ok (.ifCond .ne 5, 3) := by decide +kernel
theorem d_Md_wordOf_28 : decode b_Md_wordOf 28 = .ok (.iconst 2, 1) := by decide +kernel
theorem d_Md_wordOf_29 : decode b_Md_wordOf 29 = .ok (.ireturn, 1) := by decide +kernel
theorem d_Md_wordOf_30 : decode b_Md_wordOf 30 = .ok (.lload_n 0, 1) := by decide +kernel
theorem d_Md_wordOf_31 : decode b_Md_wordOf 31 = .ok (.ldc2_w 103, 3) := by decide +kernel
theorem d_Md_wordOf_34 : decode b_Md_wordOf 34 = .ok (.lcmp, 1) := by decide +kernel
theorem d_Md_wordOf_35 : decode b_Md_wordOf 35 = .ok (.ifCond .ne 5, 3) := by decide +kernel
theorem d_Md_wordOf_38 : decode b_Md_wordOf 38 = .ok (.iconst 3, 1) := by decide +kernel
theorem d_Md_wordOf_39 : decode b_Md_wordOf 39 = .ok (.ireturn, 1) := by decide +kernel
theorem d_Md_wordOf_40 : decode b_Md_wordOf 40 = .ok (.lload_n 0, 1) := by decide +kernel
theorem d_Md_wordOf_41 : decode b_Md_wordOf 41 = .ok (.ldc2_w 105, 3) := by decide +kernel
theorem d_Md_wordOf_44 : decode b_Md_wordOf 44 = .ok (.lcmp, 1) := by decide +kernel
theorem d_Md_wordOf_45 : decode b_Md_wordOf 45 = .ok (.ifCond .ne 5, 3) := by decide +kernel
theorem d_Md_wordOf_48 : decode b_Md_wordOf 48 = .ok (.iconst 4, 1) := by decide +kernel
theorem d_Md_wordOf_49 : decode b_Md_wordOf 49 = .ok (.ireturn, 1) := by decide +kernel
theorem d_Md_wordOf_50 : decode b_Md_wordOf 50 = .ok (.lload_n 0, 1) := by decide +kernel
theorem d_Md_wordOf_51 : decode b_Md_wordOf 51 = .ok (.ldc2_w 107, 3) := by decide +kernel
theorem d_Md_wordOf_54 : decode b_Md_wordOf 54 = .ok (.lcmp, 1) := by decide +kernel
theorem d_Md_wordOf_55 : decode b_Md_wordOf 55 = .ok (.ifCond .ne 5, 3) := by decide +kernel
theorem d_Md_wordOf_58 : decode b_Md_wordOf 58 = .ok (.iconst 5, 1) := by decide +kernel
theorem d_Md_wordOf_59 : decode b_Md_wordOf 59 = .ok (.ireturn, 1) := by decide +kernel
theorem d_Md_wordOf_60 : decode b_Md_wordOf 60 = .ok (.lload_n 0, 1) := by decide +kernel
theorem d_Md_wordOf_61 : decode b_Md_wordOf 61 = .ok (.ldc2_w 109, 3) := by decide +kernel
theorem d_Md_wordOf_64 : decode b_Md_wordOf 64 = .ok (.lcmp, 1) := by decide +kernel
theorem d_Md_wordOf_65 : decode b_Md_wordOf 65 = .ok (.ifCond .ne 6, 3) := by decide +kernel
theorem d_Md_wordOf_68 : decode b_Md_wordOf 68 = .ok (.bipush 6, 2) := by decide +kernel
theorem d_Md_wordOf_70 : decode b_Md_wordOf 70 = .ok (.ireturn, 1) := by decide +kernel
theorem d_Md_wordOf_71 : decode b_Md_wordOf 71 = .ok (.lload_n 0, 1) := by decide +kernel
theorem d_Md_wordOf_72 : decode b_Md_wordOf 72 = .ok (.ldc2_w 111, 3) := by decide +kernel
theorem d_Md_wordOf_75 : decode b_Md_wordOf 75 = .ok (.lcmp, 1) := by decide +kernel
theorem d_Md_wordOf_76 : decode b_Md_wordOf 76 = .ok (.ifCond .ne 6, 3) := by decide +kernel
theorem d_Md_wordOf_79 : decode b_Md_wordOf 79 = .ok (.bipush 7, 2) := by decide +kernel
theorem d_Md_wordOf_81 : decode b_Md_wordOf 81 = .ok (.ireturn, 1) := by decide +kernel
theorem d_Md_wordOf_82 : decode b_Md_wordOf 82 = .ok (.lload_n 0, 1) := by decide +kernel
theorem d_Md_wordOf_83 : decode b_Md_wordOf 83 = .ok (.ldc2_w 113, 3) := by decide +kernel
theorem d_Md_wordOf_86 : decode b_Md_wordOf 86 = .ok (.lcmp, 1) := by decide +kernel
theorem d_Md_wordOf_87 : decode b_Md_wordOf 87 = .ok (.ifCond .ne 6, 3) := by decide +kernel
theorem d_Md_wordOf_90 : decode b_Md_wordOf 90 = .ok (.bipush 8, 2) := by decide +kernel
theorem d_Md_wordOf_92 : decode b_Md_wordOf 92 = .ok (.ireturn, 1) := by decide +kernel
theorem d_Md_wordOf_93 : decode b_Md_wordOf 93 = .ok (.lload_n 0, 1) := by decide +kernel
theorem d_Md_wordOf_94 : decode b_Md_wordOf 94 = .ok (.ldc2_w 115, 3) := by decide +kernel
theorem d_Md_wordOf_97 : decode b_Md_wordOf 97 = .ok (.lcmp, 1) := by decide +kernel
theorem d_Md_wordOf_98 : decode b_Md_wordOf 98 = .ok (.ifCond .ne 6, 3) := by decide +kernel
theorem d_Md_wordOf_101 : decode b_Md_wordOf 101 = .ok (.bipush 9, 2) := by decide +kernel
theorem d_Md_wordOf_103 : decode b_Md_wordOf 103 = .ok (.ireturn, 1) := by decide +kernel
theorem d_Md_wordOf_104 : decode b_Md_wordOf 104 = .ok (.lload_n 0, 1) := by decide +kernel
theorem d_Md_wordOf_105 : decode b_Md_wordOf 105 = .ok (.ldc2_w 117, 3) := by decide +kernel
theorem d_Md_wordOf_108 : decode b_Md_wordOf 108 = .ok (.lcmp, 1) := by decide +kernel
theorem d_Md_wordOf_109 : decode b_Md_wordOf 109 = .ok (.ifCond .ne 6, 3) := by decide +kernel
theorem d_Md_wordOf_112 : decode b_Md_wordOf 112 = .ok (.bipush 10, 2) := by decide +kernel
theorem d_Md_wordOf_114 : decode b_Md_wordOf 114 = .ok (.ireturn, 1) := by decide +kernel
theorem d_Md_wordOf_115 : decode b_Md_wordOf 115 = .ok (.lload_n 0, 1) := by decide +kernel
theorem d_Md_wordOf_116 : decode b_Md_wordOf 116 = .ok (.ldc2_w 119, 3) := by decide +kernel
theorem d_Md_wordOf_119 : decode b_Md_wordOf 119 = .ok (.lcmp, 1) := by decide +kernel
theorem d_Md_wordOf_120 : decode b_Md_wordOf 120 = .ok (.ifCond .ne 6, 3) := by decide +kernel
theorem d_Md_wordOf_123 : decode b_Md_wordOf 123 = .ok (.bipush 11, 2) := by decide +kernel
theorem d_Md_wordOf_125 : decode b_Md_wordOf 125 = .ok (.ireturn, 1) := by decide +kernel
theorem d_Md_wordOf_126 : decode b_Md_wordOf 126 = .ok (.iconst (-1), 1) := by decide +kernel
theorem d_Md_wordOf_127 : decode b_Md_wordOf 127 = .ok (.ireturn, 1) := by decide +kernel
set_option maxHeartbeats 4000000 in
set_option maxRecDepth 100000 in
theorem c_Md_byteAt (l : Launch) (dC : Nat → ClassId) (dI : Nat → Nat → Nat) (cI cB cZ : ClassId) (adK adV : Nat → Nat) (sz : Nat) (a_md a_md_tape a_md_acts a_md_actNumbers a_md_actCounts a_md_pile a_md_begins a_md_goals a_md_ranks a_md_choiceCounts a_md_whens a_md_becomes a_md_guessCounts a_md_guesses a_md_unaryCounts a_md_stack a_md_nexts a_md_isBegin a_md_isGoal a_md_levels a_md_queue a_md_hasGuesses a_md_rounds a_md_marked a_md_other a_md_heights : Nat) (md_size : Int32) (md_at : Int32) (md_token : Int32) (md_tokenPlace : Int32) (md_number : Int32) (md_sign : Int32) (md_bad : Int32) (md_faultPlace : Int32) (md_place : Int32) (md_bank : Int32) (md_unaries : Int32) (md_opens : Int32) (md_piled : Int32) (md_loop : Int32) (md_keptBits : Int32) (md_tape : Nat → Int32) (x1 : Int32) (post : Int32 → Prop) (h : wp_Md_byteAt x1 md_size md_tape post) : Met l y_Md_byteAt w_Md_byteAt ({ frames := 0, cells := 0, slots := 0, locals := 0 }) (pc_ (dC, dI) [(cI, .int), (cB, .byte), (cZ, .boolean)] [(a_md, .inr (11, [.ref a_md_tape, .int md_size, .int md_at, .int md_token, .int md_tokenPlace, .int md_number, .int md_sign, .int md_bad, .int md_faultPlace, .int md_place, .ref a_md_acts, .ref a_md_actNumbers, .ref a_md_actCounts, .int md_bank, .int md_unaries, .int md_opens, .ref a_md_pile, .int md_piled, .int md_loop, .ref a_md_begins, .ref a_md_goals, .ref a_md_ranks, .ref a_md_choiceCounts, .ref a_md_whens, .ref a_md_becomes, .ref a_md_guessCounts, .ref a_md_guesses, .ref a_md_unaryCounts, .ref a_md_stack, .ref a_md_nexts, .ref a_md_isBegin, .ref a_md_isGoal, .ref a_md_levels, .ref a_md_queue, .ref a_md_hasGuesses, .int md_keptBits, .ref a_md_rounds, .ref a_md_marked, .ref a_md_other, .ref a_md_heights])), (a_md_tape, .inl (cB, 1200, .inl md_tape))] sz adK adV [.ref a_md, .int x1]) (va_Qi (fun (r : Int32) (u : Unit) => post r ) (fun (u : Unit) t => bw_ (dC, dI) [(cI, .int), (cB, .byte), (cZ, .boolean)] (va_A [(a_md, .inr (11, [.ref a_md_tape, .int md_size, .int md_at, .int md_token, .int md_tokenPlace, .int md_number, .int md_sign, .int md_bad, .int md_faultPlace, .int md_place, .ref a_md_acts, .ref a_md_actNumbers, .ref a_md_actCounts, .int md_bank, .int md_unaries, .int md_opens, .ref a_md_pile, .int md_piled, .int md_loop, .ref a_md_begins, .ref a_md_goals, .ref a_md_ranks, .ref a_md_choiceCounts, .ref a_md_whens, .ref a_md_becomes, .ref a_md_guessCounts, .ref a_md_guesses, .ref a_md_unaryCounts, .ref a_md_stack, .ref a_md_nexts, .ref a_md_isBegin, .ref a_md_isGoal, .ref a_md_levels, .ref a_md_queue, .ref a_md_hasGuesses, .int md_keptBits, .ref a_md_rounds, .ref a_md_marked, .ref a_md_other, .ref a_md_heights])), (a_md_tape, .inl (cB, 1200, .inl md_tape))] sz) [(a_md, .inr (11, [.ref a_md_tape, .int md_size, .int md_at, .int md_token, .int md_tokenPlace, .int md_number, .int md_sign, .int md_bad, .int md_faultPlace, .int md_place, .ref a_md_acts, .ref a_md_actNumbers, .ref a_md_actCounts, .int md_bank, .int md_unaries, .int md_opens, .ref a_md_pile, .int md_piled, .int md_loop, .ref a_md_begins, .ref a_md_goals, .ref a_md_ranks, .ref a_md_choiceCounts, .ref a_md_whens, .ref a_md_becomes, .ref a_md_guessCounts, .ref a_md_guesses, .ref a_md_unaryCounts, .ref a_md_stack, .ref a_md_nexts, .ref a_md_isBegin, .ref a_md_isGoal, .ref a_md_levels, .ref a_md_queue, .ref a_md_hasGuesses, .int md_keptBits, .ref a_md_rounds, .ref a_md_marked, .ref a_md_other, .ref a_md_heights])), (a_md_tape, .inl (cB, 1200, .inl md_tape))] t) (va_A [(a_md, .inr (11, [.ref a_md_tape, .int md_size, .int md_at, .int md_token, .int md_tokenPlace, .int md_number, .int md_sign, .int md_bad, .int md_faultPlace, .int md_place, .ref a_md_acts, .ref a_md_actNumbers, .ref a_md_actCounts, .int md_bank, .int md_unaries, .int md_opens, .ref a_md_pile, .int md_piled, .int md_loop, .ref a_md_begins, .ref a_md_goals, .ref a_md_ranks, .ref a_md_choiceCounts, .ref a_md_whens, .ref a_md_becomes, .ref a_md_guessCounts, .ref a_md_guesses, .ref a_md_unaryCounts, .ref a_md_stack, .ref a_md_nexts, .ref a_md_isBegin, .ref a_md_isGoal, .ref a_md_levels, .ref a_md_queue, .ref a_md_hasGuesses, .int md_keptBits, .ref a_md_rounds, .ref a_md_marked, .ref a_md_other, .ref a_md_heights])), (a_md_tape, .inl (cB, 1200, .inl md_tape))] sz)) 0 0 (va_A [(a_md, .inr (11, [.ref a_md_tape, .int md_size, .int md_at, .int md_token, .int md_tokenPlace, .int md_number, .int md_sign, .int md_bad, .int md_faultPlace, .int md_place, .ref a_md_acts, .ref a_md_actNumbers, .ref a_md_actCounts, .int md_bank, .int md_unaries, .int md_opens, .ref a_md_pile, .int md_piled, .int md_loop, .ref a_md_begins, .ref a_md_goals, .ref a_md_ranks, .ref a_md_choiceCounts, .ref a_md_whens, .ref a_md_becomes, .ref a_md_guessCounts, .ref a_md_guesses, .ref a_md_unaryCounts, .ref a_md_stack, .ref a_md_nexts, .ref a_md_isBegin, .ref a_md_isGoal, .ref a_md_levels, .ref a_md_queue, .ref a_md_hasGuesses, .int md_keptBits, .ref a_md_rounds, .ref a_md_marked, .ref a_md_other, .ref a_md_heights])), (a_md_tape, .inl (cB, 1200, .inl md_tape))] sz) := by
  refine Met.ofW (cc := b_Md_byteAt) (maxL := 2) (ret := (some .int)) (by decide) rfl ?_
  intro p e s m args below meth c s₁ B hml hv
  obtain ⟨rfl, hsz, hP, hK, hD0, hN, hT⟩ := hv
  have hx := B.exec
  have hb := B.bytes
  have hr := B.returns
  have hts := atoms_spec (ws := w_Md_byteAt) B.pre
  have hown : s.vm.findClass "LoopInductionModel" = some m.cls := findClass_of_methodNamed B.named
  have hlocks := B.notSynchronized
  subst hsz
  have hD := hD0.self (sz := s.heap.size)
  generalize hAe : va_A [(a_md, .inr (11, [.ref a_md_tape, .int md_size, .int md_at, .int md_token, .int md_tokenPlace, .int md_number, .int md_sign, .int md_bad, .int md_faultPlace, .int md_place, .ref a_md_acts, .ref a_md_actNumbers, .ref a_md_actCounts, .int md_bank, .int md_unaries, .int md_opens, .ref a_md_pile, .int md_piled, .int md_loop, .ref a_md_begins, .ref a_md_goals, .ref a_md_ranks, .ref a_md_choiceCounts, .ref a_md_whens, .ref a_md_becomes, .ref a_md_guessCounts, .ref a_md_guesses, .ref a_md_unaryCounts, .ref a_md_stack, .ref a_md_nexts, .ref a_md_isBegin, .ref a_md_isGoal, .ref a_md_levels, .ref a_md_queue, .ref a_md_hasGuesses, .int md_keptBits, .ref a_md_rounds, .ref a_md_marked, .ref a_md_other, .ref a_md_heights])), (a_md_tape, .inl (cB, 1200, .inl md_tape))] s.heap.size = A at hD hT ⊢
  have hA : ∀ q : Nat, s.heap.size ≤ q → A q := fun q h => by rw [← hAe]; exact Or.inr h
  have hS : va_S A s.heap s.heap [] := va_S.rf
  generalize hQ : MQ below _ _ s 0 0 _ = QQ
  have hl := lv_entry ([.ref a_md, .int x1]) (n := 2) (Nat.le_of_ble_eq_true rfl)
  rw [lg_entry_eq]
  generalize (lg_sl ([.ref a_md, .int x1]) ++ List.replicate (2 - (lg_sl ([.ref a_md, .int x1])).length) Slot.unset).toArray = ls at hl ⊢
  have hl : lv_has ls 2 [(0, .ref a_md), (1, .int x1)] := hl
  have fl_7 := (hts _ (List.mem_cons_of_mem _ m_1090))
  have fl_94 := (hts _ (List.mem_cons_of_mem _ m_1091))
  refine lv_iload_n hx hb d_Md_byteAt_0 rfl (lv_at hl 1 rfl) ?_
  refine lv_aload_n hx hb d_Md_byteAt_1 rfl (lv_at hl 0 rfl) ?_
  refine va_get (D := (dC, dI)) (ci := 11) (v := .int md_size) (C := "LoopInductionModel") (T := F_Md) (N := 40) hx hb hts iC_Md hown hK hP 0 rfl rfl 1 (by decide) fl_94 (fun _ h9 => h9) rfl d_Md_byteAt_2 ?_
  refine lv_icmp_ge (tgt := 21) hx hb d_Md_byteAt_5 (by decide) (fun c_5 => ?_) (fun c_5 => ?_)
  · have h := And.left h c_5
    refine lv_iconst (v := (-1)) hx hb d_Md_byteAt_21 (by decide) ?_
    rw [← hQ]
    have hP9 := hP
    have hD9 := hD
    exact W.iret (v := (-1)) hx hb hr (fun t ht hW => ⟨⟨(-1), (), rfl, h, by rw [ht]; exact hP9, va_K.moved hW.alike hK, hD9⟩, hS.F ht⟩) hS.2.2 d_Md_byteAt_22
  · have h := And.right h c_5
    refine lv_aload_n hx hb d_Md_byteAt_8 rfl (lv_at hl 0 rfl) ?_
    refine va_get (D := (dC, dI)) (ci := 11) (v := .ref a_md_tape) (C := "LoopInductionModel") (T := F_Md) (N := 40) hx hb hts iC_Md hown hK hP 0 rfl rfl 0 (by decide) fl_7 (fun _ h9 => h9) rfl d_Md_byteAt_9 ?_
    refine lv_iload_n hx hb d_Md_byteAt_12 rfl (lv_at hl 1 rfl) ?_
    obtain ⟨hin_13, h⟩ := h
    refine va_bald hx hb hK hP 1 1 rfl rfl hin_13 d_Md_byteAt_13 ?_
    refine lv_sipush (v := 255) hx hb d_Md_byteAt_14 (by decide) ?_
    refine lv_iand hx hb d_Md_byteAt_17 ?_
    refine lv_goto (tgt := 22) hx hb d_Md_byteAt_18 (by decide) ?_
    rw [← hQ]
    have hP9 := hP
    have hD9 := hD
    exact W.iret (v := (md_tape (x1 : Int32).toNatClampNeg) &&& 255) hx hb hr (fun t ht hW => ⟨⟨((md_tape (x1 : Int32).toNatClampNeg) &&& 255), (), rfl, h, by rw [ht]; exact hP9, va_K.moved hW.alike hK, hD9⟩, hS.F ht⟩) hS.2.2 d_Md_byteAt_22
set_option maxHeartbeats 4000000 in
set_option maxRecDepth 100000 in
theorem c_Md_isSmall (l : Launch) (dC : Nat → ClassId) (dI : Nat → Nat → Nat) (cI cB cZ : ClassId) (adK adV : Nat → Nat) (sz : Nat) (x0 : Int32) (post : Int32 → Prop) (h : wp_Md_isSmall x0 post) : Met l y_Md_isSmall w_Md_isSmall ({ frames := 0, cells := 0, slots := 0, locals := 0 }) (pc_ (dC, dI) [(cI, .int), (cB, .byte), (cZ, .boolean)] [] sz adK adV [.int x0]) (va_Qi (fun (r : Int32) (u : Unit) => post r ) (fun (u : Unit) t => bw_ (dC, dI) [(cI, .int), (cB, .byte), (cZ, .boolean)] (va_A [] sz) [] t) (va_A [] sz)) 0 0 (va_A [] sz) := by
  refine Met.ofW (cc := b_Md_isSmall) (maxL := 1) (ret := (some .boolean)) (by decide) rfl ?_
  intro p e s m args below meth c s₁ B hml hv
  obtain ⟨rfl, hsz, hP, hK, hD0, hN, hT⟩ := hv
  have hx := B.exec
  have hb := B.bytes
  have hr := B.returns
  have hts := atoms_spec (ws := w_Md_isSmall) B.pre
  have hown : s.vm.findClass "LoopInductionModel" = some m.cls := findClass_of_methodNamed B.named
  have hlocks := B.notSynchronized
  subst hsz
  have hD := hD0.self (sz := s.heap.size)
  generalize hAe : va_A [] s.heap.size = A at hD hT ⊢
  have hA : ∀ q : Nat, s.heap.size ≤ q → A q := fun q h => by rw [← hAe]; exact Or.inr h
  have hS : va_S A s.heap s.heap [] := va_S.rf
  generalize hQ : MQ below _ _ s 0 0 _ = QQ
  have hl := lv_entry ([.int x0]) (n := 1) (Nat.le_of_ble_eq_true rfl)
  rw [lg_entry_eq]
  generalize (lg_sl ([.int x0]) ++ List.replicate (1 - (lg_sl ([.int x0])).length) Slot.unset).toArray = ls at hl ⊢
  have hl : lv_has ls 1 [(0, .int x0)] := hl
  refine lv_iload_n hx hb d_Md_isSmall_0 rfl (lv_at hl 0 rfl) ?_
  refine lv_bipush (v := 97) hx hb d_Md_isSmall_1 (by decide) ?_
  refine lv_icmp_lt (tgt := 16) hx hb d_Md_isSmall_3 (by decide) (fun c_3 => ?_) (fun c_3 => ?_)
  · have h := And.left h c_3
    refine lv_iconst (v := 0) hx hb d_Md_isSmall_16 (by decide) ?_
    rw [← hQ]
    have hP9 := hP
    have hD9 := hD
    exact W.zret (v := 0) hx hb hr rfl (fun t ht hW => ⟨⟨0, (), rfl, h, by rw [ht]; exact hP9, va_K.moved hW.alike hK, hD9⟩, hS.F ht⟩) hS.2.2 d_Md_isSmall_17
  · have h := And.right h c_3
    refine lv_iload_n hx hb d_Md_isSmall_6 rfl (lv_at hl 0 rfl) ?_
    refine lv_bipush (v := 122) hx hb d_Md_isSmall_7 (by decide) ?_
    refine lv_icmp_gt (tgt := 16) hx hb d_Md_isSmall_9 (by decide) (fun c_9 => ?_) (fun c_9 => ?_)
    · have h := And.left h c_9
      refine lv_iconst (v := 0) hx hb d_Md_isSmall_16 (by decide) ?_
      rw [← hQ]
      have hP9 := hP
      have hD9 := hD
      exact W.zret (v := 0) hx hb hr rfl (fun t ht hW => ⟨⟨0, (), rfl, h, by rw [ht]; exact hP9, va_K.moved hW.alike hK, hD9⟩, hS.F ht⟩) hS.2.2 d_Md_isSmall_17
    · have h := And.right h c_9
      refine lv_iconst (v := 1) hx hb d_Md_isSmall_12 (by decide) ?_
      refine lv_goto (tgt := 17) hx hb d_Md_isSmall_13 (by decide) ?_
      rw [← hQ]
      have hP9 := hP
      have hD9 := hD
      exact W.zret (v := 1) hx hb hr rfl (fun t ht hW => ⟨⟨1, (), rfl, h, by rw [ht]; exact hP9, va_K.moved hW.alike hK, hD9⟩, hS.F ht⟩) hS.2.2 d_Md_isSmall_17
set_option maxHeartbeats 4000000 in
set_option maxRecDepth 100000 in
theorem c_Md_isFigure (l : Launch) (dC : Nat → ClassId) (dI : Nat → Nat → Nat) (cI cB cZ : ClassId) (adK adV : Nat → Nat) (sz : Nat) (x0 : Int32) (post : Int32 → Prop) (h : wp_Md_isFigure x0 post) : Met l y_Md_isFigure w_Md_isFigure ({ frames := 0, cells := 0, slots := 0, locals := 0 }) (pc_ (dC, dI) [(cI, .int), (cB, .byte), (cZ, .boolean)] [] sz adK adV [.int x0]) (va_Qi (fun (r : Int32) (u : Unit) => post r ) (fun (u : Unit) t => bw_ (dC, dI) [(cI, .int), (cB, .byte), (cZ, .boolean)] (va_A [] sz) [] t) (va_A [] sz)) 0 0 (va_A [] sz) := by
  refine Met.ofW (cc := b_Md_isFigure) (maxL := 1) (ret := (some .boolean)) (by decide) rfl ?_
  intro p e s m args below meth c s₁ B hml hv
  obtain ⟨rfl, hsz, hP, hK, hD0, hN, hT⟩ := hv
  have hx := B.exec
  have hb := B.bytes
  have hr := B.returns
  have hts := atoms_spec (ws := w_Md_isFigure) B.pre
  have hown : s.vm.findClass "LoopInductionModel" = some m.cls := findClass_of_methodNamed B.named
  have hlocks := B.notSynchronized
  subst hsz
  have hD := hD0.self (sz := s.heap.size)
  generalize hAe : va_A [] s.heap.size = A at hD hT ⊢
  have hA : ∀ q : Nat, s.heap.size ≤ q → A q := fun q h => by rw [← hAe]; exact Or.inr h
  have hS : va_S A s.heap s.heap [] := va_S.rf
  generalize hQ : MQ below _ _ s 0 0 _ = QQ
  have hl := lv_entry ([.int x0]) (n := 1) (Nat.le_of_ble_eq_true rfl)
  rw [lg_entry_eq]
  generalize (lg_sl ([.int x0]) ++ List.replicate (1 - (lg_sl ([.int x0])).length) Slot.unset).toArray = ls at hl ⊢
  have hl : lv_has ls 1 [(0, .int x0)] := hl
  refine lv_iload_n hx hb d_Md_isFigure_0 rfl (lv_at hl 0 rfl) ?_
  refine lv_bipush (v := 48) hx hb d_Md_isFigure_1 (by decide) ?_
  refine lv_icmp_lt (tgt := 16) hx hb d_Md_isFigure_3 (by decide) (fun c_3 => ?_) (fun c_3 => ?_)
  · have h := And.left h c_3
    refine lv_iconst (v := 0) hx hb d_Md_isFigure_16 (by decide) ?_
    rw [← hQ]
    have hP9 := hP
    have hD9 := hD
    exact W.zret (v := 0) hx hb hr rfl (fun t ht hW => ⟨⟨0, (), rfl, h, by rw [ht]; exact hP9, va_K.moved hW.alike hK, hD9⟩, hS.F ht⟩) hS.2.2 d_Md_isFigure_17
  · have h := And.right h c_3
    refine lv_iload_n hx hb d_Md_isFigure_6 rfl (lv_at hl 0 rfl) ?_
    refine lv_bipush (v := 57) hx hb d_Md_isFigure_7 (by decide) ?_
    refine lv_icmp_gt (tgt := 16) hx hb d_Md_isFigure_9 (by decide) (fun c_9 => ?_) (fun c_9 => ?_)
    · have h := And.left h c_9
      refine lv_iconst (v := 0) hx hb d_Md_isFigure_16 (by decide) ?_
      rw [← hQ]
      have hP9 := hP
      have hD9 := hD
      exact W.zret (v := 0) hx hb hr rfl (fun t ht hW => ⟨⟨0, (), rfl, h, by rw [ht]; exact hP9, va_K.moved hW.alike hK, hD9⟩, hS.F ht⟩) hS.2.2 d_Md_isFigure_17
    · have h := And.right h c_9
      refine lv_iconst (v := 1) hx hb d_Md_isFigure_12 (by decide) ?_
      refine lv_goto (tgt := 17) hx hb d_Md_isFigure_13 (by decide) ?_
      rw [← hQ]
      have hP9 := hP
      have hD9 := hD
      exact W.zret (v := 1) hx hb hr rfl (fun t ht hW => ⟨⟨1, (), rfl, h, by rw [ht]; exact hP9, va_K.moved hW.alike hK, hD9⟩, hS.F ht⟩) hS.2.2 d_Md_isFigure_17
set_option maxHeartbeats 4000000 in
set_option maxRecDepth 100000 in
theorem c_Md_isSignByte (l : Launch) (dC : Nat → ClassId) (dI : Nat → Nat → Nat) (cI cB cZ : ClassId) (adK adV : Nat → Nat) (sz : Nat) (x0 : Int32) (post : Int32 → Prop) (h : wp_Md_isSignByte x0 post) : Met l y_Md_isSignByte w_Md_isSignByte ({ frames := 0, cells := 0, slots := 0, locals := 0 }) (pc_ (dC, dI) [(cI, .int), (cB, .byte), (cZ, .boolean)] [] sz adK adV [.int x0]) (va_Qi (fun (r : Int32) (u : Unit) => post r ) (fun (u : Unit) t => bw_ (dC, dI) [(cI, .int), (cB, .byte), (cZ, .boolean)] (va_A [] sz) [] t) (va_A [] sz)) 0 0 (va_A [] sz) := by
  refine Met.ofW (cc := b_Md_isSignByte) (maxL := 1) (ret := (some .boolean)) (by decide) rfl ?_
  intro p e s m args below meth c s₁ B hml hv
  obtain ⟨rfl, hsz, hP, hK, hD0, hN, hT⟩ := hv
  have hx := B.exec
  have hb := B.bytes
  have hr := B.returns
  have hts := atoms_spec (ws := w_Md_isSignByte) B.pre
  have hown : s.vm.findClass "LoopInductionModel" = some m.cls := findClass_of_methodNamed B.named
  have hlocks := B.notSynchronized
  subst hsz
  have hD := hD0.self (sz := s.heap.size)
  generalize hAe : va_A [] s.heap.size = A at hD hT ⊢
  have hA : ∀ q : Nat, s.heap.size ≤ q → A q := fun q h => by rw [← hAe]; exact Or.inr h
  have hS : va_S A s.heap s.heap [] := va_S.rf
  generalize hQ : MQ below _ _ s 0 0 _ = QQ
  have hl := lv_entry ([.int x0]) (n := 1) (Nat.le_of_ble_eq_true rfl)
  rw [lg_entry_eq]
  generalize (lg_sl ([.int x0]) ++ List.replicate (1 - (lg_sl ([.int x0])).length) Slot.unset).toArray = ls at hl ⊢
  have hl : lv_has ls 1 [(0, .int x0)] := hl
  refine lv_iload_n hx hb d_Md_isSignByte_0 rfl (lv_at hl 0 rfl) ?_
  rcases Classical.em ((x0 : Int32) = 35) with e_1_0 | e_1_0
  · have h := h.1 e_1_0
    refine lv_lookup (off := 107) (tgt := 108) hx hb d_Md_isSignByte_1 (by decide) (by rw [e_1_0]; rfl) (by decide) ?_
    refine lv_iconst (v := 1) hx hb d_Md_isSignByte_108 (by decide) ?_
    rw [← hQ]
    have hP9 := hP
    have hD9 := hD
    exact W.zret (v := 1) hx hb hr rfl (fun t ht hW => ⟨⟨1, (), rfl, h, by rw [ht]; exact hP9, va_K.moved hW.alike hK, hD9⟩, hS.F ht⟩) hS.2.2 d_Md_isSignByte_109
  rcases Classical.em ((x0 : Int32) = 40) with e_1_1 | e_1_1
  · have h := h.2.1 e_1_1
    refine lv_lookup (off := 107) (tgt := 108) hx hb d_Md_isSignByte_1 (by decide) (by rw [lv_osw e_1_0 (a := 35) (by decide)]; rw [e_1_1]; rfl) (by decide) ?_
    refine lv_iconst (v := 1) hx hb d_Md_isSignByte_108 (by decide) ?_
    rw [← hQ]
    have hP9 := hP
    have hD9 := hD
    exact W.zret (v := 1) hx hb hr rfl (fun t ht hW => ⟨⟨1, (), rfl, h, by rw [ht]; exact hP9, va_K.moved hW.alike hK, hD9⟩, hS.F ht⟩) hS.2.2 d_Md_isSignByte_109
  rcases Classical.em ((x0 : Int32) = 41) with e_1_2 | e_1_2
  · have h := h.2.2.1 e_1_2
    refine lv_lookup (off := 107) (tgt := 108) hx hb d_Md_isSignByte_1 (by decide) (by rw [lv_osw e_1_0 (a := 35) (by decide)]; rw [lv_osw e_1_1 (a := 40) (by decide)]; rw [e_1_2]; rfl) (by decide) ?_
    refine lv_iconst (v := 1) hx hb d_Md_isSignByte_108 (by decide) ?_
    rw [← hQ]
    have hP9 := hP
    have hD9 := hD
    exact W.zret (v := 1) hx hb hr rfl (fun t ht hW => ⟨⟨1, (), rfl, h, by rw [ht]; exact hP9, va_K.moved hW.alike hK, hD9⟩, hS.F ht⟩) hS.2.2 d_Md_isSignByte_109
  rcases Classical.em ((x0 : Int32) = 42) with e_1_3 | e_1_3
  · have h := h.2.2.2.1 e_1_3
    refine lv_lookup (off := 107) (tgt := 108) hx hb d_Md_isSignByte_1 (by decide) (by rw [lv_osw e_1_0 (a := 35) (by decide)]; rw [lv_osw e_1_1 (a := 40) (by decide)]; rw [lv_osw e_1_2 (a := 41) (by decide)]; rw [e_1_3]; rfl) (by decide) ?_
    refine lv_iconst (v := 1) hx hb d_Md_isSignByte_108 (by decide) ?_
    rw [← hQ]
    have hP9 := hP
    have hD9 := hD
    exact W.zret (v := 1) hx hb hr rfl (fun t ht hW => ⟨⟨1, (), rfl, h, by rw [ht]; exact hP9, va_K.moved hW.alike hK, hD9⟩, hS.F ht⟩) hS.2.2 d_Md_isSignByte_109
  rcases Classical.em ((x0 : Int32) = 43) with e_1_4 | e_1_4
  · have h := h.2.2.2.2.1 e_1_4
    refine lv_lookup (off := 107) (tgt := 108) hx hb d_Md_isSignByte_1 (by decide) (by rw [lv_osw e_1_0 (a := 35) (by decide)]; rw [lv_osw e_1_1 (a := 40) (by decide)]; rw [lv_osw e_1_2 (a := 41) (by decide)]; rw [lv_osw e_1_3 (a := 42) (by decide)]; rw [e_1_4]; rfl) (by decide) ?_
    refine lv_iconst (v := 1) hx hb d_Md_isSignByte_108 (by decide) ?_
    rw [← hQ]
    have hP9 := hP
    have hD9 := hD
    exact W.zret (v := 1) hx hb hr rfl (fun t ht hW => ⟨⟨1, (), rfl, h, by rw [ht]; exact hP9, va_K.moved hW.alike hK, hD9⟩, hS.F ht⟩) hS.2.2 d_Md_isSignByte_109
  rcases Classical.em ((x0 : Int32) = 44) with e_1_5 | e_1_5
  · have h := h.2.2.2.2.2.1 e_1_5
    refine lv_lookup (off := 107) (tgt := 108) hx hb d_Md_isSignByte_1 (by decide) (by rw [lv_osw e_1_0 (a := 35) (by decide)]; rw [lv_osw e_1_1 (a := 40) (by decide)]; rw [lv_osw e_1_2 (a := 41) (by decide)]; rw [lv_osw e_1_3 (a := 42) (by decide)]; rw [lv_osw e_1_4 (a := 43) (by decide)]; rw [e_1_5]; rfl) (by decide) ?_
    refine lv_iconst (v := 1) hx hb d_Md_isSignByte_108 (by decide) ?_
    rw [← hQ]
    have hP9 := hP
    have hD9 := hD
    exact W.zret (v := 1) hx hb hr rfl (fun t ht hW => ⟨⟨1, (), rfl, h, by rw [ht]; exact hP9, va_K.moved hW.alike hK, hD9⟩, hS.F ht⟩) hS.2.2 d_Md_isSignByte_109
  rcases Classical.em ((x0 : Int32) = 45) with e_1_6 | e_1_6
  · have h := h.2.2.2.2.2.2.1 e_1_6
    refine lv_lookup (off := 107) (tgt := 108) hx hb d_Md_isSignByte_1 (by decide) (by rw [lv_osw e_1_0 (a := 35) (by decide)]; rw [lv_osw e_1_1 (a := 40) (by decide)]; rw [lv_osw e_1_2 (a := 41) (by decide)]; rw [lv_osw e_1_3 (a := 42) (by decide)]; rw [lv_osw e_1_4 (a := 43) (by decide)]; rw [lv_osw e_1_5 (a := 44) (by decide)]; rw [e_1_6]; rfl) (by decide) ?_
    refine lv_iconst (v := 1) hx hb d_Md_isSignByte_108 (by decide) ?_
    rw [← hQ]
    have hP9 := hP
    have hD9 := hD
    exact W.zret (v := 1) hx hb hr rfl (fun t ht hW => ⟨⟨1, (), rfl, h, by rw [ht]; exact hP9, va_K.moved hW.alike hK, hD9⟩, hS.F ht⟩) hS.2.2 d_Md_isSignByte_109
  rcases Classical.em ((x0 : Int32) = 59) with e_1_7 | e_1_7
  · have h := h.2.2.2.2.2.2.2.1 e_1_7
    refine lv_lookup (off := 107) (tgt := 108) hx hb d_Md_isSignByte_1 (by decide) (by rw [lv_osw e_1_0 (a := 35) (by decide)]; rw [lv_osw e_1_1 (a := 40) (by decide)]; rw [lv_osw e_1_2 (a := 41) (by decide)]; rw [lv_osw e_1_3 (a := 42) (by decide)]; rw [lv_osw e_1_4 (a := 43) (by decide)]; rw [lv_osw e_1_5 (a := 44) (by decide)]; rw [lv_osw e_1_6 (a := 45) (by decide)]; rw [e_1_7]; rfl) (by decide) ?_
    refine lv_iconst (v := 1) hx hb d_Md_isSignByte_108 (by decide) ?_
    rw [← hQ]
    have hP9 := hP
    have hD9 := hD
    exact W.zret (v := 1) hx hb hr rfl (fun t ht hW => ⟨⟨1, (), rfl, h, by rw [ht]; exact hP9, va_K.moved hW.alike hK, hD9⟩, hS.F ht⟩) hS.2.2 d_Md_isSignByte_109
  rcases Classical.em ((x0 : Int32) = 60) with e_1_8 | e_1_8
  · have h := h.2.2.2.2.2.2.2.2.1 e_1_8
    refine lv_lookup (off := 107) (tgt := 108) hx hb d_Md_isSignByte_1 (by decide) (by rw [lv_osw e_1_0 (a := 35) (by decide)]; rw [lv_osw e_1_1 (a := 40) (by decide)]; rw [lv_osw e_1_2 (a := 41) (by decide)]; rw [lv_osw e_1_3 (a := 42) (by decide)]; rw [lv_osw e_1_4 (a := 43) (by decide)]; rw [lv_osw e_1_5 (a := 44) (by decide)]; rw [lv_osw e_1_6 (a := 45) (by decide)]; rw [lv_osw e_1_7 (a := 59) (by decide)]; rw [e_1_8]; rfl) (by decide) ?_
    refine lv_iconst (v := 1) hx hb d_Md_isSignByte_108 (by decide) ?_
    rw [← hQ]
    have hP9 := hP
    have hD9 := hD
    exact W.zret (v := 1) hx hb hr rfl (fun t ht hW => ⟨⟨1, (), rfl, h, by rw [ht]; exact hP9, va_K.moved hW.alike hK, hD9⟩, hS.F ht⟩) hS.2.2 d_Md_isSignByte_109
  rcases Classical.em ((x0 : Int32) = 61) with e_1_9 | e_1_9
  · have h := h.2.2.2.2.2.2.2.2.2.1 e_1_9
    refine lv_lookup (off := 107) (tgt := 108) hx hb d_Md_isSignByte_1 (by decide) (by rw [lv_osw e_1_0 (a := 35) (by decide)]; rw [lv_osw e_1_1 (a := 40) (by decide)]; rw [lv_osw e_1_2 (a := 41) (by decide)]; rw [lv_osw e_1_3 (a := 42) (by decide)]; rw [lv_osw e_1_4 (a := 43) (by decide)]; rw [lv_osw e_1_5 (a := 44) (by decide)]; rw [lv_osw e_1_6 (a := 45) (by decide)]; rw [lv_osw e_1_7 (a := 59) (by decide)]; rw [lv_osw e_1_8 (a := 60) (by decide)]; rw [e_1_9]; rfl) (by decide) ?_
    refine lv_iconst (v := 1) hx hb d_Md_isSignByte_108 (by decide) ?_
    rw [← hQ]
    have hP9 := hP
    have hD9 := hD
    exact W.zret (v := 1) hx hb hr rfl (fun t ht hW => ⟨⟨1, (), rfl, h, by rw [ht]; exact hP9, va_K.moved hW.alike hK, hD9⟩, hS.F ht⟩) hS.2.2 d_Md_isSignByte_109
  rcases Classical.em ((x0 : Int32) = 91) with e_1_10 | e_1_10
  · have h := h.2.2.2.2.2.2.2.2.2.2.1 e_1_10
    refine lv_lookup (off := 107) (tgt := 108) hx hb d_Md_isSignByte_1 (by decide) (by rw [lv_osw e_1_0 (a := 35) (by decide)]; rw [lv_osw e_1_1 (a := 40) (by decide)]; rw [lv_osw e_1_2 (a := 41) (by decide)]; rw [lv_osw e_1_3 (a := 42) (by decide)]; rw [lv_osw e_1_4 (a := 43) (by decide)]; rw [lv_osw e_1_5 (a := 44) (by decide)]; rw [lv_osw e_1_6 (a := 45) (by decide)]; rw [lv_osw e_1_7 (a := 59) (by decide)]; rw [lv_osw e_1_8 (a := 60) (by decide)]; rw [lv_osw e_1_9 (a := 61) (by decide)]; rw [e_1_10]; rfl) (by decide) ?_
    refine lv_iconst (v := 1) hx hb d_Md_isSignByte_108 (by decide) ?_
    rw [← hQ]
    have hP9 := hP
    have hD9 := hD
    exact W.zret (v := 1) hx hb hr rfl (fun t ht hW => ⟨⟨1, (), rfl, h, by rw [ht]; exact hP9, va_K.moved hW.alike hK, hD9⟩, hS.F ht⟩) hS.2.2 d_Md_isSignByte_109
  rcases Classical.em ((x0 : Int32) = 93) with e_1_11 | e_1_11
  · have h := h.2.2.2.2.2.2.2.2.2.2.2.1 e_1_11
    refine lv_lookup (off := 107) (tgt := 108) hx hb d_Md_isSignByte_1 (by decide) (by rw [lv_osw e_1_0 (a := 35) (by decide)]; rw [lv_osw e_1_1 (a := 40) (by decide)]; rw [lv_osw e_1_2 (a := 41) (by decide)]; rw [lv_osw e_1_3 (a := 42) (by decide)]; rw [lv_osw e_1_4 (a := 43) (by decide)]; rw [lv_osw e_1_5 (a := 44) (by decide)]; rw [lv_osw e_1_6 (a := 45) (by decide)]; rw [lv_osw e_1_7 (a := 59) (by decide)]; rw [lv_osw e_1_8 (a := 60) (by decide)]; rw [lv_osw e_1_9 (a := 61) (by decide)]; rw [lv_osw e_1_10 (a := 91) (by decide)]; rw [e_1_11]; rfl) (by decide) ?_
    refine lv_iconst (v := 1) hx hb d_Md_isSignByte_108 (by decide) ?_
    rw [← hQ]
    have hP9 := hP
    have hD9 := hD
    exact W.zret (v := 1) hx hb hr rfl (fun t ht hW => ⟨⟨1, (), rfl, h, by rw [ht]; exact hP9, va_K.moved hW.alike hK, hD9⟩, hS.F ht⟩) hS.2.2 d_Md_isSignByte_109
  have h := h.2.2.2.2.2.2.2.2.2.2.2.2 e_1_0 e_1_1 e_1_2 e_1_3 e_1_4 e_1_5 e_1_6 e_1_7 e_1_8 e_1_9 e_1_10 e_1_11
  refine lv_lookup (off := 109) (tgt := 110) hx hb d_Md_isSignByte_1 (by decide) (by rw [lv_osw e_1_0 (a := 35) (by decide)]; rw [lv_osw e_1_1 (a := 40) (by decide)]; rw [lv_osw e_1_2 (a := 41) (by decide)]; rw [lv_osw e_1_3 (a := 42) (by decide)]; rw [lv_osw e_1_4 (a := 43) (by decide)]; rw [lv_osw e_1_5 (a := 44) (by decide)]; rw [lv_osw e_1_6 (a := 45) (by decide)]; rw [lv_osw e_1_7 (a := 59) (by decide)]; rw [lv_osw e_1_8 (a := 60) (by decide)]; rw [lv_osw e_1_9 (a := 61) (by decide)]; rw [lv_osw e_1_10 (a := 91) (by decide)]; rw [lv_osw e_1_11 (a := 93) (by decide)]; rfl) (by decide) ?_
  refine lv_iconst (v := 0) hx hb d_Md_isSignByte_110 (by decide) ?_
  rw [← hQ]
  have hP9 := hP
  have hD9 := hD
  exact W.zret (v := 0) hx hb hr rfl (fun t ht hW => ⟨⟨0, (), rfl, h, by rw [ht]; exact hP9, va_K.moved hW.alike hK, hD9⟩, hS.F ht⟩) hS.2.2 d_Md_isSignByte_111
set_option maxHeartbeats 4000000 in
set_option maxRecDepth 100000 in
theorem c_Md_wordOf (l : Launch) (dC : Nat → ClassId) (dI : Nat → Nat → Nat) (cI cB cZ : ClassId) (adK adV : Nat → Nat) (sz : Nat) (x0 : Int64) (post : Int32 → Prop) (h : wp_Md_wordOf x0 post) : Met l y_Md_wordOf w_Md_wordOf ({ frames := 0, cells := 0, slots := 0, locals := 0 }) (pc_ (dC, dI) [(cI, .int), (cB, .byte), (cZ, .boolean)] [] sz adK adV [.long x0]) (va_Qi (fun (r : Int32) (u : Unit) => post r ) (fun (u : Unit) t => bw_ (dC, dI) [(cI, .int), (cB, .byte), (cZ, .boolean)] (va_A [] sz) [] t) (va_A [] sz)) 0 0 (va_A [] sz) := by
  refine Met.ofW (cc := b_Md_wordOf) (maxL := 2) (ret := (some .int)) (by decide) rfl ?_
  intro p e s m args below meth c s₁ B hml hv
  obtain ⟨rfl, hsz, hP, hK, hD0, hN, hT⟩ := hv
  have hx := B.exec
  have hb := B.bytes
  have hr := B.returns
  have hts := atoms_spec (ws := w_Md_wordOf) B.pre
  have hown : s.vm.findClass "LoopInductionModel" = some m.cls := findClass_of_methodNamed B.named
  have hlocks := B.notSynchronized
  subst hsz
  have hD := hD0.self (sz := s.heap.size)
  generalize hAe : va_A [] s.heap.size = A at hD hT ⊢
  have hA : ∀ q : Nat, s.heap.size ≤ q → A q := fun q h => by rw [← hAe]; exact Or.inr h
  have hS : va_S A s.heap s.heap [] := va_S.rf
  generalize hQ : MQ below _ _ s 0 0 _ = QQ
  have hl := lv_entry ([.long x0]) (n := 2) (Nat.le_of_ble_eq_true rfl)
  rw [lg_entry_eq]
  generalize (lg_sl ([.long x0]) ++ List.replicate (2 - (lg_sl ([.long x0])).length) Slot.unset).toArray = ls at hl ⊢
  have hl : lv_has ls 2 [(0, .long x0)] := hl
  refine lv_lload_n hx hb d_Md_wordOf_0 rfl (lv_at hl 0 rfl) ?_
  refine lv_ldc2 hx hb hown (hts _ (List.mem_cons_of_mem _ m_1242)) d_Md_wordOf_1 ?_
  refine W.lcmp hx hb d_Md_wordOf_4 ?_
  refine lv_if_ne (tgt := 10) hx hb d_Md_wordOf_5 (by decide) (fun c_5 => ?_) (fun c_5 => ?_)
  · have h := And.left h c_5
    refine lv_lload_n hx hb d_Md_wordOf_10 rfl (lv_at hl 0 rfl) ?_
    refine lv_ldc2 hx hb hown (hts _ (List.mem_cons_of_mem _ m_1243)) d_Md_wordOf_11 ?_
    refine W.lcmp hx hb d_Md_wordOf_14 ?_
    refine lv_if_ne (tgt := 20) hx hb d_Md_wordOf_15 (by decide) (fun c_15 => ?_) (fun c_15 => ?_)
    · have h := And.left h c_15
      refine lv_lload_n hx hb d_Md_wordOf_20 rfl (lv_at hl 0 rfl) ?_
      refine lv_ldc2 hx hb hown (hts _ (List.mem_cons_of_mem _ m_1244)) d_Md_wordOf_21 ?_
      refine W.lcmp hx hb d_Md_wordOf_24 ?_
      refine lv_if_ne (tgt := 30) hx hb d_Md_wordOf_25 (by decide) (fun c_25 => ?_) (fun c_25 => ?_)
      · have h := And.left h c_25
        refine lv_lload_n hx hb d_Md_wordOf_30 rfl (lv_at hl 0 rfl) ?_
        refine lv_ldc2 hx hb hown (hts _ (List.mem_cons_of_mem _ m_1245)) d_Md_wordOf_31 ?_
        refine W.lcmp hx hb d_Md_wordOf_34 ?_
        refine lv_if_ne (tgt := 40) hx hb d_Md_wordOf_35 (by decide) (fun c_35 => ?_) (fun c_35 => ?_)
        · have h := And.left h c_35
          refine lv_lload_n hx hb d_Md_wordOf_40 rfl (lv_at hl 0 rfl) ?_
          refine lv_ldc2 hx hb hown (hts _ (List.mem_cons_of_mem _ m_1246)) d_Md_wordOf_41 ?_
          refine W.lcmp hx hb d_Md_wordOf_44 ?_
          refine lv_if_ne (tgt := 50) hx hb d_Md_wordOf_45 (by decide) (fun c_45 => ?_) (fun c_45 => ?_)
          · have h := And.left h c_45
            refine lv_lload_n hx hb d_Md_wordOf_50 rfl (lv_at hl 0 rfl) ?_
            refine lv_ldc2 hx hb hown (hts _ (List.mem_cons_of_mem _ m_1247)) d_Md_wordOf_51 ?_
            refine W.lcmp hx hb d_Md_wordOf_54 ?_
            refine lv_if_ne (tgt := 60) hx hb d_Md_wordOf_55 (by decide) (fun c_55 => ?_) (fun c_55 => ?_)
            · have h := And.left h c_55
              refine lv_lload_n hx hb d_Md_wordOf_60 rfl (lv_at hl 0 rfl) ?_
              refine lv_ldc2 hx hb hown (hts _ (List.mem_cons_of_mem _ m_1248)) d_Md_wordOf_61 ?_
              refine W.lcmp hx hb d_Md_wordOf_64 ?_
              refine lv_if_ne (tgt := 71) hx hb d_Md_wordOf_65 (by decide) (fun c_65 => ?_) (fun c_65 => ?_)
              · have h := And.left h c_65
                refine lv_lload_n hx hb d_Md_wordOf_71 rfl (lv_at hl 0 rfl) ?_
                refine lv_ldc2 hx hb hown (hts _ (List.mem_cons_of_mem _ m_1249)) d_Md_wordOf_72 ?_
                refine W.lcmp hx hb d_Md_wordOf_75 ?_
                refine lv_if_ne (tgt := 82) hx hb d_Md_wordOf_76 (by decide) (fun c_76 => ?_) (fun c_76 => ?_)
                · have h := And.left h c_76
                  refine lv_lload_n hx hb d_Md_wordOf_82 rfl (lv_at hl 0 rfl) ?_
                  refine lv_ldc2 hx hb hown (hts _ (List.mem_cons_of_mem _ m_1250)) d_Md_wordOf_83 ?_
                  refine W.lcmp hx hb d_Md_wordOf_86 ?_
                  refine lv_if_ne (tgt := 93) hx hb d_Md_wordOf_87 (by decide) (fun c_87 => ?_) (fun c_87 => ?_)
                  · have h := And.left h c_87
                    refine lv_lload_n hx hb d_Md_wordOf_93 rfl (lv_at hl 0 rfl) ?_
                    refine lv_ldc2 hx hb hown (hts _ (List.mem_cons_of_mem _ m_1251)) d_Md_wordOf_94 ?_
                    refine W.lcmp hx hb d_Md_wordOf_97 ?_
                    refine lv_if_ne (tgt := 104) hx hb d_Md_wordOf_98 (by decide) (fun c_98 => ?_) (fun c_98 => ?_)
                    · have h := And.left h c_98
                      refine lv_lload_n hx hb d_Md_wordOf_104 rfl (lv_at hl 0 rfl) ?_
                      refine lv_ldc2 hx hb hown (hts _ (List.mem_cons_of_mem _ m_1252)) d_Md_wordOf_105 ?_
                      refine W.lcmp hx hb d_Md_wordOf_108 ?_
                      refine lv_if_ne (tgt := 115) hx hb d_Md_wordOf_109 (by decide) (fun c_109 => ?_) (fun c_109 => ?_)
                      · have h := And.left h c_109
                        refine lv_lload_n hx hb d_Md_wordOf_115 rfl (lv_at hl 0 rfl) ?_
                        refine lv_ldc2 hx hb hown (hts _ (List.mem_cons_of_mem _ m_1253)) d_Md_wordOf_116 ?_
                        refine W.lcmp hx hb d_Md_wordOf_119 ?_
                        refine lv_if_ne (tgt := 126) hx hb d_Md_wordOf_120 (by decide) (fun c_120 => ?_) (fun c_120 => ?_)
                        · have h := And.left h c_120
                          refine lv_iconst (v := (-1)) hx hb d_Md_wordOf_126 (by decide) ?_
                          rw [← hQ]
                          have hP9 := hP
                          have hD9 := hD
                          exact W.iret (v := (-1)) hx hb hr (fun t ht hW => ⟨⟨(-1), (), rfl, h, by rw [ht]; exact hP9, va_K.moved hW.alike hK, hD9⟩, hS.F ht⟩) hS.2.2 d_Md_wordOf_127
                        · have h := And.right h c_120
                          refine lv_bipush (v := 11) hx hb d_Md_wordOf_123 (by decide) ?_
                          rw [← hQ]
                          have hP9 := hP
                          have hD9 := hD
                          exact W.iret (v := 11) hx hb hr (fun t ht hW => ⟨⟨11, (), rfl, h, by rw [ht]; exact hP9, va_K.moved hW.alike hK, hD9⟩, hS.F ht⟩) hS.2.2 d_Md_wordOf_125
                      · have h := And.right h c_109
                        refine lv_bipush (v := 10) hx hb d_Md_wordOf_112 (by decide) ?_
                        rw [← hQ]
                        have hP9 := hP
                        have hD9 := hD
                        exact W.iret (v := 10) hx hb hr (fun t ht hW => ⟨⟨10, (), rfl, h, by rw [ht]; exact hP9, va_K.moved hW.alike hK, hD9⟩, hS.F ht⟩) hS.2.2 d_Md_wordOf_114
                    · have h := And.right h c_98
                      refine lv_bipush (v := 9) hx hb d_Md_wordOf_101 (by decide) ?_
                      rw [← hQ]
                      have hP9 := hP
                      have hD9 := hD
                      exact W.iret (v := 9) hx hb hr (fun t ht hW => ⟨⟨9, (), rfl, h, by rw [ht]; exact hP9, va_K.moved hW.alike hK, hD9⟩, hS.F ht⟩) hS.2.2 d_Md_wordOf_103
                  · have h := And.right h c_87
                    refine lv_bipush (v := 8) hx hb d_Md_wordOf_90 (by decide) ?_
                    rw [← hQ]
                    have hP9 := hP
                    have hD9 := hD
                    exact W.iret (v := 8) hx hb hr (fun t ht hW => ⟨⟨8, (), rfl, h, by rw [ht]; exact hP9, va_K.moved hW.alike hK, hD9⟩, hS.F ht⟩) hS.2.2 d_Md_wordOf_92
                · have h := And.right h c_76
                  refine lv_bipush (v := 7) hx hb d_Md_wordOf_79 (by decide) ?_
                  rw [← hQ]
                  have hP9 := hP
                  have hD9 := hD
                  exact W.iret (v := 7) hx hb hr (fun t ht hW => ⟨⟨7, (), rfl, h, by rw [ht]; exact hP9, va_K.moved hW.alike hK, hD9⟩, hS.F ht⟩) hS.2.2 d_Md_wordOf_81
              · have h := And.right h c_65
                refine lv_bipush (v := 6) hx hb d_Md_wordOf_68 (by decide) ?_
                rw [← hQ]
                have hP9 := hP
                have hD9 := hD
                exact W.iret (v := 6) hx hb hr (fun t ht hW => ⟨⟨6, (), rfl, h, by rw [ht]; exact hP9, va_K.moved hW.alike hK, hD9⟩, hS.F ht⟩) hS.2.2 d_Md_wordOf_70
            · have h := And.right h c_55
              refine lv_iconst (v := 5) hx hb d_Md_wordOf_58 (by decide) ?_
              rw [← hQ]
              have hP9 := hP
              have hD9 := hD
              exact W.iret (v := 5) hx hb hr (fun t ht hW => ⟨⟨5, (), rfl, h, by rw [ht]; exact hP9, va_K.moved hW.alike hK, hD9⟩, hS.F ht⟩) hS.2.2 d_Md_wordOf_59
          · have h := And.right h c_45
            refine lv_iconst (v := 4) hx hb d_Md_wordOf_48 (by decide) ?_
            rw [← hQ]
            have hP9 := hP
            have hD9 := hD
            exact W.iret (v := 4) hx hb hr (fun t ht hW => ⟨⟨4, (), rfl, h, by rw [ht]; exact hP9, va_K.moved hW.alike hK, hD9⟩, hS.F ht⟩) hS.2.2 d_Md_wordOf_49
        · have h := And.right h c_35
          refine lv_iconst (v := 3) hx hb d_Md_wordOf_38 (by decide) ?_
          rw [← hQ]
          have hP9 := hP
          have hD9 := hD
          exact W.iret (v := 3) hx hb hr (fun t ht hW => ⟨⟨3, (), rfl, h, by rw [ht]; exact hP9, va_K.moved hW.alike hK, hD9⟩, hS.F ht⟩) hS.2.2 d_Md_wordOf_39
      · have h := And.right h c_25
        refine lv_iconst (v := 2) hx hb d_Md_wordOf_28 (by decide) ?_
        rw [← hQ]
        have hP9 := hP
        have hD9 := hD
        exact W.iret (v := 2) hx hb hr (fun t ht hW => ⟨⟨2, (), rfl, h, by rw [ht]; exact hP9, va_K.moved hW.alike hK, hD9⟩, hS.F ht⟩) hS.2.2 d_Md_wordOf_29
    · have h := And.right h c_15
      refine lv_iconst (v := 1) hx hb d_Md_wordOf_18 (by decide) ?_
      rw [← hQ]
      have hP9 := hP
      have hD9 := hD
      exact W.iret (v := 1) hx hb hr (fun t ht hW => ⟨⟨1, (), rfl, h, by rw [ht]; exact hP9, va_K.moved hW.alike hK, hD9⟩, hS.F ht⟩) hS.2.2 d_Md_wordOf_19
  · have h := And.right h c_5
    refine lv_iconst (v := 0) hx hb d_Md_wordOf_8 (by decide) ?_
    rw [← hQ]
    have hP9 := hP
    have hD9 := hD
    exact W.iret (v := 0) hx hb hr (fun t ht hW => ⟨⟨0, (), rfl, h, by rw [ht]; exact hP9, va_K.moved hW.alike hK, hD9⟩, hS.F ht⟩) hS.2.2 d_Md_wordOf_9
