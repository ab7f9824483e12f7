abbrev b_Md_byteAt : ByteArray := prog_13_method_2_code
abbrev y_Md_byteAt : MethodName := ⟨"LoopInductionModel", "byteAt", "(I)I"⟩
abbrev w_Md_byteAt : List Cond := .code y_Md_byteAt b_Md_byteAt 2 (some .int) :: allW
theorem pn_Md_byteAt : y_Md_byteAt.cls ≠ "java/lang/invoke/MethodHandle" ∧ y_Md_byteAt.cls ≠ "java/lang/invoke/VarHandle" ∧ (parseMethodDescriptor y_Md_byteAt.desc).map (fun d => d.parameters.length) = some 1 := by decide +kernel
theorem pd_Md_byteAt : y_Md_byteAt.cls = "LoopInductionModel" ∧ y_Md_byteAt.cls ≠ "java/lang/invoke/MethodHandle" ∧ y_Md_byteAt.cls ≠ "java/lang/invoke/VarHandle" ∧ (parseMethodDescriptor y_Md_byteAt.desc).map (fun d => d.parameters.length) = some 1 := by decide +kernel
abbrev b_Md_isSmall : ByteArray := prog_13_method_3_code
abbrev y_Md_isSmall : MethodName := ⟨"LoopInductionModel", "isSmall", "(I)Z"⟩
abbrev w_Md_isSmall : List Cond := .code y_Md_isSmall b_Md_isSmall 1 (some .boolean) :: allW
theorem pn_Md_isSmall : y_Md_isSmall.cls ≠ "java/lang/invoke/MethodHandle" ∧ y_Md_isSmall.cls ≠ "java/lang/invoke/VarHandle" ∧ (parseMethodDescriptor y_Md_isSmall.desc).map (fun d => d.parameters.length) = some 1 := by decide +kernel
theorem pd_Md_isSmall : y_Md_isSmall.cls = "LoopInductionModel" ∧ y_Md_isSmall.cls ≠ "java/lang/invoke/MethodHandle" ∧ y_Md_isSmall.cls ≠ "java/lang/invoke/VarHandle" ∧ (parseMethodDescriptor y_Md_isSmall.desc).map (fun d => d.parameters.length) = some 1 := by decide +kernel
abbrev b_Md_isFigure : ByteArray := prog_13_method_4_code
abbrev y_Md_isFigure : MethodName := ⟨"LoopInductionModel", "isFigure", "(I)Z"⟩
abbrev w_Md_isFigure : List Cond := .code y_Md_isFigure b_Md_isFigure 1 (some .boolean) :: allW
theorem pn_Md_isFigure : y_Md_isFigure.cls ≠ "java/lang/invoke/MethodHandle" ∧ y_Md_isFigure.cls ≠ "java/lang/invoke/VarHandle" ∧ (parseMethodDescriptor y_Md_isFigure.desc).map (fun d => d.parameters.length) = some 1 := by decide +kernel
theorem pd_Md_isFigure : y_Md_isFigure.cls = "LoopInductionModel" ∧ y_Md_isFigure.cls ≠ "java/lang/invoke/MethodHandle" ∧ y_Md_isFigure.cls ≠ "java/lang/invoke/VarHandle" ∧ (parseMethodDescriptor y_Md_isFigure.desc).map (fun d => d.parameters.length) = some 1 := by decide +kernel
abbrev b_Md_isSignByte : ByteArray := prog_13_method_5_code
abbrev y_Md_isSignByte : MethodName := ⟨"LoopInductionModel", "isSignByte", "(I)Z"⟩
abbrev w_Md_isSignByte : List Cond := .code y_Md_isSignByte b_Md_isSignByte 1 (some .boolean) :: allW
theorem pn_Md_isSignByte : y_Md_isSignByte.cls ≠ "java/lang/invoke/MethodHandle" ∧ y_Md_isSignByte.cls ≠ "java/lang/invoke/VarHandle" ∧ (parseMethodDescriptor y_Md_isSignByte.desc).map (fun d => d.parameters.length) = some 1 := by decide +kernel
theorem pd_Md_isSignByte : y_Md_isSignByte.cls = "LoopInductionModel" ∧ y_Md_isSignByte.cls ≠ "java/lang/invoke/MethodHandle" ∧ y_Md_isSignByte.cls ≠ "java/lang/invoke/VarHandle" ∧ (parseMethodDescriptor y_Md_isSignByte.desc).map (fun d => d.parameters.length) = some 1 := by decide +kernel
abbrev b_Md_wordOf : ByteArray := prog_13_method_6_code
abbrev y_Md_wordOf : MethodName := ⟨"LoopInductionModel", "wordOf", "(J)I"⟩
abbrev w_Md_wordOf : List Cond := .code y_Md_wordOf b_Md_wordOf 2 (some .int) :: allW
theorem pn_Md_wordOf : y_Md_wordOf.cls ≠ "java/lang/invoke/MethodHandle" ∧ y_Md_wordOf.cls ≠ "java/lang/invoke/VarHandle" ∧ (parseMethodDescriptor y_Md_wordOf.desc).map (fun d => d.parameters.length) = some 1 := by decide +kernel
theorem pd_Md_wordOf : y_Md_wordOf.cls = "LoopInductionModel" ∧ y_Md_wordOf.cls ≠ "java/lang/invoke/MethodHandle" ∧ y_Md_wordOf.cls ≠ "java/lang/invoke/VarHandle" ∧ (parseMethodDescriptor y_Md_wordOf.desc).map (fun d => d.parameters.length) = some 1 := by decide +kernel
abbrev b_Md_nextToken : ByteArray := prog_13_method_7_code
abbrev y_Md_nextToken : MethodName := ⟨"LoopInductionModel", "nextToken", "()V"⟩
abbrev w_Md_nextToken : List Cond := .code y_Md_nextToken b_Md_nextToken 6 none :: allW
theorem pn_Md_nextToken : y_Md_nextToken.cls ≠ "java/lang/invoke/MethodHandle" ∧ y_Md_nextToken.cls ≠ "java/lang/invoke/VarHandle" ∧ (parseMethodDescriptor y_Md_nextToken.desc).map (fun d => d.parameters.length) = some 0 := by decide +kernel
theorem pd_Md_nextToken : y_Md_nextToken.cls = "LoopInductionModel" ∧ y_Md_nextToken.cls ≠ "java/lang/invoke/MethodHandle" ∧ y_Md_nextToken.cls ≠ "java/lang/invoke/VarHandle" ∧ (parseMethodDescriptor y_Md_nextToken.desc).map (fun d => d.parameters.length) = some 0 := by decide +kernel
abbrev b_Md_misplaced : ByteArray := prog_13_method_8_code
abbrev y_Md_misplaced : MethodName := ⟨"LoopInductionModel", "misplaced", "()V"⟩
abbrev w_Md_misplaced : List Cond := .code y_Md_misplaced b_Md_misplaced 1 none :: allW
theorem pn_Md_misplaced : y_Md_misplaced.cls ≠ "java/lang/invoke/MethodHandle" ∧ y_Md_misplaced.cls ≠ "java/lang/invoke/VarHandle" ∧ (parseMethodDescriptor y_Md_misplaced.desc).map (fun d => d.parameters.length) = some 0 := by decide +kernel
theorem pd_Md_misplaced : y_Md_misplaced.cls = "LoopInductionModel" ∧ y_Md_misplaced.cls ≠ "java/lang/invoke/MethodHandle" ∧ y_Md_misplaced.cls ≠ "java/lang/invoke/VarHandle" ∧ (parseMethodDescriptor y_Md_misplaced.desc).map (fun d => d.parameters.length) = some 0 := by decide +kernel
abbrev b_Md_isSign : ByteArray := prog_13_method_9_code
abbrev y_Md_isSign : MethodName := ⟨"LoopInductionModel", "isSign", "(I)Z"⟩
abbrev w_Md_isSign : List Cond := .code y_Md_isSign b_Md_isSign 2 (some .boolean) :: allW
theorem pn_Md_isSign : y_Md_isSign.cls ≠ "java/lang/invoke/MethodHandle" ∧ y_Md_isSign.cls ≠ "java/lang/invoke/VarHandle" ∧ (parseMethodDescriptor y_Md_isSign.desc).map (fun d => d.parameters.length) = some 1 := by decide +kernel
theorem pd_Md_isSign : y_Md_isSign.cls = "LoopInductionModel" ∧ y_Md_isSign.cls ≠ "java/lang/invoke/MethodHandle" ∧ y_Md_isSign.cls ≠ "java/lang/invoke/VarHandle" ∧ (parseMethodDescriptor y_Md_isSign.desc).map (fun d => d.parameters.length) = some 1 := by decide +kernel
abbrev b_Md_isWord : ByteArray := prog_13_method_10_code
abbrev y_Md_isWord : MethodName := ⟨"LoopInductionModel", "isWord", "(I)Z"⟩
abbrev w_Md_isWord : List Cond := .code y_Md_isWord b_Md_isWord 2 (some .boolean) :: allW
theorem pn_Md_isWord : y_Md_isWord.cls ≠ "java/lang/invoke/MethodHandle" ∧ y_Md_isWord.cls ≠ "java/lang/invoke/VarHandle" ∧ (parseMethodDescriptor y_Md_isWord.desc).map (fun d => d.parameters.length) = some 1 := by decide +kernel
theorem pd_Md_isWord : y_Md_isWord.cls = "LoopInductionModel" ∧ y_Md_isWord.cls ≠ "java/lang/invoke/MethodHandle" ∧ y_Md_isWord.cls ≠ "java/lang/invoke/VarHandle" ∧ (parseMethodDescriptor y_Md_isWord.desc).map (fun d => d.parameters.length) = some 1 := by decide +kernel
abbrev b_Md_take : ByteArray := prog_13_method_11_code
abbrev y_Md_take : MethodName := ⟨"LoopInductionModel", "take", "(I)V"⟩
abbrev w_Md_take : List Cond := .code y_Md_take b_Md_take 2 none :: allW
theorem pn_Md_take : y_Md_take.cls ≠ "java/lang/invoke/MethodHandle" ∧ y_Md_take.cls ≠ "java/lang/invoke/VarHandle" ∧ (parseMethodDescriptor y_Md_take.desc).map (fun d => d.parameters.length) = some 1 := by decide +kernel
theorem pd_Md_take : y_Md_take.cls = "LoopInductionModel" ∧ y_Md_take.cls ≠ "java/lang/invoke/MethodHandle" ∧ y_Md_take.cls ≠ "java/lang/invoke/VarHandle" ∧ (parseMethodDescriptor y_Md_take.desc).map (fun d => d.parameters.length) = some 1 := by decide +kernel
abbrev b_Md_takeWord : ByteArray := prog_13_method_12_code
abbrev y_Md_takeWord : MethodName := ⟨"LoopInductionModel", "takeWord", "(I)V"⟩
abbrev w_Md_takeWord : List Cond := .code y_Md_takeWord b_Md_takeWord 2 none :: allW
theorem pn_Md_takeWord : y_Md_takeWord.cls ≠ "java/lang/invoke/MethodHandle" ∧ y_Md_takeWord.cls ≠ "java/lang/invoke/VarHandle" ∧ (parseMethodDescriptor y_Md_takeWord.desc).map (fun d => d.parameters.length) = some 1 := by decide +kernel
theorem pd_Md_takeWord : y_Md_takeWord.cls = "LoopInductionModel" ∧ y_Md_takeWord.cls ≠ "java/lang/invoke/MethodHandle" ∧ y_Md_takeWord.cls ≠ "java/lang/invoke/VarHandle" ∧ (parseMethodDescriptor y_Md_takeWord.desc).map (fun d => d.parameters.length) = some 1 := by decide +kernel
abbrev b_Md_act : ByteArray := prog_13_method_13_code
abbrev y_Md_act : MethodName := ⟨"LoopInductionModel", "act", "(II)V"⟩
abbrev w_Md_act : List Cond := .code y_Md_act b_Md_act 4 none :: allW
theorem pn_Md_act : y_Md_act.cls ≠ "java/lang/invoke/MethodHandle" ∧ y_Md_act.cls ≠ "java/lang/invoke/VarHandle" ∧ (parseMethodDescriptor y_Md_act.desc).map (fun d => d.parameters.length) = some 2 := by decide +kernel
theorem pd_Md_act : y_Md_act.cls = "LoopInductionModel" ∧ y_Md_act.cls ≠ "java/lang/invoke/MethodHandle" ∧ y_Md_act.cls ≠ "java/lang/invoke/VarHandle" ∧ (parseMethodDescriptor y_Md_act.desc).map (fun d => d.parameters.length) = some 2 := by decide +kernel
abbrev b_Md_push : ByteArray := prog_13_method_14_code
abbrev y_Md_push : MethodName := ⟨"LoopInductionModel", "push", "(I)V"⟩
abbrev w_Md_push : List Cond := .code y_Md_push b_Md_push 2 none :: allW
theorem pn_Md_push : y_Md_push.cls ≠ "java/lang/invoke/MethodHandle" ∧ y_Md_push.cls ≠ "java/lang/invoke/VarHandle" ∧ (parseMethodDescriptor y_Md_push.desc).map (fun d => d.parameters.length) = some 1 := by decide +kernel
theorem pd_Md_push : y_Md_push.cls = "LoopInductionModel" ∧ y_Md_push.cls ≠ "java/lang/invoke/MethodHandle" ∧ y_Md_push.cls ≠ "java/lang/invoke/VarHandle" ∧ (parseMethodDescriptor y_Md_push.desc).map (fun d => d.parameters.length) = some 1 := by decide +kernel
abbrev b_Md_strengthOf : ByteArray := prog_13_method_15_code
abbrev y_Md_strengthOf : MethodName := ⟨"LoopInductionModel", "strengthOf", "(I)I"⟩
abbrev w_Md_strengthOf : List Cond := .code y_Md_strengthOf b_Md_strengthOf 1 (some .int) :: allW
theorem pn_Md_strengthOf : y_Md_strengthOf.cls ≠ "java/lang/invoke/MethodHandle" ∧ y_Md_strengthOf.cls ≠ "java/lang/invoke/VarHandle" ∧ (parseMethodDescriptor y_Md_strengthOf.desc).map (fun d => d.parameters.length) = some 1 := by decide +kernel
theorem pd_Md_strengthOf : y_Md_strengthOf.cls = "LoopInductionModel" ∧ y_Md_strengthOf.cls ≠ "java/lang/invoke/MethodHandle" ∧ y_Md_strengthOf.cls ≠ "java/lang/invoke/VarHandle" ∧ (parseMethodDescriptor y_Md_strengthOf.desc).map (fun d => d.parameters.length) = some 1 := by decide +kernel
abbrev b_Md_negatives : ByteArray := prog_13_method_16_code
abbrev y_Md_negatives : MethodName := ⟨"LoopInductionModel", "negatives", "(I)V"⟩
abbrev w_Md_negatives : List Cond := .code y_Md_negatives b_Md_negatives 2 none :: allW
theorem pn_Md_negatives : y_Md_negatives.cls ≠ "java/lang/invoke/MethodHandle" ∧ y_Md_negatives.cls ≠ "java/lang/invoke/VarHandle" ∧ (parseMethodDescriptor y_Md_negatives.desc).map (fun d => d.parameters.length) = some 1 := by decide +kernel
theorem pd_Md_negatives : y_Md_negatives.cls = "LoopInductionModel" ∧ y_Md_negatives.cls ≠ "java/lang/invoke/MethodHandle" ∧ y_Md_negatives.cls ≠ "java/lang/invoke/VarHandle" ∧ (parseMethodDescriptor y_Md_negatives.desc).map (fun d => d.parameters.length) = some 1 := by decide +kernel
abbrev b_Md_isOpened : ByteArray := prog_13_method_17_code
abbrev y_Md_isOpened : MethodName := ⟨"LoopInductionModel", "isOpened", "()Z"⟩
abbrev w_Md_isOpened : List Cond := .code y_Md_isOpened b_Md_isOpened 1 (some .boolean) :: allW
theorem pn_Md_isOpened : y_Md_isOpened.cls ≠ "java/lang/invoke/MethodHandle" ∧ y_Md_isOpened.cls ≠ "java/lang/invoke/VarHandle" ∧ (parseMethodDescriptor y_Md_isOpened.desc).map (fun d => d.parameters.length) = some 0 := by decide +kernel
theorem pd_Md_isOpened : y_Md_isOpened.cls = "LoopInductionModel" ∧ y_Md_isOpened.cls ≠ "java/lang/invoke/MethodHandle" ∧ y_Md_isOpened.cls ≠ "java/lang/invoke/VarHandle" ∧ (parseMethodDescriptor y_Md_isOpened.desc).map (fun d => d.parameters.length) = some 0 := by decide +kernel
abbrev b_Md_reduceLevel : ByteArray := prog_13_method_19_code
abbrev y_Md_reduceLevel : MethodName := ⟨"LoopInductionModel", "reduceLevel", "(II)V"⟩
abbrev w_Md_reduceLevel : List Cond := .code y_Md_reduceLevel b_Md_reduceLevel 3 none :: allW
theorem pn_Md_reduceLevel : y_Md_reduceLevel.cls ≠ "java/lang/invoke/MethodHandle" ∧ y_Md_reduceLevel.cls ≠ "java/lang/invoke/VarHandle" ∧ (parseMethodDescriptor y_Md_reduceLevel.desc).map (fun d => d.parameters.length) = some 2 := by decide +kernel
theorem pd_Md_reduceLevel : y_Md_reduceLevel.cls = "LoopInductionModel" ∧ y_Md_reduceLevel.cls ≠ "java/lang/invoke/MethodHandle" ∧ y_Md_reduceLevel.cls ≠ "java/lang/invoke/VarHandle" ∧ (parseMethodDescriptor y_Md_reduceLevel.desc).map (fun d => d.parameters.length) = some 2 := by decide +kernel
abbrev b_Md_reduceTo : ByteArray := prog_13_method_20_code
abbrev y_Md_reduceTo : MethodName := ⟨"LoopInductionModel", "reduceTo", "(I)V"⟩
abbrev w_Md_reduceTo : List Cond := .code y_Md_reduceTo b_Md_reduceTo 2 none :: allW
theorem pn_Md_reduceTo : y_Md_reduceTo.cls ≠ "java/lang/invoke/MethodHandle" ∧ y_Md_reduceTo.cls ≠ "java/lang/invoke/VarHandle" ∧ (parseMethodDescriptor y_Md_reduceTo.desc).map (fun d => d.parameters.length) = some 1 := by decide +kernel
theorem pd_Md_reduceTo : y_Md_reduceTo.cls = "LoopInductionModel" ∧ y_Md_reduceTo.cls ≠ "java/lang/invoke/MethodHandle" ∧ y_Md_reduceTo.cls ≠ "java/lang/invoke/VarHandle" ∧ (parseMethodDescriptor y_Md_reduceTo.desc).map (fun d => d.parameters.length) = some 1 := by decide +kernel
theorem d_Md_byteAt_0 : decode b_Md_byteAt 0 = .ok (.iload_n 1, 1) := by decide +kernel
theorem d_Md_byteAt_1 : decode b_Md_byteAt 1 = .ok (.aload_n 0, 1) := by decide +kernel
theorem d_Md_byteAt_2 : decode b_Md_byteAt 2 = .ok (.getfield 94, 3) := by decide +kernel
theorem d_Md_byteAt_5 : decode b_Md_byteAt 5 = .ok (.if_icmp .ge 16, 3) := by decide +kernel
theorem d_Md_byteAt_8 : decode b_Md_byteAt 8 = .ok (.aload_n 0, 1) := by decide +kernel
theorem d_Md_byteAt_9 : decode b_Md_byteAt 9 = .ok (.getfield 7, 3) := by decide +kernel
theorem d_Md_byteAt_12 : decode b_Md_byteAt 12 = .ok (.iload_n 1, 1) := by decide +kernel
theorem d_Md_byteAt_13 : decode b_Md_byteAt 13 = .ok (.baload, 1) := by decide +kernel
theorem d_Md_byteAt_14 : decode b_Md_byteAt 14 = .ok (.sipush 255, 3) := by decide +kernel
theorem d_Md_byteAt_17 : decode b_Md_byteAt 17 = .ok (.iand, 1) := by decide +kernel
theorem d_Md_byteAt_18 : decode b_Md_byteAt 18 = .ok (.goto 4, 3) := by decide +kernel
theorem d_Md_byteAt_21 : decode b_Md_byteAt 21 = .ok (.iconst (-1), 1) := by decide +kernel
theorem d_Md_byteAt_22 : decode b_Md_byteAt 22 = .ok (.ireturn, 1) := by decide +kernel
theorem d_Md_isSmall_0 : decode b_Md_isSmall 0 = .ok (.iload_n 0, 1) := by decide +kernel
theorem d_Md_isSmall_1 : decode b_Md_isSmall 1 = .ok (.bipush 97, 2) := by decide +kernel
theorem d_Md_isSmall_3 : decode b_Md_isSmall 3 = .ok (.if_icmp .lt 13, 3) := by decide +kernel
theorem d_Md_isSmall_6 : decode b_Md_isSmall 6 = .ok (.iload_n 0, 1) := by decide +kernel
theorem d_Md_isSmall_7 : decode b_Md_isSmall 7 = .ok (.bipush 122, 2) := by decide +kernel
theorem d_Md_isSmall_9 : decode b_Md_isSmall 9 = .ok (.if_icmp .gt 7, 3) := by decide +kernel
theorem d_Md_isSmall_12 : decode b_Md_isSmall 12 = .ok (.iconst 1, 1) := by decide +kernel
theorem d_Md_isSmall_13 : decode b_Md_isSmall 13 = .ok (.goto 4, 3) := by decide +kernel
theorem d_Md_isSmall_16 : decode b_Md_isSmall 16 = .ok (.iconst 0, 1) := by decide +kernel
theorem d_Md_isSmall_17 : decode b_Md_isSmall 17 = .ok (.ireturn, 1) := by decide +kernel
theorem d_Md_isFigure_0 : decode b_Md_isFigure 0 = .ok (.iload_n 0, 1) := by decide +kernel
theorem d_Md_isFigure_1 : decode b_Md_isFigure 1 = .ok (.bipush 48, 2) := by decide +kernel
theorem d_Md_isFigure_3 : decode b_Md_isFigure 3 = .ok (.if_icmp .lt 13, 3) := by decide +kernel
theorem d_Md_isFigure_6 : decode b_Md_isFigure 6 = .ok (.iload_n 0, 1) := by decide +kernel
theorem d_Md_isFigure_7 : decode b_Md_isFigure 7 = .ok (.bipush 57, 2) := by decide +kernel
theorem d_Md_isFigure_9 : decode b_Md_isFigure 9 = .ok (.if_icmp .gt 7, 3) := by decide +kernel
theorem d_Md_isFigure_12 : decode b_Md_isFigure 12 = .ok (.iconst 1, 1) := by decide +kernel
theorem d_Md_isFigure_13 : decode b_Md_isFigure 13 = .ok (.goto 4, 3) := by decide +kernel
theorem d_Md_isFigure_16 : decode b_Md_isFigure 16 = .ok (.iconst 0, 1) := by decide +kernel
theorem d_Md_isFigure_17 : decode b_Md_isFigure 17 = .ok (.ireturn, 1) := by decide +kernel
theorem d_Md_isSignByte_0 : decode b_Md_isSignByte 0 = .ok (.iload_n 0, 1) := by decide +kernel
theorem d_Md_isSignByte_1 : decode b_Md_isSignByte 1 = .ok (.lookupswitch 109 #[(35, 107), (40, 107), (41, 107), (42, 107), (43, 107), (44, 107), (45, 107), (59, 107), (60, 107), (61, 107), (91, 107), (93, 107)], 107) := by decide +kernel
theorem d_Md_isSignByte_108 : decode b_Md_isSignByte 108 = .ok (.iconst 1, 1) := by decide +kernel
theorem d_Md_isSignByte_109 : decode b_Md_isSignByte 109 = .ok (.ireturn, 1) := by decide +kernel
theorem d_Md_isSignByte_110 : decode b_Md_isSignByte 110 = .ok (.iconst 0, 1) := by decide +kernel
theorem d_Md_isSignByte_111 : decode b_Md_isSignByte 111 = .ok (.ireturn, 1) := by decide +kernel
theorem d_Md_wordOf_0 : decode b_Md_wordOf 0 = .ok (.lload_n 0, 1) := by decide +kernel
theorem d_Md_wordOf_1 : decode b_Md_wordOf 1 = .ok (.ldc2_w 97, 3) := by decide +kernel
theorem d_Md_wordOf_4 : decode b_Md_wordOf 4 = .ok (.lcmp, 1) := by decide +kernel
theorem d_Md_wordOf_5 : decode b_Md_wordOf 5 = .ok (.ifCond .ne 5, 3) := by decide +kernel
theorem d_Md_wordOf_8 : decode b_Md_wordOf 8 = .ok (.iconst 0, 1) := by decide +kernel
theorem d_Md_wordOf_9 : decode b_Md_wordOf 9 = .ok (.ireturn, 1) := by decide +kernel
theorem d_Md_wordOf_10 : decode b_Md_wordOf 10 = .ok (.lload_n 0, 1) := by decide +kernel
theorem d_Md_wordOf_11 : decode b_Md_wordOf 11 = .ok (.ldc2_w 99, 3) := by decide +kernel
theorem d_Md_wordOf_14 : decode b_Md_wordOf 14 = .ok (.lcmp, 1) := by decide +kernel
theorem d_Md_wordOf_15 : decode b_Md_wordOf 15 = .ok (.ifCond .ne 5, 3) := by decide +kernel
theorem d_Md_wordOf_18 : decode b_Md_wordOf 18 = .ok (.iconst 1, 1) := by decide +kernel
theorem d_Md_wordOf_19 : decode b_Md_wordOf 19 = .ok (.ireturn, 1) := by decide +kernel
theorem d_Md_wordOf_20 : decode b_Md_wordOf 20 = .ok (.lload_n 0, 1) := by decide +kernel
theorem d_Md_wordOf_21 : decode b_Md_wordOf 21 = .ok (.ldc2_w 101, 3) := by decide +kernel
theorem d_Md_wordOf_24 : decode b_Md_wordOf 24 = .ok (.lcmp, 1) := by decide +kernel
theorem d_Md_wordOf_25 : decode b_Md_wordOf 25 = .ok (.ifCond .ne 5, 3) := by decide +kernel
theorem d_Md_wordOf_28 : decode b_Md_wordOf 28 = .ok (.iconst 2, 1) := by decide +kernel
theorem d_Md_wordOf_29 : decode b_Md_wordOf 29 = .ok (.ireturn, 1) := by decide +kernel
theorem d_Md_wordOf_30 : decode b_Md_wordOf 30 = .ok (.lload_n 0, 1) := by decide +kernel
theorem d_Md_wordOf_31 : decode b_Md_wordOf 31 = .ok (.ldc2_w 103, 3) := by decide +kernel
theorem d_Md_wordOf_34 : decode b_Md_wordOf 34 = .ok (.lcmp, 1) := by decide +kernel
theorem d_Md_wordOf_35 : decode b_Md_wordOf 35 = .ok (.ifCond .ne 5, 3) := by decide +kernel
theorem d_Md_wordOf_38 : decode b_Md_wordOf 38 = .ok (.iconst 3, 1) := by decide +kernel
theorem d_Md_wordOf_39 : decode b_Md_wordOf 39 = .ok (.ireturn, 1) := by decide +kernel
theorem d_Md_wordOf_40 : decode b_Md_wordOf 40 = .ok (.lload_n 0, 1) := by decide +kernel
theorem d_Md_wordOf_41 : decode b_Md_wordOf 41 = .ok (.ldc2_w 105, 3) := by decide +kernel
theorem d_Md_wordOf_44 : decode b_Md_wordOf 44 = .ok (.lcmp, 1) := by decide +kernel
theorem d_Md_wordOf_45 : decode b_Md_wordOf 45 = .ok (.ifCond .ne 5, 3) := by decide +kernel
theorem d_Md_wordOf_48 : decode b_Md_wordOf 48 = .ok (.iconst 4, 1) := by decide +kernel
theorem d_Md_wordOf_49 : decode b_Md_wordOf 49 = .ok (.ireturn, 1) := by decide +kernel
theorem d_Md_wordOf_50 : decode b_Md_wordOf 50 = .ok (.lload_n 0, 1) := by decide +kernel
theorem d_Md_wordOf_51 : decode b_Md_wordOf 51 = .ok (.ldc2_w 107, 3) := by decide +kernel
theorem d_Md_wordOf_54 : decode b_Md_wordOf 54 = .ok (.lcmp, 1) := by decide +kernel
theorem d_Md_wordOf_55 : decode b_Md_wordOf 55 = .ok (.ifCond .ne 5, 3) := by decide +kernel
theorem d_Md_wordOf_58 : decode b_Md_wordOf 58 = .ok (.iconst 5, 1) := by decide +kernel
theorem d_Md_wordOf_59 : decode b_Md_wordOf 59 = .ok (.ireturn, 1) := by decide +kernel
theorem d_Md_wordOf_60 : decode b_Md_wordOf 60 = .ok (.lload_n 0, 1) := by decide +kernel
theorem d_Md_wordOf_61 : decode b_Md_wordOf 61 = .ok (.ldc2_w 109, 3) := by decide +kernel
theorem d_Md_wordOf_64 : decode b_Md_wordOf 64 = .ok (.lcmp, 1) := by decide +kernel
theorem d_Md_wordOf_65 : decode b_Md_wordOf 65 = .ok (.ifCond .ne 6, 3) := by decide +kernel
theorem d_Md_wordOf_68 : decode b_Md_wordOf 68 = .ok (.bipush 6, 2) := by decide +kernel
theorem d_Md_wordOf_70 : decode b_Md_wordOf 70 = .ok (.ireturn, 1) := by decide +kernel
theorem d_Md_wordOf_71 : decode b_Md_wordOf 71 = .ok (.lload_n 0, 1) := by decide +kernel
theorem d_Md_wordOf_72 : decode b_Md_wordOf 72 = .ok (.ldc2_w 111, 3) := by decide +kernel
theorem d_Md_wordOf_75 : decode b_Md_wordOf 75 = .ok (.lcmp, 1) := by decide +kernel
theorem d_Md_wordOf_76 : decode b_Md_wordOf 76 = .ok (.ifCond .ne 6, 3) := by decide +kernel
theorem d_Md_wordOf_79 : decode b_Md_wordOf 79 = .ok (.bipush 7, 2) := by decide +kernel
theorem d_Md_wordOf_81 : decode b_Md_wordOf 81 = .ok (.ireturn, 1) := by decide +kernel
theorem d_Md_wordOf_82 : decode b_Md_wordOf 82 = .ok (.lload_n 0, 1) := by decide +kernel
theorem d_Md_wordOf_83 : decode b_Md_wordOf 83 = .ok (.ldc2_w 113, 3) := by decide +kernel
theorem d_Md_wordOf_86 : decode b_Md_wordOf 86 = .ok (.lcmp, 1) := by decide +kernel
theorem d_Md_wordOf_87 : decode b_Md_wordOf 87 = .ok (.ifCond .ne 6, 3) := by decide +kernel
theorem d_Md_wordOf_90 : decode b_Md_wordOf 90 = .ok (.bipush 8, 2) := by decide +kernel
theorem d_Md_wordOf_92 : decode b_Md_wordOf 92 = .ok (.ireturn, 1) := by decide +kernel
theorem d_Md_wordOf_93 : decode b_Md_wordOf 93 = .ok (.lload_n 0, 1) := by decide +kernel
theorem d_Md_wordOf_94 : decode b_Md_wordOf 94 = .ok (.ldc2_w 115, 3) := by decide +kernel
theorem d_Md_wordOf_97 : decode b_Md_wordOf 97 = .ok (.lcmp, 1) := by decide +kernel
theorem d_Md_wordOf_98 : decode b_Md_wordOf 98 = .ok (.ifCond .ne 6, 3) := by decide +kernel
theorem d_Md_wordOf_101 : decode b_Md_wordOf 101 = .ok (.bipush 9, 2) := by decide +kernel
theorem d_Md_wordOf_103 : decode b_Md_wordOf 103 = .ok (.ireturn, 1) := by decide +kernel
theorem d_Md_wordOf_104 : decode b_Md_wordOf 104 = .ok (.lload_n 0, 1) := by decide +kernel
theorem d_Md_wordOf_105 : decode b_Md_wordOf 105 = .ok (.ldc2_w 117, 3) := by decide +kernel
theorem d_Md_wordOf_108 : decode b_Md_wordOf 108 = .ok (.lcmp, 1) := by decide +kernel
theorem d_Md_wordOf_109 : decode b_Md_wordOf 109 = .ok (.ifCond .ne 6, 3) := by decide +kernel
theorem d_Md_wordOf_112 : decode b_Md_wordOf 112 = .ok (.bipush 10, 2) := by decide +kernel
theorem d_Md_wordOf_114 : decode b_Md_wordOf 114 = .ok (.ireturn, 1) := by decide +kernel
theorem d_Md_wordOf_115 : decode b_Md_wordOf 115 = .ok (.lload_n 0, 1) := by decide +kernel
theorem d_Md_wordOf_116 : decode b_Md_wordOf 116 = .ok (.ldc2_w 119, 3) := by decide +kernel
theorem d_Md_wordOf_119 : decode b_Md_wordOf 119 = .ok (.lcmp, 1) := by decide +kernel
theorem d_Md_wordOf_120 : decode b_Md_wordOf 120 = .ok (.ifCond .ne 6, 3) := by decide +kernel
theorem d_Md_wordOf_123 : decode b_Md_wordOf 123 = .ok (.bipush 11, 2) := by decide +kernel
theorem d_Md_wordOf_125 : decode b_Md_wordOf 125 = .ok (.ireturn, 1) := by decide +kernel
theorem d_Md_wordOf_126 : decode b_Md_wordOf 126 = .ok (.iconst (-1), 1) := by decide +kernel
theorem d_Md_wordOf_127 : decode b_Md_wordOf 127 = .ok (.ireturn, 1) := by decide +kernel
theorem d_Md_nextToken_0 : decode b_Md_nextToken 0 = .ok (.aload_n 0, 1) := by decide +kernel
theorem d_Md_nextToken_1 : decode b_Md_nextToken 1 = .ok (.aload_n 0, 1) := by decide +kernel
theorem d_Md_nextToken_2 : decode b_Md_nextToken 2 = .ok (.getfield 121, 3) := by decide +kernel
theorem d_Md_nextToken_5 : decode b_Md_nextToken 5 = .ok (.invokevirtual 124, 3) := by decide +kernel
theorem d_Md_nextToken_8 : decode b_Md_nextToken 8 = .ok (.bipush 32, 2) := by decide +kernel
theorem d_Md_nextToken_10 : decode b_Md_nextToken 10 = .ok (.if_icmp .eq 16, 3) := by decide +kernel
theorem d_Md_nextToken_13 : decode b_Md_nextToken 13 = .ok (.aload_n 0, 1) := by decide +kernel
theorem d_Md_nextToken_14 : decode b_Md_nextToken 14 = .ok (.aload_n 0, 1) := by decide +kernel
theorem d_Md_nextToken_15 : decode b_Md_nextToken 15 = .ok (.getfield 121, 3) := by decide +kernel
theorem d_Md_nextToken_18 : decode b_Md_nextToken 18 = .ok (.invokevirtual 124, 3) := by decide +kernel
theorem d_Md_nextToken_21 : decode b_Md_nextToken 21 = .ok (.bipush 10, 2) := by decide +kernel
theorem d_Md_nextToken_23 : decode b_Md_nextToken 23 = .ok (.if_icmp .ne 16, 3) := by decide +kernel
theorem d_Md_nextToken_26 : decode b_Md_nextToken 26 = .ok (.aload_n 0, 1) := by decide +kernel
theorem d_Md_nextToken_27 : decode b_Md_nextToken 27 = .ok (.dup, 1) := by decide +kernel
theorem d_Md_nextToken_28 : decode b_Md_nextToken 28 = .ok (.getfield 121, 3) := by decide +kernel
theorem d_Md_nextToken_31 : decode b_Md_nextToken 31 = .ok (.iconst 1, 1) := by decide +kernel
theorem d_Md_nextToken_32 : decode b_Md_nextToken 32 = .ok (.iadd, 1) := by decide +kernel
theorem d_Md_nextToken_33 : decode b_Md_nextToken 33 = .ok (.putfield 121, 3) := by decide +kernel
theorem d_Md_nextToken_36 : decode b_Md_nextToken 36 = .ok (.goto (-36), 3) := by decide +kernel
theorem d_Md_nextToken_39 : decode b_Md_nextToken 39 = .ok (.aload_n 0, 1) := by decide +kernel
theorem d_Md_nextToken_40 : decode b_Md_nextToken 40 = .ok (.aload_n 0, 1) := by decide +kernel
theorem d_Md_nextToken_41 : decode b_Md_nextToken 41 = .ok (.getfield 121, 3) := by decide +kernel
theorem d_Md_nextToken_44 : decode b_Md_nextToken 44 = .ok (.putfield 128, 3) := by decide +kernel
theorem d_Md_nextToken_47 : decode b_Md_nextToken 47 = .ok (.aload_n 0, 1) := by decide +kernel
theorem d_Md_nextToken_48 : decode b_Md_nextToken 48 = .ok (.aload_n 0, 1) := by decide +kernel
theorem d_Md_nextToken_49 : decode b_Md_nextToken 49 = .ok (.getfield 121, 3) := by decide +kernel
theorem d_Md_nextToken_52 : decode b_Md_nextToken 52 = .ok (.invokevirtual 124, 3) := by decide +kernel
theorem d_Md_nextToken_55 : decode b_Md_nextToken 55 = .ok (.istore_n 1, 1) := by decide +kernel
theorem d_Md_nextToken_56 : decode b_Md_nextToken 56 = .ok (.iload_n 1, 1) := by decide +kernel
theorem d_Md_nextToken_57 : decode b_Md_nextToken 57 = .ok (.ifCond .ge 11, 3) := by decide +kernel
theorem d_Md_nextToken_60 : decode b_Md_nextToken 60 = .ok (.aload_n 0, 1) := by decide +kernel
theorem d_Md_nextToken_61 : decode b_Md_nextToken 61 = .ok (.iconst 0, 1) := by decide +kernel
theorem d_Md_nextToken_62 : decode b_Md_nextToken 62 = .ok (.putfield 131, 3) := by decide +kernel
theorem d_Md_nextToken_65 : decode b_Md_nextToken 65 = .ok (.goto 247, 3) := by decide +kernel
theorem d_Md_nextToken_68 : decode b_Md_nextToken 68 = .ok (.iload_n 1, 1) := by decide +kernel
theorem d_Md_nextToken_69 : decode b_Md_nextToken 69 = .ok (.invokestatic 134, 3) := by decide +kernel
theorem d_Md_nextToken_72 : decode b_Md_nextToken 72 = .ok (.ifCond .eq 99, 3) := by decide +kernel
theorem d_Md_nextToken_75 : decode b_Md_nextToken 75 = .ok (.iconst 0, 1) := by decide +kernel
theorem d_Md_nextToken_76 : decode b_Md_nextToken 76 = .ok (.istore_n 2, 1) := by decide +kernel
theorem d_Md_nextToken_77 : decode b_Md_nextToken 77 = .ok (.lconst 0, 1) := by decide +kernel
theorem d_Md_nextToken_78 : decode b_Md_nextToken 78 = .ok (.lstore_n 3, 1) := by decide +kernel
theorem d_Md_nextToken_79 : decode b_Md_nextToken 79 = .ok (.aload_n 0, 1) := by decide +kernel
theorem d_Md_nextToken_80 : decode b_Md_nextToken 80 = .ok (.aload_n 0, 1) := by decide +kernel
theorem d_Md_nextToken_81 : decode b_Md_nextToken 81 = .ok (.getfield 121, 3) := by decide +kernel
theorem d_Md_nextToken_84 : decode b_Md_nextToken 84 = .ok (.invokevirtual 124, 3) := by decide +kernel
theorem d_Md_nextToken_87 : decode b_Md_nextToken 87 = .ok (.invokestatic 134, 3) := by decide +kernel
theorem d_Md_nextToken_90 : decode b_Md_nextToken 90 = .ok (.ifCond .eq 44, 3) := by decide +kernel
theorem d_Md_nextToken_93 : decode b_Md_nextToken 93 = .ok (.iload_n 2, 1) := by decide +kernel
theorem d_Md_nextToken_94 : decode b_Md_nextToken 94 = .ok (.bipush 7, 2) := by decide +kernel
theorem d_Md_nextToken_96 : decode b_Md_nextToken 96 = .ok (.if_icmp .ge 20, 3) := by decide +kernel
theorem d_Md_nextToken_99 : decode b_Md_nextToken 99 = .ok (.lload_n 3, 1) := by decide +kernel
theorem d_Md_nextToken_100 : decode b_Md_nextToken 100 = .ok (.bipush 8, 2) := by decide +kernel
theorem d_Md_nextToken_102 : decode b_Md_nextToken 102 = .ok (.lshl, 1) := by decide +kernel
theorem d_Md_nextToken_103 : decode b_Md_nextToken 103 = .ok (.aload_n 0, 1) := by decide +kernel
theorem d_Md_nextToken_104 : decode b_Md_nextToken 104 = .ok (.aload_n 0, 1) := by decide +kernel
theorem d_Md_nextToken_105 : decode b_Md_nextToken 105 = .ok (.getfield 121, 3) := by decide +kernel
theorem d_Md_nextToken_108 : decode b_Md_nextToken 108 = .ok (.invokevirtual 124, 3) := by decide +kernel
theorem d_Md_nextToken_111 : decode b_Md_nextToken 111 = .ok (.i2l, 1) := by decide +kernel
theorem d_Md_nextToken_112 : decode b_Md_nextToken 112 = .ok (.lor, 1) := by decide +kernel
theorem d_Md_nextToken_113 : decode b_Md_nextToken 113 = .ok (.goto 4, 3) := by decide +kernel
theorem d_Md_nextToken_116 : decode b_Md_nextToken 116 = .ok (.lload_n 3, 1) := by decide +kernel
theorem d_Md_nextToken_117 : decode b_Md_nextToken 117 = .ok (.lstore_n 3, 1) := by decide +kernel
theorem d_Md_nextToken_118 : decode b_Md_nextToken 118 = .ok (.iinc 2 1, 3) := by decide +kernel
theorem d_Md_nextToken_121 : decode b_Md_nextToken 121 = .ok (.aload_n 0, 1) := by decide +kernel
theorem d_Md_nextToken_122 : decode b_Md_nextToken 122 = .ok (.dup, 1) := by decide +kernel
theorem d_Md_nextToken_123 : decode b_Md_nextToken 123 = .ok (.getfield 121, 3) := by decide +kernel
theorem d_Md_nextToken_126 : decode b_Md_nextToken 126 = .ok (.iconst 1, 1) := by decide +kernel
theorem d_Md_nextToken_127 : decode b_Md_nextToken 127 = .ok (.iadd, 1) := by decide +kernel
theorem d_Md_nextToken_128 : decode b_Md_nextToken 128 = .ok (.putfield 121, 3) := by decide +kernel
theorem d_Md_nextToken_131 : decode b_Md_nextToken 131 = .ok (.goto (-52), 3) := by decide +kernel
theorem d_Md_nextToken_134 : decode b_Md_nextToken 134 = .ok (.iload_n 2, 1) := by decide +kernel
theorem d_Md_nextToken_135 : decode b_Md_nextToken 135 = .ok (.bipush 7, 2) := by decide +kernel
theorem d_Md_nextToken_137 : decode b_Md_nextToken 137 = .ok (.if_icmp .ge 10, 3) := by decide +kernel
theorem d_Md_nextToken_140 : decode b_Md_nextToken 140 = .ok (.lload_n 3, 1) := by decide +kernel
theorem d_Md_nextToken_141 : decode b_Md_nextToken 141 = .ok (.invokestatic 138, 3) := by decide +kernel
theorem d_Md_nextToken_144 : decode b_Md_nextToken 144 = .ok (.goto 4, 3) := by decide +kernel
theorem d_Md_nextToken_147 : decode b_Md_nextToken 147 = .ok (.iconst (-1), 1) := by decide +kernel
theorem d_Md_nextToken_148 : decode b_Md_nextToken 148 = .ok (.istore 5, 2) := by decide +kernel
theorem d_Md_nextToken_150 : decode b_Md_nextToken 150 = .ok (.aload_n 0, 1) := by decide +kernel
theorem d_Md_nextToken_151 : decode b_Md_nextToken 151 = .ok (.iload 5, 2) := by decide +kernel
theorem d_Md_nextToken_153 : decode b_Md_nextToken 153 = .ok (.ifCond .ge 7, 3) := by decide +kernel
theorem d_Md_nextToken_156 : decode b_Md_nextToken 156 = .ok (.iconst 1, 1) := by decide +kernel
theorem d_Md_nextToken_157 : decode b_Md_nextToken 157 = .ok (.goto 8, 3) := by decide +kernel
theorem d_Md_nextToken_160 : decode b_Md_nextToken 160 = .ok (.bipush 10, 2) := by decide +kernel
theorem d_Md_nextToken_162 : decode b_Md_nextToken 162 = .ok (.iload 5, 2) := by decide +kernel
theorem d_Md_nextToken_164 : decode b_Md_nextToken 164 = .ok (.iadd, 1) := by decide +kernel
theorem d_Md_nextToken_165 : decode b_Md_nextToken 165 = .ok (.putfield 131, 3) := by decide +kernel
theorem d_Md_nextToken_168 : decode b_Md_nextToken 168 = .ok (.goto 144, 3) := by decide +kernel
theorem d_Md_nextToken_171 : decode b_Md_nextToken 171 = .ok (.iload_n 1, 1) := by decide +kernel
theorem d_Md_nextToken_172 : decode b_Md_nextToken 172 = .ok (.invokestatic 142, 3) := by decide +kernel
theorem d_Md_nextToken_175 : decode b_Md_nextToken 175 = .ok (.ifCond .eq 106, 3) := by decide +kernel
theorem d_Md_nextToken_178 : decode b_Md_nextToken 178 = .ok (.iconst 0, 1) := by decide +kernel
theorem d_Md_nextToken_179 : decode b_Md_nextToken 179 = .ok (.istore_n 2, 1) := by decide +kernel
theorem d_Md_nextToken_180 : decode b_Md_nextToken 180 = .ok (.aload_n 0, 1) := by decide +kernel
theorem d_Md_nextToken_181 : decode b_Md_nextToken 181 = .ok (.iconst 0, 1) := by decide +kernel
theorem d_Md_nextToken_182 : decode b_Md_nextToken 182 = .ok (.putfield 145, 3) := by decide +kernel
theorem d_Md_nextToken_185 : decode b_Md_nextToken 185 = .ok (.aload_n 0, 1) := by decide +kernel
theorem d_Md_nextToken_186 : decode b_Md_nextToken 186 = .ok (.aload_n 0, 1) := by decide +kernel
theorem d_Md_nextToken_187 : decode b_Md_nextToken 187 = .ok (.getfield 121, 3) := by decide +kernel
theorem d_Md_nextToken_190 : decode b_Md_nextToken 190 = .ok (.invokevirtual 124, 3) := by decide +kernel
theorem d_Md_nextToken_193 : decode b_Md_nextToken 193 = .ok (.invokestatic 142, 3) := by decide +kernel
theorem d_Md_nextToken_196 : decode b_Md_nextToken 196 = .ok (.ifCond .eq 53, 3) := by decide +kernel
theorem d_Md_nextToken_199 : decode b_Md_nextToken 199 = .ok (.aload_n 0, 1) := by decide +kernel
theorem d_Md_nextToken_200 : decode b_Md_nextToken 200 = .ok (.iload_n 2, 1) := by decide +kernel
theorem d_Md_nextToken_201 : decode b_Md_nextToken 201 = .ok (.iconst 4, 1) := by decide +kernel
theorem d_Md_nextToken_202 : decode b_Md_nextToken 202 = .ok (.if_icmp .ge 25, 3) := by decide +kernel
theorem d_Md_nextToken_205 : decode b_Md_nextToken 205 = .ok (.bipush 10, 2) := by decide +kernel
theorem d_Md_nextToken_207 : decode b_Md_nextToken 207 = .ok (.aload_n 0, 1) := by decide +kernel
theorem d_Md_nextToken_208 : decode b_Md_nextToken 208 = .ok (.getfield 145, 3) := by decide +kernel
theorem d_Md_nextToken_211 : decode b_Md_nextToken 211 = .ok (.imul, 1) := by decide +kernel
theorem d_Md_nextToken_212 : decode b_Md_nextToken 212 = .ok (.aload_n 0, 1) := by decide +kernel
theorem d_Md_nextToken_213 : decode b_Md_nextToken 213 = .ok (.aload_n 0, 1) := by decide +kernel
theorem d_Md_nextToken_214 : decode b_Md_nextToken 214 = .ok (.getfield 121, 3) := by decide +kernel
theorem d_Md_nextToken_217 : decode b_Md_nextToken 217 = .ok (.invokevirtual 124, 3) := by decide +kernel
theorem d_Md_nextToken_220 : decode b_Md_nextToken 220 = .ok (.iadd, 1) := by decide +kernel
theorem d_Md_nextToken_221 : decode b_Md_nextToken 221 = .ok (.bipush 48, 2) := by decide +kernel
theorem d_Md_nextToken_223 : decode b_Md_nextToken 223 = .ok (.isub, 1) := by decide +kernel
theorem d_Md_nextToken_224 : decode b_Md_nextToken 224 = .ok (.goto 6, 3) := by decide +kernel
theorem d_Md_nextToken_227 : decode b_Md_nextToken 227 = .ok (.sipush 9999, 3) := by decide +kernel
theorem d_Md_nextToken_230 : decode b_Md_nextToken 230 = .ok (.putfield 145, 3) := by decide +kernel
theorem d_Md_nextToken_233 : decode b_Md_nextToken 233 = .ok (.iinc 2 1, 3) := by decide +kernel
theorem d_Md_nextToken_236 : decode b_Md_nextToken 236 = .ok (.aload_n 0, 1) := by decide +kernel
theorem d_Md_nextToken_237 : decode b_Md_nextToken 237 = .ok (.dup, 1) := by decide +kernel
theorem d_Md_nextToken_238 : decode b_Md_nextToken 238 = .ok (.getfield 121, 3) := by decide +kernel
theorem d_Md_nextToken_241 : decode b_Md_nextToken 241 = .ok (.iconst 1, 1) := by decide +kernel
theorem d_Md_nextToken_242 : decode b_Md_nextToken 242 = .ok (.iadd, 1) := by decide +kernel
theorem d_Md_nextToken_243 : decode b_Md_nextToken 243 = .ok (.putfield 121, 3) := by decide +kernel
theorem d_Md_nextToken_246 : decode b_Md_nextToken 246 = .ok (.goto (-61), 3) := by decide +kernel
theorem d_Md_nextToken_249 : decode b_Md_nextToken 249 = .ok (.aload_n 0, 1) := by decide +kernel
theorem d_Md_nextToken_250 : decode b_Md_nextToken 250 = .ok (.aload_n 0, 1) := by decide +kernel
theorem d_Md_nextToken_251 : decode b_Md_nextToken 251 = .ok (.getfield 145, 3) := by decide +kernel
theorem d_Md_nextToken_254 : decode b_Md_nextToken 254 = .ok (.bipush 15, 2) := by decide +kernel
theorem d_Md_nextToken_256 : decode b_Md_nextToken 256 = .ok (.if_icmp .gt 14, 3) := by decide +kernel
theorem d_Md_nextToken_259 : decode b_Md_nextToken 259 = .ok (.iload_n 2, 1) := by decide +kernel
theorem d_Md_nextToken_260 : decode b_Md_nextToken 260 = .ok (.iconst 1, 1) := by decide +kernel
theorem d_Md_nextToken_261 : decode b_Md_nextToken 261 = .ok (.if_icmp .le 13, 3) := by decide +kernel
theorem d_Md_nextToken_264 : decode b_Md_nextToken 264 = .ok (.iload_n 1, 1) := by decide +kernel
theorem d_Md_nextToken_265 : decode b_Md_nextToken 265 = .ok (.bipush 48, 2) := by decide +kernel
theorem d_Md_nextToken_267 : decode b_Md_nextToken 267 = .ok (.if_icmp .ne 7, 3) := by decide +kernel
theorem d_Md_nextToken_270 : decode b_Md_nextToken 270 = .ok (.iconst 1, 1) := by decide +kernel
theorem d_Md_nextToken_271 : decode b_Md_nextToken 271 = .ok (.goto 4, 3) := by decide +kernel
theorem d_Md_nextToken_274 : decode b_Md_nextToken 274 = .ok (.iconst 2, 1) := by decide +kernel
theorem d_Md_nextToken_275 : decode b_Md_nextToken 275 = .ok (.putfield 131, 3) := by decide +kernel
theorem d_Md_nextToken_278 : decode b_Md_nextToken 278 = .ok (.goto 34, 3) := by decide +kernel
theorem d_Md_nextToken_281 : decode b_Md_nextToken 281 = .ok (.aload_n 0, 1) := by decide +kernel
theorem d_Md_nextToken_282 : decode b_Md_nextToken 282 = .ok (.iload_n 1, 1) := by decide +kernel
theorem d_Md_nextToken_283 : decode b_Md_nextToken 283 = .ok (.putfield 148, 3) := by decide +kernel
theorem d_Md_nextToken_286 : decode b_Md_nextToken 286 = .ok (.aload_n 0, 1) := by decide +kernel
theorem d_Md_nextToken_287 : decode b_Md_nextToken 287 = .ok (.iload_n 1, 1) := by decide +kernel
theorem d_Md_nextToken_288 : decode b_Md_nextToken 288 = .ok (.invokestatic 151, 3) := by decide +kernel
theorem d_Md_nextToken_291 : decode b_Md_nextToken 291 = .ok (.ifCond .eq 7, 3) := by decide +kernel
theorem d_Md_nextToken_294 : decode b_Md_nextToken 294 = .ok (.iconst 3, 1) := by decide +kernel
theorem d_Md_nextToken_295 : decode b_Md_nextToken 295 = .ok (.goto 4, 3) := by decide +kernel
theorem d_Md_nextToken_298 : decode b_Md_nextToken 298 = .ok (.iconst 1, 1) := by decide +kernel
theorem d_Md_nextToken_299 : decode b_Md_nextToken 299 = .ok (.putfield 131, 3) := by decide +kernel
theorem d_Md_nextToken_302 : decode b_Md_nextToken 302 = .ok (.aload_n 0, 1) := by decide +kernel
theorem d_Md_nextToken_303 : decode b_Md_nextToken 303 = .ok (.dup, 1) := by decide +kernel
theorem d_Md_nextToken_304 : decode b_Md_nextToken 304 = .ok (.getfield 121, 3) := by decide +kernel
theorem d_Md_nextToken_307 : decode b_Md_nextToken 307 = .ok (.iconst 1, 1) := by decide +kernel
theorem d_Md_nextToken_308 : decode b_Md_nextToken 308 = .ok (.iadd, 1) := by decide +kernel
theorem d_Md_nextToken_309 : decode b_Md_nextToken 309 = .ok (.putfield 121, 3) := by decide +kernel
theorem d_Md_nextToken_312 : decode b_Md_nextToken 312 = .ok (.return_, 1) := by decide +kernel
theorem d_Md_misplaced_0 : decode b_Md_misplaced 0 = .ok (.aload_n 0, 1) := by decide +kernel
theorem d_Md_misplaced_1 : decode b_Md_misplaced 1 = .ok (.getfield 154, 3) := by decide +kernel
theorem d_Md_misplaced_4 : decode b_Md_misplaced 4 = .ok (.ifCond .ne 16, 3) := by decide +kernel
theorem d_Md_misplaced_7 : decode b_Md_misplaced 7 = .ok (.aload_n 0, 1) := by decide +kernel
theorem d_Md_misplaced_8 : decode b_Md_misplaced 8 = .ok (.iconst 1, 1) := by decide +kernel
theorem d_Md_misplaced_9 : decode b_Md_misplaced 9 = .ok (.putfield 154, 3) := by decide +kernel
theorem d_Md_misplaced_12 : decode b_Md_misplaced 12 = .ok (.aload_n 0, 1) := by decide +kernel
theorem d_Md_misplaced_13 : decode b_Md_misplaced 13 = .ok (.aload_n 0, 1) := by decide +kernel
theorem d_Md_misplaced_14 : decode b_Md_misplaced 14 = .ok (.getfield 128, 3) := by decide +kernel
theorem d_Md_misplaced_17 : decode b_Md_misplaced 17 = .ok (.putfield 158, 3) := by decide +kernel
theorem d_Md_misplaced_20 : decode b_Md_misplaced 20 = .ok (.return_, 1) := by decide +kernel
theorem d_Md_isSign_0 : decode b_Md_isSign 0 = .ok (.aload_n 0, 1) := by decide +kernel
theorem d_Md_isSign_1 : decode b_Md_isSign 1 = .ok (.getfield 131, 3) := by decide +kernel
theorem d_Md_isSign_4 : decode b_Md_isSign 4 = .ok (.iconst 3, 1) := by decide +kernel
theorem d_Md_isSign_5 : decode b_Md_isSign 5 = .ok (.if_icmp .ne 15, 3) := by decide +kernel
theorem d_Md_isSign_8 : decode b_Md_isSign 8 = .ok (.aload_n 0, 1) := by decide +kernel
theorem d_Md_isSign_9 : decode b_Md_isSign 9 = .ok (.getfield 148, 3) := by decide +kernel
theorem d_Md_isSign_12 : decode b_Md_isSign 12 = .ok (.iload_n 1, 1) := by decide +kernel
theorem d_Md_isSign_13 : decode b_Md_isSign 13 = .ok (.if_icmp .ne 7, 3) := by decide +kernel
theorem d_Md_isSign_16 : decode b_Md_isSign 16 = .ok (.iconst 1, 1) := by decide +kernel
theorem d_Md_isSign_17 : decode b_Md_isSign 17 = .ok (.goto 4, 3) := by decide +kernel
theorem d_Md_isSign_20 : decode b_Md_isSign 20 = .ok (.iconst 0, 1) := by decide +kernel
theorem d_Md_isSign_21 : decode b_Md_isSign 21 = .ok (.ireturn, 1) := by decide +kernel
theorem d_Md_isWord_0 : decode b_Md_isWord 0 = .ok (.aload_n 0, 1) := by decide +kernel
theorem d_Md_isWord_1 : decode b_Md_isWord 1 = .ok (.getfield 131, 3) := by decide +kernel
theorem d_Md_isWord_4 : decode b_Md_isWord 4 = .ok (.bipush 10, 2) := by decide +kernel
theorem d_Md_isWord_6 : decode b_Md_isWord 6 = .ok (.iload_n 1, 1) := by decide +kernel
theorem d_Md_isWord_7 : decode b_Md_isWord 7 = .ok (.iadd, 1) := by decide +kernel
theorem d_Md_isWord_8 : decode b_Md_isWord 8 = .ok (.if_icmp .ne 7, 3) := by decide +kernel
theorem d_Md_isWord_11 : decode b_Md_isWord 11 = .ok (.iconst 1, 1) := by decide +kernel
theorem d_Md_isWord_12 : decode b_Md_isWord 12 = .ok (.goto 4, 3) := by decide +kernel
theorem d_Md_isWord_15 : decode b_Md_isWord 15 = .ok (.iconst 0, 1) := by decide +kernel
theorem d_Md_isWord_16 : decode b_Md_isWord 16 = .ok (.ireturn, 1) := by decide +kernel
theorem d_Md_take_0 : decode b_Md_take 0 = .ok (.aload_n 0, 1) := by decide +kernel
theorem d_Md_take_1 : decode b_Md_take 1 = .ok (.iload_n 1, 1) := by decide +kernel
theorem d_Md_take_2 : decode b_Md_take 2 = .ok (.invokevirtual 161, 3) := by decide +kernel
theorem d_Md_take_5 : decode b_Md_take 5 = .ok (.ifCond .ne 7, 3) := by decide +kernel
theorem d_Md_take_8 : decode b_Md_take 8 = .ok (.aload_n 0, 1) := by decide +kernel
theorem d_Md_take_9 : decode b_Md_take 9 = .ok (.invokevirtual 164, 3) := by decide +kernel
theorem d_Md_take_12 : decode b_Md_take 12 = .ok (.aload_n 0, 1) := by decide +kernel
theorem d_Md_take_13 : decode b_Md_take 13 = .ok (.getfield 154, 3) := by decide +kernel
theorem d_Md_take_16 : decode b_Md_take 16 = .ok (.ifCond .ne 7, 3) := by decide +kernel
theorem d_Md_take_19 : decode b_Md_take 19 = .ok (.aload_n 0, 1) := by decide +kernel
theorem d_Md_take_20 : decode b_Md_take 20 = .ok (.invokevirtual 167, 3) := by decide +kernel
theorem d_Md_take_23 : decode b_Md_take 23 = .ok (.return_, 1) := by decide +kernel
theorem d_Md_takeWord_0 : decode b_Md_takeWord 0 = .ok (.aload_n 0, 1) := by decide +kernel
theorem d_Md_takeWord_1 : decode b_Md_takeWord 1 = .ok (.iload_n 1, 1) := by decide +kernel
theorem d_Md_takeWord_2 : decode b_Md_takeWord 2 = .ok (.invokevirtual 170, 3) := by decide +kernel
theorem d_Md_takeWord_5 : decode b_Md_takeWord 5 = .ok (.ifCond .ne 7, 3) := by decide +kernel
theorem d_Md_takeWord_8 : decode b_Md_takeWord 8 = .ok (.aload_n 0, 1) := by decide +kernel
theorem d_Md_takeWord_9 : decode b_Md_takeWord 9 = .ok (.invokevirtual 164, 3) := by decide +kernel
theorem d_Md_takeWord_12 : decode b_Md_takeWord 12 = .ok (.aload_n 0, 1) := by decide +kernel
theorem d_Md_takeWord_13 : decode b_Md_takeWord 13 = .ok (.getfield 154, 3) := by decide +kernel
theorem d_Md_takeWord_16 : decode b_Md_takeWord 16 = .ok (.ifCond .ne 7, 3) := by decide +kernel
theorem d_Md_takeWord_19 : decode b_Md_takeWord 19 = .ok (.aload_n 0, 1) := by decide +kernel
theorem d_Md_takeWord_20 : decode b_Md_takeWord 20 = .ok (.invokevirtual 167, 3) := by decide +kernel
theorem d_Md_takeWord_23 : decode b_Md_takeWord 23 = .ok (.return_, 1) := by decide +kernel
theorem d_Md_act_0 : decode b_Md_act 0 = .ok (.sipush 1000, 3) := by decide +kernel
theorem d_Md_act_3 : decode b_Md_act 3 = .ok (.aload_n 0, 1) := by decide +kernel
theorem d_Md_act_4 : decode b_Md_act 4 = .ok (.getfield 173, 3) := by decide +kernel
theorem d_Md_act_7 : decode b_Md_act 7 = .ok (.imul, 1) := by decide +kernel
theorem d_Md_act_8 : decode b_Md_act 8 = .ok (.aload_n 0, 1) := by decide +kernel
theorem d_Md_act_9 : decode b_Md_act 9 = .ok (.getfield 24, 3) := by decide +kernel
theorem d_Md_act_12 : decode b_Md_act 12 = .ok (.aload_n 0, 1) := by decide +kernel
theorem d_Md_act_13 : decode b_Md_act 13 = .ok (.getfield 173, 3) := by decide +kernel
theorem d_Md_act_16 : decode b_Md_act 16 = .ok (.iaload, 1) := by decide +kernel
theorem d_Md_act_17 : decode b_Md_act 17 = .ok (.iadd, 1) := by decide +kernel
theorem d_Md_act_18 : decode b_Md_act 18 = .ok (.istore_n 3, 1) := by decide +kernel
theorem d_Md_act_19 : decode b_Md_act 19 = .ok (.aload_n 0, 1) := by decide +kernel
theorem d_Md_act_20 : decode b_Md_act 20 = .ok (.getfield 24, 3) := by decide +kernel
theorem d_Md_act_23 : decode b_Md_act 23 = .ok (.aload_n 0, 1) := by decide +kernel
theorem d_Md_act_24 : decode b_Md_act 24 = .ok (.getfield 173, 3) := by decide +kernel
theorem d_Md_act_27 : decode b_Md_act 27 = .ok (.dup2, 1) := by decide +kernel
theorem d_Md_act_28 : decode b_Md_act 28 = .ok (.iaload, 1) := by decide +kernel
theorem d_Md_act_29 : decode b_Md_act 29 = .ok (.iconst 1, 1) := by decide +kernel
theorem d_Md_act_30 : decode b_Md_act 30 = .ok (.iadd, 1) := by decide +kernel
theorem d_Md_act_31 : decode b_Md_act 31 = .ok (.iastore, 1) := by decide +kernel
theorem d_Md_act_32 : decode b_Md_act 32 = .ok (.aload_n 0, 1) := by decide +kernel
theorem d_Md_act_33 : decode b_Md_act 33 = .ok (.getfield 17, 3) := by decide +kernel
theorem d_Md_act_36 : decode b_Md_act 36 = .ok (.iload_n 3, 1) := by decide +kernel
theorem d_Md_act_37 : decode b_Md_act 37 = .ok (.iload_n 1, 1) := by decide +kernel
theorem d_Md_act_38 : decode b_Md_act 38 = .ok (.iastore, 1) := by decide +kernel
theorem d_Md_act_39 : decode b_Md_act 39 = .ok (.aload_n 0, 1) := by decide +kernel
theorem d_Md_act_40 : decode b_Md_act 40 = .ok (.getfield 21, 3) := by decide +kernel
theorem d_Md_act_43 : decode b_Md_act 43 = .ok (.iload_n 3, 1) := by decide +kernel
theorem d_Md_act_44 : decode b_Md_act 44 = .ok (.iload_n 2, 1) := by decide +kernel
theorem d_Md_act_45 : decode b_Md_act 45 = .ok (.iastore, 1) := by decide +kernel
theorem d_Md_act_46 : decode b_Md_act 46 = .ok (.return_, 1) := by decide +kernel
theorem d_Md_push_0 : decode b_Md_push 0 = .ok (.aload_n 0, 1) := by decide +kernel
theorem d_Md_push_1 : decode b_Md_push 1 = .ok (.getfield 27, 3) := by decide +kernel
theorem d_Md_push_4 : decode b_Md_push 4 = .ok (.aload_n 0, 1) := by decide +kernel
theorem d_Md_push_5 : decode b_Md_push 5 = .ok (.getfield 176, 3) := by decide +kernel
theorem d_Md_push_8 : decode b_Md_push 8 = .ok (.iload_n 1, 1) := by decide +kernel
theorem d_Md_push_9 : decode b_Md_push 9 = .ok (.iastore, 1) := by decide +kernel
theorem d_Md_push_10 : decode b_Md_push 10 = .ok (.aload_n 0, 1) := by decide +kernel
theorem d_Md_push_11 : decode b_Md_push 11 = .ok (.dup, 1) := by decide +kernel
theorem d_Md_push_12 : decode b_Md_push 12 = .ok (.getfield 176, 3) := by decide +kernel
theorem d_Md_push_15 : decode b_Md_push 15 = .ok (.iconst 1, 1) := by decide +kernel
theorem d_Md_push_16 : decode b_Md_push 16 = .ok (.iadd, 1) := by decide +kernel
theorem d_Md_push_17 : decode b_Md_push 17 = .ok (.putfield 176, 3) := by decide +kernel
theorem d_Md_push_20 : decode b_Md_push 20 = .ok (.return_, 1) := by decide +kernel
theorem d_Md_strengthOf_0 : decode b_Md_strengthOf 0 = .ok (.iload_n 0, 1) := by decide +kernel
theorem d_Md_strengthOf_1 : decode b_Md_strengthOf 1 = .ok (.bipush 42, 2) := by decide +kernel
theorem d_Md_strengthOf_3 : decode b_Md_strengthOf 3 = .ok (.if_icmp .ne 7, 3) := by decide +kernel
theorem d_Md_strengthOf_6 : decode b_Md_strengthOf 6 = .ok (.iconst 2, 1) := by decide +kernel
theorem d_Md_strengthOf_7 : decode b_Md_strengthOf 7 = .ok (.goto 20, 3) := by decide +kernel
theorem d_Md_strengthOf_10 : decode b_Md_strengthOf 10 = .ok (.iload_n 0, 1) := by decide +kernel
theorem d_Md_strengthOf_11 : decode b_Md_strengthOf 11 = .ok (.bipush 43, 2) := by decide +kernel
theorem d_Md_strengthOf_13 : decode b_Md_strengthOf 13 = .ok (.if_icmp .eq 9, 3) := by decide +kernel
theorem d_Md_strengthOf_16 : decode b_Md_strengthOf 16 = .ok (.iload_n 0, 1) := by decide +kernel
theorem d_Md_strengthOf_17 : decode b_Md_strengthOf 17 = .ok (.bipush 45, 2) := by decide +kernel
theorem d_Md_strengthOf_19 : decode b_Md_strengthOf 19 = .ok (.if_icmp .ne 7, 3) := by decide +kernel
theorem d_Md_strengthOf_22 : decode b_Md_strengthOf 22 = .ok (.iconst 1, 1) := by decide +kernel
theorem d_Md_strengthOf_23 : decode b_Md_strengthOf 23 = .ok (.goto 4, 3) := by decide +kernel
theorem d_Md_strengthOf_26 : decode b_Md_strengthOf 26 = .ok (.iconst 0, 1) := by decide +kernel
theorem d_Md_strengthOf_27 : decode b_Md_strengthOf 27 = .ok (.ireturn, 1) := by decide +kernel
theorem d_Md_negatives_0 : decode b_Md_negatives 0 = .ok (.aload_n 0, 1) := by decide +kernel
theorem d_Md_negatives_1 : decode b_Md_negatives 1 = .ok (.getfield 176, 3) := by decide +kernel
theorem d_Md_negatives_4 : decode b_Md_negatives 4 = .ok (.iload_n 1, 1) := by decide +kernel
theorem d_Md_negatives_5 : decode b_Md_negatives 5 = .ok (.if_icmp .le 49, 3) := by decide +kernel
theorem d_Md_negatives_8 : decode b_Md_negatives 8 = .ok (.aload_n 0, 1) := by decide +kernel
theorem d_Md_negatives_9 : decode b_Md_negatives 9 = .ok (.getfield 27, 3) := by decide +kernel
theorem d_Md_negatives_12 : decode b_Md_negatives 12 = .ok (.aload_n 0, 1) := by decide +kernel
theorem d_Md_negatives_13 : decode b_Md_negatives 13 = .ok (.getfield 176, 3) := by decide +kernel
theorem d_Md_negatives_16 : decode b_Md_negatives 16 = .ok (.iconst 1, 1) := by decide +kernel
theorem d_Md_negatives_17 : decode b_Md_negatives 17 = .ok (.isub, 1) := by decide +kernel
theorem d_Md_negatives_18 : decode b_Md_negatives 18 = .ok (.iaload, 1) := by decide +kernel
theorem d_Md_negatives_19 : decode b_Md_negatives 19 = .ok (.sipush 1000, 3) := by decide +kernel
theorem d_Md_negatives_22 : decode b_Md_negatives 22 = .ok (.if_icmp .ne 32, 3) := by decide +kernel
theorem d_Md_negatives_25 : decode b_Md_negatives 25 = .ok (.aload_n 0, 1) := by decide +kernel
theorem d_Md_negatives_26 : decode b_Md_negatives 26 = .ok (.dup, 1) := by decide +kernel
theorem d_Md_negatives_27 : decode b_Md_negatives 27 = .ok (.getfield 176, 3) := by decide +kernel
theorem d_Md_negatives_30 : decode b_Md_negatives 30 = .ok (.iconst 1, 1) := by decide +kernel
theorem d_Md_negatives_31 : decode b_Md_negatives 31 = .ok (.isub, 1) := by decide +kernel
theorem d_Md_negatives_32 : decode b_Md_negatives 32 = .ok (.putfield 176, 3) := by decide +kernel
theorem d_Md_negatives_35 : decode b_Md_negatives 35 = .ok (.aload_n 0, 1) := by decide +kernel
theorem d_Md_negatives_36 : decode b_Md_negatives 36 = .ok (.dup, 1) := by decide +kernel
theorem d_Md_negatives_37 : decode b_Md_negatives 37 = .ok (.getfield 179, 3) := by decide +kernel
theorem d_Md_negatives_40 : decode b_Md_negatives 40 = .ok (.iconst 1, 1) := by decide +kernel
theorem d_Md_negatives_41 : decode b_Md_negatives 41 = .ok (.isub, 1) := by decide +kernel
theorem d_Md_negatives_42 : decode b_Md_negatives 42 = .ok (.putfield 179, 3) := by decide +kernel
theorem d_Md_negatives_45 : decode b_Md_negatives 45 = .ok (.aload_n 0, 1) := by decide +kernel
theorem d_Md_negatives_46 : decode b_Md_negatives 46 = .ok (.iconst 3, 1) := by decide +kernel
theorem d_Md_negatives_47 : decode b_Md_negatives 47 = .ok (.iconst 0, 1) := by decide +kernel
theorem d_Md_negatives_48 : decode b_Md_negatives 48 = .ok (.invokevirtual 182, 3) := by decide +kernel
theorem d_Md_negatives_51 : decode b_Md_negatives 51 = .ok (.goto (-51), 3) := by decide +kernel
theorem d_Md_negatives_54 : decode b_Md_negatives 54 = .ok (.return_, 1) := by decide +kernel
theorem d_Md_isOpened_0 : decode b_Md_isOpened 0 = .ok (.aload_n 0, 1) := by decide +kernel
theorem d_Md_isOpened_1 : decode b_Md_isOpened 1 = .ok (.getfield 179, 3) := by decide +kernel
theorem d_Md_isOpened_4 : decode b_Md_isOpened 4 = .ok (.bipush 8, 2) := by decide +kernel
theorem d_Md_isOpened_6 : decode b_Md_isOpened 6 = .ok (.if_icmp .ne 9, 3) := by decide +kernel
theorem d_Md_isOpened_9 : decode b_Md_isOpened 9 = .ok (.aload_n 0, 1) := by decide +kernel
theorem d_Md_isOpened_10 : decode b_Md_isOpened 10 = .ok (.invokevirtual 164, 3) := by decide +kernel
theorem d_Md_isOpened_13 : decode b_Md_isOpened 13 = .ok (.iconst 0, 1) := by decide +kernel
theorem d_Md_isOpened_14 : decode b_Md_isOpened 14 = .ok (.ireturn, 1) := by decide +kernel
theorem d_Md_isOpened_15 : decode b_Md_isOpened 15 = .ok (.aload_n 0, 1) := by decide +kernel
theorem d_Md_isOpened_16 : decode b_Md_isOpened 16 = .ok (.dup, 1) := by decide +kernel
theorem d_Md_isOpened_17 : decode b_Md_isOpened 17 = .ok (.getfield 179, 3) := by decide +kernel
theorem d_Md_isOpened_20 : decode b_Md_isOpened 20 = .ok (.iconst 1, 1) := by decide +kernel
theorem d_Md_isOpened_21 : decode b_Md_isOpened 21 = .ok (.iadd, 1) := by decide +kernel
theorem d_Md_isOpened_22 : decode b_Md_isOpened 22 = .ok (.putfield 179, 3) := by decide +kernel
theorem d_Md_isOpened_25 : decode b_Md_isOpened 25 = .ok (.iconst 1, 1) := by decide +kernel
theorem d_Md_isOpened_26 : decode b_Md_isOpened 26 = .ok (.ireturn, 1) := by decide +kernel
theorem d_Md_reduceLevel_0 : decode b_Md_reduceLevel 0 = .ok (.aload_n 0, 1) := by decide +kernel
theorem d_Md_reduceLevel_1 : decode b_Md_reduceLevel 1 = .ok (.getfield 176, 3) := by decide +kernel
theorem d_Md_reduceLevel_4 : decode b_Md_reduceLevel 4 = .ok (.iload_n 1, 1) := by decide +kernel
theorem d_Md_reduceLevel_5 : decode b_Md_reduceLevel 5 = .ok (.if_icmp .le 64, 3) := by decide +kernel
theorem d_Md_reduceLevel_8 : decode b_Md_reduceLevel 8 = .ok (.aload_n 0, 1) := by decide +kernel
theorem d_Md_reduceLevel_9 : decode b_Md_reduceLevel 9 = .ok (.getfield 27, 3) := by decide +kernel
theorem d_Md_reduceLevel_12 : decode b_Md_reduceLevel 12 = .ok (.aload_n 0, 1) := by decide +kernel
theorem d_Md_reduceLevel_13 : decode b_Md_reduceLevel 13 = .ok (.getfield 176, 3) := by decide +kernel
theorem d_Md_reduceLevel_16 : decode b_Md_reduceLevel 16 = .ok (.iconst 1, 1) := by decide +kernel
theorem d_Md_reduceLevel_17 : decode b_Md_reduceLevel 17 = .ok (.isub, 1) := by decide +kernel
theorem d_Md_reduceLevel_18 : decode b_Md_reduceLevel 18 = .ok (.iaload, 1) := by decide +kernel
theorem d_Md_reduceLevel_19 : decode b_Md_reduceLevel 19 = .ok (.bipush 40, 2) := by decide +kernel
theorem d_Md_reduceLevel_21 : decode b_Md_reduceLevel 21 = .ok (.if_icmp .eq 48, 3) := by decide +kernel
theorem d_Md_reduceLevel_24 : decode b_Md_reduceLevel 24 = .ok (.aload_n 0, 1) := by decide +kernel
theorem d_Md_reduceLevel_25 : decode b_Md_reduceLevel 25 = .ok (.getfield 27, 3) := by decide +kernel
theorem d_Md_reduceLevel_28 : decode b_Md_reduceLevel 28 = .ok (.aload_n 0, 1) := by decide +kernel
theorem d_Md_reduceLevel_29 : decode b_Md_reduceLevel 29 = .ok (.getfield 176, 3) := by decide +kernel
theorem d_Md_reduceLevel_32 : decode b_Md_reduceLevel 32 = .ok (.iconst 1, 1) := by decide +kernel
theorem d_Md_reduceLevel_33 : decode b_Md_reduceLevel 33 = .ok (.isub, 1) := by decide +kernel
theorem d_Md_reduceLevel_34 : decode b_Md_reduceLevel 34 = .ok (.iaload, 1) := by decide +kernel
theorem d_Md_reduceLevel_35 : decode b_Md_reduceLevel 35 = .ok (.invokestatic 203, 3) := by decide +kernel
theorem d_Md_reduceLevel_38 : decode b_Md_reduceLevel 38 = .ok (.iload_n 2, 1) := by decide +kernel
theorem d_Md_reduceLevel_39 : decode b_Md_reduceLevel 39 = .ok (.if_icmp .lt 30, 3) := by decide +kernel
theorem d_Md_reduceLevel_42 : decode b_Md_reduceLevel 42 = .ok (.aload_n 0, 1) := by decide +kernel
theorem d_Md_reduceLevel_43 : decode b_Md_reduceLevel 43 = .ok (.dup, 1) := by decide +kernel
theorem d_Md_reduceLevel_44 : decode b_Md_reduceLevel 44 = .ok (.getfield 176, 3) := by decide +kernel
theorem d_Md_reduceLevel_47 : decode b_Md_reduceLevel 47 = .ok (.iconst 1, 1) := by decide +kernel
theorem d_Md_reduceLevel_48 : decode b_Md_reduceLevel 48 = .ok (.isub, 1) := by decide +kernel
theorem d_Md_reduceLevel_49 : decode b_Md_reduceLevel 49 = .ok (.putfield 176, 3) := by decide +kernel
theorem d_Md_reduceLevel_52 : decode b_Md_reduceLevel 52 = .ok (.aload_n 0, 1) := by decide +kernel
theorem d_Md_reduceLevel_53 : decode b_Md_reduceLevel 53 = .ok (.aload_n 0, 1) := by decide +kernel
theorem d_Md_reduceLevel_54 : decode b_Md_reduceLevel 54 = .ok (.getfield 27, 3) := by decide +kernel
theorem d_Md_reduceLevel_57 : decode b_Md_reduceLevel 57 = .ok (.aload_n 0, 1) := by decide +kernel
theorem d_Md_reduceLevel_58 : decode b_Md_reduceLevel 58 = .ok (.getfield 176, 3) := by decide +kernel
theorem d_Md_reduceLevel_61 : decode b_Md_reduceLevel 61 = .ok (.iaload, 1) := by decide +kernel
theorem d_Md_reduceLevel_62 : decode b_Md_reduceLevel 62 = .ok (.iconst 0, 1) := by decide +kernel
theorem d_Md_reduceLevel_63 : decode b_Md_reduceLevel 63 = .ok (.invokevirtual 182, 3) := by decide +kernel
theorem d_Md_reduceLevel_66 : decode b_Md_reduceLevel 66 = .ok (.goto (-66), 3) := by decide +kernel
theorem d_Md_reduceLevel_69 : decode b_Md_reduceLevel 69 = .ok (.return_, 1) := by decide +kernel
theorem d_Md_reduceTo_0 : decode b_Md_reduceTo 0 = .ok (.aload_n 0, 1) := by decide +kernel
theorem d_Md_reduceTo_1 : decode b_Md_reduceTo 1 = .ok (.iload_n 1, 1) := by decide +kernel
theorem d_Md_reduceTo_2 : decode b_Md_reduceTo 2 = .ok (.iconst 1, 1) := by decide +kernel
theorem d_Md_reduceTo_3 : decode b_Md_reduceTo 3 = .ok (.invokevirtual 206, 3) := by decide +kernel
theorem d_Md_reduceTo_6 : decode b_Md_reduceTo 6 = .ok (.return_, 1) := by decide +kernel
def wp_Md_byteAt (x1 : Int32) (md_size : Int32) (md_tape : Nat → Int32) (post : Int32 → Prop) : Prop :=
  (((md_size : Int32) ≤ (x1 : Int32) → post (-1)) ∧ (¬ (md_size : Int32) ≤ (x1 : Int32) → (vp_in x1 1200 ∧ post ((md_tape (x1 : Int32).toNatClampNeg) &&& 255))))
set_option maxHeartbeats 4000000 in
set_option maxRecDepth 100000 in
theorem c_Md_byteAt (l : Launch) (dC : Nat → ClassId) (dI : Nat → Nat → Nat) (cI cB cZ : ClassId) (adK adV : Nat → Nat) (sz : Nat) (a_md a_md_tape a_md_acts a_md_actNumbers a_md_actCounts a_md_pile a_md_begins a_md_goals a_md_ranks a_md_choiceCounts a_md_whens a_md_becomes a_md_guessCounts a_md_guesses a_md_unaryCounts a_md_stack a_md_nexts a_md_isBegin a_md_isGoal a_md_levels a_md_queue a_md_hasGuesses a_md_rounds a_md_marked a_md_other a_md_heights : Nat) (md_size : Int32) (md_at : Int32) (md_token : Int32) (md_tokenPlace : Int32) (md_number : Int32) (md_sign : Int32) (md_bad : Int32) (md_faultPlace : Int32) (md_place : Int32) (md_bank : Int32) (md_unaries : Int32) (md_opens : Int32) (md_piled : Int32) (md_loop : Int32) (md_keptBits : Int32) (md_tape : Nat → Int32) (x1 : Int32) (post : Int32 → Prop) (h : wp_Md_byteAt x1 md_size md_tape post) : Met l y_Md_byteAt w_Md_byteAt ({ frames := 0, cells := 0, slots := 0, locals := 0 }) (pc_ (dC, dI) [(cI, .int), (cB, .byte), (cZ, .boolean)] [(a_md, .inr (11, [.ref a_md_tape, .int md_size, .int md_at, .int md_token, .int md_tokenPlace, .int md_number, .int md_sign, .int md_bad, .int md_faultPlace, .int md_place, .ref a_md_acts, .ref a_md_actNumbers, .ref a_md_actCounts, .int md_bank, .int md_unaries, .int md_opens, .ref a_md_pile, .int md_piled, .int md_loop, .ref a_md_begins, .ref a_md_goals, .ref a_md_ranks, .ref a_md_choiceCounts, .ref a_md_whens, .ref a_md_becomes, .ref a_md_guessCounts, .ref a_md_guesses, .ref a_md_unaryCounts, .ref a_md_stack, .ref a_md_nexts, .ref a_md_isBegin, .ref a_md_isGoal, .ref a_md_levels, .ref a_md_queue, .ref a_md_hasGuesses, .int md_keptBits, .ref a_md_rounds, .ref a_md_marked, .ref a_md_other, .ref a_md_heights])), (a_md_tape, .inl (cB, 1200, .inl md_tape))] sz adK adV [.ref a_md, .int x1]) (va_Qi (fun (r : Int32) (u : Unit) => post r ) (fun (u : Unit) t => bw_ (dC, dI) [(cI, .int), (cB, .byte), (cZ, .boolean)] (va_A [(a_md, .inr (11, [.ref a_md_tape, .int md_size, .int md_at, .int md_token, .int md_tokenPlace, .int md_number, .int md_sign, .int md_bad, .int md_faultPlace, .int md_place, .ref a_md_acts, .ref a_md_actNumbers, .ref a_md_actCounts, .int md_bank, .int md_unaries, .int md_opens, .ref a_md_pile, .int md_piled, .int md_loop, .ref a_md_begins, .ref a_md_goals, .ref a_md_ranks, .ref a_md_choiceCounts, .ref a_md_whens, .ref a_md_becomes, .ref a_md_guessCounts, .ref a_md_guesses, .ref a_md_unaryCounts, .ref a_md_stack, .ref a_md_nexts, .ref a_md_isBegin, .ref a_md_isGoal, .ref a_md_levels, .ref a_md_queue, .ref a_md_hasGuesses, .int md_keptBits, .ref a_md_rounds, .ref a_md_marked, .ref a_md_other, .ref a_md_heights])), (a_md_tape, .inl (cB, 1200, .inl md_tape))] sz) [(a_md, .inr (11, [.ref a_md_tape, .int md_size, .int md_at, .int md_token, .int md_tokenPlace, .int md_number, .int md_sign, .int md_bad, .int md_faultPlace, .int md_place, .ref a_md_acts, .ref a_md_actNumbers, .ref a_md_actCounts, .int md_bank, .int md_unaries, .int md_opens, .ref a_md_pile, .int md_piled, .int md_loop, .ref a_md_begins, .ref a_md_goals, .ref a_md_ranks, .ref a_md_choiceCounts, .ref a_md_whens, .ref a_md_becomes, .ref a_md_guessCounts, .ref a_md_guesses, .ref a_md_unaryCounts, .ref a_md_stack, .ref a_md_nexts, .ref a_md_isBegin, .ref a_md_isGoal, .ref a_md_levels, .ref a_md_queue, .ref a_md_hasGuesses, .int md_keptBits, .ref a_md_rounds, .ref a_md_marked, .ref a_md_other, .ref a_md_heights])), (a_md_tape, .inl (cB, 1200, .inl md_tape))] t) (va_A [(a_md, .inr (11, [.ref a_md_tape, .int md_size, .int md_at, .int md_token, .int md_tokenPlace, .int md_number, .int md_sign, .int md_bad, .int md_faultPlace, .int md_place, .ref a_md_acts, .ref a_md_actNumbers, .ref a_md_actCounts, .int md_bank, .int md_unaries, .int md_opens, .ref a_md_pile, .int md_piled, .int md_loop, .ref a_md_begins, .ref a_md_goals, .ref a_md_ranks, .ref a_md_choiceCounts, .ref a_md_whens, .ref a_md_becomes, .ref a_md_guessCounts, .ref a_md_guesses, .ref a_md_unaryCounts, .ref a_md_stack, .ref a_md_nexts, .ref a_md_isBegin, .ref a_md_isGoal, .ref a_md_levels, .ref a_md_queue, .ref a_md_hasGuesses, .int md_keptBits, .ref a_md_rounds, .ref a_md_marked, .ref a_md_other, .ref a_md_heights])), (a_md_tape, .inl (cB, 1200, .inl md_tape))] sz)) 0 0 (va_A [(a_md, .inr (11, [.ref a_md_tape, .int md_size, .int md_at, .int md_token, .int md_tokenPlace, .int md_number, .int md_sign, .int md_bad, .int md_faultPlace, .int md_place, .ref a_md_acts, .ref a_md_actNumbers, .ref a_md_actCounts, .int md_bank, .int md_unaries, .int md_opens, .ref a_md_pile, .int md_piled, .int md_loop, .ref a_md_begins, .ref a_md_goals, .ref a_md_ranks, .ref a_md_choiceCounts, .ref a_md_whens, .ref a_md_becomes, .ref a_md_guessCounts, .ref a_md_guesses, .ref a_md_unaryCounts, .ref a_md_stack, .ref a_md_nexts, .ref a_md_isBegin, .ref a_md_isGoal, .ref a_md_levels, .ref a_md_queue, .ref a_md_hasGuesses, .int md_keptBits, .ref a_md_rounds, .ref a_md_marked, .ref a_md_other, .ref a_md_heights])), (a_md_tape, .inl (cB, 1200, .inl md_tape))] sz) := by
  refine Met.ofW (cc := b_Md_byteAt) (maxL := 2) (ret := (some .int)) (by decide) rfl ?_
  intro p e s m args below meth c s₁ B hml hv
  obtain ⟨rfl, hsz, hP, hK, hD0, hN, hT⟩ := hv
  have hx := B.exec
  have hb := B.bytes
  have hr := B.returns
  have hts := atoms_spec (ws := w_Md_byteAt) B.pre
  have hown : s.vm.findClass "LoopInductionModel" = some m.cls := findClass_of_methodNamed B.named
  have hlocks := B.notSynchronized
  subst hsz
  have hD := hD0.self (sz := s.heap.size)
  generalize hAe : va_A [(a_md, .inr (11, [.ref a_md_tape, .int md_size, .int md_at, .int md_token, .int md_tokenPlace, .int md_number, .int md_sign, .int md_bad, .int md_faultPlace, .int md_place, .ref a_md_acts, .ref a_md_actNumbers, .ref a_md_actCounts, .int md_bank, .int md_unaries, .int md_opens, .ref a_md_pile, .int md_piled, .int md_loop, .ref a_md_begins, .ref a_md_goals, .ref a_md_ranks, .ref a_md_choiceCounts, .ref a_md_whens, .ref a_md_becomes, .ref a_md_guessCounts, .ref a_md_guesses, .ref a_md_unaryCounts, .ref a_md_stack, .ref a_md_nexts, .ref a_md_isBegin, .ref a_md_isGoal, .ref a_md_levels, .ref a_md_queue, .ref a_md_hasGuesses, .int md_keptBits, .ref a_md_rounds, .ref a_md_marked, .ref a_md_other, .ref a_md_heights])), (a_md_tape, .inl (cB, 1200, .inl md_tape))] s.heap.size = A at hD hT ⊢
  have hA : ∀ q : Nat, s.heap.size ≤ q → A q := fun q h => by rw [← hAe]; exact Or.inr h
  have hS : va_S A s.heap s.heap [] := va_S.rf
  generalize hQ : MQ below _ _ s 0 0 _ = QQ
  have hl := lv_entry ([.ref a_md, .int x1]) (n := 2) (Nat.le_of_ble_eq_true rfl)
  rw [lg_entry_eq]
  generalize (lg_sl ([.ref a_md, .int x1]) ++ List.replicate (2 - (lg_sl ([.ref a_md, .int x1])).length) Slot.unset).toArray = ls at hl ⊢
  have hl : lv_has ls 2 [(0, .ref a_md), (1, .int x1)] := hl
  have fl_7 := (hts _ (List.mem_cons_of_mem _ m_1090))
  have fl_94 := (hts _ (List.mem_cons_of_mem _ m_1091))
  refine lv_iload_n hx hb d_Md_byteAt_0 rfl (lv_at hl 1 rfl) ?_
  refine lv_aload_n hx hb d_Md_byteAt_1 rfl (lv_at hl 0 rfl) ?_
  refine va_get (D := (dC, dI)) (ci := 11) (v := .int md_size) (C := "LoopInductionModel") (T := F_Md) (N := 40) hx hb hts iC_Md hown hK hP 0 rfl rfl 1 (by decide) fl_94 (fun _ h9 => h9) rfl d_Md_byteAt_2 ?_
  refine lv_icmp_ge (tgt := 21) hx hb d_Md_byteAt_5 (by decide) (fun c_5 => ?_) (fun c_5 => ?_)
  · have h := And.left h c_5
    refine lv_iconst (v := (-1)) hx hb d_Md_byteAt_21 (by decide) ?_
    subst hQ
    have hP9 := hP
    have hD9 := hD
    exact W.iret (v := (-1)) hx hb hr (fun t ht hW => ⟨⟨(-1), (), rfl, h, by rw [ht]; exact hP9, va_K.moved hW.alike hK, hD9⟩, hS.F ht⟩) hS.2.2 d_Md_byteAt_22
  · have h := And.right h c_5
    refine lv_aload_n hx hb d_Md_byteAt_8 rfl (lv_at hl 0 rfl) ?_
    refine va_get (D := (dC, dI)) (ci := 11) (v := .ref a_md_tape) (C := "LoopInductionModel") (T := F_Md) (N := 40) hx hb hts iC_Md hown hK hP 0 rfl rfl 0 (by decide) fl_7 (fun _ h9 => h9) rfl d_Md_byteAt_9 ?_
    refine lv_iload_n hx hb d_Md_byteAt_12 rfl (lv_at hl 1 rfl) ?_
    obtain ⟨hin_13, h⟩ := h
    refine va_bald hx hb hK hP 1 1 rfl rfl hin_13 d_Md_byteAt_13 ?_
    refine lv_sipush (v := 255) hx hb d_Md_byteAt_14 (by decide) ?_
    refine lv_iand hx hb d_Md_byteAt_17 ?_
    refine lv_goto (tgt := 22) hx hb d_Md_byteAt_18 (by decide) ?_
    subst hQ
    have hP9 := hP
    have hD9 := hD
    exact W.iret (v := (md_tape (x1 : Int32).toNatClampNeg) &&& 255) hx hb hr (fun t ht hW => ⟨⟨((md_tape (x1 : Int32).toNatClampNeg) &&& 255), (), rfl, h, by rw [ht]; exact hP9, va_K.moved hW.alike hK, hD9⟩, hS.F ht⟩) hS.2.2 d_Md_byteAt_22
def wp_Md_isSmall (x0 : Int32) (post : Int32 → Prop) : Prop :=
  (((x0 : Int32) < (97 : Int32) → post 0) ∧ (¬ (x0 : Int32) < (97 : Int32) → (((122 : Int32) < (x0 : Int32) → post 0) ∧ (¬ (122 : Int32) < (x0 : Int32) → post 1))))
set_option maxHeartbeats 4000000 in
set_option maxRecDepth 100000 in
theorem c_Md_isSmall (l : Launch) (dC : Nat → ClassId) (dI : Nat → Nat → Nat) (cI cB cZ : ClassId) (adK adV : Nat → Nat) (sz : Nat) (x0 : Int32) (post : Int32 → Prop) (h : wp_Md_isSmall x0 post) : Met l y_Md_isSmall w_Md_isSmall ({ frames := 0, cells := 0, slots := 0, locals := 0 }) (pc_ (dC, dI) [(cI, .int), (cB, .byte), (cZ, .boolean)] [] sz adK adV [.int x0]) (va_Qi (fun (r : Int32) (u : Unit) => post r ) (fun (u : Unit) t => bw_ (dC, dI) [(cI, .int), (cB, .byte), (cZ, .boolean)] (va_A [] sz) [] t) (va_A [] sz)) 0 0 (va_A [] sz) := by
  refine Met.ofW (cc := b_Md_isSmall) (maxL := 1) (ret := (some .boolean)) (by decide) rfl ?_
  intro p e s m args below meth c s₁ B hml hv
  obtain ⟨rfl, hsz, hP, hK, hD0, hN, hT⟩ := hv
  have hx := B.exec
  have hb := B.bytes
  have hr := B.returns
  have hts := atoms_spec (ws := w_Md_isSmall) B.pre
  have hown : s.vm.findClass "LoopInductionModel" = some m.cls := findClass_of_methodNamed B.named
  have hlocks := B.notSynchronized
  subst hsz
  have hD := hD0.self (sz := s.heap.size)
  generalize hAe : va_A [] s.heap.size = A at hD hT ⊢
  have hA : ∀ q : Nat, s.heap.size ≤ q → A q := fun q h => by rw [← hAe]; exact Or.inr h
  have hS : va_S A s.heap s.heap [] := va_S.rf
  generalize hQ : MQ below _ _ s 0 0 _ = QQ
  have hl := lv_entry ([.int x0]) (n := 1) (Nat.le_of_ble_eq_true rfl)
  rw [lg_entry_eq]
  generalize (lg_sl ([.int x0]) ++ List.replicate (1 - (lg_sl ([.int x0])).length) Slot.unset).toArray = ls at hl ⊢
  have hl : lv_has ls 1 [(0, .int x0)] := hl
  refine lv_iload_n hx hb d_Md_isSmall_0 rfl (lv_at hl 0 rfl) ?_
  refine lv_bipush (v := 97) hx hb d_Md_isSmall_1 (by decide) ?_
  refine lv_icmp_lt (tgt := 16) hx hb d_Md_isSmall_3 (by decide) (fun c_3 => ?_) (fun c_3 => ?_)
  · have h := And.left h c_3
    refine lv_iconst (v := 0) hx hb d_Md_isSmall_16 (by decide) ?_
    subst hQ
    have hP9 := hP
    have hD9 := hD
    exact W.zret (v := 0) hx hb hr rfl (fun t ht hW => ⟨⟨0, (), rfl, h, by rw [ht]; exact hP9, va_K.moved hW.alike hK, hD9⟩, hS.F ht⟩) hS.2.2 d_Md_isSmall_17
  · have h := And.right h c_3
    refine lv_iload_n hx hb d_Md_isSmall_6 rfl (lv_at hl 0 rfl) ?_
    refine lv_bipush (v := 122) hx hb d_Md_isSmall_7 (by decide) ?_
    refine lv_icmp_gt (tgt := 16) hx hb d_Md_isSmall_9 (by decide) (fun c_9 => ?_) (fun c_9 => ?_)
    · have h := And.left h c_9
      refine lv_iconst (v := 0) hx hb d_Md_isSmall_16 (by decide) ?_
      subst hQ
      have hP9 := hP
      have hD9 := hD
      exact W.zret (v := 0) hx hb hr rfl (fun t ht hW => ⟨⟨0, (), rfl, h, by rw [ht]; exact hP9, va_K.moved hW.alike hK, hD9⟩, hS.F ht⟩) hS.2.2 d_Md_isSmall_17
    · have h := And.right h c_9
      refine lv_iconst (v := 1) hx hb d_Md_isSmall_12 (by decide) ?_
      refine lv_goto (tgt := 17) hx hb d_Md_isSmall_13 (by decide) ?_
      subst hQ
      have hP9 := hP
      have hD9 := hD
      exact W.zret (v := 1) hx hb hr rfl (fun t ht hW => ⟨⟨1, (), rfl, h, by rw [ht]; exact hP9, va_K.moved hW.alike hK, hD9⟩, hS.F ht⟩) hS.2.2 d_Md_isSmall_17
def wp_Md_isFigure (x0 : Int32) (post : Int32 → Prop) : Prop :=
  (((x0 : Int32) < (48 : Int32) → post 0) ∧ (¬ (x0 : Int32) < (48 : Int32) → (((57 : Int32) < (x0 : Int32) → post 0) ∧ (¬ (57 : Int32) < (x0 : Int32) → post 1))))
set_option maxHeartbeats 4000000 in
set_option maxRecDepth 100000 in
theorem c_Md_isFigure (l : Launch) (dC : Nat → ClassId) (dI : Nat → Nat → Nat) (cI cB cZ : ClassId) (adK adV : Nat → Nat) (sz : Nat) (x0 : Int32) (post : Int32 → Prop) (h : wp_Md_isFigure x0 post) : Met l y_Md_isFigure w_Md_isFigure ({ frames := 0, cells := 0, slots := 0, locals := 0 }) (pc_ (dC, dI) [(cI, .int), (cB, .byte), (cZ, .boolean)] [] sz adK adV [.int x0]) (va_Qi (fun (r : Int32) (u : Unit) => post r ) (fun (u : Unit) t => bw_ (dC, dI) [(cI, .int), (cB, .byte), (cZ, .boolean)] (va_A [] sz) [] t) (va_A [] sz)) 0 0 (va_A [] sz) := by
  refine Met.ofW (cc := b_Md_isFigure) (maxL := 1) (ret := (some .boolean)) (by decide) rfl ?_
  intro p e s m args below meth c s₁ B hml hv
  obtain ⟨rfl, hsz, hP, hK, hD0, hN, hT⟩ := hv
  have hx := B.exec
  have hb := B.bytes
  have hr := B.returns
  have hts := atoms_spec (ws := w_Md_isFigure) B.pre
  have hown : s.vm.findClass "LoopInductionModel" = some m.cls := findClass_of_methodNamed B.named
  have hlocks := B.notSynchronized
  subst hsz
  have hD := hD0.self (sz := s.heap.size)
  generalize hAe : va_A [] s.heap.size = A at hD hT ⊢
  have hA : ∀ q : Nat, s.heap.size ≤ q → A q := fun q h => by rw [← hAe]; exact Or.inr h
  have hS : va_S A s.heap s.heap [] := va_S.rf
  generalize hQ : MQ below _ _ s 0 0 _ = QQ
  have hl := lv_entry ([.int x0]) (n := 1) (Nat.le_of_ble_eq_true rfl)
  rw [lg_entry_eq]
  generalize (lg_sl ([.int x0]) ++ List.replicate (1 - (lg_sl ([.int x0])).length) Slot.unset).toArray = ls at hl ⊢
  have hl : lv_has ls 1 [(0, .int x0)] := hl
  refine lv_iload_n hx hb d_Md_isFigure_0 rfl (lv_at hl 0 rfl) ?_
  refine lv_bipush (v := 48) hx hb d_Md_isFigure_1 (by decide) ?_
  refine lv_icmp_lt (tgt := 16) hx hb d_Md_isFigure_3 (by decide) (fun c_3 => ?_) (fun c_3 => ?_)
  · have h := And.left h c_3
    refine lv_iconst (v := 0) hx hb d_Md_isFigure_16 (by decide) ?_
    subst hQ
    have hP9 := hP
    have hD9 := hD
    exact W.zret (v := 0) hx hb hr rfl (fun t ht hW => ⟨⟨0, (), rfl, h, by rw [ht]; exact hP9, va_K.moved hW.alike hK, hD9⟩, hS.F ht⟩) hS.2.2 d_Md_isFigure_17
  · have h := And.right h c_3
    refine lv_iload_n hx hb d_Md_isFigure_6 rfl (lv_at hl 0 rfl) ?_
    refine lv_bipush (v := 57) hx hb d_Md_isFigure_7 (by decide) ?_
    refine lv_icmp_gt (tgt := 16) hx hb d_Md_isFigure_9 (by decide) (fun c_9 => ?_) (fun c_9 => ?_)
    · have h := And.left h c_9
      refine lv_iconst (v := 0) hx hb d_Md_isFigure_16 (by decide) ?_
      subst hQ
      have hP9 := hP
      have hD9 := hD
      exact W.zret (v := 0) hx hb hr rfl (fun t ht hW => ⟨⟨0, (), rfl, h, by rw [ht]; exact hP9, va_K.moved hW.alike hK, hD9⟩, hS.F ht⟩) hS.2.2 d_Md_isFigure_17
    · have h := And.right h c_9
      refine lv_iconst (v := 1) hx hb d_Md_isFigure_12 (by decide) ?_
      refine lv_goto (tgt := 17) hx hb d_Md_isFigure_13 (by decide) ?_
      subst hQ
      have hP9 := hP
      have hD9 := hD
      exact W.zret (v := 1) hx hb hr rfl (fun t ht hW => ⟨⟨1, (), rfl, h, by rw [ht]; exact hP9, va_K.moved hW.alike hK, hD9⟩, hS.F ht⟩) hS.2.2 d_Md_isFigure_17
def wp_Md_isSignByte (x0 : Int32) (post : Int32 → Prop) : Prop :=
  (((x0 : Int32) = 35 → post 1) ∧ ((x0 : Int32) = 40 → post 1) ∧ ((x0 : Int32) = 41 → post 1) ∧ ((x0 : Int32) = 42 → post 1) ∧ ((x0 : Int32) = 43 → post 1) ∧ ((x0 : Int32) = 44 → post 1) ∧ ((x0 : Int32) = 45 → post 1) ∧ ((x0 : Int32) = 59 → post 1) ∧ ((x0 : Int32) = 60 → post 1) ∧ ((x0 : Int32) = 61 → post 1) ∧ ((x0 : Int32) = 91 → post 1) ∧ ((x0 : Int32) = 93 → post 1) ∧ (¬ (x0 : Int32) = 35 → ¬ (x0 : Int32) = 40 → ¬ (x0 : Int32) = 41 → ¬ (x0 : Int32) = 42 → ¬ (x0 : Int32) = 43 → ¬ (x0 : Int32) = 44 → ¬ (x0 : Int32) = 45 → ¬ (x0 : Int32) = 59 → ¬ (x0 : Int32) = 60 → ¬ (x0 : Int32) = 61 → ¬ (x0 : Int32) = 91 → ¬ (x0 : Int32) = 93 → post 0))
set_option maxHeartbeats 4000000 in
set_option maxRecDepth 100000 in
theorem c_Md_isSignByte (l : Launch) (dC : Nat → ClassId) (dI : Nat → Nat → Nat) (cI cB cZ : ClassId) (adK adV : Nat → Nat) (sz : Nat) (x0 : Int32) (post : Int32 → Prop) (h : wp_Md_isSignByte x0 post) : Met l y_Md_isSignByte w_Md_isSignByte ({ frames := 0, cells := 0, slots := 0, locals := 0 }) (pc_ (dC, dI) [(cI, .int), (cB, .byte), (cZ, .boolean)] [] sz adK adV [.int x0]) (va_Qi (fun (r : Int32) (u : Unit) => post r ) (fun (u : Unit) t => bw_ (dC, dI) [(cI, .int), (cB, .byte), (cZ, .boolean)] (va_A [] sz) [] t) (va_A [] sz)) 0 0 (va_A [] sz) := by
  refine Met.ofW (cc := b_Md_isSignByte) (maxL := 1) (ret := (some .boolean)) (by decide) rfl ?_
  intro p e s m args below meth c s₁ B hml hv
  obtain ⟨rfl, hsz, hP, hK, hD0, hN, hT⟩ := hv
  have hx := B.exec
  have hb := B.bytes
  have hr := B.returns
  have hts := atoms_spec (ws := w_Md_isSignByte) B.pre
  have hown : s.vm.findClass "LoopInductionModel" = some m.cls := findClass_of_methodNamed B.named
  have hlocks := B.notSynchronized
  subst hsz
  have hD := hD0.self (sz := s.heap.size)
  generalize hAe : va_A [] s.heap.size = A at hD hT ⊢
  have hA : ∀ q : Nat, s.heap.size ≤ q → A q := fun q h => by rw [← hAe]; exact Or.inr h
  have hS : va_S A s.heap s.heap [] := va_S.rf
  generalize hQ : MQ below _ _ s 0 0 _ = QQ
  have hl := lv_entry ([.int x0]) (n := 1) (Nat.le_of_ble_eq_true rfl)
  rw [lg_entry_eq]
  generalize (lg_sl ([.int x0]) ++ List.replicate (1 - (lg_sl ([.int x0])).length) Slot.unset).toArray = ls at hl ⊢
  have hl : lv_has ls 1 [(0, .int x0)] := hl
  refine lv_iload_n hx hb d_Md_isSignByte_0 rfl (lv_at hl 0 rfl) ?_
  rcases Classical.em ((x0 : Int32) = 35) with e_1_0 | e_1_0
  · have h := h.1 e_1_0
    refine lv_lookup (off := 107) (tgt := 108) hx hb d_Md_isSignByte_1 (by decide) (by rw [e_1_0]; rfl) (by decide) ?_
    refine lv_iconst (v := 1) hx hb d_Md_isSignByte_108 (by decide) ?_
    subst hQ
    have hP9 := hP
    have hD9 := hD
    exact W.zret (v := 1) hx hb hr rfl (fun t ht hW => ⟨⟨1, (), rfl, h, by rw [ht]; exact hP9, va_K.moved hW.alike hK, hD9⟩, hS.F ht⟩) hS.2.2 d_Md_isSignByte_109
  rcases Classical.em ((x0 : Int32) = 40) with e_1_1 | e_1_1
  · have h := h.2.1 e_1_1
    refine lv_lookup (off := 107) (tgt := 108) hx hb d_Md_isSignByte_1 (by decide) (by rw [lv_osw e_1_0 (a := 35) (by decide)]; rw [e_1_1]; rfl) (by decide) ?_
    refine lv_iconst (v := 1) hx hb d_Md_isSignByte_108 (by decide) ?_
    subst hQ
    have hP9 := hP
    have hD9 := hD
    exact W.zret (v := 1) hx hb hr rfl (fun t ht hW => ⟨⟨1, (), rfl, h, by rw [ht]; exact hP9, va_K.moved hW.alike hK, hD9⟩, hS.F ht⟩) hS.2.2 d_Md_isSignByte_109
  rcases Classical.em ((x0 : Int32) = 41) with e_1_2 | e_1_2
  · have h := h.2.2.1 e_1_2
    refine lv_lookup (off := 107) (tgt := 108) hx hb d_Md_isSignByte_1 (by decide) (by rw [lv_osw e_1_0 (a := 35) (by decide)]; rw [lv_osw e_1_1 (a := 40) (by decide)]; rw [e_1_2]; rfl) (by decide) ?_
    refine lv_iconst (v := 1) hx hb d_Md_isSignByte_108 (by decide) ?_
    subst hQ
    have hP9 := hP
    have hD9 := hD
    exact W.zret (v := 1) hx hb hr rfl (fun t ht hW => ⟨⟨1, (), rfl, h, by rw [ht]; exact hP9, va_K.moved hW.alike hK, hD9⟩, hS.F ht⟩) hS.2.2 d_Md_isSignByte_109
  rcases Classical.em ((x0 : Int32) = 42) with e_1_3 | e_1_3
  · have h := h.2.2.2.1 e_1_3
    refine lv_lookup (off := 107) (tgt := 108) hx hb d_Md_isSignByte_1 (by decide) (by rw [lv_osw e_1_0 (a := 35) (by decide)]; rw [lv_osw e_1_1 (a := 40) (by decide)]; rw [lv_osw e_1_2 (a := 41) (by decide)]; rw [e_1_3]; rfl) (by decide) ?_
    refine lv_iconst (v := 1) hx hb d_Md_isSignByte_108 (by decide) ?_
    subst hQ
    have hP9 := hP
    have hD9 := hD
    exact W.zret (v := 1) hx hb hr rfl (fun t ht hW => ⟨⟨1, (), rfl, h, by rw [ht]; exact hP9, va_K.moved hW.alike hK, hD9⟩, hS.F ht⟩) hS.2.2 d_Md_isSignByte_109
  rcases Classical.em ((x0 : Int32) = 43) with e_1_4 | e_1_4
  · have h := h.2.2.2.2.1 e_1_4
    refine lv_lookup (off := 107) (tgt := 108) hx hb d_Md_isSignByte_1 (by decide) (by rw [lv_osw e_1_0 (a := 35) (by decide)]; rw [lv_osw e_1_1 (a := 40) (by decide)]; rw [lv_osw e_1_2 (a := 41) (by decide)]; rw [lv_osw e_1_3 (a := 42) (by decide)]; rw [e_1_4]; rfl) (by decide) ?_
    refine lv_iconst (v := 1) hx hb d_Md_isSignByte_108 (by decide) ?_
    subst hQ
    have hP9 := hP
    have hD9 := hD
    exact W.zret (v := 1) hx hb hr rfl (fun t ht hW => ⟨⟨1, (), rfl, h, by rw [ht]; exact hP9, va_K.moved hW.alike hK, hD9⟩, hS.F ht⟩) hS.2.2 d_Md_isSignByte_109
  rcases Classical.em ((x0 : Int32) = 44) with e_1_5 | e_1_5
  · have h := h.2.2.2.2.2.1 e_1_5
    refine lv_lookup (off := 107) (tgt := 108) hx hb d_Md_isSignByte_1 (by decide) (by rw [lv_osw e_1_0 (a := 35) (by decide)]; rw [lv_osw e_1_1 (a := 40) (by decide)]; rw [lv_osw e_1_2 (a := 41) (by decide)]; rw [lv_osw e_1_3 (a := 42) (by decide)]; rw [lv_osw e_1_4 (a := 43) (by decide)]; rw [e_1_5]; rfl) (by decide) ?_
    refine lv_iconst (v := 1) hx hb d_Md_isSignByte_108 (by decide) ?_
    subst hQ
    have hP9 := hP
    have hD9 := hD
    exact W.zret (v := 1) hx hb hr rfl (fun t ht hW => ⟨⟨1, (), rfl, h, by rw [ht]; exact hP9, va_K.moved hW.alike hK, hD9⟩, hS.F ht⟩) hS.2.2 d_Md_isSignByte_109
  rcases Classical.em ((x0 : Int32) = 45) with e_1_6 | e_1_6
  · have h := h.2.2.2.2.2.2.1 e_1_6
    refine lv_lookup (off := 107) (tgt := 108) hx hb d_Md_isSignByte_1 (by decide) (by rw [lv_osw e_1_0 (a := 35) (by decide)]; rw [lv_osw e_1_1 (a := 40) (by decide)]; rw [lv_osw e_1_2 (a := 41) (by decide)]; rw [lv_osw e_1_3 (a := 42) (by decide)]; rw [lv_osw e_1_4 (a := 43) (by decide)]; rw [lv_osw e_1_5 (a := 44) (by decide)]; rw [e_1_6]; rfl) (by decide) ?_
    refine lv_iconst (v := 1) hx hb d_Md_isSignByte_108 (by decide) ?_
    subst hQ
    have hP9 := hP
    have hD9 := hD
    exact W.zret (v := 1) hx hb hr rfl (fun t ht hW => ⟨⟨1, (), rfl, h, by rw [ht]; exact hP9, va_K.moved hW.alike hK, hD9⟩, hS.F ht⟩) hS.2.2 d_Md_isSignByte_109
  rcases Classical.em ((x0 : Int32) = 59) with e_1_7 | e_1_7
  · have h := h.2.2.2.2.2.2.2.1 e_1_7
    refine lv_lookup (off := 107) (tgt := 108) hx hb d_Md_isSignByte_1 (by decide) (by rw [lv_osw e_1_0 (a := 35) (by decide)]; rw [lv_osw e_1_1 (a := 40) (by decide)]; rw [lv_osw e_1_2 (a := 41) (by decide)]; rw [lv_osw e_1_3 (a := 42) (by decide)]; rw [lv_osw e_1_4 (a := 43) (by decide)]; rw [lv_osw e_1_5 (a := 44) (by decide)]; rw [lv_osw e_1_6 (a := 45) (by decide)]; rw [e_1_7]; rfl) (by decide) ?_
    refine lv_iconst (v := 1) hx hb d_Md_isSignByte_108 (by decide) ?_
    subst hQ
    have hP9 := hP
    have hD9 := hD
    exact W.zret (v := 1) hx hb hr rfl (fun t ht hW => ⟨⟨1, (), rfl, h, by rw [ht]; exact hP9, va_K.moved hW.alike hK, hD9⟩, hS.F ht⟩) hS.2.2 d_Md_isSignByte_109
  rcases Classical.em ((x0 : Int32) = 60) with e_1_8 | e_1_8
  · have h := h.2.2.2.2.2.2.2.2.1 e_1_8
    refine lv_lookup (off := 107) (tgt := 108) hx hb d_Md_isSignByte_1 (by decide) (by rw [lv_osw e_1_0 (a := 35) (by decide)]; rw [lv_osw e_1_1 (a := 40) (by decide)]; rw [lv_osw e_1_2 (a := 41) (by decide)]; rw [lv_osw e_1_3 (a := 42) (by decide)]; rw [lv_osw e_1_4 (a := 43) (by decide)]; rw [lv_osw e_1_5 (a := 44) (by decide)]; rw [lv_osw e_1_6 (a := 45) (by decide)]; rw [lv_osw e_1_7 (a := 59) (by decide)]; rw [e_1_8]; rfl) (by decide) ?_
    refine lv_iconst (v := 1) hx hb d_Md_isSignByte_108 (by decide) ?_
    subst hQ
    have hP9 := hP
    have hD9 := hD
    exact W.zret (v := 1) hx hb hr rfl (fun t ht hW => ⟨⟨1, (), rfl, h, by rw [ht]; exact hP9, va_K.moved hW.alike hK, hD9⟩, hS.F ht⟩) hS.2.2 d_Md_isSignByte_109
  rcases Classical.em ((x0 : Int32) = 61) with e_1_9 | e_1_9
  · have h := h.2.2.2.2.2.2.2.2.2.1 e_1_9
    refine lv_lookup (off := 107) (tgt := 108) hx hb d_Md_isSignByte_1 (by decide) (by rw [lv_osw e_1_0 (a := 35) (by decide)]; rw [lv_osw e_1_1 (a := 40) (by decide)]; rw [lv_osw e_1_2 (a := 41) (by decide)]; rw [lv_osw e_1_3 (a := 42) (by decide)]; rw [lv_osw e_1_4 (a := 43) (by decide)]; rw [lv_osw e_1_5 (a := 44) (by decide)]; rw [lv_osw e_1_6 (a := 45) (by decide)]; rw [lv_osw e_1_7 (a := 59) (by decide)]; rw [lv_osw e_1_8 (a := 60) (by decide)]; rw [e_1_9]; rfl) (by decide) ?_
    refine lv_iconst (v := 1) hx hb d_Md_isSignByte_108 (by decide) ?_
    subst hQ
    have hP9 := hP
    have hD9 := hD
    exact W.zret (v := 1) hx hb hr rfl (fun t ht hW => ⟨⟨1, (), rfl, h, by rw [ht]; exact hP9, va_K.moved hW.alike hK, hD9⟩, hS.F ht⟩) hS.2.2 d_Md_isSignByte_109
  rcases Classical.em ((x0 : Int32) = 91) with e_1_10 | e_1_10
  · have h := h.2.2.2.2.2.2.2.2.2.2.1 e_1_10
    refine lv_lookup (off := 107) (tgt := 108) hx hb d_Md_isSignByte_1 (by decide) (by rw [lv_osw e_1_0 (a := 35) (by decide)]; rw [lv_osw e_1_1 (a := 40) (by decide)]; rw [lv_osw e_1_2 (a := 41) (by decide)]; rw [lv_osw e_1_3 (a := 42) (by decide)]; rw [lv_osw e_1_4 (a := 43) (by decide)]; rw [lv_osw e_1_5 (a := 44) (by decide)]; rw [lv_osw e_1_6 (a := 45) (by decide)]; rw [lv_osw e_1_7 (a := 59) (by decide)]; rw [lv_osw e_1_8 (a := 60) (by decide)]; rw [lv_osw e_1_9 (a := 61) (by decide)]; rw [e_1_10]; rfl) (by decide) ?_
    refine lv_iconst (v := 1) hx hb d_Md_isSignByte_108 (by decide) ?_
    subst hQ
    have hP9 := hP
    have hD9 := hD
    exact W.zret (v := 1) hx hb hr rfl (fun t ht hW => ⟨⟨1, (), rfl, h, by rw [ht]; exact hP9, va_K.moved hW.alike hK, hD9⟩, hS.F ht⟩) hS.2.2 d_Md_isSignByte_109
  rcases Classical.em ((x0 : Int32) = 93) with e_1_11 | e_1_11
  · have h := h.2.2.2.2.2.2.2.2.2.2.2.1 e_1_11
    refine lv_lookup (off := 107) (tgt := 108) hx hb d_Md_isSignByte_1 (by decide) (by rw [lv_osw e_1_0 (a := 35) (by decide)]; rw [lv_osw e_1_1 (a := 40) (by decide)]; rw [lv_osw e_1_2 (a := 41) (by decide)]; rw [lv_osw e_1_3 (a := 42) (by decide)]; rw [lv_osw e_1_4 (a := 43) (by decide)]; rw [lv_osw e_1_5 (a := 44) (by decide)]; rw [lv_osw e_1_6 (a := 45) (by decide)]; rw [lv_osw e_1_7 (a := 59) (by decide)]; rw [lv_osw e_1_8 (a := 60) (by decide)]; rw [lv_osw e_1_9 (a := 61) (by decide)]; rw [lv_osw e_1_10 (a := 91) (by decide)]; rw [e_1_11]; rfl) (by decide) ?_
    refine lv_iconst (v := 1) hx hb d_Md_isSignByte_108 (by decide) ?_
    subst hQ
    have hP9 := hP
    have hD9 := hD
    exact W.zret (v := 1) hx hb hr rfl (fun t ht hW => ⟨⟨1, (), rfl, h, by rw [ht]; exact hP9, va_K.moved hW.alike hK, hD9⟩, hS.F ht⟩) hS.2.2 d_Md_isSignByte_109
  have h := h.2.2.2.2.2.2.2.2.2.2.2.2 e_1_0 e_1_1 e_1_2 e_1_3 e_1_4 e_1_5 e_1_6 e_1_7 e_1_8 e_1_9 e_1_10 e_1_11
  refine lv_lookup (off := 109) (tgt := 110) hx hb d_Md_isSignByte_1 (by decide) (by rw [lv_osw e_1_0 (a := 35) (by decide)]; rw [lv_osw e_1_1 (a := 40) (by decide)]; rw [lv_osw e_1_2 (a := 41) (by decide)]; rw [lv_osw e_1_3 (a := 42) (by decide)]; rw [lv_osw e_1_4 (a := 43) (by decide)]; rw [lv_osw e_1_5 (a := 44) (by decide)]; rw [lv_osw e_1_6 (a := 45) (by decide)]; rw [lv_osw e_1_7 (a := 59) (by decide)]; rw [lv_osw e_1_8 (a := 60) (by decide)]; rw [lv_osw e_1_9 (a := 61) (by decide)]; rw [lv_osw e_1_10 (a := 91) (by decide)]; rw [lv_osw e_1_11 (a := 93) (by decide)]; rfl) (by decide) ?_
  refine lv_iconst (v := 0) hx hb d_Md_isSignByte_110 (by decide) ?_
  subst hQ
  have hP9 := hP
  have hD9 := hD
  exact W.zret (v := 0) hx hb hr rfl (fun t ht hW => ⟨⟨0, (), rfl, h, by rw [ht]; exact hP9, va_K.moved hW.alike hK, hD9⟩, hS.F ht⟩) hS.2.2 d_Md_isSignByte_111
def wp_Md_wordOf (x0 : Int64) (post : Int32 → Prop) : Prop :=
  ((¬ (lg_cmp x0 422608071022 : Int32) = 0 → ((¬ (lg_cmp x0 2003330414 : Int32) = 0 → ((¬ (lg_cmp x0 25711 : Int32) = 0 → ((¬ (lg_cmp x0 1735352684 : Int32) = 0 → ((¬ (lg_cmp x0 444351214451 : Int32) = 0 → ((¬ (lg_cmp x0 1918987883 : Int32) = 0 → ((¬ (lg_cmp x0 28530 : Int32) = 0 → ((¬ (lg_cmp x0 6385252 : Int32) = 0 → ((¬ (lg_cmp x0 7237492 : Int32) = 0 → ((¬ (lg_cmp x0 97 : Int32) = 0 → ((¬ (lg_cmp x0 98 : Int32) = 0 → ((¬ (lg_cmp x0 99 : Int32) = 0 → post (-1)) ∧ ((lg_cmp x0 99 : Int32) = 0 → post 11))) ∧ ((lg_cmp x0 98 : Int32) = 0 → post 10))) ∧ ((lg_cmp x0 97 : Int32) = 0 → post 9))) ∧ ((lg_cmp x0 7237492 : Int32) = 0 → post 8))) ∧ ((lg_cmp x0 6385252 : Int32) = 0 → post 7))) ∧ ((lg_cmp x0 28530 : Int32) = 0 → post 6))) ∧ ((lg_cmp x0 1918987883 : Int32) = 0 → post 5))) ∧ ((lg_cmp x0 444351214451 : Int32) = 0 → post 4))) ∧ ((lg_cmp x0 1735352684 : Int32) = 0 → post 3))) ∧ ((lg_cmp x0 25711 : Int32) = 0 → post 2))) ∧ ((lg_cmp x0 2003330414 : Int32) = 0 → post 1))) ∧ ((lg_cmp x0 422608071022 : Int32) = 0 → post 0))
set_option maxHeartbeats 4000000 in
set_option maxRecDepth 100000 in
theorem c_Md_wordOf (l : Launch) (dC : Nat → ClassId) (dI : Nat → Nat → Nat) (cI cB cZ : ClassId) (adK adV : Nat → Nat) (sz : Nat) (x0 : Int64) (post : Int32 → Prop) (h : wp_Md_wordOf x0 post) : Met l y_Md_wordOf w_Md_wordOf ({ frames := 0, cells := 0, slots := 0, locals := 0 }) (pc_ (dC, dI) [(cI, .int), (cB, .byte), (cZ, .boolean)] [] sz adK adV [.long x0]) (va_Qi (fun (r : Int32) (u : Unit) => post r ) (fun (u : Unit) t => bw_ (dC, dI) [(cI, .int), (cB, .byte), (cZ, .boolean)] (va_A [] sz) [] t) (va_A [] sz)) 0 0 (va_A [] sz) := by
  refine Met.ofW (cc := b_Md_wordOf) (maxL := 2) (ret := (some .int)) (by decide) rfl ?_
  intro p e s m args below meth c s₁ B hml hv
  obtain ⟨rfl, hsz, hP, hK, hD0, hN, hT⟩ := hv
  have hx := B.exec
  have hb := B.bytes
  have hr := B.returns
  have hts := atoms_spec (ws := w_Md_wordOf) B.pre
  have hown : s.vm.findClass "LoopInductionModel" = some m.cls := findClass_of_methodNamed B.named
  have hlocks := B.notSynchronized
  subst hsz
  have hD := hD0.self (sz := s.heap.size)
  generalize hAe : va_A [] s.heap.size = A at hD hT ⊢
  have hA : ∀ q : Nat, s.heap.size ≤ q → A q := fun q h => by rw [← hAe]; exact Or.inr h
  have hS : va_S A s.heap s.heap [] := va_S.rf
  generalize hQ : MQ below _ _ s 0 0 _ = QQ
  have hl := lv_entry ([.long x0]) (n := 2) (Nat.le_of_ble_eq_true rfl)
  rw [lg_entry_eq]
  generalize (lg_sl ([.long x0]) ++ List.replicate (2 - (lg_sl ([.long x0])).length) Slot.unset).toArray = ls at hl ⊢
  have hl : lv_has ls 2 [(0, .long x0)] := hl
  refine lv_lload_n hx hb d_Md_wordOf_0 rfl (lv_at hl 0 rfl) ?_
  refine lv_ldc2 hx hb hown (hts _ (List.mem_cons_of_mem _ m_1242)) d_Md_wordOf_1 ?_
  refine W.lcmp hx hb d_Md_wordOf_4 ?_
  refine lv_if_ne (tgt := 10) hx hb d_Md_wordOf_5 (by decide) (fun c_5 => ?_) (fun c_5 => ?_)
  · have h := And.left h c_5
    refine lv_lload_n hx hb d_Md_wordOf_10 rfl (lv_at hl 0 rfl) ?_
    refine lv_ldc2 hx hb hown (hts _ (List.mem_cons_of_mem _ m_1243)) d_Md_wordOf_11 ?_
    refine W.lcmp hx hb d_Md_wordOf_14 ?_
    refine lv_if_ne (tgt := 20) hx hb d_Md_wordOf_15 (by decide) (fun c_15 => ?_) (fun c_15 => ?_)
    · have h := And.left h c_15
      refine lv_lload_n hx hb d_Md_wordOf_20 rfl (lv_at hl 0 rfl) ?_
      refine lv_ldc2 hx hb hown (hts _ (List.mem_cons_of_mem _ m_1244)) d_Md_wordOf_21 ?_
      refine W.lcmp hx hb d_Md_wordOf_24 ?_
      refine lv_if_ne (tgt := 30) hx hb d_Md_wordOf_25 (by decide) (fun c_25 => ?_) (fun c_25 => ?_)
      · have h := And.left h c_25
        refine lv_lload_n hx hb d_Md_wordOf_30 rfl (lv_at hl 0 rfl) ?_
        refine lv_ldc2 hx hb hown (hts _ (List.mem_cons_of_mem _ m_1245)) d_Md_wordOf_31 ?_
        refine W.lcmp hx hb d_Md_wordOf_34 ?_
        refine lv_if_ne (tgt := 40) hx hb d_Md_wordOf_35 (by decide) (fun c_35 => ?_) (fun c_35 => ?_)
        · have h := And.left h c_35
          refine lv_lload_n hx hb d_Md_wordOf_40 rfl (lv_at hl 0 rfl) ?_
          refine lv_ldc2 hx hb hown (hts _ (List.mem_cons_of_mem _ m_1246)) d_Md_wordOf_41 ?_
          refine W.lcmp hx hb d_Md_wordOf_44 ?_
          refine lv_if_ne (tgt := 50) hx hb d_Md_wordOf_45 (by decide) (fun c_45 => ?_) (fun c_45 => ?_)
          · have h := And.left h c_45
            refine lv_lload_n hx hb d_Md_wordOf_50 rfl (lv_at hl 0 rfl) ?_
            refine lv_ldc2 hx hb hown (hts _ (List.mem_cons_of_mem _ m_1247)) d_Md_wordOf_51 ?_
            refine W.lcmp hx hb d_Md_wordOf_54 ?_
            refine lv_if_ne (tgt := 60) hx hb d_Md_wordOf_55 (by decide) (fun c_55 => ?_) (fun c_55 => ?_)
            · have h := And.left h c_55
              refine lv_lload_n hx hb d_Md_wordOf_60 rfl (lv_at hl 0 rfl) ?_
              refine lv_ldc2 hx hb hown (hts _ (List.mem_cons_of_mem _ m_1248)) d_Md_wordOf_61 ?_
              refine W.lcmp hx hb d_Md_wordOf_64 ?_
              refine lv_if_ne (tgt := 71) hx hb d_Md_wordOf_65 (by decide) (fun c_65 => ?_) (fun c_65 => ?_)
              · have h := And.left h c_65
                refine lv_lload_n hx hb d_Md_wordOf_71 rfl (lv_at hl 0 rfl) ?_
                refine lv_ldc2 hx hb hown (hts _ (List.mem_cons_of_mem _ m_1249)) d_Md_wordOf_72 ?_
                refine W.lcmp hx hb d_Md_wordOf_75 ?_
                refine lv_if_ne (tgt := 82) hx hb d_Md_wordOf_76 (by decide) (fun c_76 => ?_) (fun c_76 => ?_)
                · have h := And.left h c_76
                  refine lv_lload_n hx hb d_Md_wordOf_82 rfl (lv_at hl 0 rfl) ?_
                  refine lv_ldc2 hx hb hown (hts _ (List.mem_cons_of_mem _ m_1250)) d_Md_wordOf_83 ?_
                  refine W.lcmp hx hb d_Md_wordOf_86 ?_
                  refine lv_if_ne (tgt := 93) hx hb d_Md_wordOf_87 (by decide) (fun c_87 => ?_) (fun c_87 => ?_)
                  · have h := And.left h c_87
                    refine lv_lload_n hx hb d_Md_wordOf_93 rfl (lv_at hl 0 rfl) ?_
                    refine lv_ldc2 hx hb hown (hts _ (List.mem_cons_of_mem _ m_1251)) d_Md_wordOf_94 ?_
                    refine W.lcmp hx hb d_Md_wordOf_97 ?_
                    refine lv_if_ne (tgt := 104) hx hb d_Md_wordOf_98 (by decide) (fun c_98 => ?_) (fun c_98 => ?_)
                    · have h := And.left h c_98
                      refine lv_lload_n hx hb d_Md_wordOf_104 rfl (lv_at hl 0 rfl) ?_
                      refine lv_ldc2 hx hb hown (hts _ (List.mem_cons_of_mem _ m_1252)) d_Md_wordOf_105 ?_
                      refine W.lcmp hx hb d_Md_wordOf_108 ?_
                      refine lv_if_ne (tgt := 115) hx hb d_Md_wordOf_109 (by decide) (fun c_109 => ?_) (fun c_109 => ?_)
                      · have h := And.left h c_109
                        refine lv_lload_n hx hb d_Md_wordOf_115 rfl (lv_at hl 0 rfl) ?_
                        refine lv_ldc2 hx hb hown (hts _ (List.mem_cons_of_mem _ m_1253)) d_Md_wordOf_116 ?_
                        refine W.lcmp hx hb d_Md_wordOf_119 ?_
                        refine lv_if_ne (tgt := 126) hx hb d_Md_wordOf_120 (by decide) (fun c_120 => ?_) (fun c_120 => ?_)
                        · have h := And.left h c_120
                          refine lv_iconst (v := (-1)) hx hb d_Md_wordOf_126 (by decide) ?_
                          subst hQ
                          have hP9 := hP
                          have hD9 := hD
                          exact W.iret (v := (-1)) hx hb hr (fun t ht hW => ⟨⟨(-1), (), rfl, h, by rw [ht]; exact hP9, va_K.moved hW.alike hK, hD9⟩, hS.F ht⟩) hS.2.2 d_Md_wordOf_127
                        · have h := And.right h c_120
                          refine lv_bipush (v := 11) hx hb d_Md_wordOf_123 (by decide) ?_
                          subst hQ
                          have hP9 := hP
                          have hD9 := hD
                          exact W.iret (v := 11) hx hb hr (fun t ht hW => ⟨⟨11, (), rfl, h, by rw [ht]; exact hP9, va_K.moved hW.alike hK, hD9⟩, hS.F ht⟩) hS.2.2 d_Md_wordOf_125
                      · have h := And.right h c_109
                        refine lv_bipush (v := 10) hx hb d_Md_wordOf_112 (by decide) ?_
                        subst hQ
                        have hP9 := hP
                        have hD9 := hD
                        exact W.iret (v := 10) hx hb hr (fun t ht hW => ⟨⟨10, (), rfl, h, by rw [ht]; exact hP9, va_K.moved hW.alike hK, hD9⟩, hS.F ht⟩) hS.2.2 d_Md_wordOf_114
                    · have h := And.right h c_98
                      refine lv_bipush (v := 9) hx hb d_Md_wordOf_101 (by decide) ?_
                      subst hQ
                      have hP9 := hP
                      have hD9 := hD
                      exact W.iret (v := 9) hx hb hr (fun t ht hW => ⟨⟨9, (), rfl, h, by rw [ht]; exact hP9, va_K.moved hW.alike hK, hD9⟩, hS.F ht⟩) hS.2.2 d_Md_wordOf_103
                  · have h := And.right h c_87
                    refine lv_bipush (v := 8) hx hb d_Md_wordOf_90 (by decide) ?_
                    subst hQ
                    have hP9 := hP
                    have hD9 := hD
                    exact W.iret (v := 8) hx hb hr (fun t ht hW => ⟨⟨8, (), rfl, h, by rw [ht]; exact hP9, va_K.moved hW.alike hK, hD9⟩, hS.F ht⟩) hS.2.2 d_Md_wordOf_92
                · have h := And.right h c_76
                  refine lv_bipush (v := 7) hx hb d_Md_wordOf_79 (by decide) ?_
                  subst hQ
                  have hP9 := hP
                  have hD9 := hD
                  exact W.iret (v := 7) hx hb hr (fun t ht hW => ⟨⟨7, (), rfl, h, by rw [ht]; exact hP9, va_K.moved hW.alike hK, hD9⟩, hS.F ht⟩) hS.2.2 d_Md_wordOf_81
              · have h := And.right h c_65
                refine lv_bipush (v := 6) hx hb d_Md_wordOf_68 (by decide) ?_
                subst hQ
                have hP9 := hP
                have hD9 := hD
                exact W.iret (v := 6) hx hb hr (fun t ht hW => ⟨⟨6, (), rfl, h, by rw [ht]; exact hP9, va_K.moved hW.alike hK, hD9⟩, hS.F ht⟩) hS.2.2 d_Md_wordOf_70
            · have h := And.right h c_55
              refine lv_iconst (v := 5) hx hb d_Md_wordOf_58 (by decide) ?_
              subst hQ
              have hP9 := hP
              have hD9 := hD
              exact W.iret (v := 5) hx hb hr (fun t ht hW => ⟨⟨5, (), rfl, h, by rw [ht]; exact hP9, va_K.moved hW.alike hK, hD9⟩, hS.F ht⟩) hS.2.2 d_Md_wordOf_59
          · have h := And.right h c_45
            refine lv_iconst (v := 4) hx hb d_Md_wordOf_48 (by decide) ?_
            subst hQ
            have hP9 := hP
            have hD9 := hD
            exact W.iret (v := 4) hx hb hr (fun t ht hW => ⟨⟨4, (), rfl, h, by rw [ht]; exact hP9, va_K.moved hW.alike hK, hD9⟩, hS.F ht⟩) hS.2.2 d_Md_wordOf_49
        · have h := And.right h c_35
          refine lv_iconst (v := 3) hx hb d_Md_wordOf_38 (by decide) ?_
          subst hQ
          have hP9 := hP
          have hD9 := hD
          exact W.iret (v := 3) hx hb hr (fun t ht hW => ⟨⟨3, (), rfl, h, by rw [ht]; exact hP9, va_K.moved hW.alike hK, hD9⟩, hS.F ht⟩) hS.2.2 d_Md_wordOf_39
      · have h := And.right h c_25
        refine lv_iconst (v := 2) hx hb d_Md_wordOf_28 (by decide) ?_
        subst hQ
        have hP9 := hP
        have hD9 := hD
        exact W.iret (v := 2) hx hb hr (fun t ht hW => ⟨⟨2, (), rfl, h, by rw [ht]; exact hP9, va_K.moved hW.alike hK, hD9⟩, hS.F ht⟩) hS.2.2 d_Md_wordOf_29
    · have h := And.right h c_15
      refine lv_iconst (v := 1) hx hb d_Md_wordOf_18 (by decide) ?_
      subst hQ
      have hP9 := hP
      have hD9 := hD
      exact W.iret (v := 1) hx hb hr (fun t ht hW => ⟨⟨1, (), rfl, h, by rw [ht]; exact hP9, va_K.moved hW.alike hK, hD9⟩, hS.F ht⟩) hS.2.2 d_Md_wordOf_19
  · have h := And.right h c_5
    refine lv_iconst (v := 0) hx hb d_Md_wordOf_8 (by decide) ?_
    subst hQ
    have hP9 := hP
    have hD9 := hD
    exact W.iret (v := 0) hx hb hr (fun t ht hW => ⟨⟨0, (), rfl, h, by rw [ht]; exact hP9, va_K.moved hW.alike hK, hD9⟩, hS.F ht⟩) hS.2.2 d_Md_wordOf_9
def wp_Md_nextToken_L0 (md_size : Int32) (md_tape : Nat → Int32) (k39 : (Int32) → Prop) : Nat → (Int32) → Prop
  | 0, _ => False
  | n + 1, md_at =>
    wp_Md_byteAt md_at md_size md_tape (fun r_1 => (((r_1 : Int32) = (32 : Int32) → wp_Md_nextToken_L0 md_size md_tape k39 n (md_at + 1)) ∧ (¬ (r_1 : Int32) = (32 : Int32) → wp_Md_byteAt md_at md_size md_tape (fun r_2 => ((¬ (r_2 : Int32) = (10 : Int32) → k39 md_at) ∧ ((r_2 : Int32) = (10 : Int32) → wp_Md_nextToken_L0 md_size md_tape k39 n (md_at + 1)))))))
def wp_Md_nextToken_L185 (x1 : Int32) (md_size : Int32) (md_tape : Nat → Int32) (k249 : Int32 → (Int32) → (Int32) → Prop) : Nat → Int32 → (Int32) → (Int32) → Prop
  | 0, _, _, _ => False
  | n + 1, x2, md_at, md_number =>
    wp_Md_byteAt md_at md_size md_tape (fun r_1 => wp_Md_isFigure r_1 (fun r_2 => (((r_2 : Int32) = 0 → k249 x2 md_at md_number) ∧ (¬ (r_2 : Int32) = 0 → (((4 : Int32) ≤ (x2 : Int32) → wp_Md_nextToken_L185 x1 md_size md_tape k249 n (x2 + 1) (md_at + 1) 9999) ∧ (¬ (4 : Int32) ≤ (x2 : Int32) → wp_Md_byteAt md_at md_size md_tape (fun r_3 => wp_Md_nextToken_L185 x1 md_size md_tape k249 n (x2 + 1) (md_at + 1) (((10 * md_number) + r_3) - 48))))))))
def wp_Md_nextToken_L79 (md_size : Int32) (md_tape : Nat → Int32) (k134 : Int32 → Int64 → (Int32) → Prop) : Nat → Int32 → Int64 → (Int32) → Prop
  | 0, _, _, _ => False
  | n + 1, x2, x3, md_at =>
    wp_Md_byteAt md_at md_size md_tape (fun r_1 => wp_Md_isSmall r_1 (fun r_2 => (((r_2 : Int32) = 0 → k134 x2 x3 md_at) ∧ (¬ (r_2 : Int32) = 0 → (((7 : Int32) ≤ (x2 : Int32) → wp_Md_nextToken_L79 md_size md_tape k134 n (x2 + 1) x3 (md_at + 1)) ∧ (¬ (7 : Int32) ≤ (x2 : Int32) → wp_Md_byteAt md_at md_size md_tape (fun r_3 => (∀ x3_4 : Int64, x3_4 = ((x3 <<< ((8 : Int32).toInt64 &&& 63)) ||| ((r_3 : Int32).toInt64)) → wp_Md_nextToken_L79 md_size md_tape k134 n (x2 + 1) x3_4 (md_at + 1)))))))))
def wp_Md_nextToken (md_size : Int32) (md_at : Int32) (md_token : Int32) (md_tokenPlace : Int32) (md_number : Int32) (md_sign : Int32) (md_tape : Nat → Int32) (post : Int32 → Int32 → Int32 → Int32 → Int32 → Prop) : Prop :=
  ∃ n_17, wp_Md_nextToken_L0 md_size md_tape (fun md_at_3 => wp_Md_byteAt md_at_3 md_size md_tape (fun r_4 => ((0 ≤ (r_4 : Int32) → wp_Md_isSmall r_4 (fun r_5 => (((r_5 : Int32) = 0 → wp_Md_isFigure r_4 (fun r_6 => (((r_6 : Int32) = 0 → wp_Md_isSignByte r_4 (fun r_7 => (((r_7 : Int32) = 0 → post (md_at_3 + 1) 1 md_at_3 md_number r_4) ∧ (¬ (r_7 : Int32) = 0 → post (md_at_3 + 1) 3 md_at_3 md_number r_4)))) ∧ (¬ (r_6 : Int32) = 0 → ∃ n_11, wp_Md_nextToken_L185 r_4 md_size md_tape (fun x2_8 md_at_9 md_number_10 => (((15 : Int32) < (md_number_10 : Int32) → post md_at_9 1 md_at_3 md_number_10 md_sign) ∧ (¬ (15 : Int32) < (md_number_10 : Int32) → (((x2_8 : Int32) ≤ (1 : Int32) → post md_at_9 2 md_at_3 md_number_10 md_sign) ∧ (¬ (x2_8 : Int32) ≤ (1 : Int32) → ((¬ (r_4 : Int32) = (48 : Int32) → post md_at_9 2 md_at_3 md_number_10 md_sign) ∧ ((r_4 : Int32) = (48 : Int32) → post md_at_9 1 md_at_3 md_number_10 md_sign))))))) n_11 0 md_at_3 0)))) ∧ (¬ (r_5 : Int32) = 0 → ∃ n_16, wp_Md_nextToken_L79 md_size md_tape (fun x2_12 x3_13 md_at_14 => (((7 : Int32) ≤ (x2_12 : Int32) → post md_at_14 1 md_at_3 md_number md_sign) ∧ (¬ (7 : Int32) ≤ (x2_12 : Int32) → wp_Md_wordOf x3_13 (fun r_15 => ((0 ≤ (r_15 : Int32) → post md_at_14 (10 + r_15) md_at_3 md_number md_sign) ∧ (¬ 0 ≤ (r_15 : Int32) → post md_at_14 1 md_at_3 md_number md_sign)))))) n_16 0 0 md_at_3)))) ∧ (¬ 0 ≤ (r_4 : Int32) → post md_at_3 0 md_at_3 md_number md_sign)))) n_17 md_at
set_option maxHeartbeats 4000000 in
set_option maxRecDepth 100000 in
theorem c_Md_nextToken (l : Launch) (dC : Nat → ClassId) (dI : Nat → Nat → Nat) (cI cB cZ : ClassId) (adK adV : Nat → Nat) (sz : Nat) (a_md a_md_tape a_md_acts a_md_actNumbers a_md_actCounts a_md_pile a_md_begins a_md_goals a_md_ranks a_md_choiceCounts a_md_whens a_md_becomes a_md_guessCounts a_md_guesses a_md_unaryCounts a_md_stack a_md_nexts a_md_isBegin a_md_isGoal a_md_levels a_md_queue a_md_hasGuesses a_md_rounds a_md_marked a_md_other a_md_heights : Nat) (md_size : Int32) (md_at : Int32) (md_token : Int32) (md_tokenPlace : Int32) (md_number : Int32) (md_sign : Int32) (md_bad : Int32) (md_faultPlace : Int32) (md_place : Int32) (md_bank : Int32) (md_unaries : Int32) (md_opens : Int32) (md_piled : Int32) (md_loop : Int32) (md_keptBits : Int32) (md_tape : Nat → Int32) (post : Int32 → Int32 → Int32 → Int32 → Int32 → Prop) (h : wp_Md_nextToken md_size md_at md_token md_tokenPlace md_number md_sign md_tape post) : Met l y_Md_nextToken w_Md_nextToken ({ frames := 1, cells := 0, slots := 0, locals := 21 }) (pc_ (dC, dI) [(cI, .int), (cB, .byte), (cZ, .boolean)] [(a_md, .inr (11, [.ref a_md_tape, .int md_size, .int md_at, .int md_token, .int md_tokenPlace, .int md_number, .int md_sign, .int md_bad, .int md_faultPlace, .int md_place, .ref a_md_acts, .ref a_md_actNumbers, .ref a_md_actCounts, .int md_bank, .int md_unaries, .int md_opens, .ref a_md_pile, .int md_piled, .int md_loop, .ref a_md_begins, .ref a_md_goals, .ref a_md_ranks, .ref a_md_choiceCounts, .ref a_md_whens, .ref a_md_becomes, .ref a_md_guessCounts, .ref a_md_guesses, .ref a_md_unaryCounts, .ref a_md_stack, .ref a_md_nexts, .ref a_md_isBegin, .ref a_md_isGoal, .ref a_md_levels, .ref a_md_queue, .ref a_md_hasGuesses, .int md_keptBits, .ref a_md_rounds, .ref a_md_marked, .ref a_md_other, .ref a_md_heights])), (a_md_tape, .inl (cB, 1200, .inl md_tape))] sz adK adV [.ref a_md]) (va_Qv (fun (u : Int32 × Int32 × Int32 × Int32 × Int32) => post u.1 u.2.1 u.2.2.1 u.2.2.2.1 u.2.2.2.2) (fun (u : Int32 × Int32 × Int32 × Int32 × Int32) t => bw_ (dC, dI) [(cI, .int), (cB, .byte), (cZ, .boolean)] (va_A [(a_md, .inr (11, [.ref a_md_tape, .int md_size, .int md_at, .int md_token, .int md_tokenPlace, .int md_number, .int md_sign, .int md_bad, .int md_faultPlace, .int md_place, .ref a_md_acts, .ref a_md_actNumbers, .ref a_md_actCounts, .int md_bank, .int md_unaries, .int md_opens, .ref a_md_pile, .int md_piled, .int md_loop, .ref a_md_begins, .ref a_md_goals, .ref a_md_ranks, .ref a_md_choiceCounts, .ref a_md_whens, .ref a_md_becomes, .ref a_md_guessCounts, .ref a_md_guesses, .ref a_md_unaryCounts, .ref a_md_stack, .ref a_md_nexts, .ref a_md_isBegin, .ref a_md_isGoal, .ref a_md_levels, .ref a_md_queue, .ref a_md_hasGuesses, .int md_keptBits, .ref a_md_rounds, .ref a_md_marked, .ref a_md_other, .ref a_md_heights])), (a_md_tape, .inl (cB, 1200, .inl md_tape))] sz) [(a_md, .inr (11, [.ref a_md_tape, .int md_size, .int u.1, .int u.2.1, .int u.2.2.1, .int u.2.2.2.1, .int u.2.2.2.2, .int md_bad, .int md_faultPlace, .int md_place, .ref a_md_acts, .ref a_md_actNumbers, .ref a_md_actCounts, .int md_bank, .int md_unaries, .int md_opens, .ref a_md_pile, .int md_piled, .int md_loop, .ref a_md_begins, .ref a_md_goals, .ref a_md_ranks, .ref a_md_choiceCounts, .ref a_md_whens, .ref a_md_becomes, .ref a_md_guessCounts, .ref a_md_guesses, .ref a_md_unaryCounts, .ref a_md_stack, .ref a_md_nexts, .ref a_md_isBegin, .ref a_md_isGoal, .ref a_md_levels, .ref a_md_queue, .ref a_md_hasGuesses, .int md_keptBits, .ref a_md_rounds, .ref a_md_marked, .ref a_md_other, .ref a_md_heights])), (a_md_tape, .inl (cB, 1200, .inl md_tape))] t) (va_A [(a_md, .inr (11, [.ref a_md_tape, .int md_size, .int md_at, .int md_token, .int md_tokenPlace, .int md_number, .int md_sign, .int md_bad, .int md_faultPlace, .int md_place, .ref a_md_acts, .ref a_md_actNumbers, .ref a_md_actCounts, .int md_bank, .int md_unaries, .int md_opens, .ref a_md_pile, .int md_piled, .int md_loop, .ref a_md_begins, .ref a_md_goals, .ref a_md_ranks, .ref a_md_choiceCounts, .ref a_md_whens, .ref a_md_becomes, .ref a_md_guessCounts, .ref a_md_guesses, .ref a_md_unaryCounts, .ref a_md_stack, .ref a_md_nexts, .ref a_md_isBegin, .ref a_md_isGoal, .ref a_md_levels, .ref a_md_queue, .ref a_md_hasGuesses, .int md_keptBits, .ref a_md_rounds, .ref a_md_marked, .ref a_md_other, .ref a_md_heights])), (a_md_tape, .inl (cB, 1200, .inl md_tape))] sz)) 0 0 (va_A [(a_md, .inr (11, [.ref a_md_tape, .int md_size, .int md_at, .int md_token, .int md_tokenPlace, .int md_number, .int md_sign, .int md_bad, .int md_faultPlace, .int md_place, .ref a_md_acts, .ref a_md_actNumbers, .ref a_md_actCounts, .int md_bank, .int md_unaries, .int md_opens, .ref a_md_pile, .int md_piled, .int md_loop, .ref a_md_begins, .ref a_md_goals, .ref a_md_ranks, .ref a_md_choiceCounts, .ref a_md_whens, .ref a_md_becomes, .ref a_md_guessCounts, .ref a_md_guesses, .ref a_md_unaryCounts, .ref a_md_stack, .ref a_md_nexts, .ref a_md_isBegin, .ref a_md_isGoal, .ref a_md_levels, .ref a_md_queue, .ref a_md_hasGuesses, .int md_keptBits, .ref a_md_rounds, .ref a_md_marked, .ref a_md_other, .ref a_md_heights])), (a_md_tape, .inl (cB, 1200, .inl md_tape))] sz) := by
  refine Met.ofW (cc := b_Md_nextToken) (maxL := 6) (ret := none) (by decide) rfl ?_
  intro p e s m args below meth c s₁ B hml hv
  obtain ⟨rfl, hsz, hP, hK, hD0, hN, hT⟩ := hv
  have hx := B.exec
  have hb := B.bytes
  have hr := B.returns
  have hts := atoms_spec (ws := w_Md_nextToken) B.pre
  have hown : s.vm.findClass "LoopInductionModel" = some m.cls := findClass_of_methodNamed B.named
  have hlocks := B.notSynchronized
  subst hsz
  have hD := hD0.self (sz := s.heap.size)
  generalize hAe : va_A [(a_md, .inr (11, [.ref a_md_tape, .int md_size, .int md_at, .int md_token, .int md_tokenPlace, .int md_number, .int md_sign, .int md_bad, .int md_faultPlace, .int md_place, .ref a_md_acts, .ref a_md_actNumbers, .ref a_md_actCounts, .int md_bank, .int md_unaries, .int md_opens, .ref a_md_pile, .int md_piled, .int md_loop, .ref a_md_begins, .ref a_md_goals, .ref a_md_ranks, .ref a_md_choiceCounts, .ref a_md_whens, .ref a_md_becomes, .ref a_md_guessCounts, .ref a_md_guesses, .ref a_md_unaryCounts, .ref a_md_stack, .ref a_md_nexts, .ref a_md_isBegin, .ref a_md_isGoal, .ref a_md_levels, .ref a_md_queue, .ref a_md_hasGuesses, .int md_keptBits, .ref a_md_rounds, .ref a_md_marked, .ref a_md_other, .ref a_md_heights])), (a_md_tape, .inl (cB, 1200, .inl md_tape))] s.heap.size = A at hD hT ⊢
  have hA : ∀ q : Nat, s.heap.size ≤ q → A q := fun q h => by rw [← hAe]; exact Or.inr h
  have hS : va_S A s.heap s.heap [] := va_S.rf
  generalize hQ : MQ below _ _ s 0 0 _ = QQ
  have hl := lv_entry ([.ref a_md]) (n := 6) (Nat.le_of_ble_eq_true rfl)
  rw [lg_entry_eq]
  generalize (lg_sl ([.ref a_md]) ++ List.replicate (6 - (lg_sl ([.ref a_md])).length) Slot.unset).toArray = ls at hl ⊢
  have hl : lv_has ls 6 [(0, .ref a_md)] := hl
  have fl_121 := (hts _ (List.mem_cons_of_mem _ m_1092))
  have fl_128 := (hts _ (List.mem_cons_of_mem _ m_1094))
  have fl_131 := (hts _ (List.mem_cons_of_mem _ m_1093))
  have fl_145 := (hts _ (List.mem_cons_of_mem _ m_1095))
  have fl_148 := (hts _ (List.mem_cons_of_mem _ m_1096))
  have L0_q_2 : ∀ (k39 : (Int32) → Prop) (hk39 : ∀ (md_at_3 : Int32), k39 md_at_3 → ∀ (H : Heap) (locs : List Loc), va_P (dC, dI) vwCl [(a_md, .inr (11, [.ref a_md_tape, .int md_size, .int md_at_3, .int md_token, .int md_tokenPlace, .int md_number, .int md_sign, .int md_bad, .int md_faultPlace, .int md_place, .ref a_md_acts, .ref a_md_actNumbers, .ref a_md_actCounts, .int md_bank, .int md_unaries, .int md_opens, .ref a_md_pile, .int md_piled, .int md_loop, .ref a_md_begins, .ref a_md_goals, .ref a_md_ranks, .ref a_md_choiceCounts, .ref a_md_whens, .ref a_md_becomes, .ref a_md_guessCounts, .ref a_md_guesses, .ref a_md_unaryCounts, .ref a_md_stack, .ref a_md_nexts, .ref a_md_isBegin, .ref a_md_isGoal, .ref a_md_levels, .ref a_md_queue, .ref a_md_hasGuesses, .int md_keptBits, .ref a_md_rounds, .ref a_md_marked, .ref a_md_other, .ref a_md_heights])), (a_md_tape, .inl (cB, 1200, .inl md_tape))] H → va_D A [(a_md, .inr (11, [.ref a_md_tape, .int md_size, .int md_at_3, .int md_token, .int md_tokenPlace, .int md_number, .int md_sign, .int md_bad, .int md_faultPlace, .int md_place, .ref a_md_acts, .ref a_md_actNumbers, .ref a_md_actCounts, .int md_bank, .int md_unaries, .int md_opens, .ref a_md_pile, .int md_piled, .int md_loop, .ref a_md_begins, .ref a_md_goals, .ref a_md_ranks, .ref a_md_choiceCounts, .ref a_md_whens, .ref a_md_becomes, .ref a_md_guessCounts, .ref a_md_guesses, .ref a_md_unaryCounts, .ref a_md_stack, .ref a_md_nexts, .ref a_md_isBegin, .ref a_md_isGoal, .ref a_md_levels, .ref a_md_queue, .ref a_md_hasGuesses, .int md_keptBits, .ref a_md_rounds, .ref a_md_marked, .ref a_md_other, .ref a_md_heights])), (a_md_tape, .inl (cB, 1200, .inl md_tape))] → va_S A s.heap H locs → ∀ ls : Array Slot, lv_has ls 6 [(0, .ref a_md)] → W p l e (headSpec w_Md_nextToken ({ frames := 1, cells := 0, slots := 0, locals := 21 })).room s m (([.ref a_md] : List Value).toArray) below meth c H locs 0 0 QQ (F0 m 39 ls [])) (n : Nat) (md_at_1 : Int32), wp_Md_nextToken_L0 md_size md_tape k39 n md_at_1 → ∀ (H : Heap) (locs : List Loc), va_P (dC, dI) vwCl [(a_md, .inr (11, [.ref a_md_tape, .int md_size, .int md_at_1, .int md_token, .int md_tokenPlace, .int md_number, .int md_sign, .int md_bad, .int md_faultPlace, .int md_place, .ref a_md_acts, .ref a_md_actNumbers, .ref a_md_actCounts, .int md_bank, .int md_unaries, .int md_opens, .ref a_md_pile, .int md_piled, .int md_loop, .ref a_md_begins, .ref a_md_goals, .ref a_md_ranks, .ref a_md_choiceCounts, .ref a_md_whens, .ref a_md_becomes, .ref a_md_guessCounts, .ref a_md_guesses, .ref a_md_unaryCounts, .ref a_md_stack, .ref a_md_nexts, .ref a_md_isBegin, .ref a_md_isGoal, .ref a_md_levels, .ref a_md_queue, .ref a_md_hasGuesses, .int md_keptBits, .ref a_md_rounds, .ref a_md_marked, .ref a_md_other, .ref a_md_heights])), (a_md_tape, .inl (cB, 1200, .inl md_tape))] H → va_D A [(a_md, .inr (11, [.ref a_md_tape, .int md_size, .int md_at_1, .int md_token, .int md_tokenPlace, .int md_number, .int md_sign, .int md_bad, .int md_faultPlace, .int md_place, .ref a_md_acts, .ref a_md_actNumbers, .ref a_md_actCounts, .int md_bank, .int md_unaries, .int md_opens, .ref a_md_pile, .int md_piled, .int md_loop, .ref a_md_begins, .ref a_md_goals, .ref a_md_ranks, .ref a_md_choiceCounts, .ref a_md_whens, .ref a_md_becomes, .ref a_md_guessCounts, .ref a_md_guesses, .ref a_md_unaryCounts, .ref a_md_stack, .ref a_md_nexts, .ref a_md_isBegin, .ref a_md_isGoal, .ref a_md_levels, .ref a_md_queue, .ref a_md_hasGuesses, .int md_keptBits, .ref a_md_rounds, .ref a_md_marked, .ref a_md_other, .ref a_md_heights])), (a_md_tape, .inl (cB, 1200, .inl md_tape))] → va_S A s.heap H locs → ∀ ls : Array Slot, lv_has ls 6 [(0, .ref a_md)] → W p l e (headSpec w_Md_nextToken ({ frames := 1, cells := 0, slots := 0, locals := 21 })).room s m (([.ref a_md] : List Value).toArray) below meth c H locs 0 0 QQ (F0 m 0 ls []) := by
    intro k39 hk39 n
    induction n with
    | zero => intro md_at_1 h; exact (show False from h).elim
    | succ n il =>
      intro md_at_1 h H locs hP hD hS ls hl
      refine lv_aload_n hx hb d_Md_nextToken_0 rfl (lv_at hl 0 rfl) ?_
      refine lv_aload_n hx hb d_Md_nextToken_1 rfl (lv_at hl 0 rfl) ?_
      refine va_get (D := (dC, dI)) (ci := 11) (v := .int md_at_1) (C := "LoopInductionModel") (T := F_Md) (N := 40) hx hb hts iC_Md hown hK hP 0 rfl rfl 2 (by decide) fl_121 (fun _ h9 => h9) rfl d_Md_nextToken_2 ?_
      refine jn_i (wr := []) (va_runV (As := [.int md_at_1]) (rest := []) ⟨hx, hb, hml, hown, hts⟩ (c_Md_byteAt l dC dI cI cB cZ adK adV _ a_md a_md_tape a_md_acts a_md_actNumbers a_md_actCounts a_md_pile a_md_begins a_md_goals a_md_ranks a_md_choiceCounts a_md_whens a_md_becomes a_md_guessCounts a_md_guesses a_md_unaryCounts a_md_stack a_md_nexts a_md_isBegin a_md_isGoal a_md_levels a_md_queue a_md_hasGuesses a_md_rounds a_md_marked a_md_other a_md_heights md_size md_at_1 md_token md_tokenPlace md_number md_sign md_bad md_faultPlace md_place md_bank md_unaries md_opens md_piled md_loop md_keptBits md_tape md_at_1 _ h) (cwV 1 hts (gv_ m_1232 m_1234 m_53 m_96 m_1235) rfl rfl rfl pd_Md_byteAt ⟨Nat.le_of_ble_eq_true rfl, Nat.le_of_ble_eq_true rfl⟩) ⟨pc_blind, va_recv hK hP (ci := 11) (q0 := 0) rfl rfl, pc_of (hP.sub [0, 1] rfl) hK (hD.sub [0, 1] (by decide) rfl) hN hT hS hA⟩ rfl rfl hl.1 rfl (lv_room (Nat.le_of_ble_eq_true rfl)) d_Md_nextToken_5 ⟨Nat.zero_le _, Nat.zero_le _⟩) hP hD hS hA [0, 1] [] rfl rfl (by decide) (by decide) (fun r_4 u_ H locs h hP hD hS => ?_)
      have hP : va_P (dC, dI) vwCl [(a_md, .inr (11, [.ref a_md_tape, .int md_size, .int md_at_1, .int md_token, .int md_tokenPlace, .int md_number, .int md_sign, .int md_bad, .int md_faultPlace, .int md_place, .ref a_md_acts, .ref a_md_actNumbers, .ref a_md_actCounts, .int md_bank, .int md_unaries, .int md_opens, .ref a_md_pile, .int md_piled, .int md_loop, .ref a_md_begins, .ref a_md_goals, .ref a_md_ranks, .ref a_md_choiceCounts, .ref a_md_whens, .ref a_md_becomes, .ref a_md_guessCounts, .ref a_md_guesses, .ref a_md_unaryCounts, .ref a_md_stack, .ref a_md_nexts, .ref a_md_isBegin, .ref a_md_isGoal, .ref a_md_levels, .ref a_md_queue, .ref a_md_hasGuesses, .int md_keptBits, .ref a_md_rounds, .ref a_md_marked, .ref a_md_other, .ref a_md_heights])), (a_md_tape, .inl (cB, 1200, .inl md_tape))] H := hP
      have hD : va_D A [(a_md, .inr (11, [.ref a_md_tape, .int md_size, .int md_at_1, .int md_token, .int md_tokenPlace, .int md_number, .int md_sign, .int md_bad, .int md_faultPlace, .int md_place, .ref a_md_acts, .ref a_md_actNumbers, .ref a_md_actCounts, .int md_bank, .int md_unaries, .int md_opens, .ref a_md_pile, .int md_piled, .int md_loop, .ref a_md_begins, .ref a_md_goals, .ref a_md_ranks, .ref a_md_choiceCounts, .ref a_md_whens, .ref a_md_becomes, .ref a_md_guessCounts, .ref a_md_guesses, .ref a_md_unaryCounts, .ref a_md_stack, .ref a_md_nexts, .ref a_md_isBegin, .ref a_md_isGoal, .ref a_md_levels, .ref a_md_queue, .ref a_md_hasGuesses, .int md_keptBits, .ref a_md_rounds, .ref a_md_marked, .ref a_md_other, .ref a_md_heights])), (a_md_tape, .inl (cB, 1200, .inl md_tape))] := hD
      refine lv_bipush (v := 32) hx hb d_Md_nextToken_8 (by decide) ?_
      refine lv_icmp_eq (tgt := 26) hx hb d_Md_nextToken_10 (by decide) (fun c_10 => ?_) (fun c_10 => ?_)
      · have h := And.left h c_10
        refine lv_aload_n hx hb d_Md_nextToken_26 rfl (lv_at hl 0 rfl) ?_
        refine lv_dup hx hb d_Md_nextToken_27 rfl ?_
        refine va_get (D := (dC, dI)) (ci := 11) (v := .int md_at_1) (C := "LoopInductionModel") (T := F_Md) (N := 40) hx hb hts iC_Md hown hK hP 0 rfl rfl 2 (by decide) fl_121 (fun _ h9 => h9) rfl d_Md_nextToken_28 ?_
        refine lv_iconst (v := 1) hx hb d_Md_nextToken_31 (by decide) ?_
        refine lv_iadd hx hb d_Md_nextToken_32 ?_
        refine va_put (D := (dC, dI)) (ci := 11) (v := .int (md_at_1 + 1)) (ty := .int) (C := "LoopInductionModel") (T := F_Md) (N := 40) hx hb hts iC_Md t_Md t_Md_ok n_Md hown hK hP hD hS 0 rfl rfl 2 (by decide) fl_121 (fun _ h9 => h9) rfl (by decide +kernel) rfl rfl (Nat.le_of_ble_eq_true rfl) d_Md_nextToken_33 (fun H locs hP hD hS => ?_)
        have hP : va_P (dC, dI) vwCl [(a_md, .inr (11, [.ref a_md_tape, .int md_size, .int (md_at_1 + 1), .int md_token, .int md_tokenPlace, .int md_number, .int md_sign, .int md_bad, .int md_faultPlace, .int md_place, .ref a_md_acts, .ref a_md_actNumbers, .ref a_md_actCounts, .int md_bank, .int md_unaries, .int md_opens, .ref a_md_pile, .int md_piled, .int md_loop, .ref a_md_begins, .ref a_md_goals, .ref a_md_ranks, .ref a_md_choiceCounts, .ref a_md_whens, .ref a_md_becomes, .ref a_md_guessCounts, .ref a_md_guesses, .ref a_md_unaryCounts, .ref a_md_stack, .ref a_md_nexts, .ref a_md_isBegin, .ref a_md_isGoal, .ref a_md_levels, .ref a_md_queue, .ref a_md_hasGuesses, .int md_keptBits, .ref a_md_rounds, .ref a_md_marked, .ref a_md_other, .ref a_md_heights])), (a_md_tape, .inl (cB, 1200, .inl md_tape))] H := hP
        have hD : va_D A [(a_md, .inr (11, [.ref a_md_tape, .int md_size, .int (md_at_1 + 1), .int md_token, .int md_tokenPlace, .int md_number, .int md_sign, .int md_bad, .int md_faultPlace, .int md_place, .ref a_md_acts, .ref a_md_actNumbers, .ref a_md_actCounts, .int md_bank, .int md_unaries, .int md_opens, .ref a_md_pile, .int md_piled, .int md_loop, .ref a_md_begins, .ref a_md_goals, .ref a_md_ranks, .ref a_md_choiceCounts, .ref a_md_whens, .ref a_md_becomes, .ref a_md_guessCounts, .ref a_md_guesses, .ref a_md_unaryCounts, .ref a_md_stack, .ref a_md_nexts, .ref a_md_isBegin, .ref a_md_isGoal, .ref a_md_levels, .ref a_md_queue, .ref a_md_hasGuesses, .int md_keptBits, .ref a_md_rounds, .ref a_md_marked, .ref a_md_other, .ref a_md_heights])), (a_md_tape, .inl (cB, 1200, .inl md_tape))] := hD
        refine lv_goto (tgt := 0) hx hb d_Md_nextToken_36 (by decide) ?_
        exact il _ h _ _ hP hD hS _ hl
      · have h := And.right h c_10
        refine lv_aload_n hx hb d_Md_nextToken_13 rfl (lv_at hl 0 rfl) ?_
        refine lv_aload_n hx hb d_Md_nextToken_14 rfl (lv_at hl 0 rfl) ?_
        refine va_get (D := (dC, dI)) (ci := 11) (v := .int md_at_1) (C := "LoopInductionModel") (T := F_Md) (N := 40) hx hb hts iC_Md hown hK hP 0 rfl rfl 2 (by decide) fl_121 (fun _ h9 => h9) rfl d_Md_nextToken_15 ?_
        refine jn_i (wr := []) (va_runV (As := [.int md_at_1]) (rest := []) ⟨hx, hb, hml, hown, hts⟩ (c_Md_byteAt l dC dI cI cB cZ adK adV _ a_md a_md_tape a_md_acts a_md_actNumbers a_md_actCounts a_md_pile a_md_begins a_md_goals a_md_ranks a_md_choiceCounts a_md_whens a_md_becomes a_md_guessCounts a_md_guesses a_md_unaryCounts a_md_stack a_md_nexts a_md_isBegin a_md_isGoal a_md_levels a_md_queue a_md_hasGuesses a_md_rounds a_md_marked a_md_other a_md_heights md_size md_at_1 md_token md_tokenPlace md_number md_sign md_bad md_faultPlace md_place md_bank md_unaries md_opens md_piled md_loop md_keptBits md_tape md_at_1 _ h) (cwV 1 hts (gv_ m_1232 m_1234 m_53 m_96 m_1235) rfl rfl rfl pd_Md_byteAt ⟨Nat.le_of_ble_eq_true rfl, Nat.le_of_ble_eq_true rfl⟩) ⟨pc_blind, va_recv hK hP (ci := 11) (q0 := 0) rfl rfl, pc_of (hP.sub [0, 1] rfl) hK (hD.sub [0, 1] (by decide) rfl) hN hT hS hA⟩ rfl rfl hl.1 rfl (lv_room (Nat.le_of_ble_eq_true rfl)) d_Md_nextToken_18 ⟨Nat.zero_le _, Nat.zero_le _⟩) hP hD hS hA [0, 1] [] rfl rfl (by decide) (by decide) (fun r_5 u_ H locs h hP hD hS => ?_)
        have hP : va_P (dC, dI) vwCl [(a_md, .inr (11, [.ref a_md_tape, .int md_size, .int md_at_1, .int md_token, .int md_tokenPlace, .int md_number, .int md_sign, .int md_bad, .int md_faultPlace, .int md_place, .ref a_md_acts, .ref a_md_actNumbers, .ref a_md_actCounts, .int md_bank, .int md_unaries, .int md_opens, .ref a_md_pile, .int md_piled, .int md_loop, .ref a_md_begins, .ref a_md_goals, .ref a_md_ranks, .ref a_md_choiceCounts, .ref a_md_whens, .ref a_md_becomes, .ref a_md_guessCounts, .ref a_md_guesses, .ref a_md_unaryCounts, .ref a_md_stack, .ref a_md_nexts, .ref a_md_isBegin, .ref a_md_isGoal, .ref a_md_levels, .ref a_md_queue, .ref a_md_hasGuesses, .int md_keptBits, .ref a_md_rounds, .ref a_md_marked, .ref a_md_other, .ref a_md_heights])), (a_md_tape, .inl (cB, 1200, .inl md_tape))] H := hP
        have hD : va_D A [(a_md, .inr (11, [.ref a_md_tape, .int md_size, .int md_at_1, .int md_token, .int md_tokenPlace, .int md_number, .int md_sign, .int md_bad, .int md_faultPlace, .int md_place, .ref a_md_acts, .ref a_md_actNumbers, .ref a_md_actCounts, .int md_bank, .int md_unaries, .int md_opens, .ref a_md_pile, .int md_piled, .int md_loop, .ref a_md_begins, .ref a_md_goals, .ref a_md_ranks, .ref a_md_choiceCounts, .ref a_md_whens, .ref a_md_becomes, .ref a_md_guessCounts, .ref a_md_guesses, .ref a_md_unaryCounts, .ref a_md_stack, .ref a_md_nexts, .ref a_md_isBegin, .ref a_md_isGoal, .ref a_md_levels, .ref a_md_queue, .ref a_md_hasGuesses, .int md_keptBits, .ref a_md_rounds, .ref a_md_marked, .ref a_md_other, .ref a_md_heights])), (a_md_tape, .inl (cB, 1200, .inl md_tape))] := hD
        refine lv_bipush (v := 10) hx hb d_Md_nextToken_21 (by decide) ?_
        refine lv_icmp_ne (tgt := 39) hx hb d_Md_nextToken_23 (by decide) (fun c_23 => ?_) (fun c_23 => ?_)
        · have h := And.left h c_23
          exact hk39 _ h _ _ hP hD hS _ hl
        · have h := And.right h c_23
          refine lv_aload_n hx hb d_Md_nextToken_26 rfl (lv_at hl 0 rfl) ?_
          refine lv_dup hx hb d_Md_nextToken_27 rfl ?_
          refine va_get (D := (dC, dI)) (ci := 11) (v := .int md_at_1) (C := "LoopInductionModel") (T := F_Md) (N := 40) hx hb hts iC_Md hown hK hP 0 rfl rfl 2 (by decide) fl_121 (fun _ h9 => h9) rfl d_Md_nextToken_28 ?_
          refine lv_iconst (v := 1) hx hb d_Md_nextToken_31 (by decide) ?_
          refine lv_iadd hx hb d_Md_nextToken_32 ?_
          refine va_put (D := (dC, dI)) (ci := 11) (v := .int (md_at_1 + 1)) (ty := .int) (C := "LoopInductionModel") (T := F_Md) (N := 40) hx hb hts iC_Md t_Md t_Md_ok n_Md hown hK hP hD hS 0 rfl rfl 2 (by decide) fl_121 (fun _ h9 => h9) rfl (by decide +kernel) rfl rfl (Nat.le_of_ble_eq_true rfl) d_Md_nextToken_33 (fun H locs hP hD hS => ?_)
          have hP : va_P (dC, dI) vwCl [(a_md, .inr (11, [.ref a_md_tape, .int md_size, .int (md_at_1 + 1), .int md_token, .int md_tokenPlace, .int md_number, .int md_sign, .int md_bad, .int md_faultPlace, .int md_place, .ref a_md_acts, .ref a_md_actNumbers, .ref a_md_actCounts, .int md_bank, .int md_unaries, .int md_opens, .ref a_md_pile, .int md_piled, .int md_loop, .ref a_md_begins, .ref a_md_goals, .ref a_md_ranks, .ref a_md_choiceCounts, .ref a_md_whens, .ref a_md_becomes, .ref a_md_guessCounts, .ref a_md_guesses, .ref a_md_unaryCounts, .ref a_md_stack, .ref a_md_nexts, .ref a_md_isBegin, .ref a_md_isGoal, .ref a_md_levels, .ref a_md_queue, .ref a_md_hasGuesses, .int md_keptBits, .ref a_md_rounds, .ref a_md_marked, .ref a_md_other, .ref a_md_heights])), (a_md_tape, .inl (cB, 1200, .inl md_tape))] H := hP
          have hD : va_D A [(a_md, .inr (11, [.ref a_md_tape, .int md_size, .int (md_at_1 + 1), .int md_token, .int md_tokenPlace, .int md_number, .int md_sign, .int md_bad, .int md_faultPlace, .int md_place, .ref a_md_acts, .ref a_md_actNumbers, .ref a_md_actCounts, .int md_bank, .int md_unaries, .int md_opens, .ref a_md_pile, .int md_piled, .int md_loop, .ref a_md_begins, .ref a_md_goals, .ref a_md_ranks, .ref a_md_choiceCounts, .ref a_md_whens, .ref a_md_becomes, .ref a_md_guessCounts, .ref a_md_guesses, .ref a_md_unaryCounts, .ref a_md_stack, .ref a_md_nexts, .ref a_md_isBegin, .ref a_md_isGoal, .ref a_md_levels, .ref a_md_queue, .ref a_md_hasGuesses, .int md_keptBits, .ref a_md_rounds, .ref a_md_marked, .ref a_md_other, .ref a_md_heights])), (a_md_tape, .inl (cB, 1200, .inl md_tape))] := hD
          refine lv_goto (tgt := 0) hx hb d_Md_nextToken_36 (by decide) ?_
          exact il _ h _ _ hP hD hS _ hl
  obtain ⟨n_, h⟩ := h
  refine L0_q_2 _ ?_ n_ _ h _ _ hP hD hS _ hl
  intro md_at_6 h H locs hP hD hS ls hl
  refine lv_aload_n hx hb d_Md_nextToken_39 rfl (lv_at hl 0 rfl) ?_
  refine lv_aload_n hx hb d_Md_nextToken_40 rfl (lv_at hl 0 rfl) ?_
  refine va_get (D := (dC, dI)) (ci := 11) (v := .int md_at_6) (C := "LoopInductionModel") (T := F_Md) (N := 40) hx hb hts iC_Md hown hK hP 0 rfl rfl 2 (by decide) fl_121 (fun _ h9 => h9) rfl d_Md_nextToken_41 ?_
  refine va_put (D := (dC, dI)) (ci := 11) (v := .int md_at_6) (ty := .int) (C := "LoopInductionModel") (T := F_Md) (N := 40) hx hb hts iC_Md t_Md t_Md_ok n_Md hown hK hP hD hS 0 rfl rfl 4 (by decide) fl_128 (fun _ h9 => h9) rfl (by decide +kernel) rfl rfl (Nat.le_of_ble_eq_true rfl) d_Md_nextToken_44 (fun H locs hP hD hS => ?_)
  have hP : va_P (dC, dI) vwCl [(a_md, .inr (11, [.ref a_md_tape, .int md_size, .int md_at_6, .int md_token, .int md_at_6, .int md_number, .int md_sign, .int md_bad, .int md_faultPlace, .int md_place, .ref a_md_acts, .ref a_md_actNumbers, .ref a_md_actCounts, .int md_bank, .int md_unaries, .int md_opens, .ref a_md_pile, .int md_piled, .int md_loop, .ref a_md_begins, .ref a_md_goals, .ref a_md_ranks, .ref a_md_choiceCounts, .ref a_md_whens, .ref a_md_becomes, .ref a_md_guessCounts, .ref a_md_guesses, .ref a_md_unaryCounts, .ref a_md_stack, .ref a_md_nexts, .ref a_md_isBegin, .ref a_md_isGoal, .ref a_md_levels, .ref a_md_queue, .ref a_md_hasGuesses, .int md_keptBits, .ref a_md_rounds, .ref a_md_marked, .ref a_md_other, .ref a_md_heights])), (a_md_tape, .inl (cB, 1200, .inl md_tape))] H := hP
  have hD : va_D A [(a_md, .inr (11, [.ref a_md_tape, .int md_size, .int md_at_6, .int md_token, .int md_at_6, .int md_number, .int md_sign, .int md_bad, .int md_faultPlace, .int md_place, .ref a_md_acts, .ref a_md_actNumbers, .ref a_md_actCounts, .int md_bank, .int md_unaries, .int md_opens, .ref a_md_pile, .int md_piled, .int md_loop, .ref a_md_begins, .ref a_md_goals, .ref a_md_ranks, .ref a_md_choiceCounts, .ref a_md_whens, .ref a_md_becomes, .ref a_md_guessCounts, .ref a_md_guesses, .ref a_md_unaryCounts, .ref a_md_stack, .ref a_md_nexts, .ref a_md_isBegin, .ref a_md_isGoal, .ref a_md_levels, .ref a_md_queue, .ref a_md_hasGuesses, .int md_keptBits, .ref a_md_rounds, .ref a_md_marked, .ref a_md_other, .ref a_md_heights])), (a_md_tape, .inl (cB, 1200, .inl md_tape))] := hD
  refine lv_aload_n hx hb d_Md_nextToken_47 rfl (lv_at hl 0 rfl) ?_
  refine lv_aload_n hx hb d_Md_nextToken_48 rfl (lv_at hl 0 rfl) ?_
  refine va_get (D := (dC, dI)) (ci := 11) (v := .int md_at_6) (C := "LoopInductionModel") (T := F_Md) (N := 40) hx hb hts iC_Md hown hK hP 0 rfl rfl 2 (by decide) fl_121 (fun _ h9 => h9) rfl d_Md_nextToken_49 ?_
  refine jn_i (wr := []) (va_runV (As := [.int md_at_6]) (rest := []) ⟨hx, hb, hml, hown, hts⟩ (c_Md_byteAt l dC dI cI cB cZ adK adV _ a_md a_md_tape a_md_acts a_md_actNumbers a_md_actCounts a_md_pile a_md_begins a_md_goals a_md_ranks a_md_choiceCounts a_md_whens a_md_becomes a_md_guessCounts a_md_guesses a_md_unaryCounts a_md_stack a_md_nexts a_md_isBegin a_md_isGoal a_md_levels a_md_queue a_md_hasGuesses a_md_rounds a_md_marked a_md_other a_md_heights md_size md_at_6 md_token md_at_6 md_number md_sign md_bad md_faultPlace md_place md_bank md_unaries md_opens md_piled md_loop md_keptBits md_tape md_at_6 _ h) (cwV 1 hts (gv_ m_1232 m_1234 m_53 m_96 m_1235) rfl rfl rfl pd_Md_byteAt ⟨Nat.le_of_ble_eq_true rfl, Nat.le_of_ble_eq_true rfl⟩) ⟨pc_blind, va_recv hK hP (ci := 11) (q0 := 0) rfl rfl, pc_of (hP.sub [0, 1] rfl) hK (hD.sub [0, 1] (by decide) rfl) hN hT hS hA⟩ rfl rfl hl.1 rfl (lv_room (Nat.le_of_ble_eq_true rfl)) d_Md_nextToken_52 ⟨Nat.zero_le _, Nat.zero_le _⟩) hP hD hS hA [0, 1] [] rfl rfl (by decide) (by decide) (fun r_7 u_ H locs h hP hD hS => ?_)
  have hP : va_P (dC, dI) vwCl [(a_md, .inr (11, [.ref a_md_tape, .int md_size, .int md_at_6, .int md_token, .int md_at_6, .int md_number, .int md_sign, .int md_bad, .int md_faultPlace, .int md_place, .ref a_md_acts, .ref a_md_actNumbers, .ref a_md_actCounts, .int md_bank, .int md_unaries, .int md_opens, .ref a_md_pile, .int md_piled, .int md_loop, .ref a_md_begins, .ref a_md_goals, .ref a_md_ranks, .ref a_md_choiceCounts, .ref a_md_whens, .ref a_md_becomes, .ref a_md_guessCounts, .ref a_md_guesses, .ref a_md_unaryCounts, .ref a_md_stack, .ref a_md_nexts, .ref a_md_isBegin, .ref a_md_isGoal, .ref a_md_levels, .ref a_md_queue, .ref a_md_hasGuesses, .int md_keptBits, .ref a_md_rounds, .ref a_md_marked, .ref a_md_other, .ref a_md_heights])), (a_md_tape, .inl (cB, 1200, .inl md_tape))] H := hP
  have hD : va_D A [(a_md, .inr (11, [.ref a_md_tape, .int md_size, .int md_at_6, .int md_token, .int md_at_6, .int md_number, .int md_sign, .int md_bad, .int md_faultPlace, .int md_place, .ref a_md_acts, .ref a_md_actNumbers, .ref a_md_actCounts, .int md_bank, .int md_unaries, .int md_opens, .ref a_md_pile, .int md_piled, .int md_loop, .ref a_md_begins, .ref a_md_goals, .ref a_md_ranks, .ref a_md_choiceCounts, .ref a_md_whens, .ref a_md_becomes, .ref a_md_guessCounts, .ref a_md_guesses, .ref a_md_unaryCounts, .ref a_md_stack, .ref a_md_nexts, .ref a_md_isBegin, .ref a_md_isGoal, .ref a_md_levels, .ref a_md_queue, .ref a_md_hasGuesses, .int md_keptBits, .ref a_md_rounds, .ref a_md_marked, .ref a_md_other, .ref a_md_heights])), (a_md_tape, .inl (cB, 1200, .inl md_tape))] := hD
  refine lv_istore_n (lv' := [(1, .int r_7), (0, .ref a_md)]) hx hb d_Md_nextToken_55 rfl hl (by decide) rfl (fun ls hl => ?_)
  refine lv_iload_n hx hb d_Md_nextToken_56 rfl (lv_at hl 0 rfl) ?_
  refine lv_if_ge (tgt := 68) hx hb d_Md_nextToken_57 (by decide) (fun c_57 => ?_) (fun c_57 => ?_)
  · have h := And.left h c_57
    refine lv_iload_n hx hb d_Md_nextToken_68 rfl (lv_at hl 0 rfl) ?_
    refine jn_i (wr := [(a_md, .inr (11, [.ref a_md_tape, .int md_size, .int md_at_6, .int md_token, .int md_at_6, .int md_number, .int md_sign, .int md_bad, .int md_faultPlace, .int md_place, .ref a_md_acts, .ref a_md_actNumbers, .ref a_md_actCounts, .int md_bank, .int md_unaries, .int md_opens, .ref a_md_pile, .int md_piled, .int md_loop, .ref a_md_begins, .ref a_md_goals, .ref a_md_ranks, .ref a_md_choiceCounts, .ref a_md_whens, .ref a_md_becomes, .ref a_md_guessCounts, .ref a_md_guesses, .ref a_md_unaryCounts, .ref a_md_stack, .ref a_md_nexts, .ref a_md_isBegin, .ref a_md_isGoal, .ref a_md_levels, .ref a_md_queue, .ref a_md_hasGuesses, .int md_keptBits, .ref a_md_rounds, .ref a_md_marked, .ref a_md_other, .ref a_md_heights])), (a_md_tape, .inl (cB, 1200, .inl md_tape))]) (va_runS (As := [.int r_7]) (rest := []) ⟨hx, hb, hml, hown, hts⟩ (c_Md_isSmall l dC dI cI cB cZ adK adV _ r_7 _ h) (cwS 1 hts (gs_ m_1236 m_1237 m_96 m_1238) rfl rfl rfl pd_Md_isSmall ⟨Nat.le_of_ble_eq_true rfl, Nat.le_of_ble_eq_true rfl⟩) ⟨pc_blind, pc_of (hP.sub [] rfl) hK (hD.sub [] (by decide) rfl) hN hT hS hA⟩ rfl rfl hl.1 rfl (lv_room (Nat.le_of_ble_eq_true rfl)) d_Md_nextToken_69 ⟨Nat.zero_le _, Nat.zero_le _⟩) hP hD hS hA [] [0, 1] rfl rfl (by decide) (by decide) (fun r_8 u_ H locs h hP hD hS => ?_)
    have hP : va_P (dC, dI) vwCl [(a_md, .inr (11, [.ref a_md_tape, .int md_size, .int md_at_6, .int md_token, .int md_at_6, .int md_number, .int md_sign, .int md_bad, .int md_faultPlace, .int md_place, .ref a_md_acts, .ref a_md_actNumbers, .ref a_md_actCounts, .int md_bank, .int md_unaries, .int md_opens, .ref a_md_pile, .int md_piled, .int md_loop, .ref a_md_begins, .ref a_md_goals, .ref a_md_ranks, .ref a_md_choiceCounts, .ref a_md_whens, .ref a_md_becomes, .ref a_md_guessCounts, .ref a_md_guesses, .ref a_md_unaryCounts, .ref a_md_stack, .ref a_md_nexts, .ref a_md_isBegin, .ref a_md_isGoal, .ref a_md_levels, .ref a_md_queue, .ref a_md_hasGuesses, .int md_keptBits, .ref a_md_rounds, .ref a_md_marked, .ref a_md_other, .ref a_md_heights])), (a_md_tape, .inl (cB, 1200, .inl md_tape))] H := hP
    have hD : va_D A [(a_md, .inr (11, [.ref a_md_tape, .int md_size, .int md_at_6, .int md_token, .int md_at_6, .int md_number, .int md_sign, .int md_bad, .int md_faultPlace, .int md_place, .ref a_md_acts, .ref a_md_actNumbers, .ref a_md_actCounts, .int md_bank, .int md_unaries, .int md_opens, .ref a_md_pile, .int md_piled, .int md_loop, .ref a_md_begins, .ref a_md_goals, .ref a_md_ranks, .ref a_md_choiceCounts, .ref a_md_whens, .ref a_md_becomes, .ref a_md_guessCounts, .ref a_md_guesses, .ref a_md_unaryCounts, .ref a_md_stack, .ref a_md_nexts, .ref a_md_isBegin, .ref a_md_isGoal, .ref a_md_levels, .ref a_md_queue, .ref a_md_hasGuesses, .int md_keptBits, .ref a_md_rounds, .ref a_md_marked, .ref a_md_other, .ref a_md_heights])), (a_md_tape, .inl (cB, 1200, .inl md_tape))] := hD
    refine lv_if_eq (tgt := 171) hx hb d_Md_nextToken_72 (by decide) (fun c_72 => ?_) (fun c_72 => ?_)
    · have h := And.left h c_72
      refine lv_iload_n hx hb d_Md_nextToken_171 rfl (lv_at hl 0 rfl) ?_
      refine jn_i (wr := [(a_md, .inr (11, [.ref a_md_tape, .int md_size, .int md_at_6, .int md_token, .int md_at_6, .int md_number, .int md_sign, .int md_bad, .int md_faultPlace, .int md_place, .ref a_md_acts, .ref a_md_actNumbers, .ref a_md_actCounts, .int md_bank, .int md_unaries, .int md_opens, .ref a_md_pile, .int md_piled, .int md_loop, .ref a_md_begins, .ref a_md_goals, .ref a_md_ranks, .ref a_md_choiceCounts, .ref a_md_whens, .ref a_md_becomes, .ref a_md_guessCounts, .ref a_md_guesses, .ref a_md_unaryCounts, .ref a_md_stack, .ref a_md_nexts, .ref a_md_isBegin, .ref a_md_isGoal, .ref a_md_levels, .ref a_md_queue, .ref a_md_hasGuesses, .int md_keptBits, .ref a_md_rounds, .ref a_md_marked, .ref a_md_other, .ref a_md_heights])), (a_md_tape, .inl (cB, 1200, .inl md_tape))]) (va_runS (As := [.int r_7]) (rest := []) ⟨hx, hb, hml, hown, hts⟩ (c_Md_isFigure l dC dI cI cB cZ adK adV _ r_7 _ h) (cwS 1 hts (gs_ m_1254 m_1255 m_96 m_1256) rfl rfl rfl pd_Md_isFigure ⟨Nat.le_of_ble_eq_true rfl, Nat.le_of_ble_eq_true rfl⟩) ⟨pc_blind, pc_of (hP.sub [] rfl) hK (hD.sub [] (by decide) rfl) hN hT hS hA⟩ rfl rfl hl.1 rfl (lv_room (Nat.le_of_ble_eq_true rfl)) d_Md_nextToken_172 ⟨Nat.zero_le _, Nat.zero_le _⟩) hP hD hS hA [] [0, 1] rfl rfl (by decide) (by decide) (fun r_9 u_ H locs h hP hD hS => ?_)
      have hP : va_P (dC, dI) vwCl [(a_md, .inr (11, [.ref a_md_tape, .int md_size, .int md_at_6, .int md_token, .int md_at_6, .int md_number, .int md_sign, .int md_bad, .int md_faultPlace, .int md_place, .ref a_md_acts, .ref a_md_actNumbers, .ref a_md_actCounts, .int md_bank, .int md_unaries, .int md_opens, .ref a_md_pile, .int md_piled, .int md_loop, .ref a_md_begins, .ref a_md_goals, .ref a_md_ranks, .ref a_md_choiceCounts, .ref a_md_whens, .ref a_md_becomes, .ref a_md_guessCounts, .ref a_md_guesses, .ref a_md_unaryCounts, .ref a_md_stack, .ref a_md_nexts, .ref a_md_isBegin, .ref a_md_isGoal, .ref a_md_levels, .ref a_md_queue, .ref a_md_hasGuesses, .int md_keptBits, .ref a_md_rounds, .ref a_md_marked, .ref a_md_other, .ref a_md_heights])), (a_md_tape, .inl (cB, 1200, .inl md_tape))] H := hP
      have hD : va_D A [(a_md, .inr (11, [.ref a_md_tape, .int md_size, .int md_at_6, .int md_token, .int md_at_6, .int md_number, .int md_sign, .int md_bad, .int md_faultPlace, .int md_place, .ref a_md_acts, .ref a_md_actNumbers, .ref a_md_actCounts, .int md_bank, .int md_unaries, .int md_opens, .ref a_md_pile, .int md_piled, .int md_loop, .ref a_md_begins, .ref a_md_goals, .ref a_md_ranks, .ref a_md_choiceCounts, .ref a_md_whens, .ref a_md_becomes, .ref a_md_guessCounts, .ref a_md_guesses, .ref a_md_unaryCounts, .ref a_md_stack, .ref a_md_nexts, .ref a_md_isBegin, .ref a_md_isGoal, .ref a_md_levels, .ref a_md_queue, .ref a_md_hasGuesses, .int md_keptBits, .ref a_md_rounds, .ref a_md_marked, .ref a_md_other, .ref a_md_heights])), (a_md_tape, .inl (cB, 1200, .inl md_tape))] := hD
      refine lv_if_eq (tgt := 281) hx hb d_Md_nextToken_175 (by decide) (fun c_175 => ?_) (fun c_175 => ?_)
      · have h := And.left h c_175
        refine lv_aload_n hx hb d_Md_nextToken_281 rfl (lv_at hl 1 rfl) ?_
        refine lv_iload_n hx hb d_Md_nextToken_282 rfl (lv_at hl 0 rfl) ?_
        refine va_put (D := (dC, dI)) (ci := 11) (v := .int r_7) (ty := .int) (C := "LoopInductionModel") (T := F_Md) (N := 40) hx hb hts iC_Md t_Md t_Md_ok n_Md hown hK hP hD hS 0 rfl rfl 6 (by decide) fl_148 (fun _ h9 => h9) rfl (by decide +kernel) rfl rfl (Nat.le_of_ble_eq_true rfl) d_Md_nextToken_283 (fun H locs hP hD hS => ?_)
        have hP : va_P (dC, dI) vwCl [(a_md, .inr (11, [.ref a_md_tape, .int md_size, .int md_at_6, .int md_token, .int md_at_6, .int md_number, .int r_7, .int md_bad, .int md_faultPlace, .int md_place, .ref a_md_acts, .ref a_md_actNumbers, .ref a_md_actCounts, .int md_bank, .int md_unaries, .int md_opens, .ref a_md_pile, .int md_piled, .int md_loop, .ref a_md_begins, .ref a_md_goals, .ref a_md_ranks, .ref a_md_choiceCounts, .ref a_md_whens, .ref a_md_becomes, .ref a_md_guessCounts, .ref a_md_guesses, .ref a_md_unaryCounts, .ref a_md_stack, .ref a_md_nexts, .ref a_md_isBegin, .ref a_md_isGoal, .ref a_md_levels, .ref a_md_queue, .ref a_md_hasGuesses, .int md_keptBits, .ref a_md_rounds, .ref a_md_marked, .ref a_md_other, .ref a_md_heights])), (a_md_tape, .inl (cB, 1200, .inl md_tape))] H := hP
        have hD : va_D A [(a_md, .inr (11, [.ref a_md_tape, .int md_size, .int md_at_6, .int md_token, .int md_at_6, .int md_number, .int r_7, .int md_bad, .int md_faultPlace, .int md_place, .ref a_md_acts, .ref a_md_actNumbers, .ref a_md_actCounts, .int md_bank, .int md_unaries, .int md_opens, .ref a_md_pile, .int md_piled, .int md_loop, .ref a_md_begins, .ref a_md_goals, .ref a_md_ranks, .ref a_md_choiceCounts, .ref a_md_whens, .ref a_md_becomes, .ref a_md_guessCounts, .ref a_md_guesses, .ref a_md_unaryCounts, .ref a_md_stack, .ref a_md_nexts, .ref a_md_isBegin, .ref a_md_isGoal, .ref a_md_levels, .ref a_md_queue, .ref a_md_hasGuesses, .int md_keptBits, .ref a_md_rounds, .ref a_md_marked, .ref a_md_other, .ref a_md_heights])), (a_md_tape, .inl (cB, 1200, .inl md_tape))] := hD
        refine lv_aload_n hx hb d_Md_nextToken_286 rfl (lv_at hl 1 rfl) ?_
        refine lv_iload_n hx hb d_Md_nextToken_287 rfl (lv_at hl 0 rfl) ?_
        refine jn_i (wr := [(a_md, .inr (11, [.ref a_md_tape, .int md_size, .int md_at_6, .int md_token, .int md_at_6, .int md_number, .int r_7, .int md_bad, .int md_faultPlace, .int md_place, .ref a_md_acts, .ref a_md_actNumbers, .ref a_md_actCounts, .int md_bank, .int md_unaries, .int md_opens, .ref a_md_pile, .int md_piled, .int md_loop, .ref a_md_begins, .ref a_md_goals, .ref a_md_ranks, .ref a_md_choiceCounts, .ref a_md_whens, .ref a_md_becomes, .ref a_md_guessCounts, .ref a_md_guesses, .ref a_md_unaryCounts, .ref a_md_stack, .ref a_md_nexts, .ref a_md_isBegin, .ref a_md_isGoal, .ref a_md_levels, .ref a_md_queue, .ref a_md_hasGuesses, .int md_keptBits, .ref a_md_rounds, .ref a_md_marked, .ref a_md_other, .ref a_md_heights])), (a_md_tape, .inl (cB, 1200, .inl md_tape))]) (va_runS (As := [.int r_7]) (rest := [.ref a_md]) ⟨hx, hb, hml, hown, hts⟩ (c_Md_isSignByte l dC dI cI cB cZ adK adV _ r_7 _ h) (cwS 1 hts (gs_ m_1257 m_1258 m_96 m_1259) rfl rfl rfl pd_Md_isSignByte ⟨Nat.le_of_ble_eq_true rfl, Nat.le_of_ble_eq_true rfl⟩) ⟨pc_blind, pc_of (hP.sub [] rfl) hK (hD.sub [] (by decide) rfl) hN hT hS hA⟩ rfl rfl hl.1 rfl (lv_room (Nat.le_of_ble_eq_true rfl)) d_Md_nextToken_288 ⟨Nat.zero_le _, Nat.zero_le _⟩) hP hD hS hA [] [0, 1] rfl rfl (by decide) (by decide) (fun r_10 u_ H locs h hP hD hS => ?_)
        have hP : va_P (dC, dI) vwCl [(a_md, .inr (11, [.ref a_md_tape, .int md_size, .int md_at_6, .int md_token, .int md_at_6, .int md_number, .int r_7, .int md_bad, .int md_faultPlace, .int md_place, .ref a_md_acts, .ref a_md_actNumbers, .ref a_md_actCounts, .int md_bank, .int md_unaries, .int md_opens, .ref a_md_pile, .int md_piled, .int md_loop, .ref a_md_begins, .ref a_md_goals, .ref a_md_ranks, .ref a_md_choiceCounts, .ref a_md_whens, .ref a_md_becomes, .ref a_md_guessCounts, .ref a_md_guesses, .ref a_md_unaryCounts, .ref a_md_stack, .ref a_md_nexts, .ref a_md_isBegin, .ref a_md_isGoal, .ref a_md_levels, .ref a_md_queue, .ref a_md_hasGuesses, .int md_keptBits, .ref a_md_rounds, .ref a_md_marked, .ref a_md_other, .ref a_md_heights])), (a_md_tape, .inl (cB, 1200, .inl md_tape))] H := hP
        have hD : va_D A [(a_md, .inr (11, [.ref a_md_tape, .int md_size, .int md_at_6, .int md_token, .int md_at_6, .int md_number, .int r_7, .int md_bad, .int md_faultPlace, .int md_place, .ref a_md_acts, .ref a_md_actNumbers, .ref a_md_actCounts, .int md_bank, .int md_unaries, .int md_opens, .ref a_md_pile, .int md_piled, .int md_loop, .ref a_md_begins, .ref a_md_goals, .ref a_md_ranks, .ref a_md_choiceCounts, .ref a_md_whens, .ref a_md_becomes, .ref a_md_guessCounts, .ref a_md_guesses, .ref a_md_unaryCounts, .ref a_md_stack, .ref a_md_nexts, .ref a_md_isBegin, .ref a_md_isGoal, .ref a_md_levels, .ref a_md_queue, .ref a_md_hasGuesses, .int md_keptBits, .ref a_md_rounds, .ref a_md_marked, .ref a_md_other, .ref a_md_heights])), (a_md_tape, .inl (cB, 1200, .inl md_tape))] := hD
        refine lv_if_eq (tgt := 298) hx hb d_Md_nextToken_291 (by decide) (fun c_291 => ?_) (fun c_291 => ?_)
        · have h := And.left h c_291
          refine lv_iconst (v := 1) hx hb d_Md_nextToken_298 (by decide) ?_
          refine va_put (D := (dC, dI)) (ci := 11) (v := .int 1) (ty := .int) (C := "LoopInductionModel") (T := F_Md) (N := 40) hx hb hts iC_Md t_Md t_Md_ok n_Md hown hK hP hD hS 0 rfl rfl 3 (by decide) fl_131 (fun _ h9 => h9) rfl (by decide +kernel) rfl rfl (Nat.le_of_ble_eq_true rfl) d_Md_nextToken_299 (fun H locs hP hD hS => ?_)
          have hP : va_P (dC, dI) vwCl [(a_md, .inr (11, [.ref a_md_tape, .int md_size, .int md_at_6, .int 1, .int md_at_6, .int md_number, .int r_7, .int md_bad, .int md_faultPlace, .int md_place, .ref a_md_acts, .ref a_md_actNumbers, .ref a_md_actCounts, .int md_bank, .int md_unaries, .int md_opens, .ref a_md_pile, .int md_piled, .int md_loop, .ref a_md_begins, .ref a_md_goals, .ref a_md_ranks, .ref a_md_choiceCounts, .ref a_md_whens, .ref a_md_becomes, .ref a_md_guessCounts, .ref a_md_guesses, .ref a_md_unaryCounts, .ref a_md_stack, .ref a_md_nexts, .ref a_md_isBegin, .ref a_md_isGoal, .ref a_md_levels, .ref a_md_queue, .ref a_md_hasGuesses, .int md_keptBits, .ref a_md_rounds, .ref a_md_marked, .ref a_md_other, .ref a_md_heights])), (a_md_tape, .inl (cB, 1200, .inl md_tape))] H := hP
          have hD : va_D A [(a_md, .inr (11, [.ref a_md_tape, .int md_size, .int md_at_6, .int 1, .int md_at_6, .int md_number, .int r_7, .int md_bad, .int md_faultPlace, .int md_place, .ref a_md_acts, .ref a_md_actNumbers, .ref a_md_actCounts, .int md_bank, .int md_unaries, .int md_opens, .ref a_md_pile, .int md_piled, .int md_loop, .ref a_md_begins, .ref a_md_goals, .ref a_md_ranks, .ref a_md_choiceCounts, .ref a_md_whens, .ref a_md_becomes, .ref a_md_guessCounts, .ref a_md_guesses, .ref a_md_unaryCounts, .ref a_md_stack, .ref a_md_nexts, .ref a_md_isBegin, .ref a_md_isGoal, .ref a_md_levels, .ref a_md_queue, .ref a_md_hasGuesses, .int md_keptBits, .ref a_md_rounds, .ref a_md_marked, .ref a_md_other, .ref a_md_heights])), (a_md_tape, .inl (cB, 1200, .inl md_tape))] := hD
          refine lv_aload_n hx hb d_Md_nextToken_302 rfl (lv_at hl 1 rfl) ?_
          refine lv_dup hx hb d_Md_nextToken_303 rfl ?_
          refine va_get (D := (dC, dI)) (ci := 11) (v := .int md_at_6) (C := "LoopInductionModel") (T := F_Md) (N := 40) hx hb hts iC_Md hown hK hP 0 rfl rfl 2 (by decide) fl_121 (fun _ h9 => h9) rfl d_Md_nextToken_304 ?_
          refine lv_iconst (v := 1) hx hb d_Md_nextToken_307 (by decide) ?_
          refine lv_iadd hx hb d_Md_nextToken_308 ?_
          refine va_put (D := (dC, dI)) (ci := 11) (v := .int (md_at_6 + 1)) (ty := .int) (C := "LoopInductionModel") (T := F_Md) (N := 40) hx hb hts iC_Md t_Md t_Md_ok n_Md hown hK hP hD hS 0 rfl rfl 2 (by decide) fl_121 (fun _ h9 => h9) rfl (by decide +kernel) rfl rfl (Nat.le_of_ble_eq_true rfl) d_Md_nextToken_309 (fun H locs hP hD hS => ?_)
          have hP : va_P (dC, dI) vwCl [(a_md, .inr (11, [.ref a_md_tape, .int md_size, .int (md_at_6 + 1), .int 1, .int md_at_6, .int md_number, .int r_7, .int md_bad, .int md_faultPlace, .int md_place, .ref a_md_acts, .ref a_md_actNumbers, .ref a_md_actCounts, .int md_bank, .int md_unaries, .int md_opens, .ref a_md_pile, .int md_piled, .int md_loop, .ref a_md_begins, .ref a_md_goals, .ref a_md_ranks, .ref a_md_choiceCounts, .ref a_md_whens, .ref a_md_becomes, .ref a_md_guessCounts, .ref a_md_guesses, .ref a_md_unaryCounts, .ref a_md_stack, .ref a_md_nexts, .ref a_md_isBegin, .ref a_md_isGoal, .ref a_md_levels, .ref a_md_queue, .ref a_md_hasGuesses, .int md_keptBits, .ref a_md_rounds, .ref a_md_marked, .ref a_md_other, .ref a_md_heights])), (a_md_tape, .inl (cB, 1200, .inl md_tape))] H := hP
          have hD : va_D A [(a_md, .inr (11, [.ref a_md_tape, .int md_size, .int (md_at_6 + 1), .int 1, .int md_at_6, .int md_number, .int r_7, .int md_bad, .int md_faultPlace, .int md_place, .ref a_md_acts, .ref a_md_actNumbers, .ref a_md_actCounts, .int md_bank, .int md_unaries, .int md_opens, .ref a_md_pile, .int md_piled, .int md_loop, .ref a_md_begins, .ref a_md_goals, .ref a_md_ranks, .ref a_md_choiceCounts, .ref a_md_whens, .ref a_md_becomes, .ref a_md_guessCounts, .ref a_md_guesses, .ref a_md_unaryCounts, .ref a_md_stack, .ref a_md_nexts, .ref a_md_isBegin, .ref a_md_isGoal, .ref a_md_levels, .ref a_md_queue, .ref a_md_hasGuesses, .int md_keptBits, .ref a_md_rounds, .ref a_md_marked, .ref a_md_other, .ref a_md_heights])), (a_md_tape, .inl (cB, 1200, .inl md_tape))] := hD
          subst hQ
          have hP9 := hP
          have hD9 := hD
          exact W.vret hx hb hr (fun t ht hW => ⟨⟨(md_at_6 + 1, 1, md_at_6, md_number, r_7), rfl, h, by rw [ht]; exact hP9, va_K.moved hW.alike hK, hD9⟩, hS.F ht⟩) hS.2.2 d_Md_nextToken_312
        · have h := And.right h c_291
          refine lv_iconst (v := 3) hx hb d_Md_nextToken_294 (by decide) ?_
          refine lv_goto (tgt := 299) hx hb d_Md_nextToken_295 (by decide) ?_
          refine va_put (D := (dC, dI)) (ci := 11) (v := .int 3) (ty := .int) (C := "LoopInductionModel") (T := F_Md) (N := 40) hx hb hts iC_Md t_Md t_Md_ok n_Md hown hK hP hD hS 0 rfl rfl 3 (by decide) fl_131 (fun _ h9 => h9) rfl (by decide +kernel) rfl rfl (Nat.le_of_ble_eq_true rfl) d_Md_nextToken_299 (fun H locs hP hD hS => ?_)
          have hP : va_P (dC, dI) vwCl [(a_md, .inr (11, [.ref a_md_tape, .int md_size, .int md_at_6, .int 3, .int md_at_6, .int md_number, .int r_7, .int md_bad, .int md_faultPlace, .int md_place, .ref a_md_acts, .ref a_md_actNumbers, .ref a_md_actCounts, .int md_bank, .int md_unaries, .int md_opens, .ref a_md_pile, .int md_piled, .int md_loop, .ref a_md_begins, .ref a_md_goals, .ref a_md_ranks, .ref a_md_choiceCounts, .ref a_md_whens, .ref a_md_becomes, .ref a_md_guessCounts, .ref a_md_guesses, .ref a_md_unaryCounts, .ref a_md_stack, .ref a_md_nexts, .ref a_md_isBegin, .ref a_md_isGoal, .ref a_md_levels, .ref a_md_queue, .ref a_md_hasGuesses, .int md_keptBits, .ref a_md_rounds, .ref a_md_marked, .ref a_md_other, .ref a_md_heights])), (a_md_tape, .inl (cB, 1200, .inl md_tape))] H := hP
          have hD : va_D A [(a_md, .inr (11, [.ref a_md_tape, .int md_size, .int md_at_6, .int 3, .int md_at_6, .int md_number, .int r_7, .int md_bad, .int md_faultPlace, .int md_place, .ref a_md_acts, .ref a_md_actNumbers, .ref a_md_actCounts, .int md_bank, .int md_unaries, .int md_opens, .ref a_md_pile, .int md_piled, .int md_loop, .ref a_md_begins, .ref a_md_goals, .ref a_md_ranks, .ref a_md_choiceCounts, .ref a_md_whens, .ref a_md_becomes, .ref a_md_guessCounts, .ref a_md_guesses, .ref a_md_unaryCounts, .ref a_md_stack, .ref a_md_nexts, .ref a_md_isBegin, .ref a_md_isGoal, .ref a_md_levels, .ref a_md_queue, .ref a_md_hasGuesses, .int md_keptBits, .ref a_md_rounds, .ref a_md_marked, .ref a_md_other, .ref a_md_heights])), (a_md_tape, .inl (cB, 1200, .inl md_tape))] := hD
          refine lv_aload_n hx hb d_Md_nextToken_302 rfl (lv_at hl 1 rfl) ?_
          refine lv_dup hx hb d_Md_nextToken_303 rfl ?_
          refine va_get (D := (dC, dI)) (ci := 11) (v := .int md_at_6) (C := "LoopInductionModel") (T := F_Md) (N := 40) hx hb hts iC_Md hown hK hP 0 rfl rfl 2 (by decide) fl_121 (fun _ h9 => h9) rfl d_Md_nextToken_304 ?_
          refine lv_iconst (v := 1) hx hb d_Md_nextToken_307 (by decide) ?_
          refine lv_iadd hx hb d_Md_nextToken_308 ?_
          refine va_put (D := (dC, dI)) (ci := 11) (v := .int (md_at_6 + 1)) (ty := .int) (C := "LoopInductionModel") (T := F_Md) (N := 40) hx hb hts iC_Md t_Md t_Md_ok n_Md hown hK hP hD hS 0 rfl rfl 2 (by decide) fl_121 (fun _ h9 => h9) rfl (by decide +kernel) rfl rfl (Nat.le_of_ble_eq_true rfl) d_Md_nextToken_309 (fun H locs hP hD hS => ?_)
          have hP : va_P (dC, dI) vwCl [(a_md, .inr (11, [.ref a_md_tape, .int md_size, .int (md_at_6 + 1), .int 3, .int md_at_6, .int md_number, .int r_7, .int md_bad, .int md_faultPlace, .int md_place, .ref a_md_acts, .ref a_md_actNumbers, .ref a_md_actCounts, .int md_bank, .int md_unaries, .int md_opens, .ref a_md_pile, .int md_piled, .int md_loop, .ref a_md_begins, .ref a_md_goals, .ref a_md_ranks, .ref a_md_choiceCounts, .ref a_md_whens, .ref a_md_becomes, .ref a_md_guessCounts, .ref a_md_guesses, .ref a_md_unaryCounts, .ref a_md_stack, .ref a_md_nexts, .ref a_md_isBegin, .ref a_md_isGoal, .ref a_md_levels, .ref a_md_queue, .ref a_md_hasGuesses, .int md_keptBits, .ref a_md_rounds, .ref a_md_marked, .ref a_md_other, .ref a_md_heights])), (a_md_tape, .inl (cB, 1200, .inl md_tape))] H := hP
          have hD : va_D A [(a_md, .inr (11, [.ref a_md_tape, .int md_size, .int (md_at_6 + 1), .int 3, .int md_at_6, .int md_number, .int r_7, .int md_bad, .int md_faultPlace, .int md_place, .ref a_md_acts, .ref a_md_actNumbers, .ref a_md_actCounts, .int md_bank, .int md_unaries, .int md_opens, .ref a_md_pile, .int md_piled, .int md_loop, .ref a_md_begins, .ref a_md_goals, .ref a_md_ranks, .ref a_md_choiceCounts, .ref a_md_whens, .ref a_md_becomes, .ref a_md_guessCounts, .ref a_md_guesses, .ref a_md_unaryCounts, .ref a_md_stack, .ref a_md_nexts, .ref a_md_isBegin, .ref a_md_isGoal, .ref a_md_levels, .ref a_md_queue, .ref a_md_hasGuesses, .int md_keptBits, .ref a_md_rounds, .ref a_md_marked, .ref a_md_other, .ref a_md_heights])), (a_md_tape, .inl (cB, 1200, .inl md_tape))] := hD
          subst hQ
          have hP9 := hP
          have hD9 := hD
          exact W.vret hx hb hr (fun t ht hW => ⟨⟨(md_at_6 + 1, 3, md_at_6, md_number, r_7), rfl, h, by rw [ht]; exact hP9, va_K.moved hW.alike hK, hD9⟩, hS.F ht⟩) hS.2.2 d_Md_nextToken_312
      · have h := And.right h c_175
        refine lv_iconst (v := 0) hx hb d_Md_nextToken_178 (by decide) ?_
        refine lv_istore_n (lv' := [(2, .int 0), (1, .int r_7), (0, .ref a_md)]) hx hb d_Md_nextToken_179 rfl hl (by decide) rfl (fun ls hl => ?_)
        refine lv_aload_n hx hb d_Md_nextToken_180 rfl (lv_at hl 2 rfl) ?_
        refine lv_iconst (v := 0) hx hb d_Md_nextToken_181 (by decide) ?_
        refine va_put (D := (dC, dI)) (ci := 11) (v := .int 0) (ty := .int) (C := "LoopInductionModel") (T := F_Md) (N := 40) hx hb hts iC_Md t_Md t_Md_ok n_Md hown hK hP hD hS 0 rfl rfl 5 (by decide) fl_145 (fun _ h9 => h9) rfl (by decide +kernel) rfl rfl (Nat.le_of_ble_eq_true rfl) d_Md_nextToken_182 (fun H locs hP hD hS => ?_)
        have hP : va_P (dC, dI) vwCl [(a_md, .inr (11, [.ref a_md_tape, .int md_size, .int md_at_6, .int md_token, .int md_at_6, .int 0, .int md_sign, .int md_bad, .int md_faultPlace, .int md_place, .ref a_md_acts, .ref a_md_actNumbers, .ref a_md_actCounts, .int md_bank, .int md_unaries, .int md_opens, .ref a_md_pile, .int md_piled, .int md_loop, .ref a_md_begins, .ref a_md_goals, .ref a_md_ranks, .ref a_md_choiceCounts, .ref a_md_whens, .ref a_md_becomes, .ref a_md_guessCounts, .ref a_md_guesses, .ref a_md_unaryCounts, .ref a_md_stack, .ref a_md_nexts, .ref a_md_isBegin, .ref a_md_isGoal, .ref a_md_levels, .ref a_md_queue, .ref a_md_hasGuesses, .int md_keptBits, .ref a_md_rounds, .ref a_md_marked, .ref a_md_other, .ref a_md_heights])), (a_md_tape, .inl (cB, 1200, .inl md_tape))] H := hP
        have hD : va_D A [(a_md, .inr (11, [.ref a_md_tape, .int md_size, .int md_at_6, .int md_token, .int md_at_6, .int 0, .int md_sign, .int md_bad, .int md_faultPlace, .int md_place, .ref a_md_acts, .ref a_md_actNumbers, .ref a_md_actCounts, .int md_bank, .int md_unaries, .int md_opens, .ref a_md_pile, .int md_piled, .int md_loop, .ref a_md_begins, .ref a_md_goals, .ref a_md_ranks, .ref a_md_choiceCounts, .ref a_md_whens, .ref a_md_becomes, .ref a_md_guessCounts, .ref a_md_guesses, .ref a_md_unaryCounts, .ref a_md_stack, .ref a_md_nexts, .ref a_md_isBegin, .ref a_md_isGoal, .ref a_md_levels, .ref a_md_queue, .ref a_md_hasGuesses, .int md_keptBits, .ref a_md_rounds, .ref a_md_marked, .ref a_md_other, .ref a_md_heights])), (a_md_tape, .inl (cB, 1200, .inl md_tape))] := hD
        have L185_q_14 : ∀ (k249 : Int32 → (Int32) → (Int32) → Prop) (hk249 : ∀ (x2_15 : Int32) (md_at_16 : Int32) (md_number_17 : Int32), k249 x2_15 md_at_16 md_number_17 → ∀ (H : Heap) (locs : List Loc), va_P (dC, dI) vwCl [(a_md, .inr (11, [.ref a_md_tape, .int md_size, .int md_at_16, .int md_token, .int md_at_6, .int md_number_17, .int md_sign, .int md_bad, .int md_faultPlace, .int md_place, .ref a_md_acts, .ref a_md_actNumbers, .ref a_md_actCounts, .int md_bank, .int md_unaries, .int md_opens, .ref a_md_pile, .int md_piled, .int md_loop, .ref a_md_begins, .ref a_md_goals, .ref a_md_ranks, .ref a_md_choiceCounts, .ref a_md_whens, .ref a_md_becomes, .ref a_md_guessCounts, .ref a_md_guesses, .ref a_md_unaryCounts, .ref a_md_stack, .ref a_md_nexts, .ref a_md_isBegin, .ref a_md_isGoal, .ref a_md_levels, .ref a_md_queue, .ref a_md_hasGuesses, .int md_keptBits, .ref a_md_rounds, .ref a_md_marked, .ref a_md_other, .ref a_md_heights])), (a_md_tape, .inl (cB, 1200, .inl md_tape))] H → va_D A [(a_md, .inr (11, [.ref a_md_tape, .int md_size, .int md_at_16, .int md_token, .int md_at_6, .int md_number_17, .int md_sign, .int md_bad, .int md_faultPlace, .int md_place, .ref a_md_acts, .ref a_md_actNumbers, .ref a_md_actCounts, .int md_bank, .int md_unaries, .int md_opens, .ref a_md_pile, .int md_piled, .int md_loop, .ref a_md_begins, .ref a_md_goals, .ref a_md_ranks, .ref a_md_choiceCounts, .ref a_md_whens, .ref a_md_becomes, .ref a_md_guessCounts, .ref a_md_guesses, .ref a_md_unaryCounts, .ref a_md_stack, .ref a_md_nexts, .ref a_md_isBegin, .ref a_md_isGoal, .ref a_md_levels, .ref a_md_queue, .ref a_md_hasGuesses, .int md_keptBits, .ref a_md_rounds, .ref a_md_marked, .ref a_md_other, .ref a_md_heights])), (a_md_tape, .inl (cB, 1200, .inl md_tape))] → va_S A s.heap H locs → ∀ ls : Array Slot, lv_has ls 6 [(0, .ref a_md), (1, .int r_7), (2, .int x2_15)] → W p l e (headSpec w_Md_nextToken ({ frames := 1, cells := 0, slots := 0, locals := 21 })).room s m (([.ref a_md] : List Value).toArray) below meth c H locs 0 0 QQ (F0 m 249 ls [])) (n : Nat) (x2_11 : Int32) (md_at_12 : Int32) (md_number_13 : Int32), wp_Md_nextToken_L185 r_7 md_size md_tape k249 n x2_11 md_at_12 md_number_13 → ∀ (H : Heap) (locs : List Loc), va_P (dC, dI) vwCl [(a_md, .inr (11, [.ref a_md_tape, .int md_size, .int md_at_12, .int md_token, .int md_at_6, .int md_number_13, .int md_sign, .int md_bad, .int md_faultPlace, .int md_place, .ref a_md_acts, .ref a_md_actNumbers, .ref a_md_actCounts, .int md_bank, .int md_unaries, .int md_opens, .ref a_md_pile, .int md_piled, .int md_loop, .ref a_md_begins, .ref a_md_goals, .ref a_md_ranks, .ref a_md_choiceCounts, .ref a_md_whens, .ref a_md_becomes, .ref a_md_guessCounts, .ref a_md_guesses, .ref a_md_unaryCounts, .ref a_md_stack, .ref a_md_nexts, .ref a_md_isBegin, .ref a_md_isGoal, .ref a_md_levels, .ref a_md_queue, .ref a_md_hasGuesses, .int md_keptBits, .ref a_md_rounds, .ref a_md_marked, .ref a_md_other, .ref a_md_heights])), (a_md_tape, .inl (cB, 1200, .inl md_tape))] H → va_D A [(a_md, .inr (11, [.ref a_md_tape, .int md_size, .int md_at_12, .int md_token, .int md_at_6, .int md_number_13, .int md_sign, .int md_bad, .int md_faultPlace, .int md_place, .ref a_md_acts, .ref a_md_actNumbers, .ref a_md_actCounts, .int md_bank, .int md_unaries, .int md_opens, .ref a_md_pile, .int md_piled, .int md_loop, .ref a_md_begins, .ref a_md_goals, .ref a_md_ranks, .ref a_md_choiceCounts, .ref a_md_whens, .ref a_md_becomes, .ref a_md_guessCounts, .ref a_md_guesses, .ref a_md_unaryCounts, .ref a_md_stack, .ref a_md_nexts, .ref a_md_isBegin, .ref a_md_isGoal, .ref a_md_levels, .ref a_md_queue, .ref a_md_hasGuesses, .int md_keptBits, .ref a_md_rounds, .ref a_md_marked, .ref a_md_other, .ref a_md_heights])), (a_md_tape, .inl (cB, 1200, .inl md_tape))] → va_S A s.heap H locs → ∀ ls : Array Slot, lv_has ls 6 [(0, .ref a_md), (1, .int r_7), (2, .int x2_11)] → W p l e (headSpec w_Md_nextToken ({ frames := 1, cells := 0, slots := 0, locals := 21 })).room s m (([.ref a_md] : List Value).toArray) below meth c H locs 0 0 QQ (F0 m 185 ls []) := by
          intro k249 hk249 n
          induction n with
          | zero => intro x2_11 md_at_12 md_number_13 h; exact (show False from h).elim
          | succ n il =>
            intro x2_11 md_at_12 md_number_13 h H locs hP hD hS ls hl
            refine lv_aload_n hx hb d_Md_nextToken_185 rfl (lv_at hl 0 rfl) ?_
            refine lv_aload_n hx hb d_Md_nextToken_186 rfl (lv_at hl 0 rfl) ?_
            refine va_get (D := (dC, dI)) (ci := 11) (v := .int md_at_12) (C := "LoopInductionModel") (T := F_Md) (N := 40) hx hb hts iC_Md hown hK hP 0 rfl rfl 2 (by decide) fl_121 (fun _ h9 => h9) rfl d_Md_nextToken_187 ?_
            refine jn_i (wr := []) (va_runV (As := [.int md_at_12]) (rest := []) ⟨hx, hb, hml, hown, hts⟩ (c_Md_byteAt l dC dI cI cB cZ adK adV _ a_md a_md_tape a_md_acts a_md_actNumbers a_md_actCounts a_md_pile a_md_begins a_md_goals a_md_ranks a_md_choiceCounts a_md_whens a_md_becomes a_md_guessCounts a_md_guesses a_md_unaryCounts a_md_stack a_md_nexts a_md_isBegin a_md_isGoal a_md_levels a_md_queue a_md_hasGuesses a_md_rounds a_md_marked a_md_other a_md_heights md_size md_at_12 md_token md_at_6 md_number_13 md_sign md_bad md_faultPlace md_place md_bank md_unaries md_opens md_piled md_loop md_keptBits md_tape md_at_12 _ h) (cwV 1 hts (gv_ m_1232 m_1234 m_53 m_96 m_1235) rfl rfl rfl pd_Md_byteAt ⟨Nat.le_of_ble_eq_true rfl, Nat.le_of_ble_eq_true rfl⟩) ⟨pc_blind, va_recv hK hP (ci := 11) (q0 := 0) rfl rfl, pc_of (hP.sub [0, 1] rfl) hK (hD.sub [0, 1] (by decide) rfl) hN hT hS hA⟩ rfl rfl hl.1 rfl (lv_room (Nat.le_of_ble_eq_true rfl)) d_Md_nextToken_190 ⟨Nat.zero_le _, Nat.zero_le _⟩) hP hD hS hA [0, 1] [] rfl rfl (by decide) (by decide) (fun r_18 u_ H locs h hP hD hS => ?_)
            have hP : va_P (dC, dI) vwCl [(a_md, .inr (11, [.ref a_md_tape, .int md_size, .int md_at_12, .int md_token, .int md_at_6, .int md_number_13, .int md_sign, .int md_bad, .int md_faultPlace, .int md_place, .ref a_md_acts, .ref a_md_actNumbers, .ref a_md_actCounts, .int md_bank, .int md_unaries, .int md_opens, .ref a_md_pile, .int md_piled, .int md_loop, .ref a_md_begins, .ref a_md_goals, .ref a_md_ranks, .ref a_md_choiceCounts, .ref a_md_whens, .ref a_md_becomes, .ref a_md_guessCounts, .ref a_md_guesses, .ref a_md_unaryCounts, .ref a_md_stack, .ref a_md_nexts, .ref a_md_isBegin, .ref a_md_isGoal, .ref a_md_levels, .ref a_md_queue, .ref a_md_hasGuesses, .int md_keptBits, .ref a_md_rounds, .ref a_md_marked, .ref a_md_other, .ref a_md_heights])), (a_md_tape, .inl (cB, 1200, .inl md_tape))] H := hP
            have hD : va_D A [(a_md, .inr (11, [.ref a_md_tape, .int md_size, .int md_at_12, .int md_token, .int md_at_6, .int md_number_13, .int md_sign, .int md_bad, .int md_faultPlace, .int md_place, .ref a_md_acts, .ref a_md_actNumbers, .ref a_md_actCounts, .int md_bank, .int md_unaries, .int md_opens, .ref a_md_pile, .int md_piled, .int md_loop, .ref a_md_begins, .ref a_md_goals, .ref a_md_ranks, .ref a_md_choiceCounts, .ref a_md_whens, .ref a_md_becomes, .ref a_md_guessCounts, .ref a_md_guesses, .ref a_md_unaryCounts, .ref a_md_stack, .ref a_md_nexts, .ref a_md_isBegin, .ref a_md_isGoal, .ref a_md_levels, .ref a_md_queue, .ref a_md_hasGuesses, .int md_keptBits, .ref a_md_rounds, .ref a_md_marked, .ref a_md_other, .ref a_md_heights])), (a_md_tape, .inl (cB, 1200, .inl md_tape))] := hD
            refine jn_i (wr := [(a_md, .inr (11, [.ref a_md_tape, .int md_size, .int md_at_12, .int md_token, .int md_at_6, .int md_number_13, .int md_sign, .int md_bad, .int md_faultPlace, .int md_place, .ref a_md_acts, .ref a_md_actNumbers, .ref a_md_actCounts, .int md_bank, .int md_unaries, .int md_opens, .ref a_md_pile, .int md_piled, .int md_loop, .ref a_md_begins, .ref a_md_goals, .ref a_md_ranks, .ref a_md_choiceCounts, .ref a_md_whens, .ref a_md_becomes, .ref a_md_guessCounts, .ref a_md_guesses, .ref a_md_unaryCounts, .ref a_md_stack, .ref a_md_nexts, .ref a_md_isBegin, .ref a_md_isGoal, .ref a_md_levels, .ref a_md_queue, .ref a_md_hasGuesses, .int md_keptBits, .ref a_md_rounds, .ref a_md_marked, .ref a_md_other, .ref a_md_heights])), (a_md_tape, .inl (cB, 1200, .inl md_tape))]) (va_runS (As := [.int r_18]) (rest := []) ⟨hx, hb, hml, hown, hts⟩ (c_Md_isFigure l dC dI cI cB cZ adK adV _ r_18 _ h) (cwS 1 hts (gs_ m_1254 m_1255 m_96 m_1256) rfl rfl rfl pd_Md_isFigure ⟨Nat.le_of_ble_eq_true rfl, Nat.le_of_ble_eq_true rfl⟩) ⟨pc_blind, pc_of (hP.sub [] rfl) hK (hD.sub [] (by decide) rfl) hN hT hS hA⟩ rfl rfl hl.1 rfl (lv_room (Nat.le_of_ble_eq_true rfl)) d_Md_nextToken_193 ⟨Nat.zero_le _, Nat.zero_le _⟩) hP hD hS hA [] [0, 1] rfl rfl (by decide) (by decide) (fun r_19 u_ H locs h hP hD hS => ?_)
            have hP : va_P (dC, dI) vwCl [(a_md, .inr (11, [.ref a_md_tape, .int md_size, .int md_at_12, .int md_token, .int md_at_6, .int md_number_13, .int md_sign, .int md_bad, .int md_faultPlace, .int md_place, .ref a_md_acts, .ref a_md_actNumbers, .ref a_md_actCounts, .int md_bank, .int md_unaries, .int md_opens, .ref a_md_pile, .int md_piled, .int md_loop, .ref a_md_begins, .ref a_md_goals, .ref a_md_ranks, .ref a_md_choiceCounts, .ref a_md_whens, .ref a_md_becomes, .ref a_md_guessCounts, .ref a_md_guesses, .ref a_md_unaryCounts, .ref a_md_stack, .ref a_md_nexts, .ref a_md_isBegin, .ref a_md_isGoal, .ref a_md_levels, .ref a_md_queue, .ref a_md_hasGuesses, .int md_keptBits, .ref a_md_rounds, .ref a_md_marked, .ref a_md_other, .ref a_md_heights])), (a_md_tape, .inl (cB, 1200, .inl md_tape))] H := hP
            have hD : va_D A [(a_md, .inr (11, [.ref a_md_tape, .int md_size, .int md_at_12, .int md_token, .int md_at_6, .int md_number_13, .int md_sign, .int md_bad, .int md_faultPlace, .int md_place, .ref a_md_acts, .ref a_md_actNumbers, .ref a_md_actCounts, .int md_bank, .int md_unaries, .int md_opens, .ref a_md_pile, .int md_piled, .int md_loop, .ref a_md_begins, .ref a_md_goals, .ref a_md_ranks, .ref a_md_choiceCounts, .ref a_md_whens, .ref a_md_becomes, .ref a_md_guessCounts, .ref a_md_guesses, .ref a_md_unaryCounts, .ref a_md_stack, .ref a_md_nexts, .ref a_md_isBegin, .ref a_md_isGoal, .ref a_md_levels, .ref a_md_queue, .ref a_md_hasGuesses, .int md_keptBits, .ref a_md_rounds, .ref a_md_marked, .ref a_md_other, .ref a_md_heights])), (a_md_tape, .inl (cB, 1200, .inl md_tape))] := hD
            refine lv_if_eq (tgt := 249) hx hb d_Md_nextToken_196 (by decide) (fun c_196 => ?_) (fun c_196 => ?_)
            · have h := And.left h c_196
              exact hk249 _ _ _ h _ _ hP hD hS _ hl
            · have h := And.right h c_196
              refine lv_aload_n hx hb d_Md_nextToken_199 rfl (lv_at hl 0 rfl) ?_
              refine lv_iload_n hx hb d_Md_nextToken_200 rfl (lv_at hl 2 rfl) ?_
              refine lv_iconst (v := 4) hx hb d_Md_nextToken_201 (by decide) ?_
              refine lv_icmp_ge (tgt := 227) hx hb d_Md_nextToken_202 (by decide) (fun c_202 => ?_) (fun c_202 => ?_)
              · have h := And.left h c_202
                refine lv_sipush (v := 9999) hx hb d_Md_nextToken_227 (by decide) ?_
                refine va_put (D := (dC, dI)) (ci := 11) (v := .int 9999) (ty := .int) (C := "LoopInductionModel") (T := F_Md) (N := 40) hx hb hts iC_Md t_Md t_Md_ok n_Md hown hK hP hD hS 0 rfl rfl 5 (by decide) fl_145 (fun _ h9 => h9) rfl (by decide +kernel) rfl rfl (Nat.le_of_ble_eq_true rfl) d_Md_nextToken_230 (fun H locs hP hD hS => ?_)
                have hP : va_P (dC, dI) vwCl [(a_md, .inr (11, [.ref a_md_tape, .int md_size, .int md_at_12, .int md_token, .int md_at_6, .int 9999, .int md_sign, .int md_bad, .int md_faultPlace, .int md_place, .ref a_md_acts, .ref a_md_actNumbers, .ref a_md_actCounts, .int md_bank, .int md_unaries, .int md_opens, .ref a_md_pile, .int md_piled, .int md_loop, .ref a_md_begins, .ref a_md_goals, .ref a_md_ranks, .ref a_md_choiceCounts, .ref a_md_whens, .ref a_md_becomes, .ref a_md_guessCounts, .ref a_md_guesses, .ref a_md_unaryCounts, .ref a_md_stack, .ref a_md_nexts, .ref a_md_isBegin, .ref a_md_isGoal, .ref a_md_levels, .ref a_md_queue, .ref a_md_hasGuesses, .int md_keptBits, .ref a_md_rounds, .ref a_md_marked, .ref a_md_other, .ref a_md_heights])), (a_md_tape, .inl (cB, 1200, .inl md_tape))] H := hP
                have hD : va_D A [(a_md, .inr (11, [.ref a_md_tape, .int md_size, .int md_at_12, .int md_token, .int md_at_6, .int 9999, .int md_sign, .int md_bad, .int md_faultPlace, .int md_place, .ref a_md_acts, .ref a_md_actNumbers, .ref a_md_actCounts, .int md_bank, .int md_unaries, .int md_opens, .ref a_md_pile, .int md_piled, .int md_loop, .ref a_md_begins, .ref a_md_goals, .ref a_md_ranks, .ref a_md_choiceCounts, .ref a_md_whens, .ref a_md_becomes, .ref a_md_guessCounts, .ref a_md_guesses, .ref a_md_unaryCounts, .ref a_md_stack, .ref a_md_nexts, .ref a_md_isBegin, .ref a_md_isGoal, .ref a_md_levels, .ref a_md_queue, .ref a_md_hasGuesses, .int md_keptBits, .ref a_md_rounds, .ref a_md_marked, .ref a_md_other, .ref a_md_heights])), (a_md_tape, .inl (cB, 1200, .inl md_tape))] := hD
                refine lv_iinc (v := x2_11 + 1) (lv' := [(2, .int (x2_11 + 1)), (0, .ref a_md), (1, .int r_7)]) hx hb d_Md_nextToken_233 hl (k := 2) rfl rfl (by decide) rfl (fun ls hl => ?_)
                refine lv_aload_n hx hb d_Md_nextToken_236 rfl (lv_at hl 1 rfl) ?_
                refine lv_dup hx hb d_Md_nextToken_237 rfl ?_
                refine va_get (D := (dC, dI)) (ci := 11) (v := .int md_at_12) (C := "LoopInductionModel") (T := F_Md) (N := 40) hx hb hts iC_Md hown hK hP 0 rfl rfl 2 (by decide) fl_121 (fun _ h9 => h9) rfl d_Md_nextToken_238 ?_
                refine lv_iconst (v := 1) hx hb d_Md_nextToken_241 (by decide) ?_
                refine lv_iadd hx hb d_Md_nextToken_242 ?_
                refine va_put (D := (dC, dI)) (ci := 11) (v := .int (md_at_12 + 1)) (ty := .int) (C := "LoopInductionModel") (T := F_Md) (N := 40) hx hb hts iC_Md t_Md t_Md_ok n_Md hown hK hP hD hS 0 rfl rfl 2 (by decide) fl_121 (fun _ h9 => h9) rfl (by decide +kernel) rfl rfl (Nat.le_of_ble_eq_true rfl) d_Md_nextToken_243 (fun H locs hP hD hS => ?_)
                have hP : va_P (dC, dI) vwCl [(a_md, .inr (11, [.ref a_md_tape, .int md_size, .int (md_at_12 + 1), .int md_token, .int md_at_6, .int 9999, .int md_sign, .int md_bad, .int md_faultPlace, .int md_place, .ref a_md_acts, .ref a_md_actNumbers, .ref a_md_actCounts, .int md_bank, .int md_unaries, .int md_opens, .ref a_md_pile, .int md_piled, .int md_loop, .ref a_md_begins, .ref a_md_goals, .ref a_md_ranks, .ref a_md_choiceCounts, .ref a_md_whens, .ref a_md_becomes, .ref a_md_guessCounts, .ref a_md_guesses, .ref a_md_unaryCounts, .ref a_md_stack, .ref a_md_nexts, .ref a_md_isBegin, .ref a_md_isGoal, .ref a_md_levels, .ref a_md_queue, .ref a_md_hasGuesses, .int md_keptBits, .ref a_md_rounds, .ref a_md_marked, .ref a_md_other, .ref a_md_heights])), (a_md_tape, .inl (cB, 1200, .inl md_tape))] H := hP
                have hD : va_D A [(a_md, .inr (11, [.ref a_md_tape, .int md_size, .int (md_at_12 + 1), .int md_token, .int md_at_6, .int 9999, .int md_sign, .int md_bad, .int md_faultPlace, .int md_place, .ref a_md_acts, .ref a_md_actNumbers, .ref a_md_actCounts, .int md_bank, .int md_unaries, .int md_opens, .ref a_md_pile, .int md_piled, .int md_loop, .ref a_md_begins, .ref a_md_goals, .ref a_md_ranks, .ref a_md_choiceCounts, .ref a_md_whens, .ref a_md_becomes, .ref a_md_guessCounts, .ref a_md_guesses, .ref a_md_unaryCounts, .ref a_md_stack, .ref a_md_nexts, .ref a_md_isBegin, .ref a_md_isGoal, .ref a_md_levels, .ref a_md_queue, .ref a_md_hasGuesses, .int md_keptBits, .ref a_md_rounds, .ref a_md_marked, .ref a_md_other, .ref a_md_heights])), (a_md_tape, .inl (cB, 1200, .inl md_tape))] := hD
                refine lv_goto (tgt := 185) hx hb d_Md_nextToken_246 (by decide) ?_
                exact il _ _ _ h _ _ hP hD hS _ (lv_sub hl [1, 2, 0] rfl)
              · have h := And.right h c_202
                refine lv_bipush (v := 10) hx hb d_Md_nextToken_205 (by decide) ?_
                refine lv_aload_n hx hb d_Md_nextToken_207 rfl (lv_at hl 0 rfl) ?_
                refine va_get (D := (dC, dI)) (ci := 11) (v := .int md_number_13) (C := "LoopInductionModel") (T := F_Md) (N := 40) hx hb hts iC_Md hown hK hP 0 rfl rfl 5 (by decide) fl_145 (fun _ h9 => h9) rfl d_Md_nextToken_208 ?_
                refine lv_imul hx hb d_Md_nextToken_211 ?_
                refine lv_aload_n hx hb d_Md_nextToken_212 rfl (lv_at hl 0 rfl) ?_
                refine lv_aload_n hx hb d_Md_nextToken_213 rfl (lv_at hl 0 rfl) ?_
                refine va_get (D := (dC, dI)) (ci := 11) (v := .int md_at_12) (C := "LoopInductionModel") (T := F_Md) (N := 40) hx hb hts iC_Md hown hK hP 0 rfl rfl 2 (by decide) fl_121 (fun _ h9 => h9) rfl d_Md_nextToken_214 ?_
                refine jn_i (wr := []) (va_runV (As := [.int md_at_12]) (rest := [.int (10 * md_number_13), .ref a_md]) ⟨hx, hb, hml, hown, hts⟩ (c_Md_byteAt l dC dI cI cB cZ adK adV _ a_md a_md_tape a_md_acts a_md_actNumbers a_md_actCounts a_md_pile a_md_begins a_md_goals a_md_ranks a_md_choiceCounts a_md_whens a_md_becomes a_md_guessCounts a_md_guesses a_md_unaryCounts a_md_stack a_md_nexts a_md_isBegin a_md_isGoal a_md_levels a_md_queue a_md_hasGuesses a_md_rounds a_md_marked a_md_other a_md_heights md_size md_at_12 md_token md_at_6 md_number_13 md_sign md_bad md_faultPlace md_place md_bank md_unaries md_opens md_piled md_loop md_keptBits md_tape md_at_12 _ h) (cwV 1 hts (gv_ m_1232 m_1234 m_53 m_96 m_1235) rfl rfl rfl pd_Md_byteAt ⟨Nat.le_of_ble_eq_true rfl, Nat.le_of_ble_eq_true rfl⟩) ⟨pc_blind, va_recv hK hP (ci := 11) (q0 := 0) rfl rfl, pc_of (hP.sub [0, 1] rfl) hK (hD.sub [0, 1] (by decide) rfl) hN hT hS hA⟩ rfl rfl hl.1 rfl (lv_room (Nat.le_of_ble_eq_true rfl)) d_Md_nextToken_217 ⟨Nat.zero_le _, Nat.zero_le _⟩) hP hD hS hA [0, 1] [] rfl rfl (by decide) (by decide) (fun r_20 u_ H locs h hP hD hS => ?_)
                have hP : va_P (dC, dI) vwCl [(a_md, .inr (11, [.ref a_md_tape, .int md_size, .int md_at_12, .int md_token, .int md_at_6, .int md_number_13, .int md_sign, .int md_bad, .int md_faultPlace, .int md_place, .ref a_md_acts, .ref a_md_actNumbers, .ref a_md_actCounts, .int md_bank, .int md_unaries, .int md_opens, .ref a_md_pile, .int md_piled, .int md_loop, .ref a_md_begins, .ref a_md_goals, .ref a_md_ranks, .ref a_md_choiceCounts, .ref a_md_whens, .ref a_md_becomes, .ref a_md_guessCounts, .ref a_md_guesses, .ref a_md_unaryCounts, .ref a_md_stack, .ref a_md_nexts, .ref a_md_isBegin, .ref a_md_isGoal, .ref a_md_levels, .ref a_md_queue, .ref a_md_hasGuesses, .int md_keptBits, .ref a_md_rounds, .ref a_md_marked, .ref a_md_other, .ref a_md_heights])), (a_md_tape, .inl (cB, 1200, .inl md_tape))] H := hP
                have hD : va_D A [(a_md, .inr (11, [.ref a_md_tape, .int md_size, .int md_at_12, .int md_token, .int md_at_6, .int md_number_13, .int md_sign, .int md_bad, .int md_faultPlace, .int md_place, .ref a_md_acts, .ref a_md_actNumbers, .ref a_md_actCounts, .int md_bank, .int md_unaries, .int md_opens, .ref a_md_pile, .int md_piled, .int md_loop, .ref a_md_begins, .ref a_md_goals, .ref a_md_ranks, .ref a_md_choiceCounts, .ref a_md_whens, .ref a_md_becomes, .ref a_md_guessCounts, .ref a_md_guesses, .ref a_md_unaryCounts, .ref a_md_stack, .ref a_md_nexts, .ref a_md_isBegin, .ref a_md_isGoal, .ref a_md_levels, .ref a_md_queue, .ref a_md_hasGuesses, .int md_keptBits, .ref a_md_rounds, .ref a_md_marked, .ref a_md_other, .ref a_md_heights])), (a_md_tape, .inl (cB, 1200, .inl md_tape))] := hD
                refine lv_iadd hx hb d_Md_nextToken_220 ?_
                refine lv_bipush (v := 48) hx hb d_Md_nextToken_221 (by decide) ?_
                refine lv_isub hx hb d_Md_nextToken_223 ?_
                refine lv_goto (tgt := 230) hx hb d_Md_nextToken_224 (by decide) ?_
                refine va_put (D := (dC, dI)) (ci := 11) (v := .int (((10 * md_number_13) + r_20) - 48)) (ty := .int) (C := "LoopInductionModel") (T := F_Md) (N := 40) hx hb hts iC_Md t_Md t_Md_ok n_Md hown hK hP hD hS 0 rfl rfl 5 (by decide) fl_145 (fun _ h9 => h9) rfl (by decide +kernel) rfl rfl (Nat.le_of_ble_eq_true rfl) d_Md_nextToken_230 (fun H locs hP hD hS => ?_)
                have hP : va_P (dC, dI) vwCl [(a_md, .inr (11, [.ref a_md_tape, .int md_size, .int md_at_12, .int md_token, .int md_at_6, .int (((10 * md_number_13) + r_20) - 48), .int md_sign, .int md_bad, .int md_faultPlace, .int md_place, .ref a_md_acts, .ref a_md_actNumbers, .ref a_md_actCounts, .int md_bank, .int md_unaries, .int md_opens, .ref a_md_pile, .int md_piled, .int md_loop, .ref a_md_begins, .ref a_md_goals, .ref a_md_ranks, .ref a_md_choiceCounts, .ref a_md_whens, .ref a_md_becomes, .ref a_md_guessCounts, .ref a_md_guesses, .ref a_md_unaryCounts, .ref a_md_stack, .ref a_md_nexts, .ref a_md_isBegin, .ref a_md_isGoal, .ref a_md_levels, .ref a_md_queue, .ref a_md_hasGuesses, .int md_keptBits, .ref a_md_rounds, .ref a_md_marked, .ref a_md_other, .ref a_md_heights])), (a_md_tape, .inl (cB, 1200, .inl md_tape))] H := hP
                have hD : va_D A [(a_md, .inr (11, [.ref a_md_tape, .int md_size, .int md_at_12, .int md_token, .int md_at_6, .int (((10 * md_number_13) + r_20) - 48), .int md_sign, .int md_bad, .int md_faultPlace, .int md_place, .ref a_md_acts, .ref a_md_actNumbers, .ref a_md_actCounts, .int md_bank, .int md_unaries, .int md_opens, .ref a_md_pile, .int md_piled, .int md_loop, .ref a_md_begins, .ref a_md_goals, .ref a_md_ranks, .ref a_md_choiceCounts, .ref a_md_whens, .ref a_md_becomes, .ref a_md_guessCounts, .ref a_md_guesses, .ref a_md_unaryCounts, .ref a_md_stack, .ref a_md_nexts, .ref a_md_isBegin, .ref a_md_isGoal, .ref a_md_levels, .ref a_md_queue, .ref a_md_hasGuesses, .int md_keptBits, .ref a_md_rounds, .ref a_md_marked, .ref a_md_other, .ref a_md_heights])), (a_md_tape, .inl (cB, 1200, .inl md_tape))] := hD
                refine lv_iinc (v := x2_11 + 1) (lv' := [(2, .int (x2_11 + 1)), (0, .ref a_md), (1, .int r_7)]) hx hb d_Md_nextToken_233 hl (k := 2) rfl rfl (by decide) rfl (fun ls hl => ?_)
                refine lv_aload_n hx hb d_Md_nextToken_236 rfl (lv_at hl 1 rfl) ?_
                refine lv_dup hx hb d_Md_nextToken_237 rfl ?_
                refine va_get (D := (dC, dI)) (ci := 11) (v := .int md_at_12) (C := "LoopInductionModel") (T := F_Md) (N := 40) hx hb hts iC_Md hown hK hP 0 rfl rfl 2 (by decide) fl_121 (fun _ h9 => h9) rfl d_Md_nextToken_238 ?_
                refine lv_iconst (v := 1) hx hb d_Md_nextToken_241 (by decide) ?_
                refine lv_iadd hx hb d_Md_nextToken_242 ?_
                refine va_put (D := (dC, dI)) (ci := 11) (v := .int (md_at_12 + 1)) (ty := .int) (C := "LoopInductionModel") (T := F_Md) (N := 40) hx hb hts iC_Md t_Md t_Md_ok n_Md hown hK hP hD hS 0 rfl rfl 2 (by decide) fl_121 (fun _ h9 => h9) rfl (by decide +kernel) rfl rfl (Nat.le_of_ble_eq_true rfl) d_Md_nextToken_243 (fun H locs hP hD hS => ?_)
                have hP : va_P (dC, dI) vwCl [(a_md, .inr (11, [.ref a_md_tape, .int md_size, .int (md_at_12 + 1), .int md_token, .int md_at_6, .int (((10 * md_number_13) + r_20) - 48), .int md_sign, .int md_bad, .int md_faultPlace, .int md_place, .ref a_md_acts, .ref a_md_actNumbers, .ref a_md_actCounts, .int md_bank, .int md_unaries, .int md_opens, .ref a_md_pile, .int md_piled, .int md_loop, .ref a_md_begins, .ref a_md_goals, .ref a_md_ranks, .ref a_md_choiceCounts, .ref a_md_whens, .ref a_md_becomes, .ref a_md_guessCounts, .ref a_md_guesses, .ref a_md_unaryCounts, .ref a_md_stack, .ref a_md_nexts, .ref a_md_isBegin, .ref a_md_isGoal, .ref a_md_levels, .ref a_md_queue, .ref a_md_hasGuesses, .int md_keptBits, .ref a_md_rounds, .ref a_md_marked, .ref a_md_other, .ref a_md_heights])), (a_md_tape, .inl (cB, 1200, .inl md_tape))] H := hP
                have hD : va_D A [(a_md, .inr (11, [.ref a_md_tape, .int md_size, .int (md_at_12 + 1), .int md_token, .int md_at_6, .int (((10 * md_number_13) + r_20) - 48), .int md_sign, .int md_bad, .int md_faultPlace, .int md_place, .ref a_md_acts, .ref a_md_actNumbers, .ref a_md_actCounts, .int md_bank, .int md_unaries, .int md_opens, .ref a_md_pile, .int md_piled, .int md_loop, .ref a_md_begins, .ref a_md_goals, .ref a_md_ranks, .ref a_md_choiceCounts, .ref a_md_whens, .ref a_md_becomes, .ref a_md_guessCounts, .ref a_md_guesses, .ref a_md_unaryCounts, .ref a_md_stack, .ref a_md_nexts, .ref a_md_isBegin, .ref a_md_isGoal, .ref a_md_levels, .ref a_md_queue, .ref a_md_hasGuesses, .int md_keptBits, .ref a_md_rounds, .ref a_md_marked, .ref a_md_other, .ref a_md_heights])), (a_md_tape, .inl (cB, 1200, .inl md_tape))] := hD
                refine lv_goto (tgt := 185) hx hb d_Md_nextToken_246 (by decide) ?_
                exact il _ _ _ h _ _ hP hD hS _ (lv_sub hl [1, 2, 0] rfl)
        obtain ⟨n_, h⟩ := h
        refine L185_q_14 _ ?_ n_ _ _ _ h _ _ hP hD hS _ (lv_sub hl [2, 1, 0] rfl)
        intro x2_21 md_at_22 md_number_23 h H locs hP hD hS ls hl
        refine lv_aload_n hx hb d_Md_nextToken_249 rfl (lv_at hl 0 rfl) ?_
        refine lv_aload_n hx hb d_Md_nextToken_250 rfl (lv_at hl 0 rfl) ?_
        refine va_get (D := (dC, dI)) (ci := 11) (v := .int md_number_23) (C := "LoopInductionModel") (T := F_Md) (N := 40) hx hb hts iC_Md hown hK hP 0 rfl rfl 5 (by decide) fl_145 (fun _ h9 => h9) rfl d_Md_nextToken_251 ?_
        refine lv_bipush (v := 15) hx hb d_Md_nextToken_254 (by decide) ?_
        refine lv_icmp_gt (tgt := 270) hx hb d_Md_nextToken_256 (by decide) (fun c_256 => ?_) (fun c_256 => ?_)
        · have h := And.left h c_256
          refine lv_iconst (v := 1) hx hb d_Md_nextToken_270 (by decide) ?_
          refine lv_goto (tgt := 275) hx hb d_Md_nextToken_271 (by decide) ?_
          refine va_put (D := (dC, dI)) (ci := 11) (v := .int 1) (ty := .int) (C := "LoopInductionModel") (T := F_Md) (N := 40) hx hb hts iC_Md t_Md t_Md_ok n_Md hown hK hP hD hS 0 rfl rfl 3 (by decide) fl_131 (fun _ h9 => h9) rfl (by decide +kernel) rfl rfl (Nat.le_of_ble_eq_true rfl) d_Md_nextToken_275 (fun H locs hP hD hS => ?_)
          have hP : va_P (dC, dI) vwCl [(a_md, .inr (11, [.ref a_md_tape, .int md_size, .int md_at_22, .int 1, .int md_at_6, .int md_number_23, .int md_sign, .int md_bad, .int md_faultPlace, .int md_place, .ref a_md_acts, .ref a_md_actNumbers, .ref a_md_actCounts, .int md_bank, .int md_unaries, .int md_opens, .ref a_md_pile, .int md_piled, .int md_loop, .ref a_md_begins, .ref a_md_goals, .ref a_md_ranks, .ref a_md_choiceCounts, .ref a_md_whens, .ref a_md_becomes, .ref a_md_guessCounts, .ref a_md_guesses, .ref a_md_unaryCounts, .ref a_md_stack, .ref a_md_nexts, .ref a_md_isBegin, .ref a_md_isGoal, .ref a_md_levels, .ref a_md_queue, .ref a_md_hasGuesses, .int md_keptBits, .ref a_md_rounds, .ref a_md_marked, .ref a_md_other, .ref a_md_heights])), (a_md_tape, .inl (cB, 1200, .inl md_tape))] H := hP
          have hD : va_D A [(a_md, .inr (11, [.ref a_md_tape, .int md_size, .int md_at_22, .int 1, .int md_at_6, .int md_number_23, .int md_sign, .int md_bad, .int md_faultPlace, .int md_place, .ref a_md_acts, .ref a_md_actNumbers, .ref a_md_actCounts, .int md_bank, .int md_unaries, .int md_opens, .ref a_md_pile, .int md_piled, .int md_loop, .ref a_md_begins, .ref a_md_goals, .ref a_md_ranks, .ref a_md_choiceCounts, .ref a_md_whens, .ref a_md_becomes, .ref a_md_guessCounts, .ref a_md_guesses, .ref a_md_unaryCounts, .ref a_md_stack, .ref a_md_nexts, .ref a_md_isBegin, .ref a_md_isGoal, .ref a_md_levels, .ref a_md_queue, .ref a_md_hasGuesses, .int md_keptBits, .ref a_md_rounds, .ref a_md_marked, .ref a_md_other, .ref a_md_heights])), (a_md_tape, .inl (cB, 1200, .inl md_tape))] := hD
          refine lv_goto (tgt := 312) hx hb d_Md_nextToken_278 (by decide) ?_
          subst hQ
          have hP9 := hP
          have hD9 := hD
          exact W.vret hx hb hr (fun t ht hW => ⟨⟨(md_at_22, 1, md_at_6, md_number_23, md_sign), rfl, h, by rw [ht]; exact hP9, va_K.moved hW.alike hK, hD9⟩, hS.F ht⟩) hS.2.2 d_Md_nextToken_312
        · have h := And.right h c_256
          refine lv_iload_n hx hb d_Md_nextToken_259 rfl (lv_at hl 2 rfl) ?_
          refine lv_iconst (v := 1) hx hb d_Md_nextToken_260 (by decide) ?_
          refine lv_icmp_le (tgt := 274) hx hb d_Md_nextToken_261 (by decide) (fun c_261 => ?_) (fun c_261 => ?_)
          · have h := And.left h c_261
            refine lv_iconst (v := 2) hx hb d_Md_nextToken_274 (by decide) ?_
            refine va_put (D := (dC, dI)) (ci := 11) (v := .int 2) (ty := .int) (C := "LoopInductionModel") (T := F_Md) (N := 40) hx hb hts iC_Md t_Md t_Md_ok n_Md hown hK hP hD hS 0 rfl rfl 3 (by decide) fl_131 (fun _ h9 => h9) rfl (by decide +kernel) rfl rfl (Nat.le_of_ble_eq_true rfl) d_Md_nextToken_275 (fun H locs hP hD hS => ?_)
            have hP : va_P (dC, dI) vwCl [(a_md, .inr (11, [.ref a_md_tape, .int md_size, .int md_at_22, .int 2, .int md_at_6, .int md_number_23, .int md_sign, .int md_bad, .int md_faultPlace, .int md_place, .ref a_md_acts, .ref a_md_actNumbers, .ref a_md_actCounts, .int md_bank, .int md_unaries, .int md_opens, .ref a_md_pile, .int md_piled, .int md_loop, .ref a_md_begins, .ref a_md_goals, .ref a_md_ranks, .ref a_md_choiceCounts, .ref a_md_whens, .ref a_md_becomes, .ref a_md_guessCounts, .ref a_md_guesses, .ref a_md_unaryCounts, .ref a_md_stack, .ref a_md_nexts, .ref a_md_isBegin, .ref a_md_isGoal, .ref a_md_levels, .ref a_md_queue, .ref a_md_hasGuesses, .int md_keptBits, .ref a_md_rounds, .ref a_md_marked, .ref a_md_other, .ref a_md_heights])), (a_md_tape, .inl (cB, 1200, .inl md_tape))] H := hP
            have hD : va_D A [(a_md, .inr (11, [.ref a_md_tape, .int md_size, .int md_at_22, .int 2, .int md_at_6, .int md_number_23, .int md_sign, .int md_bad, .int md_faultPlace, .int md_place, .ref a_md_acts, .ref a_md_actNumbers, .ref a_md_actCounts, .int md_bank, .int md_unaries, .int md_opens, .ref a_md_pile, .int md_piled, .int md_loop, .ref a_md_begins, .ref a_md_goals, .ref a_md_ranks, .ref a_md_choiceCounts, .ref a_md_whens, .ref a_md_becomes, .ref a_md_guessCounts, .ref a_md_guesses, .ref a_md_unaryCounts, .ref a_md_stack, .ref a_md_nexts, .ref a_md_isBegin, .ref a_md_isGoal, .ref a_md_levels, .ref a_md_queue, .ref a_md_hasGuesses, .int md_keptBits, .ref a_md_rounds, .ref a_md_marked, .ref a_md_other, .ref a_md_heights])), (a_md_tape, .inl (cB, 1200, .inl md_tape))] := hD
            refine lv_goto (tgt := 312) hx hb d_Md_nextToken_278 (by decide) ?_
            subst hQ
            have hP9 := hP
            have hD9 := hD
            exact W.vret hx hb hr (fun t ht hW => ⟨⟨(md_at_22, 2, md_at_6, md_number_23, md_sign), rfl, h, by rw [ht]; exact hP9, va_K.moved hW.alike hK, hD9⟩, hS.F ht⟩) hS.2.2 d_Md_nextToken_312
          · have h := And.right h c_261
            refine lv_iload_n hx hb d_Md_nextToken_264 rfl (lv_at hl 1 rfl) ?_
            refine lv_bipush (v := 48) hx hb d_Md_nextToken_265 (by decide) ?_
            refine lv_icmp_ne (tgt := 274) hx hb d_Md_nextToken_267 (by decide) (fun c_267 => ?_) (fun c_267 => ?_)
            · have h := And.left h c_267
              refine lv_iconst (v := 2) hx hb d_Md_nextToken_274 (by decide) ?_
              refine va_put (D := (dC, dI)) (ci := 11) (v := .int 2) (ty := .int) (C := "LoopInductionModel") (T := F_Md) (N := 40) hx hb hts iC_Md t_Md t_Md_ok n_Md hown hK hP hD hS 0 rfl rfl 3 (by decide) fl_131 (fun _ h9 => h9) rfl (by decide +kernel) rfl rfl (Nat.le_of_ble_eq_true rfl) d_Md_nextToken_275 (fun H locs hP hD hS => ?_)
              have hP : va_P (dC, dI) vwCl [(a_md, .inr (11, [.ref a_md_tape, .int md_size, .int md_at_22, .int 2, .int md_at_6, .int md_number_23, .int md_sign, .int md_bad, .int md_faultPlace, .int md_place, .ref a_md_acts, .ref a_md_actNumbers, .ref a_md_actCounts, .int md_bank, .int md_unaries, .int md_opens, .ref a_md_pile, .int md_piled, .int md_loop, .ref a_md_begins, .ref a_md_goals, .ref a_md_ranks, .ref a_md_choiceCounts, .ref a_md_whens, .ref a_md_becomes, .ref a_md_guessCounts, .ref a_md_guesses, .ref a_md_unaryCounts, .ref a_md_stack, .ref a_md_nexts, .ref a_md_isBegin, .ref a_md_isGoal, .ref a_md_levels, .ref a_md_queue, .ref a_md_hasGuesses, .int md_keptBits, .ref a_md_rounds, .ref a_md_marked, .ref a_md_other, .ref a_md_heights])), (a_md_tape, .inl (cB, 1200, .inl md_tape))] H := hP
              have hD : va_D A [(a_md, .inr (11, [.ref a_md_tape, .int md_size, .int md_at_22, .int 2, .int md_at_6, .int md_number_23, .int md_sign, .int md_bad, .int md_faultPlace, .int md_place, .ref a_md_acts, .ref a_md_actNumbers, .ref a_md_actCounts, .int md_bank, .int md_unaries, .int md_opens, .ref a_md_pile, .int md_piled, .int md_loop, .ref a_md_begins, .ref a_md_goals, .ref a_md_ranks, .ref a_md_choiceCounts, .ref a_md_whens, .ref a_md_becomes, .ref a_md_guessCounts, .ref a_md_guesses, .ref a_md_unaryCounts, .ref a_md_stack, .ref a_md_nexts, .ref a_md_isBegin, .ref a_md_isGoal, .ref a_md_levels, .ref a_md_queue, .ref a_md_hasGuesses, .int md_keptBits, .ref a_md_rounds, .ref a_md_marked, .ref a_md_other, .ref a_md_heights])), (a_md_tape, .inl (cB, 1200, .inl md_tape))] := hD
              refine lv_goto (tgt := 312) hx hb d_Md_nextToken_278 (by decide) ?_
              subst hQ
              have hP9 := hP
              have hD9 := hD
              exact W.vret hx hb hr (fun t ht hW => ⟨⟨(md_at_22, 2, md_at_6, md_number_23, md_sign), rfl, h, by rw [ht]; exact hP9, va_K.moved hW.alike hK, hD9⟩, hS.F ht⟩) hS.2.2 d_Md_nextToken_312
            · have h := And.right h c_267
              refine lv_iconst (v := 1) hx hb d_Md_nextToken_270 (by decide) ?_
              refine lv_goto (tgt := 275) hx hb d_Md_nextToken_271 (by decide) ?_
              refine va_put (D := (dC, dI)) (ci := 11) (v := .int 1) (ty := .int) (C := "LoopInductionModel") (T := F_Md) (N := 40) hx hb hts iC_Md t_Md t_Md_ok n_Md hown hK hP hD hS 0 rfl rfl 3 (by decide) fl_131 (fun _ h9 => h9) rfl (by decide +kernel) rfl rfl (Nat.le_of_ble_eq_true rfl) d_Md_nextToken_275 (fun H locs hP hD hS => ?_)
              have hP : va_P (dC, dI) vwCl [(a_md, .inr (11, [.ref a_md_tape, .int md_size, .int md_at_22, .int 1, .int md_at_6, .int md_number_23, .int md_sign, .int md_bad, .int md_faultPlace, .int md_place, .ref a_md_acts, .ref a_md_actNumbers, .ref a_md_actCounts, .int md_bank, .int md_unaries, .int md_opens, .ref a_md_pile, .int md_piled, .int md_loop, .ref a_md_begins, .ref a_md_goals, .ref a_md_ranks, .ref a_md_choiceCounts, .ref a_md_whens, .ref a_md_becomes, .ref a_md_guessCounts, .ref a_md_guesses, .ref a_md_unaryCounts, .ref a_md_stack, .ref a_md_nexts, .ref a_md_isBegin, .ref a_md_isGoal, .ref a_md_levels, .ref a_md_queue, .ref a_md_hasGuesses, .int md_keptBits, .ref a_md_rounds, .ref a_md_marked, .ref a_md_other, .ref a_md_heights])), (a_md_tape, .inl (cB, 1200, .inl md_tape))] H := hP
              have hD : va_D A [(a_md, .inr (11, [.ref a_md_tape, .int md_size, .int md_at_22, .int 1, .int md_at_6, .int md_number_23, .int md_sign, .int md_bad, .int md_faultPlace, .int md_place, .ref a_md_acts, .ref a_md_actNumbers, .ref a_md_actCounts, .int md_bank, .int md_unaries, .int md_opens, .ref a_md_pile, .int md_piled, .int md_loop, .ref a_md_begins, .ref a_md_goals, .ref a_md_ranks, .ref a_md_choiceCounts, .ref a_md_whens, .ref a_md_becomes, .ref a_md_guessCounts, .ref a_md_guesses, .ref a_md_unaryCounts, .ref a_md_stack, .ref a_md_nexts, .ref a_md_isBegin, .ref a_md_isGoal, .ref a_md_levels, .ref a_md_queue, .ref a_md_hasGuesses, .int md_keptBits, .ref a_md_rounds, .ref a_md_marked, .ref a_md_other, .ref a_md_heights])), (a_md_tape, .inl (cB, 1200, .inl md_tape))] := hD
              refine lv_goto (tgt := 312) hx hb d_Md_nextToken_278 (by decide) ?_
              subst hQ
              have hP9 := hP
              have hD9 := hD
              exact W.vret hx hb hr (fun t ht hW => ⟨⟨(md_at_22, 1, md_at_6, md_number_23, md_sign), rfl, h, by rw [ht]; exact hP9, va_K.moved hW.alike hK, hD9⟩, hS.F ht⟩) hS.2.2 d_Md_nextToken_312
    · have h := And.right h c_72
      refine lv_iconst (v := 0) hx hb d_Md_nextToken_75 (by decide) ?_
      refine lv_istore_n (lv' := [(2, .int 0), (1, .int r_7), (0, .ref a_md)]) hx hb d_Md_nextToken_76 rfl hl (by decide) rfl (fun ls hl => ?_)
      refine lv_lconst (v := 0) hx hb d_Md_nextToken_77 (by decide) ?_
      refine lv_lstore_n (lv' := [(3, .long 0), (2, .int 0), (1, .int r_7), (0, .ref a_md)]) hx hb d_Md_nextToken_78 rfl hl (by decide) rfl (fun ls hl => ?_)
      have L79_q_27 : ∀ (k134 : Int32 → Int64 → (Int32) → Prop) (hk134 : ∀ (x2_28 : Int32) (x3_29 : Int64) (md_at_30 : Int32), k134 x2_28 x3_29 md_at_30 → ∀ (H : Heap) (locs : List Loc), va_P (dC, dI) vwCl [(a_md, .inr (11, [.ref a_md_tape, .int md_size, .int md_at_30, .int md_token, .int md_at_6, .int md_number, .int md_sign, .int md_bad, .int md_faultPlace, .int md_place, .ref a_md_acts, .ref a_md_actNumbers, .ref a_md_actCounts, .int md_bank, .int md_unaries, .int md_opens, .ref a_md_pile, .int md_piled, .int md_loop, .ref a_md_begins, .ref a_md_goals, .ref a_md_ranks, .ref a_md_choiceCounts, .ref a_md_whens, .ref a_md_becomes, .ref a_md_guessCounts, .ref a_md_guesses, .ref a_md_unaryCounts, .ref a_md_stack, .ref a_md_nexts, .ref a_md_isBegin, .ref a_md_isGoal, .ref a_md_levels, .ref a_md_queue, .ref a_md_hasGuesses, .int md_keptBits, .ref a_md_rounds, .ref a_md_marked, .ref a_md_other, .ref a_md_heights])), (a_md_tape, .inl (cB, 1200, .inl md_tape))] H → va_D A [(a_md, .inr (11, [.ref a_md_tape, .int md_size, .int md_at_30, .int md_token, .int md_at_6, .int md_number, .int md_sign, .int md_bad, .int md_faultPlace, .int md_place, .ref a_md_acts, .ref a_md_actNumbers, .ref a_md_actCounts, .int md_bank, .int md_unaries, .int md_opens, .ref a_md_pile, .int md_piled, .int md_loop, .ref a_md_begins, .ref a_md_goals, .ref a_md_ranks, .ref a_md_choiceCounts, .ref a_md_whens, .ref a_md_becomes, .ref a_md_guessCounts, .ref a_md_guesses, .ref a_md_unaryCounts, .ref a_md_stack, .ref a_md_nexts, .ref a_md_isBegin, .ref a_md_isGoal, .ref a_md_levels, .ref a_md_queue, .ref a_md_hasGuesses, .int md_keptBits, .ref a_md_rounds, .ref a_md_marked, .ref a_md_other, .ref a_md_heights])), (a_md_tape, .inl (cB, 1200, .inl md_tape))] → va_S A s.heap H locs → ∀ ls : Array Slot, lv_has ls 6 [(0, .ref a_md), (2, .int x2_28), (3, .long x3_29)] → W p l e (headSpec w_Md_nextToken ({ frames := 1, cells := 0, slots := 0, locals := 21 })).room s m (([.ref a_md] : List Value).toArray) below meth c H locs 0 0 QQ (F0 m 134 ls [])) (n : Nat) (x2_24 : Int32) (x3_25 : Int64) (md_at_26 : Int32), wp_Md_nextToken_L79 md_size md_tape k134 n x2_24 x3_25 md_at_26 → ∀ (H : Heap) (locs : List Loc), va_P (dC, dI) vwCl [(a_md, .inr (11, [.ref a_md_tape, .int md_size, .int md_at_26, .int md_token, .int md_at_6, .int md_number, .int md_sign, .int md_bad, .int md_faultPlace, .int md_place, .ref a_md_acts, .ref a_md_actNumbers, .ref a_md_actCounts, .int md_bank, .int md_unaries, .int md_opens, .ref a_md_pile, .int md_piled, .int md_loop, .ref a_md_begins, .ref a_md_goals, .ref a_md_ranks, .ref a_md_choiceCounts, .ref a_md_whens, .ref a_md_becomes, .ref a_md_guessCounts, .ref a_md_guesses, .ref a_md_unaryCounts, .ref a_md_stack, .ref a_md_nexts, .ref a_md_isBegin, .ref a_md_isGoal, .ref a_md_levels, .ref a_md_queue, .ref a_md_hasGuesses, .int md_keptBits, .ref a_md_rounds, .ref a_md_marked, .ref a_md_other, .ref a_md_heights])), (a_md_tape, .inl (cB, 1200, .inl md_tape))] H → va_D A [(a_md, .inr (11, [.ref a_md_tape, .int md_size, .int md_at_26, .int md_token, .int md_at_6, .int md_number, .int md_sign, .int md_bad, .int md_faultPlace, .int md_place, .ref a_md_acts, .ref a_md_actNumbers, .ref a_md_actCounts, .int md_bank, .int md_unaries, .int md_opens, .ref a_md_pile, .int md_piled, .int md_loop, .ref a_md_begins, .ref a_md_goals, .ref a_md_ranks, .ref a_md_choiceCounts, .ref a_md_whens, .ref a_md_becomes, .ref a_md_guessCounts, .ref a_md_guesses, .ref a_md_unaryCounts, .ref a_md_stack, .ref a_md_nexts, .ref a_md_isBegin, .ref a_md_isGoal, .ref a_md_levels, .ref a_md_queue, .ref a_md_hasGuesses, .int md_keptBits, .ref a_md_rounds, .ref a_md_marked, .ref a_md_other, .ref a_md_heights])), (a_md_tape, .inl (cB, 1200, .inl md_tape))] → va_S A s.heap H locs → ∀ ls : Array Slot, lv_has ls 6 [(0, .ref a_md), (2, .int x2_24), (3, .long x3_25)] → W p l e (headSpec w_Md_nextToken ({ frames := 1, cells := 0, slots := 0, locals := 21 })).room s m (([.ref a_md] : List Value).toArray) below meth c H locs 0 0 QQ (F0 m 79 ls []) := by
        intro k134 hk134 n
        induction n with
        | zero => intro x2_24 x3_25 md_at_26 h; exact (show False from h).elim
        | succ n il =>
          intro x2_24 x3_25 md_at_26 h H locs hP hD hS ls hl
          refine lv_aload_n hx hb d_Md_nextToken_79 rfl (lv_at hl 0 rfl) ?_
          refine lv_aload_n hx hb d_Md_nextToken_80 rfl (lv_at hl 0 rfl) ?_
          refine va_get (D := (dC, dI)) (ci := 11) (v := .int md_at_26) (C := "LoopInductionModel") (T := F_Md) (N := 40) hx hb hts iC_Md hown hK hP 0 rfl rfl 2 (by decide) fl_121 (fun _ h9 => h9) rfl d_Md_nextToken_81 ?_
          refine jn_i (wr := []) (va_runV (As := [.int md_at_26]) (rest := []) ⟨hx, hb, hml, hown, hts⟩ (c_Md_byteAt l dC dI cI cB cZ adK adV _ a_md a_md_tape a_md_acts a_md_actNumbers a_md_actCounts a_md_pile a_md_begins a_md_goals a_md_ranks a_md_choiceCounts a_md_whens a_md_becomes a_md_guessCounts a_md_guesses a_md_unaryCounts a_md_stack a_md_nexts a_md_isBegin a_md_isGoal a_md_levels a_md_queue a_md_hasGuesses a_md_rounds a_md_marked a_md_other a_md_heights md_size md_at_26 md_token md_at_6 md_number md_sign md_bad md_faultPlace md_place md_bank md_unaries md_opens md_piled md_loop md_keptBits md_tape md_at_26 _ h) (cwV 1 hts (gv_ m_1232 m_1234 m_53 m_96 m_1235) rfl rfl rfl pd_Md_byteAt ⟨Nat.le_of_ble_eq_true rfl, Nat.le_of_ble_eq_true rfl⟩) ⟨pc_blind, va_recv hK hP (ci := 11) (q0 := 0) rfl rfl, pc_of (hP.sub [0, 1] rfl) hK (hD.sub [0, 1] (by decide) rfl) hN hT hS hA⟩ rfl rfl hl.1 rfl (lv_room (Nat.le_of_ble_eq_true rfl)) d_Md_nextToken_84 ⟨Nat.zero_le _, Nat.zero_le _⟩) hP hD hS hA [0, 1] [] rfl rfl (by decide) (by decide) (fun r_31 u_ H locs h hP hD hS => ?_)
          have hP : va_P (dC, dI) vwCl [(a_md, .inr (11, [.ref a_md_tape, .int md_size, .int md_at_26, .int md_token, .int md_at_6, .int md_number, .int md_sign, .int md_bad, .int md_faultPlace, .int md_place, .ref a_md_acts, .ref a_md_actNumbers, .ref a_md_actCounts, .int md_bank, .int md_unaries, .int md_opens, .ref a_md_pile, .int md_piled, .int md_loop, .ref a_md_begins, .ref a_md_goals, .ref a_md_ranks, .ref a_md_choiceCounts, .ref a_md_whens, .ref a_md_becomes, .ref a_md_guessCounts, .ref a_md_guesses, .ref a_md_unaryCounts, .ref a_md_stack, .ref a_md_nexts, .ref a_md_isBegin, .ref a_md_isGoal, .ref a_md_levels, .ref a_md_queue, .ref a_md_hasGuesses, .int md_keptBits, .ref a_md_rounds, .ref a_md_marked, .ref a_md_other, .ref a_md_heights])), (a_md_tape, .inl (cB, 1200, .inl md_tape))] H := hP
          have hD : va_D A [(a_md, .inr (11, [.ref a_md_tape, .int md_size, .int md_at_26, .int md_token, .int md_at_6, .int md_number, .int md_sign, .int md_bad, .int md_faultPlace, .int md_place, .ref a_md_acts, .ref a_md_actNumbers, .ref a_md_actCounts, .int md_bank, .int md_unaries, .int md_opens, .ref a_md_pile, .int md_piled, .int md_loop, .ref a_md_begins, .ref a_md_goals, .ref a_md_ranks, .ref a_md_choiceCounts, .ref a_md_whens, .ref a_md_becomes, .ref a_md_guessCounts, .ref a_md_guesses, .ref a_md_unaryCounts, .ref a_md_stack, .ref a_md_nexts, .ref a_md_isBegin, .ref a_md_isGoal, .ref a_md_levels, .ref a_md_queue, .ref a_md_hasGuesses, .int md_keptBits, .ref a_md_rounds, .ref a_md_marked, .ref a_md_other, .ref a_md_heights])), (a_md_tape, .inl (cB, 1200, .inl md_tape))] := hD
          refine jn_i (wr := [(a_md, .inr (11, [.ref a_md_tape, .int md_size, .int md_at_26, .int md_token, .int md_at_6, .int md_number, .int md_sign, .int md_bad, .int md_faultPlace, .int md_place, .ref a_md_acts, .ref a_md_actNumbers, .ref a_md_actCounts, .int md_bank, .int md_unaries, .int md_opens, .ref a_md_pile, .int md_piled, .int md_loop, .ref a_md_begins, .ref a_md_goals, .ref a_md_ranks, .ref a_md_choiceCounts, .ref a_md_whens, .ref a_md_becomes, .ref a_md_guessCounts, .ref a_md_guesses, .ref a_md_unaryCounts, .ref a_md_stack, .ref a_md_nexts, .ref a_md_isBegin, .ref a_md_isGoal, .ref a_md_levels, .ref a_md_queue, .ref a_md_hasGuesses, .int md_keptBits, .ref a_md_rounds, .ref a_md_marked, .ref a_md_other, .ref a_md_heights])), (a_md_tape, .inl (cB, 1200, .inl md_tape))]) (va_runS (As := [.int r_31]) (rest := []) ⟨hx, hb, hml, hown, hts⟩ (c_Md_isSmall l dC dI cI cB cZ adK adV _ r_31 _ h) (cwS 1 hts (gs_ m_1236 m_1237 m_96 m_1238) rfl rfl rfl pd_Md_isSmall ⟨Nat.le_of_ble_eq_true rfl, Nat.le_of_ble_eq_true rfl⟩) ⟨pc_blind, pc_of (hP.sub [] rfl) hK (hD.sub [] (by decide) rfl) hN hT hS hA⟩ rfl rfl hl.1 rfl (lv_room (Nat.le_of_ble_eq_true rfl)) d_Md_nextToken_87 ⟨Nat.zero_le _, Nat.zero_le _⟩) hP hD hS hA [] [0, 1] rfl rfl (by decide) (by decide) (fun r_32 u_ H locs h hP hD hS => ?_)
          have hP : va_P (dC, dI) vwCl [(a_md, .inr (11, [.ref a_md_tape, .int md_size, .int md_at_26, .int md_token, .int md_at_6, .int md_number, .int md_sign, .int md_bad, .int md_faultPlace, .int md_place, .ref a_md_acts, .ref a_md_actNumbers, .ref a_md_actCounts, .int md_bank, .int md_unaries, .int md_opens, .ref a_md_pile, .int md_piled, .int md_loop, .ref a_md_begins, .ref a_md_goals, .ref a_md_ranks, .ref a_md_choiceCounts, .ref a_md_whens, .ref a_md_becomes, .ref a_md_guessCounts, .ref a_md_guesses, .ref a_md_unaryCounts, .ref a_md_stack, .ref a_md_nexts, .ref a_md_isBegin, .ref a_md_isGoal, .ref a_md_levels, .ref a_md_queue, .ref a_md_hasGuesses, .int md_keptBits, .ref a_md_rounds, .ref a_md_marked, .ref a_md_other, .ref a_md_heights])), (a_md_tape, .inl (cB, 1200, .inl md_tape))] H := hP
          have hD : va_D A [(a_md, .inr (11, [.ref a_md_tape, .int md_size, .int md_at_26, .int md_token, .int md_at_6, .int md_number, .int md_sign, .int md_bad, .int md_faultPlace, .int md_place, .ref a_md_acts, .ref a_md_actNumbers, .ref a_md_actCounts, .int md_bank, .int md_unaries, .int md_opens, .ref a_md_pile, .int md_piled, .int md_loop, .ref a_md_begins, .ref a_md_goals, .ref a_md_ranks, .ref a_md_choiceCounts, .ref a_md_whens, .ref a_md_becomes, .ref a_md_guessCounts, .ref a_md_guesses, .ref a_md_unaryCounts, .ref a_md_stack, .ref a_md_nexts, .ref a_md_isBegin, .ref a_md_isGoal, .ref a_md_levels, .ref a_md_queue, .ref a_md_hasGuesses, .int md_keptBits, .ref a_md_rounds, .ref a_md_marked, .ref a_md_other, .ref a_md_heights])), (a_md_tape, .inl (cB, 1200, .inl md_tape))] := hD
          refine lv_if_eq (tgt := 134) hx hb d_Md_nextToken_90 (by decide) (fun c_90 => ?_) (fun c_90 => ?_)
          · have h := And.left h c_90
            exact hk134 _ _ _ h _ _ hP hD hS _ hl
          · have h := And.right h c_90
            refine lv_iload_n hx hb d_Md_nextToken_93 rfl (lv_at hl 1 rfl) ?_
            refine lv_bipush (v := 7) hx hb d_Md_nextToken_94 (by decide) ?_
            refine lv_icmp_ge (tgt := 116) hx hb d_Md_nextToken_96 (by decide) (fun c_96 => ?_) (fun c_96 => ?_)
            · have h := And.left h c_96
              refine lv_lload_n hx hb d_Md_nextToken_116 rfl (lv_at hl 2 rfl) ?_
              refine lv_lstore_n (lv' := [(3, .long x3_25), (0, .ref a_md), (2, .int x2_24)]) hx hb d_Md_nextToken_117 rfl hl (by decide) rfl (fun ls hl => ?_)
              refine lv_iinc (v := x2_24 + 1) (lv' := [(2, .int (x2_24 + 1)), (3, .long x3_25), (0, .ref a_md)]) hx hb d_Md_nextToken_118 hl (k := 2) rfl rfl (by decide) rfl (fun ls hl => ?_)
              refine lv_aload_n hx hb d_Md_nextToken_121 rfl (lv_at hl 2 rfl) ?_
              refine lv_dup hx hb d_Md_nextToken_122 rfl ?_
              refine va_get (D := (dC, dI)) (ci := 11) (v := .int md_at_26) (C := "LoopInductionModel") (T := F_Md) (N := 40) hx hb hts iC_Md hown hK hP 0 rfl rfl 2 (by decide) fl_121 (fun _ h9 => h9) rfl d_Md_nextToken_123 ?_
              refine lv_iconst (v := 1) hx hb d_Md_nextToken_126 (by decide) ?_
              refine lv_iadd hx hb d_Md_nextToken_127 ?_
              refine va_put (D := (dC, dI)) (ci := 11) (v := .int (md_at_26 + 1)) (ty := .int) (C := "LoopInductionModel") (T := F_Md) (N := 40) hx hb hts iC_Md t_Md t_Md_ok n_Md hown hK hP hD hS 0 rfl rfl 2 (by decide) fl_121 (fun _ h9 => h9) rfl (by decide +kernel) rfl rfl (Nat.le_of_ble_eq_true rfl) d_Md_nextToken_128 (fun H locs hP hD hS => ?_)
              have hP : va_P (dC, dI) vwCl [(a_md, .inr (11, [.ref a_md_tape, .int md_size, .int (md_at_26 + 1), .int md_token, .int md_at_6, .int md_number, .int md_sign, .int md_bad, .int md_faultPlace, .int md_place, .ref a_md_acts, .ref a_md_actNumbers, .ref a_md_actCounts, .int md_bank, .int md_unaries, .int md_opens, .ref a_md_pile, .int md_piled, .int md_loop, .ref a_md_begins, .ref a_md_goals, .ref a_md_ranks, .ref a_md_choiceCounts, .ref a_md_whens, .ref a_md_becomes, .ref a_md_guessCounts, .ref a_md_guesses, .ref a_md_unaryCounts, .ref a_md_stack, .ref a_md_nexts, .ref a_md_isBegin, .ref a_md_isGoal, .ref a_md_levels, .ref a_md_queue, .ref a_md_hasGuesses, .int md_keptBits, .ref a_md_rounds, .ref a_md_marked, .ref a_md_other, .ref a_md_heights])), (a_md_tape, .inl (cB, 1200, .inl md_tape))] H := hP
              have hD : va_D A [(a_md, .inr (11, [.ref a_md_tape, .int md_size, .int (md_at_26 + 1), .int md_token, .int md_at_6, .int md_number, .int md_sign, .int md_bad, .int md_faultPlace, .int md_place, .ref a_md_acts, .ref a_md_actNumbers, .ref a_md_actCounts, .int md_bank, .int md_unaries, .int md_opens, .ref a_md_pile, .int md_piled, .int md_loop, .ref a_md_begins, .ref a_md_goals, .ref a_md_ranks, .ref a_md_choiceCounts, .ref a_md_whens, .ref a_md_becomes, .ref a_md_guessCounts, .ref a_md_guesses, .ref a_md_unaryCounts, .ref a_md_stack, .ref a_md_nexts, .ref a_md_isBegin, .ref a_md_isGoal, .ref a_md_levels, .ref a_md_queue, .ref a_md_hasGuesses, .int md_keptBits, .ref a_md_rounds, .ref a_md_marked, .ref a_md_other, .ref a_md_heights])), (a_md_tape, .inl (cB, 1200, .inl md_tape))] := hD
              refine lv_goto (tgt := 79) hx hb d_Md_nextToken_131 (by decide) ?_
              exact il _ _ _ h _ _ hP hD hS _ (lv_sub hl [2, 0, 1] rfl)
            · have h := And.right h c_96
              refine lv_lload_n hx hb d_Md_nextToken_99 rfl (lv_at hl 2 rfl) ?_
              refine lv_bipush (v := 8) hx hb d_Md_nextToken_100 (by decide) ?_
              refine lv_lshl hx hb d_Md_nextToken_102 rfl ?_
              refine lv_aload_n hx hb d_Md_nextToken_103 rfl (lv_at hl 0 rfl) ?_
              refine lv_aload_n hx hb d_Md_nextToken_104 rfl (lv_at hl 0 rfl) ?_
              refine va_get (D := (dC, dI)) (ci := 11) (v := .int md_at_26) (C := "LoopInductionModel") (T := F_Md) (N := 40) hx hb hts iC_Md hown hK hP 0 rfl rfl 2 (by decide) fl_121 (fun _ h9 => h9) rfl d_Md_nextToken_105 ?_
              refine jn_i (wr := []) (va_runV (As := [.int md_at_26]) (rest := [.long (x3_25 <<< ((8 : Int32).toInt64 &&& 63))]) ⟨hx, hb, hml, hown, hts⟩ (c_Md_byteAt l dC dI cI cB cZ adK adV _ a_md a_md_tape a_md_acts a_md_actNumbers a_md_actCounts a_md_pile a_md_begins a_md_goals a_md_ranks a_md_choiceCounts a_md_whens a_md_becomes a_md_guessCounts a_md_guesses a_md_unaryCounts a_md_stack a_md_nexts a_md_isBegin a_md_isGoal a_md_levels a_md_queue a_md_hasGuesses a_md_rounds a_md_marked a_md_other a_md_heights md_size md_at_26 md_token md_at_6 md_number md_sign md_bad md_faultPlace md_place md_bank md_unaries md_opens md_piled md_loop md_keptBits md_tape md_at_26 _ h) (cwV 1 hts (gv_ m_1232 m_1234 m_53 m_96 m_1235) rfl rfl rfl pd_Md_byteAt ⟨Nat.le_of_ble_eq_true rfl, Nat.le_of_ble_eq_true rfl⟩) ⟨pc_blind, va_recv hK hP (ci := 11) (q0 := 0) rfl rfl, pc_of (hP.sub [0, 1] rfl) hK (hD.sub [0, 1] (by decide) rfl) hN hT hS hA⟩ rfl rfl hl.1 rfl (lv_room (Nat.le_of_ble_eq_true rfl)) d_Md_nextToken_108 ⟨Nat.zero_le _, Nat.zero_le _⟩) hP hD hS hA [0, 1] [] rfl rfl (by decide) (by decide) (fun r_33 u_ H locs h hP hD hS => ?_)
              have hP : va_P (dC, dI) vwCl [(a_md, .inr (11, [.ref a_md_tape, .int md_size, .int md_at_26, .int md_token, .int md_at_6, .int md_number, .int md_sign, .int md_bad, .int md_faultPlace, .int md_place, .ref a_md_acts, .ref a_md_actNumbers, .ref a_md_actCounts, .int md_bank, .int md_unaries, .int md_opens, .ref a_md_pile, .int md_piled, .int md_loop, .ref a_md_begins, .ref a_md_goals, .ref a_md_ranks, .ref a_md_choiceCounts, .ref a_md_whens, .ref a_md_becomes, .ref a_md_guessCounts, .ref a_md_guesses, .ref a_md_unaryCounts, .ref a_md_stack, .ref a_md_nexts, .ref a_md_isBegin, .ref a_md_isGoal, .ref a_md_levels, .ref a_md_queue, .ref a_md_hasGuesses, .int md_keptBits, .ref a_md_rounds, .ref a_md_marked, .ref a_md_other, .ref a_md_heights])), (a_md_tape, .inl (cB, 1200, .inl md_tape))] H := hP
              have hD : va_D A [(a_md, .inr (11, [.ref a_md_tape, .int md_size, .int md_at_26, .int md_token, .int md_at_6, .int md_number, .int md_sign, .int md_bad, .int md_faultPlace, .int md_place, .ref a_md_acts, .ref a_md_actNumbers, .ref a_md_actCounts, .int md_bank, .int md_unaries, .int md_opens, .ref a_md_pile, .int md_piled, .int md_loop, .ref a_md_begins, .ref a_md_goals, .ref a_md_ranks, .ref a_md_choiceCounts, .ref a_md_whens, .ref a_md_becomes, .ref a_md_guessCounts, .ref a_md_guesses, .ref a_md_unaryCounts, .ref a_md_stack, .ref a_md_nexts, .ref a_md_isBegin, .ref a_md_isGoal, .ref a_md_levels, .ref a_md_queue, .ref a_md_hasGuesses, .int md_keptBits, .ref a_md_rounds, .ref a_md_marked, .ref a_md_other, .ref a_md_heights])), (a_md_tape, .inl (cB, 1200, .inl md_tape))] := hD
              refine lv_i2l hx hb d_Md_nextToken_111 rfl ?_
              refine lv_lor hx hb d_Md_nextToken_112 ?_
              refine lv_goto (tgt := 117) hx hb d_Md_nextToken_113 (by decide) ?_
              refine lv_topl (fun x3_34 ex3_34 => ?_)
              have h := h x3_34 ex3_34
              refine lv_lstore_n (lv' := [(3, .long x3_34), (0, .ref a_md), (2, .int x2_24)]) hx hb d_Md_nextToken_117 rfl hl (by decide) rfl (fun ls hl => ?_)
              refine lv_iinc (v := x2_24 + 1) (lv' := [(2, .int (x2_24 + 1)), (3, .long x3_34), (0, .ref a_md)]) hx hb d_Md_nextToken_118 hl (k := 2) rfl rfl (by decide) rfl (fun ls hl => ?_)
              refine lv_aload_n hx hb d_Md_nextToken_121 rfl (lv_at hl 2 rfl) ?_
              refine lv_dup hx hb d_Md_nextToken_122 rfl ?_
              refine va_get (D := (dC, dI)) (ci := 11) (v := .int md_at_26) (C := "LoopInductionModel") (T := F_Md) (N := 40) hx hb hts iC_Md hown hK hP 0 rfl rfl 2 (by decide) fl_121 (fun _ h9 => h9) rfl d_Md_nextToken_123 ?_
              refine lv_iconst (v := 1) hx hb d_Md_nextToken_126 (by decide) ?_
              refine lv_iadd hx hb d_Md_nextToken_127 ?_
              refine va_put (D := (dC, dI)) (ci := 11) (v := .int (md_at_26 + 1)) (ty := .int) (C := "LoopInductionModel") (T := F_Md) (N := 40) hx hb hts iC_Md t_Md t_Md_ok n_Md hown hK hP hD hS 0 rfl rfl 2 (by decide) fl_121 (fun _ h9 => h9) rfl (by decide +kernel) rfl rfl (Nat.le_of_ble_eq_true rfl) d_Md_nextToken_128 (fun H locs hP hD hS => ?_)
              have hP : va_P (dC, dI) vwCl [(a_md, .inr (11, [.ref a_md_tape, .int md_size, .int (md_at_26 + 1), .int md_token, .int md_at_6, .int md_number, .int md_sign, .int md_bad, .int md_faultPlace, .int md_place, .ref a_md_acts, .ref a_md_actNumbers, .ref a_md_actCounts, .int md_bank, .int md_unaries, .int md_opens, .ref a_md_pile, .int md_piled, .int md_loop, .ref a_md_begins, .ref a_md_goals, .ref a_md_ranks, .ref a_md_choiceCounts, .ref a_md_whens, .ref a_md_becomes, .ref a_md_guessCounts, .ref a_md_guesses, .ref a_md_unaryCounts, .ref a_md_stack, .ref a_md_nexts, .ref a_md_isBegin, .ref a_md_isGoal, .ref a_md_levels, .ref a_md_queue, .ref a_md_hasGuesses, .int md_keptBits, .ref a_md_rounds, .ref a_md_marked, .ref a_md_other, .ref a_md_heights])), (a_md_tape, .inl (cB, 1200, .inl md_tape))] H := hP
              have hD : va_D A [(a_md, .inr (11, [.ref a_md_tape, .int md_size, .int (md_at_26 + 1), .int md_token, .int md_at_6, .int md_number, .int md_sign, .int md_bad, .int md_faultPlace, .int md_place, .ref a_md_acts, .ref a_md_actNumbers, .ref a_md_actCounts, .int md_bank, .int md_unaries, .int md_opens, .ref a_md_pile, .int md_piled, .int md_loop, .ref a_md_begins, .ref a_md_goals, .ref a_md_ranks, .ref a_md_choiceCounts, .ref a_md_whens, .ref a_md_becomes, .ref a_md_guessCounts, .ref a_md_guesses, .ref a_md_unaryCounts, .ref a_md_stack, .ref a_md_nexts, .ref a_md_isBegin, .ref a_md_isGoal, .ref a_md_levels, .ref a_md_queue, .ref a_md_hasGuesses, .int md_keptBits, .ref a_md_rounds, .ref a_md_marked, .ref a_md_other, .ref a_md_heights])), (a_md_tape, .inl (cB, 1200, .inl md_tape))] := hD
              refine lv_goto (tgt := 79) hx hb d_Md_nextToken_131 (by decide) ?_
              exact il _ _ _ h _ _ hP hD hS _ (lv_sub hl [2, 0, 1] rfl)
      obtain ⟨n_, h⟩ := h
      refine L79_q_27 _ ?_ n_ _ _ _ h _ _ hP hD hS _ (lv_sub hl [3, 1, 0] rfl)
      intro x2_35 x3_36 md_at_37 h H locs hP hD hS ls hl
      refine lv_iload_n hx hb d_Md_nextToken_134 rfl (lv_at hl 1 rfl) ?_
      refine lv_bipush (v := 7) hx hb d_Md_nextToken_135 (by decide) ?_
      refine lv_icmp_ge (tgt := 147) hx hb d_Md_nextToken_137 (by decide) (fun c_137 => ?_) (fun c_137 => ?_)
      · have h := And.left h c_137
        refine lv_iconst (v := (-1)) hx hb d_Md_nextToken_147 (by decide) ?_
        refine lv_istore (lv' := [(5, .int (-1)), (0, .ref a_md), (2, .int x2_35), (3, .long x3_36)]) hx hb d_Md_nextToken_148 hl (by decide) rfl (fun ls hl => ?_)
        refine lv_aload_n hx hb d_Md_nextToken_150 rfl (lv_at hl 1 rfl) ?_
        refine lv_iload hx hb d_Md_nextToken_151 (lv_at hl 0 rfl) ?_
        refine lv_if_ge (tgt := 160) hx hb d_Md_nextToken_153 (by decide) (fun c_153 => ?_) (fun c_153 => ?_)
        · exact absurd c_153 (by decide)
        · refine lv_iconst (v := 1) hx hb d_Md_nextToken_156 (by decide) ?_
          refine lv_goto (tgt := 165) hx hb d_Md_nextToken_157 (by decide) ?_
          refine va_put (D := (dC, dI)) (ci := 11) (v := .int 1) (ty := .int) (C := "LoopInductionModel") (T := F_Md) (N := 40) hx hb hts iC_Md t_Md t_Md_ok n_Md hown hK hP hD hS 0 rfl rfl 3 (by decide) fl_131 (fun _ h9 => h9) rfl (by decide +kernel) rfl rfl (Nat.le_of_ble_eq_true rfl) d_Md_nextToken_165 (fun H locs hP hD hS => ?_)
          have hP : va_P (dC, dI) vwCl [(a_md, .inr (11, [.ref a_md_tape, .int md_size, .int md_at_37, .int 1, .int md_at_6, .int md_number, .int md_sign, .int md_bad, .int md_faultPlace, .int md_place, .ref a_md_acts, .ref a_md_actNumbers, .ref a_md_actCounts, .int md_bank, .int md_unaries, .int md_opens, .ref a_md_pile, .int md_piled, .int md_loop, .ref a_md_begins, .ref a_md_goals, .ref a_md_ranks, .ref a_md_choiceCounts, .ref a_md_whens, .ref a_md_becomes, .ref a_md_guessCounts, .ref a_md_guesses, .ref a_md_unaryCounts, .ref a_md_stack, .ref a_md_nexts, .ref a_md_isBegin, .ref a_md_isGoal, .ref a_md_levels, .ref a_md_queue, .ref a_md_hasGuesses, .int md_keptBits, .ref a_md_rounds, .ref a_md_marked, .ref a_md_other, .ref a_md_heights])), (a_md_tape, .inl (cB, 1200, .inl md_tape))] H := hP
          have hD : va_D A [(a_md, .inr (11, [.ref a_md_tape, .int md_size, .int md_at_37, .int 1, .int md_at_6, .int md_number, .int md_sign, .int md_bad, .int md_faultPlace, .int md_place, .ref a_md_acts, .ref a_md_actNumbers, .ref a_md_actCounts, .int md_bank, .int md_unaries, .int md_opens, .ref a_md_pile, .int md_piled, .int md_loop, .ref a_md_begins, .ref a_md_goals, .ref a_md_ranks, .ref a_md_choiceCounts, .ref a_md_whens, .ref a_md_becomes, .ref a_md_guessCounts, .ref a_md_guesses, .ref a_md_unaryCounts, .ref a_md_stack, .ref a_md_nexts, .ref a_md_isBegin, .ref a_md_isGoal, .ref a_md_levels, .ref a_md_queue, .ref a_md_hasGuesses, .int md_keptBits, .ref a_md_rounds, .ref a_md_marked, .ref a_md_other, .ref a_md_heights])), (a_md_tape, .inl (cB, 1200, .inl md_tape))] := hD
          refine lv_goto (tgt := 312) hx hb d_Md_nextToken_168 (by decide) ?_
          subst hQ
          have hP9 := hP
          have hD9 := hD
          exact W.vret hx hb hr (fun t ht hW => ⟨⟨(md_at_37, 1, md_at_6, md_number, md_sign), rfl, h, by rw [ht]; exact hP9, va_K.moved hW.alike hK, hD9⟩, hS.F ht⟩) hS.2.2 d_Md_nextToken_312
      · have h := And.right h c_137
        refine lv_lload_n hx hb d_Md_nextToken_140 rfl (lv_at hl 2 rfl) ?_
        refine jn_i (wr := [(a_md, .inr (11, [.ref a_md_tape, .int md_size, .int md_at_37, .int md_token, .int md_at_6, .int md_number, .int md_sign, .int md_bad, .int md_faultPlace, .int md_place, .ref a_md_acts, .ref a_md_actNumbers, .ref a_md_actCounts, .int md_bank, .int md_unaries, .int md_opens, .ref a_md_pile, .int md_piled, .int md_loop, .ref a_md_begins, .ref a_md_goals, .ref a_md_ranks, .ref a_md_choiceCounts, .ref a_md_whens, .ref a_md_becomes, .ref a_md_guessCounts, .ref a_md_guesses, .ref a_md_unaryCounts, .ref a_md_stack, .ref a_md_nexts, .ref a_md_isBegin, .ref a_md_isGoal, .ref a_md_levels, .ref a_md_queue, .ref a_md_hasGuesses, .int md_keptBits, .ref a_md_rounds, .ref a_md_marked, .ref a_md_other, .ref a_md_heights])), (a_md_tape, .inl (cB, 1200, .inl md_tape))]) (va_runS (As := [.long x3_36]) (rest := []) ⟨hx, hb, hml, hown, hts⟩ (c_Md_wordOf l dC dI cI cB cZ adK adV _ x3_36 _ h) (cwS 1 hts (gs_ m_1239 m_1240 m_96 m_1241) rfl rfl rfl pd_Md_wordOf ⟨Nat.le_of_ble_eq_true rfl, Nat.le_of_ble_eq_true rfl⟩) ⟨pc_blind, pc_of (hP.sub [] rfl) hK (hD.sub [] (by decide) rfl) hN hT hS hA⟩ rfl rfl hl.1 rfl (lv_room (Nat.le_of_ble_eq_true rfl)) d_Md_nextToken_141 ⟨Nat.zero_le _, Nat.zero_le _⟩) hP hD hS hA [] [0, 1] rfl rfl (by decide) (by decide) (fun r_38 u_ H locs h hP hD hS => ?_)
        have hP : va_P (dC, dI) vwCl [(a_md, .inr (11, [.ref a_md_tape, .int md_size, .int md_at_37, .int md_token, .int md_at_6, .int md_number, .int md_sign, .int md_bad, .int md_faultPlace, .int md_place, .ref a_md_acts, .ref a_md_actNumbers, .ref a_md_actCounts, .int md_bank, .int md_unaries, .int md_opens, .ref a_md_pile, .int md_piled, .int md_loop, .ref a_md_begins, .ref a_md_goals, .ref a_md_ranks, .ref a_md_choiceCounts, .ref a_md_whens, .ref a_md_becomes, .ref a_md_guessCounts, .ref a_md_guesses, .ref a_md_unaryCounts, .ref a_md_stack, .ref a_md_nexts, .ref a_md_isBegin, .ref a_md_isGoal, .ref a_md_levels, .ref a_md_queue, .ref a_md_hasGuesses, .int md_keptBits, .ref a_md_rounds, .ref a_md_marked, .ref a_md_other, .ref a_md_heights])), (a_md_tape, .inl (cB, 1200, .inl md_tape))] H := hP
        have hD : va_D A [(a_md, .inr (11, [.ref a_md_tape, .int md_size, .int md_at_37, .int md_token, .int md_at_6, .int md_number, .int md_sign, .int md_bad, .int md_faultPlace, .int md_place, .ref a_md_acts, .ref a_md_actNumbers, .ref a_md_actCounts, .int md_bank, .int md_unaries, .int md_opens, .ref a_md_pile, .int md_piled, .int md_loop, .ref a_md_begins, .ref a_md_goals, .ref a_md_ranks, .ref a_md_choiceCounts, .ref a_md_whens, .ref a_md_becomes, .ref a_md_guessCounts, .ref a_md_guesses, .ref a_md_unaryCounts, .ref a_md_stack, .ref a_md_nexts, .ref a_md_isBegin, .ref a_md_isGoal, .ref a_md_levels, .ref a_md_queue, .ref a_md_hasGuesses, .int md_keptBits, .ref a_md_rounds, .ref a_md_marked, .ref a_md_other, .ref a_md_heights])), (a_md_tape, .inl (cB, 1200, .inl md_tape))] := hD
        refine lv_goto (tgt := 148) hx hb d_Md_nextToken_144 (by decide) ?_
        refine lv_istore (lv' := [(5, .int r_38), (0, .ref a_md), (2, .int x2_35), (3, .long x3_36)]) hx hb d_Md_nextToken_148 hl (by decide) rfl (fun ls hl => ?_)
        refine lv_aload_n hx hb d_Md_nextToken_150 rfl (lv_at hl 1 rfl) ?_
        refine lv_iload hx hb d_Md_nextToken_151 (lv_at hl 0 rfl) ?_
        refine lv_if_ge (tgt := 160) hx hb d_Md_nextToken_153 (by decide) (fun c_153 => ?_) (fun c_153 => ?_)
        · have h := And.left h c_153
          refine lv_bipush (v := 10) hx hb d_Md_nextToken_160 (by decide) ?_
          refine lv_iload hx hb d_Md_nextToken_162 (lv_at hl 0 rfl) ?_
          refine lv_iadd hx hb d_Md_nextToken_164 ?_
          refine va_put (D := (dC, dI)) (ci := 11) (v := .int (10 + r_38)) (ty := .int) (C := "LoopInductionModel") (T := F_Md) (N := 40) hx hb hts iC_Md t_Md t_Md_ok n_Md hown hK hP hD hS 0 rfl rfl 3 (by decide) fl_131 (fun _ h9 => h9) rfl (by decide +kernel) rfl rfl (Nat.le_of_ble_eq_true rfl) d_Md_nextToken_165 (fun H locs hP hD hS => ?_)
          have hP : va_P (dC, dI) vwCl [(a_md, .inr (11, [.ref a_md_tape, .int md_size, .int md_at_37, .int (10 + r_38), .int md_at_6, .int md_number, .int md_sign, .int md_bad, .int md_faultPlace, .int md_place, .ref a_md_acts, .ref a_md_actNumbers, .ref a_md_actCounts, .int md_bank, .int md_unaries, .int md_opens, .ref a_md_pile, .int md_piled, .int md_loop, .ref a_md_begins, .ref a_md_goals, .ref a_md_ranks, .ref a_md_choiceCounts, .ref a_md_whens, .ref a_md_becomes, .ref a_md_guessCounts, .ref a_md_guesses, .ref a_md_unaryCounts, .ref a_md_stack, .ref a_md_nexts, .ref a_md_isBegin, .ref a_md_isGoal, .ref a_md_levels, .ref a_md_queue, .ref a_md_hasGuesses, .int md_keptBits, .ref a_md_rounds, .ref a_md_marked, .ref a_md_other, .ref a_md_heights])), (a_md_tape, .inl (cB, 1200, .inl md_tape))] H := hP
          have hD : va_D A [(a_md, .inr (11, [.ref a_md_tape, .int md_size, .int md_at_37, .int (10 + r_38), .int md_at_6, .int md_number, .int md_sign, .int md_bad, .int md_faultPlace, .int md_place, .ref a_md_acts, .ref a_md_actNumbers, .ref a_md_actCounts, .int md_bank, .int md_unaries, .int md_opens, .ref a_md_pile, .int md_piled, .int md_loop, .ref a_md_begins, .ref a_md_goals, .ref a_md_ranks, .ref a_md_choiceCounts, .ref a_md_whens, .ref a_md_becomes, .ref a_md_guessCounts, .ref a_md_guesses, .ref a_md_unaryCounts, .ref a_md_stack, .ref a_md_nexts, .ref a_md_isBegin, .ref a_md_isGoal, .ref a_md_levels, .ref a_md_queue, .ref a_md_hasGuesses, .int md_keptBits, .ref a_md_rounds, .ref a_md_marked, .ref a_md_other, .ref a_md_heights])), (a_md_tape, .inl (cB, 1200, .inl md_tape))] := hD
          refine lv_goto (tgt := 312) hx hb d_Md_nextToken_168 (by decide) ?_
          subst hQ
          have hP9 := hP
          have hD9 := hD
          exact W.vret hx hb hr (fun t ht hW => ⟨⟨(md_at_37, 10 + r_38, md_at_6, md_number, md_sign), rfl, h, by rw [ht]; exact hP9, va_K.moved hW.alike hK, hD9⟩, hS.F ht⟩) hS.2.2 d_Md_nextToken_312
        · have h := And.right h c_153
          refine lv_iconst (v := 1) hx hb d_Md_nextToken_156 (by decide) ?_
          refine lv_goto (tgt := 165) hx hb d_Md_nextToken_157 (by decide) ?_
          refine va_put (D := (dC, dI)) (ci := 11) (v := .int 1) (ty := .int) (C := "LoopInductionModel") (T := F_Md) (N := 40) hx hb hts iC_Md t_Md t_Md_ok n_Md hown hK hP hD hS 0 rfl rfl 3 (by decide) fl_131 (fun _ h9 => h9) rfl (by decide +kernel) rfl rfl (Nat.le_of_ble_eq_true rfl) d_Md_nextToken_165 (fun H locs hP hD hS => ?_)
          have hP : va_P (dC, dI) vwCl [(a_md, .inr (11, [.ref a_md_tape, .int md_size, .int md_at_37, .int 1, .int md_at_6, .int md_number, .int md_sign, .int md_bad, .int md_faultPlace, .int md_place, .ref a_md_acts, .ref a_md_actNumbers, .ref a_md_actCounts, .int md_bank, .int md_unaries, .int md_opens, .ref a_md_pile, .int md_piled, .int md_loop, .ref a_md_begins, .ref a_md_goals, .ref a_md_ranks, .ref a_md_choiceCounts, .ref a_md_whens, .ref a_md_becomes, .ref a_md_guessCounts, .ref a_md_guesses, .ref a_md_unaryCounts, .ref a_md_stack, .ref a_md_nexts, .ref a_md_isBegin, .ref a_md_isGoal, .ref a_md_levels, .ref a_md_queue, .ref a_md_hasGuesses, .int md_keptBits, .ref a_md_rounds, .ref a_md_marked, .ref a_md_other, .ref a_md_heights])), (a_md_tape, .inl (cB, 1200, .inl md_tape))] H := hP
          have hD : va_D A [(a_md, .inr (11, [.ref a_md_tape, .int md_size, .int md_at_37, .int 1, .int md_at_6, .int md_number, .int md_sign, .int md_bad, .int md_faultPlace, .int md_place, .ref a_md_acts, .ref a_md_actNumbers, .ref a_md_actCounts, .int md_bank, .int md_unaries, .int md_opens, .ref a_md_pile, .int md_piled, .int md_loop, .ref a_md_begins, .ref a_md_goals, .ref a_md_ranks, .ref a_md_choiceCounts, .ref a_md_whens, .ref a_md_becomes, .ref a_md_guessCounts, .ref a_md_guesses, .ref a_md_unaryCounts, .ref a_md_stack, .ref a_md_nexts, .ref a_md_isBegin, .ref a_md_isGoal, .ref a_md_levels, .ref a_md_queue, .ref a_md_hasGuesses, .int md_keptBits, .ref a_md_rounds, .ref a_md_marked, .ref a_md_other, .ref a_md_heights])), (a_md_tape, .inl (cB, 1200, .inl md_tape))] := hD
          refine lv_goto (tgt := 312) hx hb d_Md_nextToken_168 (by decide) ?_
          subst hQ
          have hP9 := hP
          have hD9 := hD
          exact W.vret hx hb hr (fun t ht hW => ⟨⟨(md_at_37, 1, md_at_6, md_number, md_sign), rfl, h, by rw [ht]; exact hP9, va_K.moved hW.alike hK, hD9⟩, hS.F ht⟩) hS.2.2 d_Md_nextToken_312
  · have h := And.right h c_57
    refine lv_aload_n hx hb d_Md_nextToken_60 rfl (lv_at hl 1 rfl) ?_
    refine lv_iconst (v := 0) hx hb d_Md_nextToken_61 (by decide) ?_
    refine va_put (D := (dC, dI)) (ci := 11) (v := .int 0) (ty := .int) (C := "LoopInductionModel") (T := F_Md) (N := 40) hx hb hts iC_Md t_Md t_Md_ok n_Md hown hK hP hD hS 0 rfl rfl 3 (by decide) fl_131 (fun _ h9 => h9) rfl (by decide +kernel) rfl rfl (Nat.le_of_ble_eq_true rfl) d_Md_nextToken_62 (fun H locs hP hD hS => ?_)
    have hP : va_P (dC, dI) vwCl [(a_md, .inr (11, [.ref a_md_tape, .int md_size, .int md_at_6, .int 0, .int md_at_6, .int md_number, .int md_sign, .int md_bad, .int md_faultPlace, .int md_place, .ref a_md_acts, .ref a_md_actNumbers, .ref a_md_actCounts, .int md_bank, .int md_unaries, .int md_opens, .ref a_md_pile, .int md_piled, .int md_loop, .ref a_md_begins, .ref a_md_goals, .ref a_md_ranks, .ref a_md_choiceCounts, .ref a_md_whens, .ref a_md_becomes, .ref a_md_guessCounts, .ref a_md_guesses, .ref a_md_unaryCounts, .ref a_md_stack, .ref a_md_nexts, .ref a_md_isBegin, .ref a_md_isGoal, .ref a_md_levels, .ref a_md_queue, .ref a_md_hasGuesses, .int md_keptBits, .ref a_md_rounds, .ref a_md_marked, .ref a_md_other, .ref a_md_heights])), (a_md_tape, .inl (cB, 1200, .inl md_tape))] H := hP
    have hD : va_D A [(a_md, .inr (11, [.ref a_md_tape, .int md_size, .int md_at_6, .int 0, .int md_at_6, .int md_number, .int md_sign, .int md_bad, .int md_faultPlace, .int md_place, .ref a_md_acts, .ref a_md_actNumbers, .ref a_md_actCounts, .int md_bank, .int md_unaries, .int md_opens, .ref a_md_pile, .int md_piled, .int md_loop, .ref a_md_begins, .ref a_md_goals, .ref a_md_ranks, .ref a_md_choiceCounts, .ref a_md_whens, .ref a_md_becomes, .ref a_md_guessCounts, .ref a_md_guesses, .ref a_md_unaryCounts, .ref a_md_stack, .ref a_md_nexts, .ref a_md_isBegin, .ref a_md_isGoal, .ref a_md_levels, .ref a_md_queue, .ref a_md_hasGuesses, .int md_keptBits, .ref a_md_rounds, .ref a_md_marked, .ref a_md_other, .ref a_md_heights])), (a_md_tape, .inl (cB, 1200, .inl md_tape))] := hD
    refine lv_goto (tgt := 312) hx hb d_Md_nextToken_65 (by decide) ?_
    subst hQ
    have hP9 := hP
    have hD9 := hD
    exact W.vret hx hb hr (fun t ht hW => ⟨⟨(md_at_6, 0, md_at_6, md_number, md_sign), rfl, h, by rw [ht]; exact hP9, va_K.moved hW.alike hK, hD9⟩, hS.F ht⟩) hS.2.2 d_Md_nextToken_312
def wp_Md_misplaced (md_tokenPlace : Int32) (md_bad : Int32) (md_faultPlace : Int32) (post : Int32 → Int32 → Prop) : Prop :=
  ((¬ (md_bad : Int32) = 0 → post md_bad md_faultPlace) ∧ ((md_bad : Int32) = 0 → post 1 md_tokenPlace))
set_option maxHeartbeats 4000000 in
set_option maxRecDepth 100000 in
theorem c_Md_misplaced (l : Launch) (dC : Nat → ClassId) (dI : Nat → Nat → Nat) (cI cB cZ : ClassId) (adK adV : Nat → Nat) (sz : Nat) (a_md a_md_tape a_md_acts a_md_actNumbers a_md_actCounts a_md_pile a_md_begins a_md_goals a_md_ranks a_md_choiceCounts a_md_whens a_md_becomes a_md_guessCounts a_md_guesses a_md_unaryCounts a_md_stack a_md_nexts a_md_isBegin a_md_isGoal a_md_levels a_md_queue a_md_hasGuesses a_md_rounds a_md_marked a_md_other a_md_heights : Nat) (md_size : Int32) (md_at : Int32) (md_token : Int32) (md_tokenPlace : Int32) (md_number : Int32) (md_sign : Int32) (md_bad : Int32) (md_faultPlace : Int32) (md_place : Int32) (md_bank : Int32) (md_unaries : Int32) (md_opens : Int32) (md_piled : Int32) (md_loop : Int32) (md_keptBits : Int32) (post : Int32 → Int32 → Prop) (h : wp_Md_misplaced md_tokenPlace md_bad md_faultPlace post) : Met l y_Md_misplaced w_Md_misplaced ({ frames := 0, cells := 0, slots := 0, locals := 0 }) (pc_ (dC, dI) [(cI, .int), (cB, .byte), (cZ, .boolean)] [(a_md, .inr (11, [.ref a_md_tape, .int md_size, .int md_at, .int md_token, .int md_tokenPlace, .int md_number, .int md_sign, .int md_bad, .int md_faultPlace, .int md_place, .ref a_md_acts, .ref a_md_actNumbers, .ref a_md_actCounts, .int md_bank, .int md_unaries, .int md_opens, .ref a_md_pile, .int md_piled, .int md_loop, .ref a_md_begins, .ref a_md_goals, .ref a_md_ranks, .ref a_md_choiceCounts, .ref a_md_whens, .ref a_md_becomes, .ref a_md_guessCounts, .ref a_md_guesses, .ref a_md_unaryCounts, .ref a_md_stack, .ref a_md_nexts, .ref a_md_isBegin, .ref a_md_isGoal, .ref a_md_levels, .ref a_md_queue, .ref a_md_hasGuesses, .int md_keptBits, .ref a_md_rounds, .ref a_md_marked, .ref a_md_other, .ref a_md_heights]))] sz adK adV [.ref a_md]) (va_Qv (fun (u : Int32 × Int32) => post u.1 u.2) (fun (u : Int32 × Int32) t => bw_ (dC, dI) [(cI, .int), (cB, .byte), (cZ, .boolean)] (va_A [(a_md, .inr (11, [.ref a_md_tape, .int md_size, .int md_at, .int md_token, .int md_tokenPlace, .int md_number, .int md_sign, .int md_bad, .int md_faultPlace, .int md_place, .ref a_md_acts, .ref a_md_actNumbers, .ref a_md_actCounts, .int md_bank, .int md_unaries, .int md_opens, .ref a_md_pile, .int md_piled, .int md_loop, .ref a_md_begins, .ref a_md_goals, .ref a_md_ranks, .ref a_md_choiceCounts, .ref a_md_whens, .ref a_md_becomes, .ref a_md_guessCounts, .ref a_md_guesses, .ref a_md_unaryCounts, .ref a_md_stack, .ref a_md_nexts, .ref a_md_isBegin, .ref a_md_isGoal, .ref a_md_levels, .ref a_md_queue, .ref a_md_hasGuesses, .int md_keptBits, .ref a_md_rounds, .ref a_md_marked, .ref a_md_other, .ref a_md_heights]))] sz) [(a_md, .inr (11, [.ref a_md_tape, .int md_size, .int md_at, .int md_token, .int md_tokenPlace, .int md_number, .int md_sign, .int u.1, .int u.2, .int md_place, .ref a_md_acts, .ref a_md_actNumbers, .ref a_md_actCounts, .int md_bank, .int md_unaries, .int md_opens, .ref a_md_pile, .int md_piled, .int md_loop, .ref a_md_begins, .ref a_md_goals, .ref a_md_ranks, .ref a_md_choiceCounts, .ref a_md_whens, .ref a_md_becomes, .ref a_md_guessCounts, .ref a_md_guesses, .ref a_md_unaryCounts, .ref a_md_stack, .ref a_md_nexts, .ref a_md_isBegin, .ref a_md_isGoal, .ref a_md_levels, .ref a_md_queue, .ref a_md_hasGuesses, .int md_keptBits, .ref a_md_rounds, .ref a_md_marked, .ref a_md_other, .ref a_md_heights]))] t) (va_A [(a_md, .inr (11, [.ref a_md_tape, .int md_size, .int md_at, .int md_token, .int md_tokenPlace, .int md_number, .int md_sign, .int md_bad, .int md_faultPlace, .int md_place, .ref a_md_acts, .ref a_md_actNumbers, .ref a_md_actCounts, .int md_bank, .int md_unaries, .int md_opens, .ref a_md_pile, .int md_piled, .int md_loop, .ref a_md_begins, .ref a_md_goals, .ref a_md_ranks, .ref a_md_choiceCounts, .ref a_md_whens, .ref a_md_becomes, .ref a_md_guessCounts, .ref a_md_guesses, .ref a_md_unaryCounts, .ref a_md_stack, .ref a_md_nexts, .ref a_md_isBegin, .ref a_md_isGoal, .ref a_md_levels, .ref a_md_queue, .ref a_md_hasGuesses, .int md_keptBits, .ref a_md_rounds, .ref a_md_marked, .ref a_md_other, .ref a_md_heights]))] sz)) 0 0 (va_A [(a_md, .inr (11, [.ref a_md_tape, .int md_size, .int md_at, .int md_token, .int md_tokenPlace, .int md_number, .int md_sign, .int md_bad, .int md_faultPlace, .int md_place, .ref a_md_acts, .ref a_md_actNumbers, .ref a_md_actCounts, .int md_bank, .int md_unaries, .int md_opens, .ref a_md_pile, .int md_piled, .int md_loop, .ref a_md_begins, .ref a_md_goals, .ref a_md_ranks, .ref a_md_choiceCounts, .ref a_md_whens, .ref a_md_becomes, .ref a_md_guessCounts, .ref a_md_guesses, .ref a_md_unaryCounts, .ref a_md_stack, .ref a_md_nexts, .ref a_md_isBegin, .ref a_md_isGoal, .ref a_md_levels, .ref a_md_queue, .ref a_md_hasGuesses, .int md_keptBits, .ref a_md_rounds, .ref a_md_marked, .ref a_md_other, .ref a_md_heights]))] sz) := by
  refine Met.ofW (cc := b_Md_misplaced) (maxL := 1) (ret := none) (by decide) rfl ?_
  intro p e s m args below meth c s₁ B hml hv
  obtain ⟨rfl, hsz, hP, hK, hD0, hN, hT⟩ := hv
  have hx := B.exec
  have hb := B.bytes
  have hr := B.returns
  have hts := atoms_spec (ws := w_Md_misplaced) B.pre
  have hown : s.vm.findClass "LoopInductionModel" = some m.cls := findClass_of_methodNamed B.named
  have hlocks := B.notSynchronized
  subst hsz
  have hD := hD0.self (sz := s.heap.size)
  generalize hAe : va_A [(a_md, .inr (11, [.ref a_md_tape, .int md_size, .int md_at, .int md_token, .int md_tokenPlace, .int md_number, .int md_sign, .int md_bad, .int md_faultPlace, .int md_place, .ref a_md_acts, .ref a_md_actNumbers, .ref a_md_actCounts, .int md_bank, .int md_unaries, .int md_opens, .ref a_md_pile, .int md_piled, .int md_loop, .ref a_md_begins, .ref a_md_goals, .ref a_md_ranks, .ref a_md_choiceCounts, .ref a_md_whens, .ref a_md_becomes, .ref a_md_guessCounts, .ref a_md_guesses, .ref a_md_unaryCounts, .ref a_md_stack, .ref a_md_nexts, .ref a_md_isBegin, .ref a_md_isGoal, .ref a_md_levels, .ref a_md_queue, .ref a_md_hasGuesses, .int md_keptBits, .ref a_md_rounds, .ref a_md_marked, .ref a_md_other, .ref a_md_heights]))] s.heap.size = A at hD hT ⊢
  have hA : ∀ q : Nat, s.heap.size ≤ q → A q := fun q h => by rw [← hAe]; exact Or.inr h
  have hS : va_S A s.heap s.heap [] := va_S.rf
  generalize hQ : MQ below _ _ s 0 0 _ = QQ
  have hl := lv_entry ([.ref a_md]) (n := 1) (Nat.le_of_ble_eq_true rfl)
  rw [lg_entry_eq]
  generalize (lg_sl ([.ref a_md]) ++ List.replicate (1 - (lg_sl ([.ref a_md])).length) Slot.unset).toArray = ls at hl ⊢
  have hl : lv_has ls 1 [(0, .ref a_md)] := hl
  have fl_128 := (hts _ (List.mem_cons_of_mem _ m_1094))
  have fl_154 := (hts _ (List.mem_cons_of_mem _ m_1097))
  have fl_158 := (hts _ (List.mem_cons_of_mem _ m_1098))
  refine lv_aload_n hx hb d_Md_misplaced_0 rfl (lv_at hl 0 rfl) ?_
  refine va_get (D := (dC, dI)) (ci := 11) (v := .int md_bad) (C := "LoopInductionModel") (T := F_Md) (N := 40) hx hb hts iC_Md hown hK hP 0 rfl rfl 7 (by decide) fl_154 (fun _ h9 => h9) rfl d_Md_misplaced_1 ?_
  refine lv_if_ne (tgt := 20) hx hb d_Md_misplaced_4 (by decide) (fun c_4 => ?_) (fun c_4 => ?_)
  · have h := And.left h c_4
    subst hQ
    have hP9 := hP
    have hD9 := hD
    exact W.vret hx hb hr (fun t ht hW => ⟨⟨(md_bad, md_faultPlace), rfl, h, by rw [ht]; exact hP9, va_K.moved hW.alike hK, hD9⟩, hS.F ht⟩) hS.2.2 d_Md_misplaced_20
  · have h := And.right h c_4
    refine lv_aload_n hx hb d_Md_misplaced_7 rfl (lv_at hl 0 rfl) ?_
    refine lv_iconst (v := 1) hx hb d_Md_misplaced_8 (by decide) ?_
    refine va_put (D := (dC, dI)) (ci := 11) (v := .int 1) (ty := .boolean) (C := "LoopInductionModel") (T := F_Md) (N := 40) hx hb hts iC_Md t_Md t_Md_ok n_Md hown hK hP hD hS 0 rfl rfl 7 (by decide) fl_154 (fun _ h9 => h9) rfl (by decide +kernel) rfl rfl (Nat.le_of_ble_eq_true rfl) d_Md_misplaced_9 (fun H locs hP hD hS => ?_)
    have hP : va_P (dC, dI) vwCl [(a_md, .inr (11, [.ref a_md_tape, .int md_size, .int md_at, .int md_token, .int md_tokenPlace, .int md_number, .int md_sign, .int 1, .int md_faultPlace, .int md_place, .ref a_md_acts, .ref a_md_actNumbers, .ref a_md_actCounts, .int md_bank, .int md_unaries, .int md_opens, .ref a_md_pile, .int md_piled, .int md_loop, .ref a_md_begins, .ref a_md_goals, .ref a_md_ranks, .ref a_md_choiceCounts, .ref a_md_whens, .ref a_md_becomes, .ref a_md_guessCounts, .ref a_md_guesses, .ref a_md_unaryCounts, .ref a_md_stack, .ref a_md_nexts, .ref a_md_isBegin, .ref a_md_isGoal, .ref a_md_levels, .ref a_md_queue, .ref a_md_hasGuesses, .int md_keptBits, .ref a_md_rounds, .ref a_md_marked, .ref a_md_other, .ref a_md_heights]))] H := hP
    have hD : va_D A [(a_md, .inr (11, [.ref a_md_tape, .int md_size, .int md_at, .int md_token, .int md_tokenPlace, .int md_number, .int md_sign, .int 1, .int md_faultPlace, .int md_place, .ref a_md_acts, .ref a_md_actNumbers, .ref a_md_actCounts, .int md_bank, .int md_unaries, .int md_opens, .ref a_md_pile, .int md_piled, .int md_loop, .ref a_md_begins, .ref a_md_goals, .ref a_md_ranks, .ref a_md_choiceCounts, .ref a_md_whens, .ref a_md_becomes, .ref a_md_guessCounts, .ref a_md_guesses, .ref a_md_unaryCounts, .ref a_md_stack, .ref a_md_nexts, .ref a_md_isBegin, .ref a_md_isGoal, .ref a_md_levels, .ref a_md_queue, .ref a_md_hasGuesses, .int md_keptBits, .ref a_md_rounds, .ref a_md_marked, .ref a_md_other, .ref a_md_heights]))] := hD
    refine lv_aload_n hx hb d_Md_misplaced_12 rfl (lv_at hl 0 rfl) ?_
    refine lv_aload_n hx hb d_Md_misplaced_13 rfl (lv_at hl 0 rfl) ?_
    refine va_get (D := (dC, dI)) (ci := 11) (v := .int md_tokenPlace) (C := "LoopInductionModel") (T := F_Md) (N := 40) hx hb hts iC_Md hown hK hP 0 rfl rfl 4 (by decide) fl_128 (fun _ h9 => h9) rfl d_Md_misplaced_14 ?_
    refine va_put (D := (dC, dI)) (ci := 11) (v := .int md_tokenPlace) (ty := .int) (C := "LoopInductionModel") (T := F_Md) (N := 40) hx hb hts iC_Md t_Md t_Md_ok n_Md hown hK hP hD hS 0 rfl rfl 8 (by decide) fl_158 (fun _ h9 => h9) rfl (by decide +kernel) rfl rfl (Nat.le_of_ble_eq_true rfl) d_Md_misplaced_17 (fun H locs hP hD hS => ?_)
    have hP : va_P (dC, dI) vwCl [(a_md, .inr (11, [.ref a_md_tape, .int md_size, .int md_at, .int md_token, .int md_tokenPlace, .int md_number, .int md_sign, .int 1, .int md_tokenPlace, .int md_place, .ref a_md_acts, .ref a_md_actNumbers, .ref a_md_actCounts, .int md_bank, .int md_unaries, .int md_opens, .ref a_md_pile, .int md_piled, .int md_loop, .ref a_md_begins, .ref a_md_goals, .ref a_md_ranks, .ref a_md_choiceCounts, .ref a_md_whens, .ref a_md_becomes, .ref a_md_guessCounts, .ref a_md_guesses, .ref a_md_unaryCounts, .ref a_md_stack, .ref a_md_nexts, .ref a_md_isBegin, .ref a_md_isGoal, .ref a_md_levels, .ref a_md_queue, .ref a_md_hasGuesses, .int md_keptBits, .ref a_md_rounds, .ref a_md_marked, .ref a_md_other, .ref a_md_heights]))] H := hP
    have hD : va_D A [(a_md, .inr (11, [.ref a_md_tape, .int md_size, .int md_at, .int md_token, .int md_tokenPlace, .int md_number, .int md_sign, .int 1, .int md_tokenPlace, .int md_place, .ref a_md_acts, .ref a_md_actNumbers, .ref a_md_actCounts, .int md_bank, .int md_unaries, .int md_opens, .ref a_md_pile, .int md_piled, .int md_loop, .ref a_md_begins, .ref a_md_goals, .ref a_md_ranks, .ref a_md_choiceCounts, .ref a_md_whens, .ref a_md_becomes, .ref a_md_guessCounts, .ref a_md_guesses, .ref a_md_unaryCounts, .ref a_md_stack, .ref a_md_nexts, .ref a_md_isBegin, .ref a_md_isGoal, .ref a_md_levels, .ref a_md_queue, .ref a_md_hasGuesses, .int md_keptBits, .ref a_md_rounds, .ref a_md_marked, .ref a_md_other, .ref a_md_heights]))] := hD
    subst hQ
    have hP9 := hP
    have hD9 := hD
    exact W.vret hx hb hr (fun t ht hW => ⟨⟨(1, md_tokenPlace), rfl, h, by rw [ht]; exact hP9, va_K.moved hW.alike hK, hD9⟩, hS.F ht⟩) hS.2.2 d_Md_misplaced_20
def wp_Md_isSign (x1 : Int32) (md_token : Int32) (md_sign : Int32) (post : Int32 → Prop) : Prop :=
  ((¬ (md_token : Int32) = (3 : Int32) → post 0) ∧ ((md_token : Int32) = (3 : Int32) → ((¬ (md_sign : Int32) = (x1 : Int32) → post 0) ∧ ((md_sign : Int32) = (x1 : Int32) → post 1))))
set_option maxHeartbeats 4000000 in
set_option maxRecDepth 100000 in
theorem c_Md_isSign (l : Launch) (dC : Nat → ClassId) (dI : Nat → Nat → Nat) (cI cB cZ : ClassId) (adK adV : Nat → Nat) (sz : Nat) (a_md a_md_tape a_md_acts a_md_actNumbers a_md_actCounts a_md_pile a_md_begins a_md_goals a_md_ranks a_md_choiceCounts a_md_whens a_md_becomes a_md_guessCounts a_md_guesses a_md_unaryCounts a_md_stack a_md_nexts a_md_isBegin a_md_isGoal a_md_levels a_md_queue a_md_hasGuesses a_md_rounds a_md_marked a_md_other a_md_heights : Nat) (md_size : Int32) (md_at : Int32) (md_token : Int32) (md_tokenPlace : Int32) (md_number : Int32) (md_sign : Int32) (md_bad : Int32) (md_faultPlace : Int32) (md_place : Int32) (md_bank : Int32) (md_unaries : Int32) (md_opens : Int32) (md_piled : Int32) (md_loop : Int32) (md_keptBits : Int32) (x1 : Int32) (post : Int32 → Prop) (h : wp_Md_isSign x1 md_token md_sign post) : Met l y_Md_isSign w_Md_isSign ({ frames := 0, cells := 0, slots := 0, locals := 0 }) (pc_ (dC, dI) [(cI, .int), (cB, .byte), (cZ, .boolean)] [(a_md, .inr (11, [.ref a_md_tape, .int md_size, .int md_at, .int md_token, .int md_tokenPlace, .int md_number, .int md_sign, .int md_bad, .int md_faultPlace, .int md_place, .ref a_md_acts, .ref a_md_actNumbers, .ref a_md_actCounts, .int md_bank, .int md_unaries, .int md_opens, .ref a_md_pile, .int md_piled, .int md_loop, .ref a_md_begins, .ref a_md_goals, .ref a_md_ranks, .ref a_md_choiceCounts, .ref a_md_whens, .ref a_md_becomes, .ref a_md_guessCounts, .ref a_md_guesses, .ref a_md_unaryCounts, .ref a_md_stack, .ref a_md_nexts, .ref a_md_isBegin, .ref a_md_isGoal, .ref a_md_levels, .ref a_md_queue, .ref a_md_hasGuesses, .int md_keptBits, .ref a_md_rounds, .ref a_md_marked, .ref a_md_other, .ref a_md_heights]))] sz adK adV [.ref a_md, .int x1]) (va_Qi (fun (r : Int32) (u : Unit) => post r ) (fun (u : Unit) t => bw_ (dC, dI) [(cI, .int), (cB, .byte), (cZ, .boolean)] (va_A [(a_md, .inr (11, [.ref a_md_tape, .int md_size, .int md_at, .int md_token, .int md_tokenPlace, .int md_number, .int md_sign, .int md_bad, .int md_faultPlace, .int md_place, .ref a_md_acts, .ref a_md_actNumbers, .ref a_md_actCounts, .int md_bank, .int md_unaries, .int md_opens, .ref a_md_pile, .int md_piled, .int md_loop, .ref a_md_begins, .ref a_md_goals, .ref a_md_ranks, .ref a_md_choiceCounts, .ref a_md_whens, .ref a_md_becomes, .ref a_md_guessCounts, .ref a_md_guesses, .ref a_md_unaryCounts, .ref a_md_stack, .ref a_md_nexts, .ref a_md_isBegin, .ref a_md_isGoal, .ref a_md_levels, .ref a_md_queue, .ref a_md_hasGuesses, .int md_keptBits, .ref a_md_rounds, .ref a_md_marked, .ref a_md_other, .ref a_md_heights]))] sz) [(a_md, .inr (11, [.ref a_md_tape, .int md_size, .int md_at, .int md_token, .int md_tokenPlace, .int md_number, .int md_sign, .int md_bad, .int md_faultPlace, .int md_place, .ref a_md_acts, .ref a_md_actNumbers, .ref a_md_actCounts, .int md_bank, .int md_unaries, .int md_opens, .ref a_md_pile, .int md_piled, .int md_loop, .ref a_md_begins, .ref a_md_goals, .ref a_md_ranks, .ref a_md_choiceCounts, .ref a_md_whens, .ref a_md_becomes, .ref a_md_guessCounts, .ref a_md_guesses, .ref a_md_unaryCounts, .ref a_md_stack, .ref a_md_nexts, .ref a_md_isBegin, .ref a_md_isGoal, .ref a_md_levels, .ref a_md_queue, .ref a_md_hasGuesses, .int md_keptBits, .ref a_md_rounds, .ref a_md_marked, .ref a_md_other, .ref a_md_heights]))] t) (va_A [(a_md, .inr (11, [.ref a_md_tape, .int md_size, .int md_at, .int md_token, .int md_tokenPlace, .int md_number, .int md_sign, .int md_bad, .int md_faultPlace, .int md_place, .ref a_md_acts, .ref a_md_actNumbers, .ref a_md_actCounts, .int md_bank, .int md_unaries, .int md_opens, .ref a_md_pile, .int md_piled, .int md_loop, .ref a_md_begins, .ref a_md_goals, .ref a_md_ranks, .ref a_md_choiceCounts, .ref a_md_whens, .ref a_md_becomes, .ref a_md_guessCounts, .ref a_md_guesses, .ref a_md_unaryCounts, .ref a_md_stack, .ref a_md_nexts, .ref a_md_isBegin, .ref a_md_isGoal, .ref a_md_levels, .ref a_md_queue, .ref a_md_hasGuesses, .int md_keptBits, .ref a_md_rounds, .ref a_md_marked, .ref a_md_other, .ref a_md_heights]))] sz)) 0 0 (va_A [(a_md, .inr (11, [.ref a_md_tape, .int md_size, .int md_at, .int md_token, .int md_tokenPlace, .int md_number, .int md_sign, .int md_bad, .int md_faultPlace, .int md_place, .ref a_md_acts, .ref a_md_actNumbers, .ref a_md_actCounts, .int md_bank, .int md_unaries, .int md_opens, .ref a_md_pile, .int md_piled, .int md_loop, .ref a_md_begins, .ref a_md_goals, .ref a_md_ranks, .ref a_md_choiceCounts, .ref a_md_whens, .ref a_md_becomes, .ref a_md_guessCounts, .ref a_md_guesses, .ref a_md_unaryCounts, .ref a_md_stack, .ref a_md_nexts, .ref a_md_isBegin, .ref a_md_isGoal, .ref a_md_levels, .ref a_md_queue, .ref a_md_hasGuesses, .int md_keptBits, .ref a_md_rounds, .ref a_md_marked, .ref a_md_other, .ref a_md_heights]))] sz) := by
  refine Met.ofW (cc := b_Md_isSign) (maxL := 2) (ret := (some .boolean)) (by decide) rfl ?_
  intro p e s m args below meth c s₁ B hml hv
  obtain ⟨rfl, hsz, hP, hK, hD0, hN, hT⟩ := hv
  have hx := B.exec
  have hb := B.bytes
  have hr := B.returns
  have hts := atoms_spec (ws := w_Md_isSign) B.pre
  have hown : s.vm.findClass "LoopInductionModel" = some m.cls := findClass_of_methodNamed B.named
  have hlocks := B.notSynchronized
  subst hsz
  have hD := hD0.self (sz := s.heap.size)
  generalize hAe : va_A [(a_md, .inr (11, [.ref a_md_tape, .int md_size, .int md_at, .int md_token, .int md_tokenPlace, .int md_number, .int md_sign, .int md_bad, .int md_faultPlace, .int md_place, .ref a_md_acts, .ref a_md_actNumbers, .ref a_md_actCounts, .int md_bank, .int md_unaries, .int md_opens, .ref a_md_pile, .int md_piled, .int md_loop, .ref a_md_begins, .ref a_md_goals, .ref a_md_ranks, .ref a_md_choiceCounts, .ref a_md_whens, .ref a_md_becomes, .ref a_md_guessCounts, .ref a_md_guesses, .ref a_md_unaryCounts, .ref a_md_stack, .ref a_md_nexts, .ref a_md_isBegin, .ref a_md_isGoal, .ref a_md_levels, .ref a_md_queue, .ref a_md_hasGuesses, .int md_keptBits, .ref a_md_rounds, .ref a_md_marked, .ref a_md_other, .ref a_md_heights]))] s.heap.size = A at hD hT ⊢
  have hA : ∀ q : Nat, s.heap.size ≤ q → A q := fun q h => by rw [← hAe]; exact Or.inr h
  have hS : va_S A s.heap s.heap [] := va_S.rf
  generalize hQ : MQ below _ _ s 0 0 _ = QQ
  have hl := lv_entry ([.ref a_md, .int x1]) (n := 2) (Nat.le_of_ble_eq_true rfl)
  rw [lg_entry_eq]
  generalize (lg_sl ([.ref a_md, .int x1]) ++ List.replicate (2 - (lg_sl ([.ref a_md, .int x1])).length) Slot.unset).toArray = ls at hl ⊢
  have hl : lv_has ls 2 [(0, .ref a_md), (1, .int x1)] := hl
  have fl_131 := (hts _ (List.mem_cons_of_mem _ m_1093))
  have fl_148 := (hts _ (List.mem_cons_of_mem _ m_1096))
  refine lv_aload_n hx hb d_Md_isSign_0 rfl (lv_at hl 0 rfl) ?_
  refine va_get (D := (dC, dI)) (ci := 11) (v := .int md_token) (C := "LoopInductionModel") (T := F_Md) (N := 40) hx hb hts iC_Md hown hK hP 0 rfl rfl 3 (by decide) fl_131 (fun _ h9 => h9) rfl d_Md_isSign_1 ?_
  refine lv_iconst (v := 3) hx hb d_Md_isSign_4 (by decide) ?_
  refine lv_icmp_ne (tgt := 20) hx hb d_Md_isSign_5 (by decide) (fun c_5 => ?_) (fun c_5 => ?_)
  · have h := And.left h c_5
    refine lv_iconst (v := 0) hx hb d_Md_isSign_20 (by decide) ?_
    subst hQ
    have hP9 := hP
    have hD9 := hD
    exact W.zret (v := 0) hx hb hr rfl (fun t ht hW => ⟨⟨0, (), rfl, h, by rw [ht]; exact hP9, va_K.moved hW.alike hK, hD9⟩, hS.F ht⟩) hS.2.2 d_Md_isSign_21
  · have h := And.right h c_5
    refine lv_aload_n hx hb d_Md_isSign_8 rfl (lv_at hl 0 rfl) ?_
    refine va_get (D := (dC, dI)) (ci := 11) (v := .int md_sign) (C := "LoopInductionModel") (T := F_Md) (N := 40) hx hb hts iC_Md hown hK hP 0 rfl rfl 6 (by decide) fl_148 (fun _ h9 => h9) rfl d_Md_isSign_9 ?_
    refine lv_iload_n hx hb d_Md_isSign_12 rfl (lv_at hl 1 rfl) ?_
    refine lv_icmp_ne (tgt := 20) hx hb d_Md_isSign_13 (by decide) (fun c_13 => ?_) (fun c_13 => ?_)
    · have h := And.left h c_13
      refine lv_iconst (v := 0) hx hb d_Md_isSign_20 (by decide) ?_
      subst hQ
      have hP9 := hP
      have hD9 := hD
      exact W.zret (v := 0) hx hb hr rfl (fun t ht hW => ⟨⟨0, (), rfl, h, by rw [ht]; exact hP9, va_K.moved hW.alike hK, hD9⟩, hS.F ht⟩) hS.2.2 d_Md_isSign_21
    · have h := And.right h c_13
      refine lv_iconst (v := 1) hx hb d_Md_isSign_16 (by decide) ?_
      refine lv_goto (tgt := 21) hx hb d_Md_isSign_17 (by decide) ?_
      subst hQ
      have hP9 := hP
      have hD9 := hD
      exact W.zret (v := 1) hx hb hr rfl (fun t ht hW => ⟨⟨1, (), rfl, h, by rw [ht]; exact hP9, va_K.moved hW.alike hK, hD9⟩, hS.F ht⟩) hS.2.2 d_Md_isSign_21
def wp_Md_isWord (x1 : Int32) (md_token : Int32) (post : Int32 → Prop) : Prop :=
  ((¬ (md_token : Int32) = (10 + x1 : Int32) → post 0) ∧ ((md_token : Int32) = (10 + x1 : Int32) → post 1))
set_option maxHeartbeats 4000000 in
set_option maxRecDepth 100000 in
theorem c_Md_isWord (l : Launch) (dC : Nat → ClassId) (dI : Nat → Nat → Nat) (cI cB cZ : ClassId) (adK adV : Nat → Nat) (sz : Nat) (a_md a_md_tape a_md_acts a_md_actNumbers a_md_actCounts a_md_pile a_md_begins a_md_goals a_md_ranks a_md_choiceCounts a_md_whens a_md_becomes a_md_guessCounts a_md_guesses a_md_unaryCounts a_md_stack a_md_nexts a_md_isBegin a_md_isGoal a_md_levels a_md_queue a_md_hasGuesses a_md_rounds a_md_marked a_md_other a_md_heights : Nat) (md_size : Int32) (md_at : Int32) (md_token : Int32) (md_tokenPlace : Int32) (md_number : Int32) (md_sign : Int32) (md_bad : Int32) (md_faultPlace : Int32) (md_place : Int32) (md_bank : Int32) (md_unaries : Int32) (md_opens : Int32) (md_piled : Int32) (md_loop : Int32) (md_keptBits : Int32) (x1 : Int32) (post : Int32 → Prop) (h : wp_Md_isWord x1 md_token post) : Met l y_Md_isWord w_Md_isWord ({ frames := 0, cells := 0, slots := 0, locals := 0 }) (pc_ (dC, dI) [(cI, .int), (cB, .byte), (cZ, .boolean)] [(a_md, .inr (11, [.ref a_md_tape, .int md_size, .int md_at, .int md_token, .int md_tokenPlace, .int md_number, .int md_sign, .int md_bad, .int md_faultPlace, .int md_place, .ref a_md_acts, .ref a_md_actNumbers, .ref a_md_actCounts, .int md_bank, .int md_unaries, .int md_opens, .ref a_md_pile, .int md_piled, .int md_loop, .ref a_md_begins, .ref a_md_goals, .ref a_md_ranks, .ref a_md_choiceCounts, .ref a_md_whens, .ref a_md_becomes, .ref a_md_guessCounts, .ref a_md_guesses, .ref a_md_unaryCounts, .ref a_md_stack, .ref a_md_nexts, .ref a_md_isBegin, .ref a_md_isGoal, .ref a_md_levels, .ref a_md_queue, .ref a_md_hasGuesses, .int md_keptBits, .ref a_md_rounds, .ref a_md_marked, .ref a_md_other, .ref a_md_heights]))] sz adK adV [.ref a_md, .int x1]) (va_Qi (fun (r : Int32) (u : Unit) => post r ) (fun (u : Unit) t => bw_ (dC, dI) [(cI, .int), (cB, .byte), (cZ, .boolean)] (va_A [(a_md, .inr (11, [.ref a_md_tape, .int md_size, .int md_at, .int md_token, .int md_tokenPlace, .int md_number, .int md_sign, .int md_bad, .int md_faultPlace, .int md_place, .ref a_md_acts, .ref a_md_actNumbers, .ref a_md_actCounts, .int md_bank, .int md_unaries, .int md_opens, .ref a_md_pile, .int md_piled, .int md_loop, .ref a_md_begins, .ref a_md_goals, .ref a_md_ranks, .ref a_md_choiceCounts, .ref a_md_whens, .ref a_md_becomes, .ref a_md_guessCounts, .ref a_md_guesses, .ref a_md_unaryCounts, .ref a_md_stack, .ref a_md_nexts, .ref a_md_isBegin, .ref a_md_isGoal, .ref a_md_levels, .ref a_md_queue, .ref a_md_hasGuesses, .int md_keptBits, .ref a_md_rounds, .ref a_md_marked, .ref a_md_other, .ref a_md_heights]))] sz) [(a_md, .inr (11, [.ref a_md_tape, .int md_size, .int md_at, .int md_token, .int md_tokenPlace, .int md_number, .int md_sign, .int md_bad, .int md_faultPlace, .int md_place, .ref a_md_acts, .ref a_md_actNumbers, .ref a_md_actCounts, .int md_bank, .int md_unaries, .int md_opens, .ref a_md_pile, .int md_piled, .int md_loop, .ref a_md_begins, .ref a_md_goals, .ref a_md_ranks, .ref a_md_choiceCounts, .ref a_md_whens, .ref a_md_becomes, .ref a_md_guessCounts, .ref a_md_guesses, .ref a_md_unaryCounts, .ref a_md_stack, .ref a_md_nexts, .ref a_md_isBegin, .ref a_md_isGoal, .ref a_md_levels, .ref a_md_queue, .ref a_md_hasGuesses, .int md_keptBits, .ref a_md_rounds, .ref a_md_marked, .ref a_md_other, .ref a_md_heights]))] t) (va_A [(a_md, .inr (11, [.ref a_md_tape, .int md_size, .int md_at, .int md_token, .int md_tokenPlace, .int md_number, .int md_sign, .int md_bad, .int md_faultPlace, .int md_place, .ref a_md_acts, .ref a_md_actNumbers, .ref a_md_actCounts, .int md_bank, .int md_unaries, .int md_opens, .ref a_md_pile, .int md_piled, .int md_loop, .ref a_md_begins, .ref a_md_goals, .ref a_md_ranks, .ref a_md_choiceCounts, .ref a_md_whens, .ref a_md_becomes, .ref a_md_guessCounts, .ref a_md_guesses, .ref a_md_unaryCounts, .ref a_md_stack, .ref a_md_nexts, .ref a_md_isBegin, .ref a_md_isGoal, .ref a_md_levels, .ref a_md_queue, .ref a_md_hasGuesses, .int md_keptBits, .ref a_md_rounds, .ref a_md_marked, .ref a_md_other, .ref a_md_heights]))] sz)) 0 0 (va_A [(a_md, .inr (11, [.ref a_md_tape, .int md_size, .int md_at, .int md_token, .int md_tokenPlace, .int md_number, .int md_sign, .int md_bad, .int md_faultPlace, .int md_place, .ref a_md_acts, .ref a_md_actNumbers, .ref a_md_actCounts, .int md_bank, .int md_unaries, .int md_opens, .ref a_md_pile, .int md_piled, .int md_loop, .ref a_md_begins, .ref a_md_goals, .ref a_md_ranks, .ref a_md_choiceCounts, .ref a_md_whens, .ref a_md_becomes, .ref a_md_guessCounts, .ref a_md_guesses, .ref a_md_unaryCounts, .ref a_md_stack, .ref a_md_nexts, .ref a_md_isBegin, .ref a_md_isGoal, .ref a_md_levels, .ref a_md_queue, .ref a_md_hasGuesses, .int md_keptBits, .ref a_md_rounds, .ref a_md_marked, .ref a_md_other, .ref a_md_heights]))] sz) := by
  refine Met.ofW (cc := b_Md_isWord) (maxL := 2) (ret := (some .boolean)) (by decide) rfl ?_
  intro p e s m args below meth c s₁ B hml hv
  obtain ⟨rfl, hsz, hP, hK, hD0, hN, hT⟩ := hv
  have hx := B.exec
  have hb := B.bytes
  have hr := B.returns
  have hts := atoms_spec (ws := w_Md_isWord) B.pre
  have hown : s.vm.findClass "LoopInductionModel" = some m.cls := findClass_of_methodNamed B.named
  have hlocks := B.notSynchronized
  subst hsz
  have hD := hD0.self (sz := s.heap.size)
  generalize hAe : va_A [(a_md, .inr (11, [.ref a_md_tape, .int md_size, .int md_at, .int md_token, .int md_tokenPlace, .int md_number, .int md_sign, .int md_bad, .int md_faultPlace, .int md_place, .ref a_md_acts, .ref a_md_actNumbers, .ref a_md_actCounts, .int md_bank, .int md_unaries, .int md_opens, .ref a_md_pile, .int md_piled, .int md_loop, .ref a_md_begins, .ref a_md_goals, .ref a_md_ranks, .ref a_md_choiceCounts, .ref a_md_whens, .ref a_md_becomes, .ref a_md_guessCounts, .ref a_md_guesses, .ref a_md_unaryCounts, .ref a_md_stack, .ref a_md_nexts, .ref a_md_isBegin, .ref a_md_isGoal, .ref a_md_levels, .ref a_md_queue, .ref a_md_hasGuesses, .int md_keptBits, .ref a_md_rounds, .ref a_md_marked, .ref a_md_other, .ref a_md_heights]))] s.heap.size = A at hD hT ⊢
  have hA : ∀ q : Nat, s.heap.size ≤ q → A q := fun q h => by rw [← hAe]; exact Or.inr h
  have hS : va_S A s.heap s.heap [] := va_S.rf
  generalize hQ : MQ below _ _ s 0 0 _ = QQ
  have hl := lv_entry ([.ref a_md, .int x1]) (n := 2) (Nat.le_of_ble_eq_true rfl)
  rw [lg_entry_eq]
  generalize (lg_sl ([.ref a_md, .int x1]) ++ List.replicate (2 - (lg_sl ([.ref a_md, .int x1])).length) Slot.unset).toArray = ls at hl ⊢
  have hl : lv_has ls 2 [(0, .ref a_md), (1, .int x1)] := hl
  have fl_131 := (hts _ (List.mem_cons_of_mem _ m_1093))
  refine lv_aload_n hx hb d_Md_isWord_0 rfl (lv_at hl 0 rfl) ?_
  refine va_get (D := (dC, dI)) (ci := 11) (v := .int md_token) (C := "LoopInductionModel") (T := F_Md) (N := 40) hx hb hts iC_Md hown hK hP 0 rfl rfl 3 (by decide) fl_131 (fun _ h9 => h9) rfl d_Md_isWord_1 ?_
  refine lv_bipush (v := 10) hx hb d_Md_isWord_4 (by decide) ?_
  refine lv_iload_n hx hb d_Md_isWord_6 rfl (lv_at hl 1 rfl) ?_
  refine lv_iadd hx hb d_Md_isWord_7 ?_
  refine lv_icmp_ne (tgt := 15) hx hb d_Md_isWord_8 (by decide) (fun c_8 => ?_) (fun c_8 => ?_)
  · have h := And.left h c_8
    refine lv_iconst (v := 0) hx hb d_Md_isWord_15 (by decide) ?_
    subst hQ
    have hP9 := hP
    have hD9 := hD
    exact W.zret (v := 0) hx hb hr rfl (fun t ht hW => ⟨⟨0, (), rfl, h, by rw [ht]; exact hP9, va_K.moved hW.alike hK, hD9⟩, hS.F ht⟩) hS.2.2 d_Md_isWord_16
  · have h := And.right h c_8
    refine lv_iconst (v := 1) hx hb d_Md_isWord_11 (by decide) ?_
    refine lv_goto (tgt := 16) hx hb d_Md_isWord_12 (by decide) ?_
    subst hQ
    have hP9 := hP
    have hD9 := hD
    exact W.zret (v := 1) hx hb hr rfl (fun t ht hW => ⟨⟨1, (), rfl, h, by rw [ht]; exact hP9, va_K.moved hW.alike hK, hD9⟩, hS.F ht⟩) hS.2.2 d_Md_isWord_16
def wp_Md_take (x1 : Int32) (md_size : Int32) (md_at : Int32) (md_token : Int32) (md_tokenPlace : Int32) (md_number : Int32) (md_sign : Int32) (md_bad : Int32) (md_faultPlace : Int32) (md_tape : Nat → Int32) (post : Int32 → Int32 → Int32 → Int32 → Int32 → Int32 → Int32 → Prop) : Prop :=
  wp_Md_isSign x1 md_token md_sign (fun r_1 => ((¬ (r_1 : Int32) = 0 → ((¬ (md_bad : Int32) = 0 → post md_at md_token md_tokenPlace md_number md_sign md_bad md_faultPlace) ∧ ((md_bad : Int32) = 0 → wp_Md_nextToken md_size md_at md_token md_tokenPlace md_number md_sign md_tape (fun md_at_2 md_token_3 md_tokenPlace_4 md_number_5 md_sign_6 => post md_at_2 md_token_3 md_tokenPlace_4 md_number_5 md_sign_6 md_bad md_faultPlace)))) ∧ ((r_1 : Int32) = 0 → wp_Md_misplaced md_tokenPlace md_bad md_faultPlace (fun md_bad_7 md_faultPlace_8 => ((¬ (md_bad_7 : Int32) = 0 → post md_at md_token md_tokenPlace md_number md_sign md_bad_7 md_faultPlace_8) ∧ ((md_bad_7 : Int32) = 0 → wp_Md_nextToken md_size md_at md_token md_tokenPlace md_number md_sign md_tape (fun md_at_9 md_token_10 md_tokenPlace_11 md_number_12 md_sign_13 => post md_at_9 md_token_10 md_tokenPlace_11 md_number_12 md_sign_13 md_bad_7 md_faultPlace_8)))))))
set_option maxHeartbeats 4000000 in
set_option maxRecDepth 100000 in
theorem c_Md_take (l : Launch) (dC : Nat → ClassId) (dI : Nat → Nat → Nat) (cI cB cZ : ClassId) (adK adV : Nat → Nat) (sz : Nat) (a_md a_md_tape a_md_acts a_md_actNumbers a_md_actCounts a_md_pile a_md_begins a_md_goals a_md_ranks a_md_choiceCounts a_md_whens a_md_becomes a_md_guessCounts a_md_guesses a_md_unaryCounts a_md_stack a_md_nexts a_md_isBegin a_md_isGoal a_md_levels a_md_queue a_md_hasGuesses a_md_rounds a_md_marked a_md_other a_md_heights : Nat) (md_size : Int32) (md_at : Int32) (md_token : Int32) (md_tokenPlace : Int32) (md_number : Int32) (md_sign : Int32) (md_bad : Int32) (md_faultPlace : Int32) (md_place : Int32) (md_bank : Int32) (md_unaries : Int32) (md_opens : Int32) (md_piled : Int32) (md_loop : Int32) (md_keptBits : Int32) (md_tape : Nat → Int32) (x1 : Int32) (post : Int32 → Int32 → Int32 → Int32 → Int32 → Int32 → Int32 → Prop) (h : wp_Md_take x1 md_size md_at md_token md_tokenPlace md_number md_sign md_bad md_faultPlace md_tape post) : Met l y_Md_take w_Md_take ({ frames := 2, cells := 0, slots := 0, locals := 46 }) (pc_ (dC, dI) [(cI, .int), (cB, .byte), (cZ, .boolean)] [(a_md, .inr (11, [.ref a_md_tape, .int md_size, .int md_at, .int md_token, .int md_tokenPlace, .int md_number, .int md_sign, .int md_bad, .int md_faultPlace, .int md_place, .ref a_md_acts, .ref a_md_actNumbers, .ref a_md_actCounts, .int md_bank, .int md_unaries, .int md_opens, .ref a_md_pile, .int md_piled, .int md_loop, .ref a_md_begins, .ref a_md_goals, .ref a_md_ranks, .ref a_md_choiceCounts, .ref a_md_whens, .ref a_md_becomes, .ref a_md_guessCounts, .ref a_md_guesses, .ref a_md_unaryCounts, .ref a_md_stack, .ref a_md_nexts, .ref a_md_isBegin, .ref a_md_isGoal, .ref a_md_levels, .ref a_md_queue, .ref a_md_hasGuesses, .int md_keptBits, .ref a_md_rounds, .ref a_md_marked, .ref a_md_other, .ref a_md_heights])), (a_md_tape, .inl (cB, 1200, .inl md_tape))] sz adK adV [.ref a_md, .int x1]) (va_Qv (fun (u : Int32 × Int32 × Int32 × Int32 × Int32 × Int32 × Int32) => post u.1 u.2.1 u.2.2.1 u.2.2.2.1 u.2.2.2.2.1 u.2.2.2.2.2.1 u.2.2.2.2.2.2) (fun (u : Int32 × Int32 × Int32 × Int32 × Int32 × Int32 × Int32) t => bw_ (dC, dI) [(cI, .int), (cB, .byte), (cZ, .boolean)] (va_A [(a_md, .inr (11, [.ref a_md_tape, .int md_size, .int md_at, .int md_token, .int md_tokenPlace, .int md_number, .int md_sign, .int md_bad, .int md_faultPlace, .int md_place, .ref a_md_acts, .ref a_md_actNumbers, .ref a_md_actCounts, .int md_bank, .int md_unaries, .int md_opens, .ref a_md_pile, .int md_piled, .int md_loop, .ref a_md_begins, .ref a_md_goals, .ref a_md_ranks, .ref a_md_choiceCounts, .ref a_md_whens, .ref a_md_becomes, .ref a_md_guessCounts, .ref a_md_guesses, .ref a_md_unaryCounts, .ref a_md_stack, .ref a_md_nexts, .ref a_md_isBegin, .ref a_md_isGoal, .ref a_md_levels, .ref a_md_queue, .ref a_md_hasGuesses, .int md_keptBits, .ref a_md_rounds, .ref a_md_marked, .ref a_md_other, .ref a_md_heights])), (a_md_tape, .inl (cB, 1200, .inl md_tape))] sz) [(a_md, .inr (11, [.ref a_md_tape, .int md_size, .int u.1, .int u.2.1, .int u.2.2.1, .int u.2.2.2.1, .int u.2.2.2.2.1, .int u.2.2.2.2.2.1, .int u.2.2.2.2.2.2, .int md_place, .ref a_md_acts, .ref a_md_actNumbers, .ref a_md_actCounts, .int md_bank, .int md_unaries, .int md_opens, .ref a_md_pile, .int md_piled, .int md_loop, .ref a_md_begins, .ref a_md_goals, .ref a_md_ranks, .ref a_md_choiceCounts, .ref a_md_whens, .ref a_md_becomes, .ref a_md_guessCounts, .ref a_md_guesses, .ref a_md_unaryCounts, .ref a_md_stack, .ref a_md_nexts, .ref a_md_isBegin, .ref a_md_isGoal, .ref a_md_levels, .ref a_md_queue, .ref a_md_hasGuesses, .int md_keptBits, .ref a_md_rounds, .ref a_md_marked, .ref a_md_other, .ref a_md_heights])), (a_md_tape, .inl (cB, 1200, .inl md_tape))] t) (va_A [(a_md, .inr (11, [.ref a_md_tape, .int md_size, .int md_at, .int md_token, .int md_tokenPlace, .int md_number, .int md_sign, .int md_bad, .int md_faultPlace, .int md_place, .ref a_md_acts, .ref a_md_actNumbers, .ref a_md_actCounts, .int md_bank, .int md_unaries, .int md_opens, .ref a_md_pile, .int md_piled, .int md_loop, .ref a_md_begins, .ref a_md_goals, .ref a_md_ranks, .ref a_md_choiceCounts, .ref a_md_whens, .ref a_md_becomes, .ref a_md_guessCounts, .ref a_md_guesses, .ref a_md_unaryCounts, .ref a_md_stack, .ref a_md_nexts, .ref a_md_isBegin, .ref a_md_isGoal, .ref a_md_levels, .ref a_md_queue, .ref a_md_hasGuesses, .int md_keptBits, .ref a_md_rounds, .ref a_md_marked, .ref a_md_other, .ref a_md_heights])), (a_md_tape, .inl (cB, 1200, .inl md_tape))] sz)) 0 0 (va_A [(a_md, .inr (11, [.ref a_md_tape, .int md_size, .int md_at, .int md_token, .int md_tokenPlace, .int md_number, .int md_sign, .int md_bad, .int md_faultPlace, .int md_place, .ref a_md_acts, .ref a_md_actNumbers, .ref a_md_actCounts, .int md_bank, .int md_unaries, .int md_opens, .ref a_md_pile, .int md_piled, .int md_loop, .ref a_md_begins, .ref a_md_goals, .ref a_md_ranks, .ref a_md_choiceCounts, .ref a_md_whens, .ref a_md_becomes, .ref a_md_guessCounts, .ref a_md_guesses, .ref a_md_unaryCounts, .ref a_md_stack, .ref a_md_nexts, .ref a_md_isBegin, .ref a_md_isGoal, .ref a_md_levels, .ref a_md_queue, .ref a_md_hasGuesses, .int md_keptBits, .ref a_md_rounds, .ref a_md_marked, .ref a_md_other, .ref a_md_heights])), (a_md_tape, .inl (cB, 1200, .inl md_tape))] sz) := by
  refine Met.ofW (cc := b_Md_take) (maxL := 2) (ret := none) (by decide) rfl ?_
  intro p e s m args below meth c s₁ B hml hv
  obtain ⟨rfl, hsz, hP, hK, hD0, hN, hT⟩ := hv
  have hx := B.exec
  have hb := B.bytes
  have hr := B.returns
  have hts := atoms_spec (ws := w_Md_take) B.pre
  have hown : s.vm.findClass "LoopInductionModel" = some m.cls := findClass_of_methodNamed B.named
  have hlocks := B.notSynchronized
  subst hsz
  have hD := hD0.self (sz := s.heap.size)
  generalize hAe : va_A [(a_md, .inr (11, [.ref a_md_tape, .int md_size, .int md_at, .int md_token, .int md_tokenPlace, .int md_number, .int md_sign, .int md_bad, .int md_faultPlace, .int md_place, .ref a_md_acts, .ref a_md_actNumbers, .ref a_md_actCounts, .int md_bank, .int md_unaries, .int md_opens, .ref a_md_pile, .int md_piled, .int md_loop, .ref a_md_begins, .ref a_md_goals, .ref a_md_ranks, .ref a_md_choiceCounts, .ref a_md_whens, .ref a_md_becomes, .ref a_md_guessCounts, .ref a_md_guesses, .ref a_md_unaryCounts, .ref a_md_stack, .ref a_md_nexts, .ref a_md_isBegin, .ref a_md_isGoal, .ref a_md_levels, .ref a_md_queue, .ref a_md_hasGuesses, .int md_keptBits, .ref a_md_rounds, .ref a_md_marked, .ref a_md_other, .ref a_md_heights])), (a_md_tape, .inl (cB, 1200, .inl md_tape))] s.heap.size = A at hD hT ⊢
  have hA : ∀ q : Nat, s.heap.size ≤ q → A q := fun q h => by rw [← hAe]; exact Or.inr h
  have hS : va_S A s.heap s.heap [] := va_S.rf
  generalize hQ : MQ below _ _ s 0 0 _ = QQ
  have hl := lv_entry ([.ref a_md, .int x1]) (n := 2) (Nat.le_of_ble_eq_true rfl)
  rw [lg_entry_eq]
  generalize (lg_sl ([.ref a_md, .int x1]) ++ List.replicate (2 - (lg_sl ([.ref a_md, .int x1])).length) Slot.unset).toArray = ls at hl ⊢
  have hl : lv_has ls 2 [(0, .ref a_md), (1, .int x1)] := hl
  have fl_154 := (hts _ (List.mem_cons_of_mem _ m_1097))
  refine lv_aload_n hx hb d_Md_take_0 rfl (lv_at hl 0 rfl) ?_
  refine lv_iload_n hx hb d_Md_take_1 rfl (lv_at hl 1 rfl) ?_
  refine jn_i (wr := [(a_md_tape, .inl (cB, 1200, .inl md_tape))]) (va_runV (As := [.int x1]) (rest := []) ⟨hx, hb, hml, hown, hts⟩ (c_Md_isSign l dC dI cI cB cZ adK adV _ a_md a_md_tape a_md_acts a_md_actNumbers a_md_actCounts a_md_pile a_md_begins a_md_goals a_md_ranks a_md_choiceCounts a_md_whens a_md_becomes a_md_guessCounts a_md_guesses a_md_unaryCounts a_md_stack a_md_nexts a_md_isBegin a_md_isGoal a_md_levels a_md_queue a_md_hasGuesses a_md_rounds a_md_marked a_md_other a_md_heights md_size md_at md_token md_tokenPlace md_number md_sign md_bad md_faultPlace md_place md_bank md_unaries md_opens md_piled md_loop md_keptBits x1 _ h) (cwV 1 hts (gv_ m_1276 m_1278 m_58 m_96 m_1279) rfl rfl rfl pd_Md_isSign ⟨Nat.le_of_ble_eq_true rfl, Nat.le_of_ble_eq_true rfl⟩) ⟨pc_blind, va_recv hK hP (ci := 11) (q0 := 0) rfl rfl, pc_of (hP.sub [0] rfl) hK (hD.sub [0] (by decide) rfl) hN hT hS hA⟩ rfl rfl hl.1 rfl (lv_room (Nat.le_of_ble_eq_true rfl)) d_Md_take_2 ⟨Nat.zero_le _, Nat.zero_le _⟩) hP hD hS hA [0] [1] rfl rfl (by decide) (by decide) (fun r_1 u_ H locs h hP hD hS => ?_)
  have hP : va_P (dC, dI) vwCl [(a_md_tape, .inl (cB, 1200, .inl md_tape)), (a_md, .inr (11, [.ref a_md_tape, .int md_size, .int md_at, .int md_token, .int md_tokenPlace, .int md_number, .int md_sign, .int md_bad, .int md_faultPlace, .int md_place, .ref a_md_acts, .ref a_md_actNumbers, .ref a_md_actCounts, .int md_bank, .int md_unaries, .int md_opens, .ref a_md_pile, .int md_piled, .int md_loop, .ref a_md_begins, .ref a_md_goals, .ref a_md_ranks, .ref a_md_choiceCounts, .ref a_md_whens, .ref a_md_becomes, .ref a_md_guessCounts, .ref a_md_guesses, .ref a_md_unaryCounts, .ref a_md_stack, .ref a_md_nexts, .ref a_md_isBegin, .ref a_md_isGoal, .ref a_md_levels, .ref a_md_queue, .ref a_md_hasGuesses, .int md_keptBits, .ref a_md_rounds, .ref a_md_marked, .ref a_md_other, .ref a_md_heights]))] H := hP
  have hD : va_D A [(a_md_tape, .inl (cB, 1200, .inl md_tape)), (a_md, .inr (11, [.ref a_md_tape, .int md_size, .int md_at, .int md_token, .int md_tokenPlace, .int md_number, .int md_sign, .int md_bad, .int md_faultPlace, .int md_place, .ref a_md_acts, .ref a_md_actNumbers, .ref a_md_actCounts, .int md_bank, .int md_unaries, .int md_opens, .ref a_md_pile, .int md_piled, .int md_loop, .ref a_md_begins, .ref a_md_goals, .ref a_md_ranks, .ref a_md_choiceCounts, .ref a_md_whens, .ref a_md_becomes, .ref a_md_guessCounts, .ref a_md_guesses, .ref a_md_unaryCounts, .ref a_md_stack, .ref a_md_nexts, .ref a_md_isBegin, .ref a_md_isGoal, .ref a_md_levels, .ref a_md_queue, .ref a_md_hasGuesses, .int md_keptBits, .ref a_md_rounds, .ref a_md_marked, .ref a_md_other, .ref a_md_heights]))] := hD
  refine lv_if_ne (tgt := 12) hx hb d_Md_take_5 (by decide) (fun c_5 => ?_) (fun c_5 => ?_)
  · have h := And.left h c_5
    refine lv_aload_n hx hb d_Md_take_12 rfl (lv_at hl 0 rfl) ?_
    refine va_get (D := (dC, dI)) (ci := 11) (v := .int md_bad) (C := "LoopInductionModel") (T := F_Md) (N := 40) hx hb hts iC_Md hown hK hP 1 rfl rfl 7 (by decide) fl_154 (fun _ h9 => h9) rfl d_Md_take_13 ?_
    refine lv_if_ne (tgt := 23) hx hb d_Md_take_16 (by decide) (fun c_16 => ?_) (fun c_16 => ?_)
    · have h := And.left h c_16
      subst hQ
      have hP9 := hP.sub (ws' := [(a_md, .inr (11, [.ref a_md_tape, .int md_size, .int md_at, .int md_token, .int md_tokenPlace, .int md_number, .int md_sign, .int md_bad, .int md_faultPlace, .int md_place, .ref a_md_acts, .ref a_md_actNumbers, .ref a_md_actCounts, .int md_bank, .int md_unaries, .int md_opens, .ref a_md_pile, .int md_piled, .int md_loop, .ref a_md_begins, .ref a_md_goals, .ref a_md_ranks, .ref a_md_choiceCounts, .ref a_md_whens, .ref a_md_becomes, .ref a_md_guessCounts, .ref a_md_guesses, .ref a_md_unaryCounts, .ref a_md_stack, .ref a_md_nexts, .ref a_md_isBegin, .ref a_md_isGoal, .ref a_md_levels, .ref a_md_queue, .ref a_md_hasGuesses, .int md_keptBits, .ref a_md_rounds, .ref a_md_marked, .ref a_md_other, .ref a_md_heights])), (a_md_tape, .inl (cB, 1200, .inl md_tape))]) [1, 0] rfl
      have hD9 := hD.sub (ws' := [(a_md, .inr (11, [.ref a_md_tape, .int md_size, .int md_at, .int md_token, .int md_tokenPlace, .int md_number, .int md_sign, .int md_bad, .int md_faultPlace, .int md_place, .ref a_md_acts, .ref a_md_actNumbers, .ref a_md_actCounts, .int md_bank, .int md_unaries, .int md_opens, .ref a_md_pile, .int md_piled, .int md_loop, .ref a_md_begins, .ref a_md_goals, .ref a_md_ranks, .ref a_md_choiceCounts, .ref a_md_whens, .ref a_md_becomes, .ref a_md_guessCounts, .ref a_md_guesses, .ref a_md_unaryCounts, .ref a_md_stack, .ref a_md_nexts, .ref a_md_isBegin, .ref a_md_isGoal, .ref a_md_levels, .ref a_md_queue, .ref a_md_hasGuesses, .int md_keptBits, .ref a_md_rounds, .ref a_md_marked, .ref a_md_other, .ref a_md_heights])), (a_md_tape, .inl (cB, 1200, .inl md_tape))]) [1, 0] (by decide) rfl
      exact W.vret hx hb hr (fun t ht hW => ⟨⟨(md_at, md_token, md_tokenPlace, md_number, md_sign, md_bad, md_faultPlace), rfl, h, by rw [ht]; exact hP9, va_K.moved hW.alike hK, hD9⟩, hS.F ht⟩) hS.2.2 d_Md_take_23
    · have h := And.right h c_16
      refine lv_aload_n hx hb d_Md_take_19 rfl (lv_at hl 0 rfl) ?_
      refine jn_v (wr := []) (va_runV (As := []) (rest := []) ⟨hx, hb, hml, hown, hts⟩ (c_Md_nextToken l dC dI cI cB cZ adK adV _ a_md a_md_tape a_md_acts a_md_actNumbers a_md_actCounts a_md_pile a_md_begins a_md_goals a_md_ranks a_md_choiceCounts a_md_whens a_md_becomes a_md_guessCounts a_md_guesses a_md_unaryCounts a_md_stack a_md_nexts a_md_isBegin a_md_isGoal a_md_levels a_md_queue a_md_hasGuesses a_md_rounds a_md_marked a_md_other a_md_heights md_size md_at md_token md_tokenPlace md_number md_sign md_bad md_faultPlace md_place md_bank md_unaries md_opens md_piled md_loop md_keptBits md_tape _ h) (cwV 0 hts (gv_ m_1228 m_1230 m_52 m_96 m_1231) rfl rfl rfl pd_Md_nextToken ⟨Nat.le_of_ble_eq_true rfl, Nat.le_of_ble_eq_true rfl⟩) ⟨pc_blind, va_recv hK hP (ci := 11) (q0 := 1) rfl rfl, pc_of (hP.sub [1, 0] rfl) hK (hD.sub [1, 0] (by decide) rfl) hN hT hS hA⟩ rfl rfl hl.1 rfl (lv_room (Nat.le_of_ble_eq_true rfl)) d_Md_take_20 ⟨Nat.zero_le _, Nat.zero_le _⟩) hP hD hS hA [1, 0] [] rfl rfl (by decide) (by decide) (fun u_ H locs h hP hD hS => ?_)
      obtain ⟨md_at_2, md_token_3, md_tokenPlace_4, md_number_5, md_sign_6⟩ := u_
      have hP : va_P (dC, dI) vwCl [(a_md, .inr (11, [.ref a_md_tape, .int md_size, .int md_at_2, .int md_token_3, .int md_tokenPlace_4, .int md_number_5, .int md_sign_6, .int md_bad, .int md_faultPlace, .int md_place, .ref a_md_acts, .ref a_md_actNumbers, .ref a_md_actCounts, .int md_bank, .int md_unaries, .int md_opens, .ref a_md_pile, .int md_piled, .int md_loop, .ref a_md_begins, .ref a_md_goals, .ref a_md_ranks, .ref a_md_choiceCounts, .ref a_md_whens, .ref a_md_becomes, .ref a_md_guessCounts, .ref a_md_guesses, .ref a_md_unaryCounts, .ref a_md_stack, .ref a_md_nexts, .ref a_md_isBegin, .ref a_md_isGoal, .ref a_md_levels, .ref a_md_queue, .ref a_md_hasGuesses, .int md_keptBits, .ref a_md_rounds, .ref a_md_marked, .ref a_md_other, .ref a_md_heights])), (a_md_tape, .inl (cB, 1200, .inl md_tape))] H := hP
      have hD : va_D A [(a_md, .inr (11, [.ref a_md_tape, .int md_size, .int md_at_2, .int md_token_3, .int md_tokenPlace_4, .int md_number_5, .int md_sign_6, .int md_bad, .int md_faultPlace, .int md_place, .ref a_md_acts, .ref a_md_actNumbers, .ref a_md_actCounts, .int md_bank, .int md_unaries, .int md_opens, .ref a_md_pile, .int md_piled, .int md_loop, .ref a_md_begins, .ref a_md_goals, .ref a_md_ranks, .ref a_md_choiceCounts, .ref a_md_whens, .ref a_md_becomes, .ref a_md_guessCounts, .ref a_md_guesses, .ref a_md_unaryCounts, .ref a_md_stack, .ref a_md_nexts, .ref a_md_isBegin, .ref a_md_isGoal, .ref a_md_levels, .ref a_md_queue, .ref a_md_hasGuesses, .int md_keptBits, .ref a_md_rounds, .ref a_md_marked, .ref a_md_other, .ref a_md_heights])), (a_md_tape, .inl (cB, 1200, .inl md_tape))] := hD
      subst hQ
      have hP9 := hP
      have hD9 := hD
      exact W.vret hx hb hr (fun t ht hW => ⟨⟨(md_at_2, md_token_3, md_tokenPlace_4, md_number_5, md_sign_6, md_bad, md_faultPlace), rfl, h, by rw [ht]; exact hP9, va_K.moved hW.alike hK, hD9⟩, hS.F ht⟩) hS.2.2 d_Md_take_23
  · have h := And.right h c_5
    refine lv_aload_n hx hb d_Md_take_8 rfl (lv_at hl 0 rfl) ?_
    refine jn_v (wr := [(a_md_tape, .inl (cB, 1200, .inl md_tape))]) (va_runV (As := []) (rest := []) ⟨hx, hb, hml, hown, hts⟩ (c_Md_misplaced l dC dI cI cB cZ adK adV _ a_md a_md_tape a_md_acts a_md_actNumbers a_md_actCounts a_md_pile a_md_begins a_md_goals a_md_ranks a_md_choiceCounts a_md_whens a_md_becomes a_md_guessCounts a_md_guesses a_md_unaryCounts a_md_stack a_md_nexts a_md_isBegin a_md_isGoal a_md_levels a_md_queue a_md_hasGuesses a_md_rounds a_md_marked a_md_other a_md_heights md_size md_at md_token md_tokenPlace md_number md_sign md_bad md_faultPlace md_place md_bank md_unaries md_opens md_piled md_loop md_keptBits _ h) (cwV 0 hts (gv_ m_1268 m_1270 m_56 m_96 m_1271) rfl rfl rfl pd_Md_misplaced ⟨Nat.le_of_ble_eq_true rfl, Nat.le_of_ble_eq_true rfl⟩) ⟨pc_blind, va_recv hK hP (ci := 11) (q0 := 1) rfl rfl, pc_of (hP.sub [1] rfl) hK (hD.sub [1] (by decide) rfl) hN hT hS hA⟩ rfl rfl hl.1 rfl (lv_room (Nat.le_of_ble_eq_true rfl)) d_Md_take_9 ⟨Nat.zero_le _, Nat.zero_le _⟩) hP hD hS hA [1] [0] rfl rfl (by decide) (by decide) (fun u_ H locs h hP hD hS => ?_)
    obtain ⟨md_bad_7, md_faultPlace_8⟩ := u_
    have hP : va_P (dC, dI) vwCl [(a_md_tape, .inl (cB, 1200, .inl md_tape)), (a_md, .inr (11, [.ref a_md_tape, .int md_size, .int md_at, .int md_token, .int md_tokenPlace, .int md_number, .int md_sign, .int md_bad_7, .int md_faultPlace_8, .int md_place, .ref a_md_acts, .ref a_md_actNumbers, .ref a_md_actCounts, .int md_bank, .int md_unaries, .int md_opens, .ref a_md_pile, .int md_piled, .int md_loop, .ref a_md_begins, .ref a_md_goals, .ref a_md_ranks, .ref a_md_choiceCounts, .ref a_md_whens, .ref a_md_becomes, .ref a_md_guessCounts, .ref a_md_guesses, .ref a_md_unaryCounts, .ref a_md_stack, .ref a_md_nexts, .ref a_md_isBegin, .ref a_md_isGoal, .ref a_md_levels, .ref a_md_queue, .ref a_md_hasGuesses, .int md_keptBits, .ref a_md_rounds, .ref a_md_marked, .ref a_md_other, .ref a_md_heights]))] H := hP
    have hD : va_D A [(a_md_tape, .inl (cB, 1200, .inl md_tape)), (a_md, .inr (11, [.ref a_md_tape, .int md_size, .int md_at, .int md_token, .int md_tokenPlace, .int md_number, .int md_sign, .int md_bad_7, .int md_faultPlace_8, .int md_place, .ref a_md_acts, .ref a_md_actNumbers, .ref a_md_actCounts, .int md_bank, .int md_unaries, .int md_opens, .ref a_md_pile, .int md_piled, .int md_loop, .ref a_md_begins, .ref a_md_goals, .ref a_md_ranks, .ref a_md_choiceCounts, .ref a_md_whens, .ref a_md_becomes, .ref a_md_guessCounts, .ref a_md_guesses, .ref a_md_unaryCounts, .ref a_md_stack, .ref a_md_nexts, .ref a_md_isBegin, .ref a_md_isGoal, .ref a_md_levels, .ref a_md_queue, .ref a_md_hasGuesses, .int md_keptBits, .ref a_md_rounds, .ref a_md_marked, .ref a_md_other, .ref a_md_heights]))] := hD
    refine lv_aload_n hx hb d_Md_take_12 rfl (lv_at hl 0 rfl) ?_
    refine va_get (D := (dC, dI)) (ci := 11) (v := .int md_bad_7) (C := "LoopInductionModel") (T := F_Md) (N := 40) hx hb hts iC_Md hown hK hP 1 rfl rfl 7 (by decide) fl_154 (fun _ h9 => h9) rfl d_Md_take_13 ?_
    refine lv_if_ne (tgt := 23) hx hb d_Md_take_16 (by decide) (fun c_16 => ?_) (fun c_16 => ?_)
    · have h := And.left h c_16
      subst hQ
      have hP9 := hP.sub (ws' := [(a_md, .inr (11, [.ref a_md_tape, .int md_size, .int md_at, .int md_token, .int md_tokenPlace, .int md_number, .int md_sign, .int md_bad_7, .int md_faultPlace_8, .int md_place, .ref a_md_acts, .ref a_md_actNumbers, .ref a_md_actCounts, .int md_bank, .int md_unaries, .int md_opens, .ref a_md_pile, .int md_piled, .int md_loop, .ref a_md_begins, .ref a_md_goals, .ref a_md_ranks, .ref a_md_choiceCounts, .ref a_md_whens, .ref a_md_becomes, .ref a_md_guessCounts, .ref a_md_guesses, .ref a_md_unaryCounts, .ref a_md_stack, .ref a_md_nexts, .ref a_md_isBegin, .ref a_md_isGoal, .ref a_md_levels, .ref a_md_queue, .ref a_md_hasGuesses, .int md_keptBits, .ref a_md_rounds, .ref a_md_marked, .ref a_md_other, .ref a_md_heights])), (a_md_tape, .inl (cB, 1200, .inl md_tape))]) [1, 0] rfl
      have hD9 := hD.sub (ws' := [(a_md, .inr (11, [.ref a_md_tape, .int md_size, .int md_at, .int md_token, .int md_tokenPlace, .int md_number, .int md_sign, .int md_bad_7, .int md_faultPlace_8, .int md_place, .ref a_md_acts, .ref a_md_actNumbers, .ref a_md_actCounts, .int md_bank, .int md_unaries, .int md_opens, .ref a_md_pile, .int md_piled, .int md_loop, .ref a_md_begins, .ref a_md_goals, .ref a_md_ranks, .ref a_md_choiceCounts, .ref a_md_whens, .ref a_md_becomes, .ref a_md_guessCounts, .ref a_md_guesses, .ref a_md_unaryCounts, .ref a_md_stack, .ref a_md_nexts, .ref a_md_isBegin, .ref a_md_isGoal, .ref a_md_levels, .ref a_md_queue, .ref a_md_hasGuesses, .int md_keptBits, .ref a_md_rounds, .ref a_md_marked, .ref a_md_other, .ref a_md_heights])), (a_md_tape, .inl (cB, 1200, .inl md_tape))]) [1, 0] (by decide) rfl
      exact W.vret hx hb hr (fun t ht hW => ⟨⟨(md_at, md_token, md_tokenPlace, md_number, md_sign, md_bad_7, md_faultPlace_8), rfl, h, by rw [ht]; exact hP9, va_K.moved hW.alike hK, hD9⟩, hS.F ht⟩) hS.2.2 d_Md_take_23
    · have h := And.right h c_16
      refine lv_aload_n hx hb d_Md_take_19 rfl (lv_at hl 0 rfl) ?_
      refine jn_v (wr := []) (va_runV (As := []) (rest := []) ⟨hx, hb, hml, hown, hts⟩ (c_Md_nextToken l dC dI cI cB cZ adK adV _ a_md a_md_tape a_md_acts a_md_actNumbers a_md_actCounts a_md_pile a_md_begins a_md_goals a_md_ranks a_md_choiceCounts a_md_whens a_md_becomes a_md_guessCounts a_md_guesses a_md_unaryCounts a_md_stack a_md_nexts a_md_isBegin a_md_isGoal a_md_levels a_md_queue a_md_hasGuesses a_md_rounds a_md_marked a_md_other a_md_heights md_size md_at md_token md_tokenPlace md_number md_sign md_bad_7 md_faultPlace_8 md_place md_bank md_unaries md_opens md_piled md_loop md_keptBits md_tape _ h) (cwV 0 hts (gv_ m_1228 m_1230 m_52 m_96 m_1231) rfl rfl rfl pd_Md_nextToken ⟨Nat.le_of_ble_eq_true rfl, Nat.le_of_ble_eq_true rfl⟩) ⟨pc_blind, va_recv hK hP (ci := 11) (q0 := 1) rfl rfl, pc_of (hP.sub [1, 0] rfl) hK (hD.sub [1, 0] (by decide) rfl) hN hT hS hA⟩ rfl rfl hl.1 rfl (lv_room (Nat.le_of_ble_eq_true rfl)) d_Md_take_20 ⟨Nat.zero_le _, Nat.zero_le _⟩) hP hD hS hA [1, 0] [] rfl rfl (by decide) (by decide) (fun u_ H locs h hP hD hS => ?_)
      obtain ⟨md_at_9, md_token_10, md_tokenPlace_11, md_number_12, md_sign_13⟩ := u_
      have hP : va_P (dC, dI) vwCl [(a_md, .inr (11, [.ref a_md_tape, .int md_size, .int md_at_9, .int md_token_10, .int md_tokenPlace_11, .int md_number_12, .int md_sign_13, .int md_bad_7, .int md_faultPlace_8, .int md_place, .ref a_md_acts, .ref a_md_actNumbers, .ref a_md_actCounts, .int md_bank, .int md_unaries, .int md_opens, .ref a_md_pile, .int md_piled, .int md_loop, .ref a_md_begins, .ref a_md_goals, .ref a_md_ranks, .ref a_md_choiceCounts, .ref a_md_whens, .ref a_md_becomes, .ref a_md_guessCounts, .ref a_md_guesses, .ref a_md_unaryCounts, .ref a_md_stack, .ref a_md_nexts, .ref a_md_isBegin, .ref a_md_isGoal, .ref a_md_levels, .ref a_md_queue, .ref a_md_hasGuesses, .int md_keptBits, .ref a_md_rounds, .ref a_md_marked, .ref a_md_other, .ref a_md_heights])), (a_md_tape, .inl (cB, 1200, .inl md_tape))] H := hP
      have hD : va_D A [(a_md, .inr (11, [.ref a_md_tape, .int md_size, .int md_at_9, .int md_token_10, .int md_tokenPlace_11, .int md_number_12, .int md_sign_13, .int md_bad_7, .int md_faultPlace_8, .int md_place, .ref a_md_acts, .ref a_md_actNumbers, .ref a_md_actCounts, .int md_bank, .int md_unaries, .int md_opens, .ref a_md_pile, .int md_piled, .int md_loop, .ref a_md_begins, .ref a_md_goals, .ref a_md_ranks, .ref a_md_choiceCounts, .ref a_md_whens, .ref a_md_becomes, .ref a_md_guessCounts, .ref a_md_guesses, .ref a_md_unaryCounts, .ref a_md_stack, .ref a_md_nexts, .ref a_md_isBegin, .ref a_md_isGoal, .ref a_md_levels, .ref a_md_queue, .ref a_md_hasGuesses, .int md_keptBits, .ref a_md_rounds, .ref a_md_marked, .ref a_md_other, .ref a_md_heights])), (a_md_tape, .inl (cB, 1200, .inl md_tape))] := hD
      subst hQ
      have hP9 := hP
      have hD9 := hD
      exact W.vret hx hb hr (fun t ht hW => ⟨⟨(md_at_9, md_token_10, md_tokenPlace_11, md_number_12, md_sign_13, md_bad_7, md_faultPlace_8), rfl, h, by rw [ht]; exact hP9, va_K.moved hW.alike hK, hD9⟩, hS.F ht⟩) hS.2.2 d_Md_take_23
def wp_Md_takeWord (x1 : Int32) (md_size : Int32) (md_at : Int32) (md_token : Int32) (md_tokenPlace : Int32) (md_number : Int32) (md_sign : Int32) (md_bad : Int32) (md_faultPlace : Int32) (md_tape : Nat → Int32) (post : Int32 → Int32 → Int32 → Int32 → Int32 → Int32 → Int32 → Prop) : Prop :=
  wp_Md_isWord x1 md_token (fun r_1 => ((¬ (r_1 : Int32) = 0 → ((¬ (md_bad : Int32) = 0 → post md_at md_token md_tokenPlace md_number md_sign md_bad md_faultPlace) ∧ ((md_bad : Int32) = 0 → wp_Md_nextToken md_size md_at md_token md_tokenPlace md_number md_sign md_tape (fun md_at_2 md_token_3 md_tokenPlace_4 md_number_5 md_sign_6 => post md_at_2 md_token_3 md_tokenPlace_4 md_number_5 md_sign_6 md_bad md_faultPlace)))) ∧ ((r_1 : Int32) = 0 → wp_Md_misplaced md_tokenPlace md_bad md_faultPlace (fun md_bad_7 md_faultPlace_8 => ((¬ (md_bad_7 : Int32) = 0 → post md_at md_token md_tokenPlace md_number md_sign md_bad_7 md_faultPlace_8) ∧ ((md_bad_7 : Int32) = 0 → wp_Md_nextToken md_size md_at md_token md_tokenPlace md_number md_sign md_tape (fun md_at_9 md_token_10 md_tokenPlace_11 md_number_12 md_sign_13 => post md_at_9 md_token_10 md_tokenPlace_11 md_number_12 md_sign_13 md_bad_7 md_faultPlace_8)))))))
set_option maxHeartbeats 4000000 in
set_option maxRecDepth 100000 in
theorem c_Md_takeWord (l : Launch) (dC : Nat → ClassId) (dI : Nat → Nat → Nat) (cI cB cZ : ClassId) (adK adV : Nat → Nat) (sz : Nat) (a_md a_md_tape a_md_acts a_md_actNumbers a_md_actCounts a_md_pile a_md_begins a_md_goals a_md_ranks a_md_choiceCounts a_md_whens a_md_becomes a_md_guessCounts a_md_guesses a_md_unaryCounts a_md_stack a_md_nexts a_md_isBegin a_md_isGoal a_md_levels a_md_queue a_md_hasGuesses a_md_rounds a_md_marked a_md_other a_md_heights : Nat) (md_size : Int32) (md_at : Int32) (md_token : Int32) (md_tokenPlace : Int32) (md_number : Int32) (md_sign : Int32) (md_bad : Int32) (md_faultPlace : Int32) (md_place : Int32) (md_bank : Int32) (md_unaries : Int32) (md_opens : Int32) (md_piled : Int32) (md_loop : Int32) (md_keptBits : Int32) (md_tape : Nat → Int32) (x1 : Int32) (post : Int32 → Int32 → Int32 → Int32 → Int32 → Int32 → Int32 → Prop) (h : wp_Md_takeWord x1 md_size md_at md_token md_tokenPlace md_number md_sign md_bad md_faultPlace md_tape post) : Met l y_Md_takeWord w_Md_takeWord ({ frames := 2, cells := 0, slots := 0, locals := 46 }) (pc_ (dC, dI) [(cI, .int), (cB, .byte), (cZ, .boolean)] [(a_md, .inr (11, [.ref a_md_tape, .int md_size, .int md_at, .int md_token, .int md_tokenPlace, .int md_number, .int md_sign, .int md_bad, .int md_faultPlace, .int md_place, .ref a_md_acts, .ref a_md_actNumbers, .ref a_md_actCounts, .int md_bank, .int md_unaries, .int md_opens, .ref a_md_pile, .int md_piled, .int md_loop, .ref a_md_begins, .ref a_md_goals, .ref a_md_ranks, .ref a_md_choiceCounts, .ref a_md_whens, .ref a_md_becomes, .ref a_md_guessCounts, .ref a_md_guesses, .ref a_md_unaryCounts, .ref a_md_stack, .ref a_md_nexts, .ref a_md_isBegin, .ref a_md_isGoal, .ref a_md_levels, .ref a_md_queue, .ref a_md_hasGuesses, .int md_keptBits, .ref a_md_rounds, .ref a_md_marked, .ref a_md_other, .ref a_md_heights])), (a_md_tape, .inl (cB, 1200, .inl md_tape))] sz adK adV [.ref a_md, .int x1]) (va_Qv (fun (u : Int32 × Int32 × Int32 × Int32 × Int32 × Int32 × Int32) => post u.1 u.2.1 u.2.2.1 u.2.2.2.1 u.2.2.2.2.1 u.2.2.2.2.2.1 u.2.2.2.2.2.2) (fun (u : Int32 × Int32 × Int32 × Int32 × Int32 × Int32 × Int32) t => bw_ (dC, dI) [(cI, .int), (cB, .byte), (cZ, .boolean)] (va_A [(a_md, .inr (11, [.ref a_md_tape, .int md_size, .int md_at, .int md_token, .int md_tokenPlace, .int md_number, .int md_sign, .int md_bad, .int md_faultPlace, .int md_place, .ref a_md_acts, .ref a_md_actNumbers, .ref a_md_actCounts, .int md_bank, .int md_unaries, .int md_opens, .ref a_md_pile, .int md_piled, .int md_loop, .ref a_md_begins, .ref a_md_goals, .ref a_md_ranks, .ref a_md_choiceCounts, .ref a_md_whens, .ref a_md_becomes, .ref a_md_guessCounts, .ref a_md_guesses, .ref a_md_unaryCounts, .ref a_md_stack, .ref a_md_nexts, .ref a_md_isBegin, .ref a_md_isGoal, .ref a_md_levels, .ref a_md_queue, .ref a_md_hasGuesses, .int md_keptBits, .ref a_md_rounds, .ref a_md_marked, .ref a_md_other, .ref a_md_heights])), (a_md_tape, .inl (cB, 1200, .inl md_tape))] sz) [(a_md, .inr (11, [.ref a_md_tape, .int md_size, .int u.1, .int u.2.1, .int u.2.2.1, .int u.2.2.2.1, .int u.2.2.2.2.1, .int u.2.2.2.2.2.1, .int u.2.2.2.2.2.2, .int md_place, .ref a_md_acts, .ref a_md_actNumbers, .ref a_md_actCounts, .int md_bank, .int md_unaries, .int md_opens, .ref a_md_pile, .int md_piled, .int md_loop, .ref a_md_begins, .ref a_md_goals, .ref a_md_ranks, .ref a_md_choiceCounts, .ref a_md_whens, .ref a_md_becomes, .ref a_md_guessCounts, .ref a_md_guesses, .ref a_md_unaryCounts, .ref a_md_stack, .ref a_md_nexts, .ref a_md_isBegin, .ref a_md_isGoal, .ref a_md_levels, .ref a_md_queue, .ref a_md_hasGuesses, .int md_keptBits, .ref a_md_rounds, .ref a_md_marked, .ref a_md_other, .ref a_md_heights])), (a_md_tape, .inl (cB, 1200, .inl md_tape))] t) (va_A [(a_md, .inr (11, [.ref a_md_tape, .int md_size, .int md_at, .int md_token, .int md_tokenPlace, .int md_number, .int md_sign, .int md_bad, .int md_faultPlace, .int md_place, .ref a_md_acts, .ref a_md_actNumbers, .ref a_md_actCounts, .int md_bank, .int md_unaries, .int md_opens, .ref a_md_pile, .int md_piled, .int md_loop, .ref a_md_begins, .ref a_md_goals, .ref a_md_ranks, .ref a_md_choiceCounts, .ref a_md_whens, .ref a_md_becomes, .ref a_md_guessCounts, .ref a_md_guesses, .ref a_md_unaryCounts, .ref a_md_stack, .ref a_md_nexts, .ref a_md_isBegin, .ref a_md_isGoal, .ref a_md_levels, .ref a_md_queue, .ref a_md_hasGuesses, .int md_keptBits, .ref a_md_rounds, .ref a_md_marked, .ref a_md_other, .ref a_md_heights])), (a_md_tape, .inl (cB, 1200, .inl md_tape))] sz)) 0 0 (va_A [(a_md, .inr (11, [.ref a_md_tape, .int md_size, .int md_at, .int md_token, .int md_tokenPlace, .int md_number, .int md_sign, .int md_bad, .int md_faultPlace, .int md_place, .ref a_md_acts, .ref a_md_actNumbers, .ref a_md_actCounts, .int md_bank, .int md_unaries, .int md_opens, .ref a_md_pile, .int md_piled, .int md_loop, .ref a_md_begins, .ref a_md_goals, .ref a_md_ranks, .ref a_md_choiceCounts, .ref a_md_whens, .ref a_md_becomes, .ref a_md_guessCounts, .ref a_md_guesses, .ref a_md_unaryCounts, .ref a_md_stack, .ref a_md_nexts, .ref a_md_isBegin, .ref a_md_isGoal, .ref a_md_levels, .ref a_md_queue, .ref a_md_hasGuesses, .int md_keptBits, .ref a_md_rounds, .ref a_md_marked, .ref a_md_other, .ref a_md_heights])), (a_md_tape, .inl (cB, 1200, .inl md_tape))] sz) := by
  refine Met.ofW (cc := b_Md_takeWord) (maxL := 2) (ret := none) (by decide) rfl ?_
  intro p e s m args below meth c s₁ B hml hv
  obtain ⟨rfl, hsz, hP, hK, hD0, hN, hT⟩ := hv
  have hx := B.exec
  have hb := B.bytes
  have hr := B.returns
  have hts := atoms_spec (ws := w_Md_takeWord) B.pre
  have hown : s.vm.findClass "LoopInductionModel" = some m.cls := findClass_of_methodNamed B.named
  have hlocks := B.notSynchronized
  subst hsz
  have hD := hD0.self (sz := s.heap.size)
  generalize hAe : va_A [(a_md, .inr (11, [.ref a_md_tape, .int md_size, .int md_at, .int md_token, .int md_tokenPlace, .int md_number, .int md_sign, .int md_bad, .int md_faultPlace, .int md_place, .ref a_md_acts, .ref a_md_actNumbers, .ref a_md_actCounts, .int md_bank, .int md_unaries, .int md_opens, .ref a_md_pile, .int md_piled, .int md_loop, .ref a_md_begins, .ref a_md_goals, .ref a_md_ranks, .ref a_md_choiceCounts, .ref a_md_whens, .ref a_md_becomes, .ref a_md_guessCounts, .ref a_md_guesses, .ref a_md_unaryCounts, .ref a_md_stack, .ref a_md_nexts, .ref a_md_isBegin, .ref a_md_isGoal, .ref a_md_levels, .ref a_md_queue, .ref a_md_hasGuesses, .int md_keptBits, .ref a_md_rounds, .ref a_md_marked, .ref a_md_other, .ref a_md_heights])), (a_md_tape, .inl (cB, 1200, .inl md_tape))] s.heap.size = A at hD hT ⊢
  have hA : ∀ q : Nat, s.heap.size ≤ q → A q := fun q h => by rw [← hAe]; exact Or.inr h
  have hS : va_S A s.heap s.heap [] := va_S.rf
  generalize hQ : MQ below _ _ s 0 0 _ = QQ
  have hl := lv_entry ([.ref a_md, .int x1]) (n := 2) (Nat.le_of_ble_eq_true rfl)
  rw [lg_entry_eq]
  generalize (lg_sl ([.ref a_md, .int x1]) ++ List.replicate (2 - (lg_sl ([.ref a_md, .int x1])).length) Slot.unset).toArray = ls at hl ⊢
  have hl : lv_has ls 2 [(0, .ref a_md), (1, .int x1)] := hl
  have fl_154 := (hts _ (List.mem_cons_of_mem _ m_1097))
  refine lv_aload_n hx hb d_Md_takeWord_0 rfl (lv_at hl 0 rfl) ?_
  refine lv_iload_n hx hb d_Md_takeWord_1 rfl (lv_at hl 1 rfl) ?_
  refine jn_i (wr := [(a_md_tape, .inl (cB, 1200, .inl md_tape))]) (va_runV (As := [.int x1]) (rest := []) ⟨hx, hb, hml, hown, hts⟩ (c_Md_isWord l dC dI cI cB cZ adK adV _ a_md a_md_tape a_md_acts a_md_actNumbers a_md_actCounts a_md_pile a_md_begins a_md_goals a_md_ranks a_md_choiceCounts a_md_whens a_md_becomes a_md_guessCounts a_md_guesses a_md_unaryCounts a_md_stack a_md_nexts a_md_isBegin a_md_isGoal a_md_levels a_md_queue a_md_hasGuesses a_md_rounds a_md_marked a_md_other a_md_heights md_size md_at md_token md_tokenPlace md_number md_sign md_bad md_faultPlace md_place md_bank md_unaries md_opens md_piled md_loop md_keptBits x1 _ h) (cwV 1 hts (gv_ m_1264 m_1266 m_55 m_96 m_1267) rfl rfl rfl pd_Md_isWord ⟨Nat.le_of_ble_eq_true rfl, Nat.le_of_ble_eq_true rfl⟩) ⟨pc_blind, va_recv hK hP (ci := 11) (q0 := 0) rfl rfl, pc_of (hP.sub [0] rfl) hK (hD.sub [0] (by decide) rfl) hN hT hS hA⟩ rfl rfl hl.1 rfl (lv_room (Nat.le_of_ble_eq_true rfl)) d_Md_takeWord_2 ⟨Nat.zero_le _, Nat.zero_le _⟩) hP hD hS hA [0] [1] rfl rfl (by decide) (by decide) (fun r_1 u_ H locs h hP hD hS => ?_)
  have hP : va_P (dC, dI) vwCl [(a_md_tape, .inl (cB, 1200, .inl md_tape)), (a_md, .inr (11, [.ref a_md_tape, .int md_size, .int md_at, .int md_token, .int md_tokenPlace, .int md_number, .int md_sign, .int md_bad, .int md_faultPlace, .int md_place, .ref a_md_acts, .ref a_md_actNumbers, .ref a_md_actCounts, .int md_bank, .int md_unaries, .int md_opens, .ref a_md_pile, .int md_piled, .int md_loop, .ref a_md_begins, .ref a_md_goals, .ref a_md_ranks, .ref a_md_choiceCounts, .ref a_md_whens, .ref a_md_becomes, .ref a_md_guessCounts, .ref a_md_guesses, .ref a_md_unaryCounts, .ref a_md_stack, .ref a_md_nexts, .ref a_md_isBegin, .ref a_md_isGoal, .ref a_md_levels, .ref a_md_queue, .ref a_md_hasGuesses, .int md_keptBits, .ref a_md_rounds, .ref a_md_marked, .ref a_md_other, .ref a_md_heights]))] H := hP
  have hD : va_D A [(a_md_tape, .inl (cB, 1200, .inl md_tape)), (a_md, .inr (11, [.ref a_md_tape, .int md_size, .int md_at, .int md_token, .int md_tokenPlace, .int md_number, .int md_sign, .int md_bad, .int md_faultPlace, .int md_place, .ref a_md_acts, .ref a_md_actNumbers, .ref a_md_actCounts, .int md_bank, .int md_unaries, .int md_opens, .ref a_md_pile, .int md_piled, .int md_loop, .ref a_md_begins, .ref a_md_goals, .ref a_md_ranks, .ref a_md_choiceCounts, .ref a_md_whens, .ref a_md_becomes, .ref a_md_guessCounts, .ref a_md_guesses, .ref a_md_unaryCounts, .ref a_md_stack, .ref a_md_nexts, .ref a_md_isBegin, .ref a_md_isGoal, .ref a_md_levels, .ref a_md_queue, .ref a_md_hasGuesses, .int md_keptBits, .ref a_md_rounds, .ref a_md_marked, .ref a_md_other, .ref a_md_heights]))] := hD
  refine lv_if_ne (tgt := 12) hx hb d_Md_takeWord_5 (by decide) (fun c_5 => ?_) (fun c_5 => ?_)
  · have h := And.left h c_5
    refine lv_aload_n hx hb d_Md_takeWord_12 rfl (lv_at hl 0 rfl) ?_
    refine va_get (D := (dC, dI)) (ci := 11) (v := .int md_bad) (C := "LoopInductionModel") (T := F_Md) (N := 40) hx hb hts iC_Md hown hK hP 1 rfl rfl 7 (by decide) fl_154 (fun _ h9 => h9) rfl d_Md_takeWord_13 ?_
    refine lv_if_ne (tgt := 23) hx hb d_Md_takeWord_16 (by decide) (fun c_16 => ?_) (fun c_16 => ?_)
    · have h := And.left h c_16
      subst hQ
      have hP9 := hP.sub (ws' := [(a_md, .inr (11, [.ref a_md_tape, .int md_size, .int md_at, .int md_token, .int md_tokenPlace, .int md_number, .int md_sign, .int md_bad, .int md_faultPlace, .int md_place, .ref a_md_acts, .ref a_md_actNumbers, .ref a_md_actCounts, .int md_bank, .int md_unaries, .int md_opens, .ref a_md_pile, .int md_piled, .int md_loop, .ref a_md_begins, .ref a_md_goals, .ref a_md_ranks, .ref a_md_choiceCounts, .ref a_md_whens, .ref a_md_becomes, .ref a_md_guessCounts, .ref a_md_guesses, .ref a_md_unaryCounts, .ref a_md_stack, .ref a_md_nexts, .ref a_md_isBegin, .ref a_md_isGoal, .ref a_md_levels, .ref a_md_queue, .ref a_md_hasGuesses, .int md_keptBits, .ref a_md_rounds, .ref a_md_marked, .ref a_md_other, .ref a_md_heights])), (a_md_tape, .inl (cB, 1200, .inl md_tape))]) [1, 0] rfl
      have hD9 := hD.sub (ws' := [(a_md, .inr (11, [.ref a_md_tape, .int md_size, .int md_at, .int md_token, .int md_tokenPlace, .int md_number, .int md_sign, .int md_bad, .int md_faultPlace, .int md_place, .ref a_md_acts, .ref a_md_actNumbers, .ref a_md_actCounts, .int md_bank, .int md_unaries, .int md_opens, .ref a_md_pile, .int md_piled, .int md_loop, .ref a_md_begins, .ref a_md_goals, .ref a_md_ranks, .ref a_md_choiceCounts, .ref a_md_whens, .ref a_md_becomes, .ref a_md_guessCounts, .ref a_md_guesses, .ref a_md_unaryCounts, .ref a_md_stack, .ref a_md_nexts, .ref a_md_isBegin, .ref a_md_isGoal, .ref a_md_levels, .ref a_md_queue, .ref a_md_hasGuesses, .int md_keptBits, .ref a_md_rounds, .ref a_md_marked, .ref a_md_other, .ref a_md_heights])), (a_md_tape, .inl (cB, 1200, .inl md_tape))]) [1, 0] (by decide) rfl
      exact W.vret hx hb hr (fun t ht hW => ⟨⟨(md_at, md_token, md_tokenPlace, md_number, md_sign, md_bad, md_faultPlace), rfl, h, by rw [ht]; exact hP9, va_K.moved hW.alike hK, hD9⟩, hS.F ht⟩) hS.2.2 d_Md_takeWord_23
    · have h := And.right h c_16
      refine lv_aload_n hx hb d_Md_takeWord_19 rfl (lv_at hl 0 rfl) ?_
      refine jn_v (wr := []) (va_runV (As := []) (rest := []) ⟨hx, hb, hml, hown, hts⟩ (c_Md_nextToken l dC dI cI cB cZ adK adV _ a_md a_md_tape a_md_acts a_md_actNumbers a_md_actCounts a_md_pile a_md_begins a_md_goals a_md_ranks a_md_choiceCounts a_md_whens a_md_becomes a_md_guessCounts a_md_guesses a_md_unaryCounts a_md_stack a_md_nexts a_md_isBegin a_md_isGoal a_md_levels a_md_queue a_md_hasGuesses a_md_rounds a_md_marked a_md_other a_md_heights md_size md_at md_token md_tokenPlace md_number md_sign md_bad md_faultPlace md_place md_bank md_unaries md_opens md_piled md_loop md_keptBits md_tape _ h) (cwV 0 hts (gv_ m_1228 m_1230 m_52 m_96 m_1231) rfl rfl rfl pd_Md_nextToken ⟨Nat.le_of_ble_eq_true rfl, Nat.le_of_ble_eq_true rfl⟩) ⟨pc_blind, va_recv hK hP (ci := 11) (q0 := 1) rfl rfl, pc_of (hP.sub [1, 0] rfl) hK (hD.sub [1, 0] (by decide) rfl) hN hT hS hA⟩ rfl rfl hl.1 rfl (lv_room (Nat.le_of_ble_eq_true rfl)) d_Md_takeWord_20 ⟨Nat.zero_le _, Nat.zero_le _⟩) hP hD hS hA [1, 0] [] rfl rfl (by decide) (by decide) (fun u_ H locs h hP hD hS => ?_)
      obtain ⟨md_at_2, md_token_3, md_tokenPlace_4, md_number_5, md_sign_6⟩ := u_
      have hP : va_P (dC, dI) vwCl [(a_md, .inr (11, [.ref a_md_tape, .int md_size, .int md_at_2, .int md_token_3, .int md_tokenPlace_4, .int md_number_5, .int md_sign_6, .int md_bad, .int md_faultPlace, .int md_place, .ref a_md_acts, .ref a_md_actNumbers, .ref a_md_actCounts, .int md_bank, .int md_unaries, .int md_opens, .ref a_md_pile, .int md_piled, .int md_loop, .ref a_md_begins, .ref a_md_goals, .ref a_md_ranks, .ref a_md_choiceCounts, .ref a_md_whens, .ref a_md_becomes, .ref a_md_guessCounts, .ref a_md_guesses, .ref a_md_unaryCounts, .ref a_md_stack, .ref a_md_nexts, .ref a_md_isBegin, .ref a_md_isGoal, .ref a_md_levels, .ref a_md_queue, .ref a_md_hasGuesses, .int md_keptBits, .ref a_md_rounds, .ref a_md_marked, .ref a_md_other, .ref a_md_heights])), (a_md_tape, .inl (cB, 1200, .inl md_tape))] H := hP
      have hD : va_D A [(a_md, .inr (11, [.ref a_md_tape, .int md_size, .int md_at_2, .int md_token_3, .int md_tokenPlace_4, .int md_number_5, .int md_sign_6, .int md_bad, .int md_faultPlace, .int md_place, .ref a_md_acts, .ref a_md_actNumbers, .ref a_md_actCounts, .int md_bank, .int md_unaries, .int md_opens, .ref a_md_pile, .int md_piled, .int md_loop, .ref a_md_begins, .ref a_md_goals, .ref a_md_ranks, .ref a_md_choiceCounts, .ref a_md_whens, .ref a_md_becomes, .ref a_md_guessCounts, .ref a_md_guesses, .ref a_md_unaryCounts, .ref a_md_stack, .ref a_md_nexts, .ref a_md_isBegin, .ref a_md_isGoal, .ref a_md_levels, .ref a_md_queue, .ref a_md_hasGuesses, .int md_keptBits, .ref a_md_rounds, .ref a_md_marked, .ref a_md_other, .ref a_md_heights])), (a_md_tape, .inl (cB, 1200, .inl md_tape))] := hD
      subst hQ
      have hP9 := hP
      have hD9 := hD
      exact W.vret hx hb hr (fun t ht hW => ⟨⟨(md_at_2, md_token_3, md_tokenPlace_4, md_number_5, md_sign_6, md_bad, md_faultPlace), rfl, h, by rw [ht]; exact hP9, va_K.moved hW.alike hK, hD9⟩, hS.F ht⟩) hS.2.2 d_Md_takeWord_23
  · have h := And.right h c_5
    refine lv_aload_n hx hb d_Md_takeWord_8 rfl (lv_at hl 0 rfl) ?_
    refine jn_v (wr := [(a_md_tape, .inl (cB, 1200, .inl md_tape))]) (va_runV (As := []) (rest := []) ⟨hx, hb, hml, hown, hts⟩ (c_Md_misplaced l dC dI cI cB cZ adK adV _ a_md a_md_tape a_md_acts a_md_actNumbers a_md_actCounts a_md_pile a_md_begins a_md_goals a_md_ranks a_md_choiceCounts a_md_whens a_md_becomes a_md_guessCounts a_md_guesses a_md_unaryCounts a_md_stack a_md_nexts a_md_isBegin a_md_isGoal a_md_levels a_md_queue a_md_hasGuesses a_md_rounds a_md_marked a_md_other a_md_heights md_size md_at md_token md_tokenPlace md_number md_sign md_bad md_faultPlace md_place md_bank md_unaries md_opens md_piled md_loop md_keptBits _ h) (cwV 0 hts (gv_ m_1268 m_1270 m_56 m_96 m_1271) rfl rfl rfl pd_Md_misplaced ⟨Nat.le_of_ble_eq_true rfl, Nat.le_of_ble_eq_true rfl⟩) ⟨pc_blind, va_recv hK hP (ci := 11) (q0 := 1) rfl rfl, pc_of (hP.sub [1] rfl) hK (hD.sub [1] (by decide) rfl) hN hT hS hA⟩ rfl rfl hl.1 rfl (lv_room (Nat.le_of_ble_eq_true rfl)) d_Md_takeWord_9 ⟨Nat.zero_le _, Nat.zero_le _⟩) hP hD hS hA [1] [0] rfl rfl (by decide) (by decide) (fun u_ H locs h hP hD hS => ?_)
    obtain ⟨md_bad_7, md_faultPlace_8⟩ := u_
    have hP : va_P (dC, dI) vwCl [(a_md_tape, .inl (cB, 1200, .inl md_tape)), (a_md, .inr (11, [.ref a_md_tape, .int md_size, .int md_at, .int md_token, .int md_tokenPlace, .int md_number, .int md_sign, .int md_bad_7, .int md_faultPlace_8, .int md_place, .ref a_md_acts, .ref a_md_actNumbers, .ref a_md_actCounts, .int md_bank, .int md_unaries, .int md_opens, .ref a_md_pile, .int md_piled, .int md_loop, .ref a_md_begins, .ref a_md_goals, .ref a_md_ranks, .ref a_md_choiceCounts, .ref a_md_whens, .ref a_md_becomes, .ref a_md_guessCounts, .ref a_md_guesses, .ref a_md_unaryCounts, .ref a_md_stack, .ref a_md_nexts, .ref a_md_isBegin, .ref a_md_isGoal, .ref a_md_levels, .ref a_md_queue, .ref a_md_hasGuesses, .int md_keptBits, .ref a_md_rounds, .ref a_md_marked, .ref a_md_other, .ref a_md_heights]))] H := hP
    have hD : va_D A [(a_md_tape, .inl (cB, 1200, .inl md_tape)), (a_md, .inr (11, [.ref a_md_tape, .int md_size, .int md_at, .int md_token, .int md_tokenPlace, .int md_number, .int md_sign, .int md_bad_7, .int md_faultPlace_8, .int md_place, .ref a_md_acts, .ref a_md_actNumbers, .ref a_md_actCounts, .int md_bank, .int md_unaries, .int md_opens, .ref a_md_pile, .int md_piled, .int md_loop, .ref a_md_begins, .ref a_md_goals, .ref a_md_ranks, .ref a_md_choiceCounts, .ref a_md_whens, .ref a_md_becomes, .ref a_md_guessCounts, .ref a_md_guesses, .ref a_md_unaryCounts, .ref a_md_stack, .ref a_md_nexts, .ref a_md_isBegin, .ref a_md_isGoal, .ref a_md_levels, .ref a_md_queue, .ref a_md_hasGuesses, .int md_keptBits, .ref a_md_rounds, .ref a_md_marked, .ref a_md_other, .ref a_md_heights]))] := hD
    refine lv_aload_n hx hb d_Md_takeWord_12 rfl (lv_at hl 0 rfl) ?_
    refine va_get (D := (dC, dI)) (ci := 11) (v := .int md_bad_7) (C := "LoopInductionModel") (T := F_Md) (N := 40) hx hb hts iC_Md hown hK hP 1 rfl rfl 7 (by decide) fl_154 (fun _ h9 => h9) rfl d_Md_takeWord_13 ?_
    refine lv_if_ne (tgt := 23) hx hb d_Md_takeWord_16 (by decide) (fun c_16 => ?_) (fun c_16 => ?_)
    · have h := And.left h c_16
      subst hQ
      have hP9 := hP.sub (ws' := [(a_md, .inr (11, [.ref a_md_tape, .int md_size, .int md_at, .int md_token, .int md_tokenPlace, .int md_number, .int md_sign, .int md_bad_7, .int md_faultPlace_8, .int md_place, .ref a_md_acts, .ref a_md_actNumbers, .ref a_md_actCounts, .int md_bank, .int md_unaries, .int md_opens, .ref a_md_pile, .int md_piled, .int md_loop, .ref a_md_begins, .ref a_md_goals, .ref a_md_ranks, .ref a_md_choiceCounts, .ref a_md_whens, .ref a_md_becomes, .ref a_md_guessCounts, .ref a_md_guesses, .ref a_md_unaryCounts, .ref a_md_stack, .ref a_md_nexts, .ref a_md_isBegin, .ref a_md_isGoal, .ref a_md_levels, .ref a_md_queue, .ref a_md_hasGuesses, .int md_keptBits, .ref a_md_rounds, .ref a_md_marked, .ref a_md_other, .ref a_md_heights])), (a_md_tape, .inl (cB, 1200, .inl md_tape))]) [1, 0] rfl
      have hD9 := hD.sub (ws' := [(a_md, .inr (11, [.ref a_md_tape, .int md_size, .int md_at, .int md_token, .int md_tokenPlace, .int md_number, .int md_sign, .int md_bad_7, .int md_faultPlace_8, .int md_place, .ref a_md_acts, .ref a_md_actNumbers, .ref a_md_actCounts, .int md_bank, .int md_unaries, .int md_opens, .ref a_md_pile, .int md_piled, .int md_loop, .ref a_md_begins, .ref a_md_goals, .ref a_md_ranks, .ref a_md_choiceCounts, .ref a_md_whens, .ref a_md_becomes, .ref a_md_guessCounts, .ref a_md_guesses, .ref a_md_unaryCounts, .ref a_md_stack, .ref a_md_nexts, .ref a_md_isBegin, .ref a_md_isGoal, .ref a_md_levels, .ref a_md_queue, .ref a_md_hasGuesses, .int md_keptBits, .ref a_md_rounds, .ref a_md_marked, .ref a_md_other, .ref a_md_heights])), (a_md_tape, .inl (cB, 1200, .inl md_tape))]) [1, 0] (by decide) rfl
      exact W.vret hx hb hr (fun t ht hW => ⟨⟨(md_at, md_token, md_tokenPlace, md_number, md_sign, md_bad_7, md_faultPlace_8), rfl, h, by rw [ht]; exact hP9, va_K.moved hW.alike hK, hD9⟩, hS.F ht⟩) hS.2.2 d_Md_takeWord_23
    · have h := And.right h c_16
      refine lv_aload_n hx hb d_Md_takeWord_19 rfl (lv_at hl 0 rfl) ?_
      refine jn_v (wr := []) (va_runV (As := []) (rest := []) ⟨hx, hb, hml, hown, hts⟩ (c_Md_nextToken l dC dI cI cB cZ adK adV _ a_md a_md_tape a_md_acts a_md_actNumbers a_md_actCounts a_md_pile a_md_begins a_md_goals a_md_ranks a_md_choiceCounts a_md_whens a_md_becomes a_md_guessCounts a_md_guesses a_md_unaryCounts a_md_stack a_md_nexts a_md_isBegin a_md_isGoal a_md_levels a_md_queue a_md_hasGuesses a_md_rounds a_md_marked a_md_other a_md_heights md_size md_at md_token md_tokenPlace md_number md_sign md_bad_7 md_faultPlace_8 md_place md_bank md_unaries md_opens md_piled md_loop md_keptBits md_tape _ h) (cwV 0 hts (gv_ m_1228 m_1230 m_52 m_96 m_1231) rfl rfl rfl pd_Md_nextToken ⟨Nat.le_of_ble_eq_true rfl, Nat.le_of_ble_eq_true rfl⟩) ⟨pc_blind, va_recv hK hP (ci := 11) (q0 := 1) rfl rfl, pc_of (hP.sub [1, 0] rfl) hK (hD.sub [1, 0] (by decide) rfl) hN hT hS hA⟩ rfl rfl hl.1 rfl (lv_room (Nat.le_of_ble_eq_true rfl)) d_Md_takeWord_20 ⟨Nat.zero_le _, Nat.zero_le _⟩) hP hD hS hA [1, 0] [] rfl rfl (by decide) (by decide) (fun u_ H locs h hP hD hS => ?_)
      obtain ⟨md_at_9, md_token_10, md_tokenPlace_11, md_number_12, md_sign_13⟩ := u_
      have hP : va_P (dC, dI) vwCl [(a_md, .inr (11, [.ref a_md_tape, .int md_size, .int md_at_9, .int md_token_10, .int md_tokenPlace_11, .int md_number_12, .int md_sign_13, .int md_bad_7, .int md_faultPlace_8, .int md_place, .ref a_md_acts, .ref a_md_actNumbers, .ref a_md_actCounts, .int md_bank, .int md_unaries, .int md_opens, .ref a_md_pile, .int md_piled, .int md_loop, .ref a_md_begins, .ref a_md_goals, .ref a_md_ranks, .ref a_md_choiceCounts, .ref a_md_whens, .ref a_md_becomes, .ref a_md_guessCounts, .ref a_md_guesses, .ref a_md_unaryCounts, .ref a_md_stack, .ref a_md_nexts, .ref a_md_isBegin, .ref a_md_isGoal, .ref a_md_levels, .ref a_md_queue, .ref a_md_hasGuesses, .int md_keptBits, .ref a_md_rounds, .ref a_md_marked, .ref a_md_other, .ref a_md_heights])), (a_md_tape, .inl (cB, 1200, .inl md_tape))] H := hP
      have hD : va_D A [(a_md, .inr (11, [.ref a_md_tape, .int md_size, .int md_at_9, .int md_token_10, .int md_tokenPlace_11, .int md_number_12, .int md_sign_13, .int md_bad_7, .int md_faultPlace_8, .int md_place, .ref a_md_acts, .ref a_md_actNumbers, .ref a_md_actCounts, .int md_bank, .int md_unaries, .int md_opens, .ref a_md_pile, .int md_piled, .int md_loop, .ref a_md_begins, .ref a_md_goals, .ref a_md_ranks, .ref a_md_choiceCounts, .ref a_md_whens, .ref a_md_becomes, .ref a_md_guessCounts, .ref a_md_guesses, .ref a_md_unaryCounts, .ref a_md_stack, .ref a_md_nexts, .ref a_md_isBegin, .ref a_md_isGoal, .ref a_md_levels, .ref a_md_queue, .ref a_md_hasGuesses, .int md_keptBits, .ref a_md_rounds, .ref a_md_marked, .ref a_md_other, .ref a_md_heights])), (a_md_tape, .inl (cB, 1200, .inl md_tape))] := hD
      subst hQ
      have hP9 := hP
      have hD9 := hD
      exact W.vret hx hb hr (fun t ht hW => ⟨⟨(md_at_9, md_token_10, md_tokenPlace_11, md_number_12, md_sign_13, md_bad_7, md_faultPlace_8), rfl, h, by rw [ht]; exact hP9, va_K.moved hW.alike hK, hD9⟩, hS.F ht⟩) hS.2.2 d_Md_takeWord_23
def wp_Md_act (x1 : Int32) (x2 : Int32) (md_bank : Int32) (md_acts : Nat → Int32) (md_actNumbers : Nat → Int32) (md_actCounts : Nat → Int32) (post : (Nat → Int32) → (Nat → Int32) → (Nat → Int32) → Prop) : Prop :=
  (vp_in md_bank 3 ∧ (∀ x3_1 : Int32, x3_1 = ((1000 * md_bank) + (md_actCounts (md_bank : Int32).toNatClampNeg)) → (vp_in md_bank 3 ∧ (vp_in md_bank 3 ∧ (vp_in x3_1 3000 ∧ (vp_in x3_1 3000 ∧ post (upd md_acts (x3_1 : Int32).toNatClampNeg x1) (upd md_actNumbers (x3_1 : Int32).toNatClampNeg x2) (upd md_actCounts (md_bank : Int32).toNatClampNeg ((md_actCounts (md_bank : Int32).toNatClampNeg) + 1))))))))
set_option maxHeartbeats 4000000 in
set_option maxRecDepth 100000 in
theorem c_Md_act (l : Launch) (dC : Nat → ClassId) (dI : Nat → Nat → Nat) (cI cB cZ : ClassId) (adK adV : Nat → Nat) (sz : Nat) (a_md a_md_tape a_md_acts a_md_actNumbers a_md_actCounts a_md_pile a_md_begins a_md_goals a_md_ranks a_md_choiceCounts a_md_whens a_md_becomes a_md_guessCounts a_md_guesses a_md_unaryCounts a_md_stack a_md_nexts a_md_isBegin a_md_isGoal a_md_levels a_md_queue a_md_hasGuesses a_md_rounds a_md_marked a_md_other a_md_heights : Nat) (md_size : Int32) (md_at : Int32) (md_token : Int32) (md_tokenPlace : Int32) (md_number : Int32) (md_sign : Int32) (md_bad : Int32) (md_faultPlace : Int32) (md_place : Int32) (md_bank : Int32) (md_unaries : Int32) (md_opens : Int32) (md_piled : Int32) (md_loop : Int32) (md_keptBits : Int32) (md_acts : Nat → Int32) (md_actNumbers : Nat → Int32) (md_actCounts : Nat → Int32) (x1 : Int32) (x2 : Int32) (post : (Nat → Int32) → (Nat → Int32) → (Nat → Int32) → Prop) (h : wp_Md_act x1 x2 md_bank md_acts md_actNumbers md_actCounts post) : Met l y_Md_act w_Md_act ({ frames := 0, cells := 0, slots := 0, locals := 0 }) (pc_ (dC, dI) [(cI, .int), (cB, .byte), (cZ, .boolean)] [(a_md, .inr (11, [.ref a_md_tape, .int md_size, .int md_at, .int md_token, .int md_tokenPlace, .int md_number, .int md_sign, .int md_bad, .int md_faultPlace, .int md_place, .ref a_md_acts, .ref a_md_actNumbers, .ref a_md_actCounts, .int md_bank, .int md_unaries, .int md_opens, .ref a_md_pile, .int md_piled, .int md_loop, .ref a_md_begins, .ref a_md_goals, .ref a_md_ranks, .ref a_md_choiceCounts, .ref a_md_whens, .ref a_md_becomes, .ref a_md_guessCounts, .ref a_md_guesses, .ref a_md_unaryCounts, .ref a_md_stack, .ref a_md_nexts, .ref a_md_isBegin, .ref a_md_isGoal, .ref a_md_levels, .ref a_md_queue, .ref a_md_hasGuesses, .int md_keptBits, .ref a_md_rounds, .ref a_md_marked, .ref a_md_other, .ref a_md_heights])), (a_md_acts, .inl (cI, 3000, .inl md_acts)), (a_md_actNumbers, .inl (cI, 3000, .inl md_actNumbers)), (a_md_actCounts, .inl (cI, 3, .inl md_actCounts))] sz adK adV [.ref a_md, .int x1, .int x2]) (va_Qv (fun (u : (Nat → Int32) × (Nat → Int32) × (Nat → Int32)) => post u.1 u.2.1 u.2.2) (fun (u : (Nat → Int32) × (Nat → Int32) × (Nat → Int32)) t => bw_ (dC, dI) [(cI, .int), (cB, .byte), (cZ, .boolean)] (va_A [(a_md, .inr (11, [.ref a_md_tape, .int md_size, .int md_at, .int md_token, .int md_tokenPlace, .int md_number, .int md_sign, .int md_bad, .int md_faultPlace, .int md_place, .ref a_md_acts, .ref a_md_actNumbers, .ref a_md_actCounts, .int md_bank, .int md_unaries, .int md_opens, .ref a_md_pile, .int md_piled, .int md_loop, .ref a_md_begins, .ref a_md_goals, .ref a_md_ranks, .ref a_md_choiceCounts, .ref a_md_whens, .ref a_md_becomes, .ref a_md_guessCounts, .ref a_md_guesses, .ref a_md_unaryCounts, .ref a_md_stack, .ref a_md_nexts, .ref a_md_isBegin, .ref a_md_isGoal, .ref a_md_levels, .ref a_md_queue, .ref a_md_hasGuesses, .int md_keptBits, .ref a_md_rounds, .ref a_md_marked, .ref a_md_other, .ref a_md_heights])), (a_md_acts, .inl (cI, 3000, .inl md_acts)), (a_md_actNumbers, .inl (cI, 3000, .inl md_actNumbers)), (a_md_actCounts, .inl (cI, 3, .inl md_actCounts))] sz) [(a_md, .inr (11, [.ref a_md_tape, .int md_size, .int md_at, .int md_token, .int md_tokenPlace, .int md_number, .int md_sign, .int md_bad, .int md_faultPlace, .int md_place, .ref a_md_acts, .ref a_md_actNumbers, .ref a_md_actCounts, .int md_bank, .int md_unaries, .int md_opens, .ref a_md_pile, .int md_piled, .int md_loop, .ref a_md_begins, .ref a_md_goals, .ref a_md_ranks, .ref a_md_choiceCounts, .ref a_md_whens, .ref a_md_becomes, .ref a_md_guessCounts, .ref a_md_guesses, .ref a_md_unaryCounts, .ref a_md_stack, .ref a_md_nexts, .ref a_md_isBegin, .ref a_md_isGoal, .ref a_md_levels, .ref a_md_queue, .ref a_md_hasGuesses, .int md_keptBits, .ref a_md_rounds, .ref a_md_marked, .ref a_md_other, .ref a_md_heights])), (a_md_acts, .inl (cI, 3000, .inl u.1)), (a_md_actNumbers, .inl (cI, 3000, .inl u.2.1)), (a_md_actCounts, .inl (cI, 3, .inl u.2.2))] t) (va_A [(a_md, .inr (11, [.ref a_md_tape, .int md_size, .int md_at, .int md_token, .int md_tokenPlace, .int md_number, .int md_sign, .int md_bad, .int md_faultPlace, .int md_place, .ref a_md_acts, .ref a_md_actNumbers, .ref a_md_actCounts, .int md_bank, .int md_unaries, .int md_opens, .ref a_md_pile, .int md_piled, .int md_loop, .ref a_md_begins, .ref a_md_goals, .ref a_md_ranks, .ref a_md_choiceCounts, .ref a_md_whens, .ref a_md_becomes, .ref a_md_guessCounts, .ref a_md_guesses, .ref a_md_unaryCounts, .ref a_md_stack, .ref a_md_nexts, .ref a_md_isBegin, .ref a_md_isGoal, .ref a_md_levels, .ref a_md_queue, .ref a_md_hasGuesses, .int md_keptBits, .ref a_md_rounds, .ref a_md_marked, .ref a_md_other, .ref a_md_heights])), (a_md_acts, .inl (cI, 3000, .inl md_acts)), (a_md_actNumbers, .inl (cI, 3000, .inl md_actNumbers)), (a_md_actCounts, .inl (cI, 3, .inl md_actCounts))] sz)) 0 0 (va_A [(a_md, .inr (11, [.ref a_md_tape, .int md_size, .int md_at, .int md_token, .int md_tokenPlace, .int md_number, .int md_sign, .int md_bad, .int md_faultPlace, .int md_place, .ref a_md_acts, .ref a_md_actNumbers, .ref a_md_actCounts, .int md_bank, .int md_unaries, .int md_opens, .ref a_md_pile, .int md_piled, .int md_loop, .ref a_md_begins, .ref a_md_goals, .ref a_md_ranks, .ref a_md_choiceCounts, .ref a_md_whens, .ref a_md_becomes, .ref a_md_guessCounts, .ref a_md_guesses, .ref a_md_unaryCounts, .ref a_md_stack, .ref a_md_nexts, .ref a_md_isBegin, .ref a_md_isGoal, .ref a_md_levels, .ref a_md_queue, .ref a_md_hasGuesses, .int md_keptBits, .ref a_md_rounds, .ref a_md_marked, .ref a_md_other, .ref a_md_heights])), (a_md_acts, .inl (cI, 3000, .inl md_acts)), (a_md_actNumbers, .inl (cI, 3000, .inl md_actNumbers)), (a_md_actCounts, .inl (cI, 3, .inl md_actCounts))] sz) := by
  refine Met.ofW (cc := b_Md_act) (maxL := 4) (ret := none) (by decide) rfl ?_
  intro p e s m args below meth c s₁ B hml hv
  obtain ⟨rfl, hsz, hP, hK, hD0, hN, hT⟩ := hv
  have hx := B.exec
  have hb := B.bytes
  have hr := B.returns
  have hts := atoms_spec (ws := w_Md_act) B.pre
  have hown : s.vm.findClass "LoopInductionModel" = some m.cls := findClass_of_methodNamed B.named
  have hlocks := B.notSynchronized
  subst hsz
  have hD := hD0.self (sz := s.heap.size)
  generalize hAe : va_A [(a_md, .inr (11, [.ref a_md_tape, .int md_size, .int md_at, .int md_token, .int md_tokenPlace, .int md_number, .int md_sign, .int md_bad, .int md_faultPlace, .int md_place, .ref a_md_acts, .ref a_md_actNumbers, .ref a_md_actCounts, .int md_bank, .int md_unaries, .int md_opens, .ref a_md_pile, .int md_piled, .int md_loop, .ref a_md_begins, .ref a_md_goals, .ref a_md_ranks, .ref a_md_choiceCounts, .ref a_md_whens, .ref a_md_becomes, .ref a_md_guessCounts, .ref a_md_guesses, .ref a_md_unaryCounts, .ref a_md_stack, .ref a_md_nexts, .ref a_md_isBegin, .ref a_md_isGoal, .ref a_md_levels, .ref a_md_queue, .ref a_md_hasGuesses, .int md_keptBits, .ref a_md_rounds, .ref a_md_marked, .ref a_md_other, .ref a_md_heights])), (a_md_acts, .inl (cI, 3000, .inl md_acts)), (a_md_actNumbers, .inl (cI, 3000, .inl md_actNumbers)), (a_md_actCounts, .inl (cI, 3, .inl md_actCounts))] s.heap.size = A at hD hT ⊢
  have hA : ∀ q : Nat, s.heap.size ≤ q → A q := fun q h => by rw [← hAe]; exact Or.inr h
  have hS : va_S A s.heap s.heap [] := va_S.rf
  generalize hQ : MQ below _ _ s 0 0 _ = QQ
  have hl := lv_entry ([.ref a_md, .int x1, .int x2]) (n := 4) (Nat.le_of_ble_eq_true rfl)
  rw [lg_entry_eq]
  generalize (lg_sl ([.ref a_md, .int x1, .int x2]) ++ List.replicate (4 - (lg_sl ([.ref a_md, .int x1, .int x2])).length) Slot.unset).toArray = ls at hl ⊢
  have hl : lv_has ls 4 [(0, .ref a_md), (1, .int x1), (2, .int x2)] := hl
  have fl_17 := (hts _ (List.mem_cons_of_mem _ m_1100))
  have fl_21 := (hts _ (List.mem_cons_of_mem _ m_1101))
  have fl_24 := (hts _ (List.mem_cons_of_mem _ m_1102))
  have fl_173 := (hts _ (List.mem_cons_of_mem _ m_1103))
  refine lv_sipush (v := 1000) hx hb d_Md_act_0 (by decide) ?_
  refine lv_aload_n hx hb d_Md_act_3 rfl (lv_at hl 0 rfl) ?_
  refine va_get (D := (dC, dI)) (ci := 11) (v := .int md_bank) (C := "LoopInductionModel") (T := F_Md) (N := 40) hx hb hts iC_Md hown hK hP 0 rfl rfl 13 (by decide) fl_173 (fun _ h9 => h9) rfl d_Md_act_4 ?_
  refine lv_imul hx hb d_Md_act_7 ?_
  refine lv_aload_n hx hb d_Md_act_8 rfl (lv_at hl 0 rfl) ?_
  refine va_get (D := (dC, dI)) (ci := 11) (v := .ref a_md_actCounts) (C := "LoopInductionModel") (T := F_Md) (N := 40) hx hb hts iC_Md hown hK hP 0 rfl rfl 12 (by decide) fl_24 (fun _ h9 => h9) rfl d_Md_act_9 ?_
  refine lv_aload_n hx hb d_Md_act_12 rfl (lv_at hl 0 rfl) ?_
  refine va_get (D := (dC, dI)) (ci := 11) (v := .int md_bank) (C := "LoopInductionModel") (T := F_Md) (N := 40) hx hb hts iC_Md hown hK hP 0 rfl rfl 13 (by decide) fl_173 (fun _ h9 => h9) rfl d_Md_act_13 ?_
  obtain ⟨hin_16, h⟩ := h
  refine va_iald hx hb hK hP 3 0 rfl rfl hin_16 d_Md_act_16 ?_
  refine lv_iadd hx hb d_Md_act_17 ?_
  refine lv_topi (fun x3_1 ex3_1 => ?_)
  have h := h x3_1 ex3_1
  refine lv_istore_n (lv' := [(3, .int x3_1), (0, .ref a_md), (1, .int x1), (2, .int x2)]) hx hb d_Md_act_18 rfl hl (by decide) rfl (fun ls hl => ?_)
  refine lv_aload_n hx hb d_Md_act_19 rfl (lv_at hl 1 rfl) ?_
  refine va_get (D := (dC, dI)) (ci := 11) (v := .ref a_md_actCounts) (C := "LoopInductionModel") (T := F_Md) (N := 40) hx hb hts iC_Md hown hK hP 0 rfl rfl 12 (by decide) fl_24 (fun _ h9 => h9) rfl d_Md_act_20 ?_
  refine lv_aload_n hx hb d_Md_act_23 rfl (lv_at hl 1 rfl) ?_
  refine va_get (D := (dC, dI)) (ci := 11) (v := .int md_bank) (C := "LoopInductionModel") (T := F_Md) (N := 40) hx hb hts iC_Md hown hK hP 0 rfl rfl 13 (by decide) fl_173 (fun _ h9 => h9) rfl d_Md_act_24 ?_
  refine lv_dup2_11 hx hb d_Md_act_27 rfl rfl ?_
  obtain ⟨hin_28, h⟩ := h
  refine va_iald hx hb hK hP 3 0 rfl rfl hin_28 d_Md_act_28 ?_
  refine lv_iconst (v := 1) hx hb d_Md_act_29 (by decide) ?_
  refine lv_iadd hx hb d_Md_act_30 ?_
  obtain ⟨hin_31, h⟩ := h
  refine va_iast hx hb hK hP hD hS 3 0 rfl rfl hin_31 d_Md_act_31 (fun H locs hP hD hS => ?_)
  have hP : va_P (dC, dI) vwCl [(a_md, .inr (11, [.ref a_md_tape, .int md_size, .int md_at, .int md_token, .int md_tokenPlace, .int md_number, .int md_sign, .int md_bad, .int md_faultPlace, .int md_place, .ref a_md_acts, .ref a_md_actNumbers, .ref a_md_actCounts, .int md_bank, .int md_unaries, .int md_opens, .ref a_md_pile, .int md_piled, .int md_loop, .ref a_md_begins, .ref a_md_goals, .ref a_md_ranks, .ref a_md_choiceCounts, .ref a_md_whens, .ref a_md_becomes, .ref a_md_guessCounts, .ref a_md_guesses, .ref a_md_unaryCounts, .ref a_md_stack, .ref a_md_nexts, .ref a_md_isBegin, .ref a_md_isGoal, .ref a_md_levels, .ref a_md_queue, .ref a_md_hasGuesses, .int md_keptBits, .ref a_md_rounds, .ref a_md_marked, .ref a_md_other, .ref a_md_heights])), (a_md_acts, .inl (cI, 3000, .inl md_acts)), (a_md_actNumbers, .inl (cI, 3000, .inl md_actNumbers)), (a_md_actCounts, .inl (cI, 3, .inl (upd md_actCounts (md_bank : Int32).toNatClampNeg ((md_actCounts (md_bank : Int32).toNatClampNeg) + 1))))] H := hP
  have hD : va_D A [(a_md, .inr (11, [.ref a_md_tape, .int md_size, .int md_at, .int md_token, .int md_tokenPlace, .int md_number, .int md_sign, .int md_bad, .int md_faultPlace, .int md_place, .ref a_md_acts, .ref a_md_actNumbers, .ref a_md_actCounts, .int md_bank, .int md_unaries, .int md_opens, .ref a_md_pile, .int md_piled, .int md_loop, .ref a_md_begins, .ref a_md_goals, .ref a_md_ranks, .ref a_md_choiceCounts, .ref a_md_whens, .ref a_md_becomes, .ref a_md_guessCounts, .ref a_md_guesses, .ref a_md_unaryCounts, .ref a_md_stack, .ref a_md_nexts, .ref a_md_isBegin, .ref a_md_isGoal, .ref a_md_levels, .ref a_md_queue, .ref a_md_hasGuesses, .int md_keptBits, .ref a_md_rounds, .ref a_md_marked, .ref a_md_other, .ref a_md_heights])), (a_md_acts, .inl (cI, 3000, .inl md_acts)), (a_md_actNumbers, .inl (cI, 3000, .inl md_actNumbers)), (a_md_actCounts, .inl (cI, 3, .inl (upd md_actCounts (md_bank : Int32).toNatClampNeg ((md_actCounts (md_bank : Int32).toNatClampNeg) + 1))))] := hD
  refine lv_aload_n hx hb d_Md_act_32 rfl (lv_at hl 1 rfl) ?_
  refine va_get (D := (dC, dI)) (ci := 11) (v := .ref a_md_acts) (C := "LoopInductionModel") (T := F_Md) (N := 40) hx hb hts iC_Md hown hK hP 0 rfl rfl 10 (by decide) fl_17 (fun _ h9 => h9) rfl d_Md_act_33 ?_
  refine lv_iload_n hx hb d_Md_act_36 rfl (lv_at hl 0 rfl) ?_
  refine lv_iload_n hx hb d_Md_act_37 rfl (lv_at hl 2 rfl) ?_
  obtain ⟨hin_38, h⟩ := h
  refine va_iast hx hb hK hP hD hS 1 0 rfl rfl hin_38 d_Md_act_38 (fun H locs hP hD hS => ?_)
  have hP : va_P (dC, dI) vwCl [(a_md, .inr (11, [.ref a_md_tape, .int md_size, .int md_at, .int md_token, .int md_tokenPlace, .int md_number, .int md_sign, .int md_bad, .int md_faultPlace, .int md_place, .ref a_md_acts, .ref a_md_actNumbers, .ref a_md_actCounts, .int md_bank, .int md_unaries, .int md_opens, .ref a_md_pile, .int md_piled, .int md_loop, .ref a_md_begins, .ref a_md_goals, .ref a_md_ranks, .ref a_md_choiceCounts, .ref a_md_whens, .ref a_md_becomes, .ref a_md_guessCounts, .ref a_md_guesses, .ref a_md_unaryCounts, .ref a_md_stack, .ref a_md_nexts, .ref a_md_isBegin, .ref a_md_isGoal, .ref a_md_levels, .ref a_md_queue, .ref a_md_hasGuesses, .int md_keptBits, .ref a_md_rounds, .ref a_md_marked, .ref a_md_other, .ref a_md_heights])), (a_md_acts, .inl (cI, 3000, .inl (upd md_acts (x3_1 : Int32).toNatClampNeg x1))), (a_md_actNumbers, .inl (cI, 3000, .inl md_actNumbers)), (a_md_actCounts, .inl (cI, 3, .inl (upd md_actCounts (md_bank : Int32).toNatClampNeg ((md_actCounts (md_bank : Int32).toNatClampNeg) + 1))))] H := hP
  have hD : va_D A [(a_md, .inr (11, [.ref a_md_tape, .int md_size, .int md_at, .int md_token, .int md_tokenPlace, .int md_number, .int md_sign, .int md_bad, .int md_faultPlace, .int md_place, .ref a_md_acts, .ref a_md_actNumbers, .ref a_md_actCounts, .int md_bank, .int md_unaries, .int md_opens, .ref a_md_pile, .int md_piled, .int md_loop, .ref a_md_begins, .ref a_md_goals, .ref a_md_ranks, .ref a_md_choiceCounts, .ref a_md_whens, .ref a_md_becomes, .ref a_md_guessCounts, .ref a_md_guesses, .ref a_md_unaryCounts, .ref a_md_stack, .ref a_md_nexts, .ref a_md_isBegin, .ref a_md_isGoal, .ref a_md_levels, .ref a_md_queue, .ref a_md_hasGuesses, .int md_keptBits, .ref a_md_rounds, .ref a_md_marked, .ref a_md_other, .ref a_md_heights])), (a_md_acts, .inl (cI, 3000, .inl (upd md_acts (x3_1 : Int32).toNatClampNeg x1))), (a_md_actNumbers, .inl (cI, 3000, .inl md_actNumbers)), (a_md_actCounts, .inl (cI, 3, .inl (upd md_actCounts (md_bank : Int32).toNatClampNeg ((md_actCounts (md_bank : Int32).toNatClampNeg) + 1))))] := hD
  refine lv_aload_n hx hb d_Md_act_39 rfl (lv_at hl 1 rfl) ?_
  refine va_get (D := (dC, dI)) (ci := 11) (v := .ref a_md_actNumbers) (C := "LoopInductionModel") (T := F_Md) (N := 40) hx hb hts iC_Md hown hK hP 0 rfl rfl 11 (by decide) fl_21 (fun _ h9 => h9) rfl d_Md_act_40 ?_
  refine lv_iload_n hx hb d_Md_act_43 rfl (lv_at hl 0 rfl) ?_
  refine lv_iload_n hx hb d_Md_act_44 rfl (lv_at hl 3 rfl) ?_
  obtain ⟨hin_45, h⟩ := h
  refine va_iast hx hb hK hP hD hS 2 0 rfl rfl hin_45 d_Md_act_45 (fun H locs hP hD hS => ?_)
  have hP : va_P (dC, dI) vwCl [(a_md, .inr (11, [.ref a_md_tape, .int md_size, .int md_at, .int md_token, .int md_tokenPlace, .int md_number, .int md_sign, .int md_bad, .int md_faultPlace, .int md_place, .ref a_md_acts, .ref a_md_actNumbers, .ref a_md_actCounts, .int md_bank, .int md_unaries, .int md_opens, .ref a_md_pile, .int md_piled, .int md_loop, .ref a_md_begins, .ref a_md_goals, .ref a_md_ranks, .ref a_md_choiceCounts, .ref a_md_whens, .ref a_md_becomes, .ref a_md_guessCounts, .ref a_md_guesses, .ref a_md_unaryCounts, .ref a_md_stack, .ref a_md_nexts, .ref a_md_isBegin, .ref a_md_isGoal, .ref a_md_levels, .ref a_md_queue, .ref a_md_hasGuesses, .int md_keptBits, .ref a_md_rounds, .ref a_md_marked, .ref a_md_other, .ref a_md_heights])), (a_md_acts, .inl (cI, 3000, .inl (upd md_acts (x3_1 : Int32).toNatClampNeg x1))), (a_md_actNumbers, .inl (cI, 3000, .inl (upd md_actNumbers (x3_1 : Int32).toNatClampNeg x2))), (a_md_actCounts, .inl (cI, 3, .inl (upd md_actCounts (md_bank : Int32).toNatClampNeg ((md_actCounts (md_bank : Int32).toNatClampNeg) + 1))))] H := hP
  have hD : va_D A [(a_md, .inr (11, [.ref a_md_tape, .int md_size, .int md_at, .int md_token, .int md_tokenPlace, .int md_number, .int md_sign, .int md_bad, .int md_faultPlace, .int md_place, .ref a_md_acts, .ref a_md_actNumbers, .ref a_md_actCounts, .int md_bank, .int md_unaries, .int md_opens, .ref a_md_pile, .int md_piled, .int md_loop, .ref a_md_begins, .ref a_md_goals, .ref a_md_ranks, .ref a_md_choiceCounts, .ref a_md_whens, .ref a_md_becomes, .ref a_md_guessCounts, .ref a_md_guesses, .ref a_md_unaryCounts, .ref a_md_stack, .ref a_md_nexts, .ref a_md_isBegin, .ref a_md_isGoal, .ref a_md_levels, .ref a_md_queue, .ref a_md_hasGuesses, .int md_keptBits, .ref a_md_rounds, .ref a_md_marked, .ref a_md_other, .ref a_md_heights])), (a_md_acts, .inl (cI, 3000, .inl (upd md_acts (x3_1 : Int32).toNatClampNeg x1))), (a_md_actNumbers, .inl (cI, 3000, .inl (upd md_actNumbers (x3_1 : Int32).toNatClampNeg x2))), (a_md_actCounts, .inl (cI, 3, .inl (upd md_actCounts (md_bank : Int32).toNatClampNeg ((md_actCounts (md_bank : Int32).toNatClampNeg) + 1))))] := hD
  subst hQ
  have hP9 := hP
  have hD9 := hD
  exact W.vret hx hb hr (fun t ht hW => ⟨⟨(upd md_acts (x3_1 : Int32).toNatClampNeg x1, upd md_actNumbers (x3_1 : Int32).toNatClampNeg x2, upd md_actCounts (md_bank : Int32).toNatClampNeg ((md_actCounts (md_bank : Int32).toNatClampNeg) + 1)), rfl, h, by rw [ht]; exact hP9, va_K.moved hW.alike hK, hD9⟩, hS.F ht⟩) hS.2.2 d_Md_act_46
def wp_Md_push (x1 : Int32) (md_piled : Int32) (md_pile : Nat → Int32) (post : Int32 → (Nat → Int32) → Prop) : Prop :=
  (vp_in md_piled 300 ∧ post (md_piled + 1) (upd md_pile (md_piled : Int32).toNatClampNeg x1))
set_option maxHeartbeats 4000000 in
set_option maxRecDepth 100000 in
theorem c_Md_push (l : Launch) (dC : Nat → ClassId) (dI : Nat → Nat → Nat) (cI cB cZ : ClassId) (adK adV : Nat → Nat) (sz : Nat) (a_md a_md_tape a_md_acts a_md_actNumbers a_md_actCounts a_md_pile a_md_begins a_md_goals a_md_ranks a_md_choiceCounts a_md_whens a_md_becomes a_md_guessCounts a_md_guesses a_md_unaryCounts a_md_stack a_md_nexts a_md_isBegin a_md_isGoal a_md_levels a_md_queue a_md_hasGuesses a_md_rounds a_md_marked a_md_other a_md_heights : Nat) (md_size : Int32) (md_at : Int32) (md_token : Int32) (md_tokenPlace : Int32) (md_number : Int32) (md_sign : Int32) (md_bad : Int32) (md_faultPlace : Int32) (md_place : Int32) (md_bank : Int32) (md_unaries : Int32) (md_opens : Int32) (md_piled : Int32) (md_loop : Int32) (md_keptBits : Int32) (md_pile : Nat → Int32) (x1 : Int32) (post : Int32 → (Nat → Int32) → Prop) (h : wp_Md_push x1 md_piled md_pile post) : Met l y_Md_push w_Md_push ({ frames := 0, cells := 0, slots := 0, locals := 0 }) (pc_ (dC, dI) [(cI, .int), (cB, .byte), (cZ, .boolean)] [(a_md, .inr (11, [.ref a_md_tape, .int md_size, .int md_at, .int md_token, .int md_tokenPlace, .int md_number, .int md_sign, .int md_bad, .int md_faultPlace, .int md_place, .ref a_md_acts, .ref a_md_actNumbers, .ref a_md_actCounts, .int md_bank, .int md_unaries, .int md_opens, .ref a_md_pile, .int md_piled, .int md_loop, .ref a_md_begins, .ref a_md_goals, .ref a_md_ranks, .ref a_md_choiceCounts, .ref a_md_whens, .ref a_md_becomes, .ref a_md_guessCounts, .ref a_md_guesses, .ref a_md_unaryCounts, .ref a_md_stack, .ref a_md_nexts, .ref a_md_isBegin, .ref a_md_isGoal, .ref a_md_levels, .ref a_md_queue, .ref a_md_hasGuesses, .int md_keptBits, .ref a_md_rounds, .ref a_md_marked, .ref a_md_other, .ref a_md_heights])), (a_md_pile, .inl (cI, 300, .inl md_pile))] sz adK adV [.ref a_md, .int x1]) (va_Qv (fun (u : Int32 × (Nat → Int32)) => post u.1 u.2) (fun (u : Int32 × (Nat → Int32)) t => bw_ (dC, dI) [(cI, .int), (cB, .byte), (cZ, .boolean)] (va_A [(a_md, .inr (11, [.ref a_md_tape, .int md_size, .int md_at, .int md_token, .int md_tokenPlace, .int md_number, .int md_sign, .int md_bad, .int md_faultPlace, .int md_place, .ref a_md_acts, .ref a_md_actNumbers, .ref a_md_actCounts, .int md_bank, .int md_unaries, .int md_opens, .ref a_md_pile, .int md_piled, .int md_loop, .ref a_md_begins, .ref a_md_goals, .ref a_md_ranks, .ref a_md_choiceCounts, .ref a_md_whens, .ref a_md_becomes, .ref a_md_guessCounts, .ref a_md_guesses, .ref a_md_unaryCounts, .ref a_md_stack, .ref a_md_nexts, .ref a_md_isBegin, .ref a_md_isGoal, .ref a_md_levels, .ref a_md_queue, .ref a_md_hasGuesses, .int md_keptBits, .ref a_md_rounds, .ref a_md_marked, .ref a_md_other, .ref a_md_heights])), (a_md_pile, .inl (cI, 300, .inl md_pile))] sz) [(a_md, .inr (11, [.ref a_md_tape, .int md_size, .int md_at, .int md_token, .int md_tokenPlace, .int md_number, .int md_sign, .int md_bad, .int md_faultPlace, .int md_place, .ref a_md_acts, .ref a_md_actNumbers, .ref a_md_actCounts, .int md_bank, .int md_unaries, .int md_opens, .ref a_md_pile, .int u.1, .int md_loop, .ref a_md_begins, .ref a_md_goals, .ref a_md_ranks, .ref a_md_choiceCounts, .ref a_md_whens, .ref a_md_becomes, .ref a_md_guessCounts, .ref a_md_guesses, .ref a_md_unaryCounts, .ref a_md_stack, .ref a_md_nexts, .ref a_md_isBegin, .ref a_md_isGoal, .ref a_md_levels, .ref a_md_queue, .ref a_md_hasGuesses, .int md_keptBits, .ref a_md_rounds, .ref a_md_marked, .ref a_md_other, .ref a_md_heights])), (a_md_pile, .inl (cI, 300, .inl u.2))] t) (va_A [(a_md, .inr (11, [.ref a_md_tape, .int md_size, .int md_at, .int md_token, .int md_tokenPlace, .int md_number, .int md_sign, .int md_bad, .int md_faultPlace, .int md_place, .ref a_md_acts, .ref a_md_actNumbers, .ref a_md_actCounts, .int md_bank, .int md_unaries, .int md_opens, .ref a_md_pile, .int md_piled, .int md_loop, .ref a_md_begins, .ref a_md_goals, .ref a_md_ranks, .ref a_md_choiceCounts, .ref a_md_whens, .ref a_md_becomes, .ref a_md_guessCounts, .ref a_md_guesses, .ref a_md_unaryCounts, .ref a_md_stack, .ref a_md_nexts, .ref a_md_isBegin, .ref a_md_isGoal, .ref a_md_levels, .ref a_md_queue, .ref a_md_hasGuesses, .int md_keptBits, .ref a_md_rounds, .ref a_md_marked, .ref a_md_other, .ref a_md_heights])), (a_md_pile, .inl (cI, 300, .inl md_pile))] sz)) 0 0 (va_A [(a_md, .inr (11, [.ref a_md_tape, .int md_size, .int md_at, .int md_token, .int md_tokenPlace, .int md_number, .int md_sign, .int md_bad, .int md_faultPlace, .int md_place, .ref a_md_acts, .ref a_md_actNumbers, .ref a_md_actCounts, .int md_bank, .int md_unaries, .int md_opens, .ref a_md_pile, .int md_piled, .int md_loop, .ref a_md_begins, .ref a_md_goals, .ref a_md_ranks, .ref a_md_choiceCounts, .ref a_md_whens, .ref a_md_becomes, .ref a_md_guessCounts, .ref a_md_guesses, .ref a_md_unaryCounts, .ref a_md_stack, .ref a_md_nexts, .ref a_md_isBegin, .ref a_md_isGoal, .ref a_md_levels, .ref a_md_queue, .ref a_md_hasGuesses, .int md_keptBits, .ref a_md_rounds, .ref a_md_marked, .ref a_md_other, .ref a_md_heights])), (a_md_pile, .inl (cI, 300, .inl md_pile))] sz) := by
  refine Met.ofW (cc := b_Md_push) (maxL := 2) (ret := none) (by decide) rfl ?_
  intro p e s m args below meth c s₁ B hml hv
  obtain ⟨rfl, hsz, hP, hK, hD0, hN, hT⟩ := hv
  have hx := B.exec
  have hb := B.bytes
  have hr := B.returns
  have hts := atoms_spec (ws := w_Md_push) B.pre
  have hown : s.vm.findClass "LoopInductionModel" = some m.cls := findClass_of_methodNamed B.named
  have hlocks := B.notSynchronized
  subst hsz
  have hD := hD0.self (sz := s.heap.size)
  generalize hAe : va_A [(a_md, .inr (11, [.ref a_md_tape, .int md_size, .int md_at, .int md_token, .int md_tokenPlace, .int md_number, .int md_sign, .int md_bad, .int md_faultPlace, .int md_place, .ref a_md_acts, .ref a_md_actNumbers, .ref a_md_actCounts, .int md_bank, .int md_unaries, .int md_opens, .ref a_md_pile, .int md_piled, .int md_loop, .ref a_md_begins, .ref a_md_goals, .ref a_md_ranks, .ref a_md_choiceCounts, .ref a_md_whens, .ref a_md_becomes, .ref a_md_guessCounts, .ref a_md_guesses, .ref a_md_unaryCounts, .ref a_md_stack, .ref a_md_nexts, .ref a_md_isBegin, .ref a_md_isGoal, .ref a_md_levels, .ref a_md_queue, .ref a_md_hasGuesses, .int md_keptBits, .ref a_md_rounds, .ref a_md_marked, .ref a_md_other, .ref a_md_heights])), (a_md_pile, .inl (cI, 300, .inl md_pile))] s.heap.size = A at hD hT ⊢
  have hA : ∀ q : Nat, s.heap.size ≤ q → A q := fun q h => by rw [← hAe]; exact Or.inr h
  have hS : va_S A s.heap s.heap [] := va_S.rf
  generalize hQ : MQ below _ _ s 0 0 _ = QQ
  have hl := lv_entry ([.ref a_md, .int x1]) (n := 2) (Nat.le_of_ble_eq_true rfl)
  rw [lg_entry_eq]
  generalize (lg_sl ([.ref a_md, .int x1]) ++ List.replicate (2 - (lg_sl ([.ref a_md, .int x1])).length) Slot.unset).toArray = ls at hl ⊢
  have hl : lv_has ls 2 [(0, .ref a_md), (1, .int x1)] := hl
  have fl_27 := (hts _ (List.mem_cons_of_mem _ m_1106))
  have fl_176 := (hts _ (List.mem_cons_of_mem _ m_1107))
  refine lv_aload_n hx hb d_Md_push_0 rfl (lv_at hl 0 rfl) ?_
  refine va_get (D := (dC, dI)) (ci := 11) (v := .ref a_md_pile) (C := "LoopInductionModel") (T := F_Md) (N := 40) hx hb hts iC_Md hown hK hP 0 rfl rfl 16 (by decide) fl_27 (fun _ h9 => h9) rfl d_Md_push_1 ?_
  refine lv_aload_n hx hb d_Md_push_4 rfl (lv_at hl 0 rfl) ?_
  refine va_get (D := (dC, dI)) (ci := 11) (v := .int md_piled) (C := "LoopInductionModel") (T := F_Md) (N := 40) hx hb hts iC_Md hown hK hP 0 rfl rfl 17 (by decide) fl_176 (fun _ h9 => h9) rfl d_Md_push_5 ?_
  refine lv_iload_n hx hb d_Md_push_8 rfl (lv_at hl 1 rfl) ?_
  obtain ⟨hin_9, h⟩ := h
  refine va_iast hx hb hK hP hD hS 1 0 rfl rfl hin_9 d_Md_push_9 (fun H locs hP hD hS => ?_)
  have hP : va_P (dC, dI) vwCl [(a_md, .inr (11, [.ref a_md_tape, .int md_size, .int md_at, .int md_token, .int md_tokenPlace, .int md_number, .int md_sign, .int md_bad, .int md_faultPlace, .int md_place, .ref a_md_acts, .ref a_md_actNumbers, .ref a_md_actCounts, .int md_bank, .int md_unaries, .int md_opens, .ref a_md_pile, .int md_piled, .int md_loop, .ref a_md_begins, .ref a_md_goals, .ref a_md_ranks, .ref a_md_choiceCounts, .ref a_md_whens, .ref a_md_becomes, .ref a_md_guessCounts, .ref a_md_guesses, .ref a_md_unaryCounts, .ref a_md_stack, .ref a_md_nexts, .ref a_md_isBegin, .ref a_md_isGoal, .ref a_md_levels, .ref a_md_queue, .ref a_md_hasGuesses, .int md_keptBits, .ref a_md_rounds, .ref a_md_marked, .ref a_md_other, .ref a_md_heights])), (a_md_pile, .inl (cI, 300, .inl (upd md_pile (md_piled : Int32).toNatClampNeg x1)))] H := hP
  have hD : va_D A [(a_md, .inr (11, [.ref a_md_tape, .int md_size, .int md_at, .int md_token, .int md_tokenPlace, .int md_number, .int md_sign, .int md_bad, .int md_faultPlace, .int md_place, .ref a_md_acts, .ref a_md_actNumbers, .ref a_md_actCounts, .int md_bank, .int md_unaries, .int md_opens, .ref a_md_pile, .int md_piled, .int md_loop, .ref a_md_begins, .ref a_md_goals, .ref a_md_ranks, .ref a_md_choiceCounts, .ref a_md_whens, .ref a_md_becomes, .ref a_md_guessCounts, .ref a_md_guesses, .ref a_md_unaryCounts, .ref a_md_stack, .ref a_md_nexts, .ref a_md_isBegin, .ref a_md_isGoal, .ref a_md_levels, .ref a_md_queue, .ref a_md_hasGuesses, .int md_keptBits, .ref a_md_rounds, .ref a_md_marked, .ref a_md_other, .ref a_md_heights])), (a_md_pile, .inl (cI, 300, .inl (upd md_pile (md_piled : Int32).toNatClampNeg x1)))] := hD
  refine lv_aload_n hx hb d_Md_push_10 rfl (lv_at hl 0 rfl) ?_
  refine lv_dup hx hb d_Md_push_11 rfl ?_
  refine va_get (D := (dC, dI)) (ci := 11) (v := .int md_piled) (C := "LoopInductionModel") (T := F_Md) (N := 40) hx hb hts iC_Md hown hK hP 0 rfl rfl 17 (by decide) fl_176 (fun _ h9 => h9) rfl d_Md_push_12 ?_
  refine lv_iconst (v := 1) hx hb d_Md_push_15 (by decide) ?_
  refine lv_iadd hx hb d_Md_push_16 ?_
  refine va_put (D := (dC, dI)) (ci := 11) (v := .int (md_piled + 1)) (ty := .int) (C := "LoopInductionModel") (T := F_Md) (N := 40) hx hb hts iC_Md t_Md t_Md_ok n_Md hown hK hP hD hS 0 rfl rfl 17 (by decide) fl_176 (fun _ h9 => h9) rfl (by decide +kernel) rfl rfl (Nat.le_of_ble_eq_true rfl) d_Md_push_17 (fun H locs hP hD hS => ?_)
  have hP : va_P (dC, dI) vwCl [(a_md, .inr (11, [.ref a_md_tape, .int md_size, .int md_at, .int md_token, .int md_tokenPlace, .int md_number, .int md_sign, .int md_bad, .int md_faultPlace, .int md_place, .ref a_md_acts, .ref a_md_actNumbers, .ref a_md_actCounts, .int md_bank, .int md_unaries, .int md_opens, .ref a_md_pile, .int (md_piled + 1), .int md_loop, .ref a_md_begins, .ref a_md_goals, .ref a_md_ranks, .ref a_md_choiceCounts, .ref a_md_whens, .ref a_md_becomes, .ref a_md_guessCounts, .ref a_md_guesses, .ref a_md_unaryCounts, .ref a_md_stack, .ref a_md_nexts, .ref a_md_isBegin, .ref a_md_isGoal, .ref a_md_levels, .ref a_md_queue, .ref a_md_hasGuesses, .int md_keptBits, .ref a_md_rounds, .ref a_md_marked, .ref a_md_other, .ref a_md_heights])), (a_md_pile, .inl (cI, 300, .inl (upd md_pile (md_piled : Int32).toNatClampNeg x1)))] H := hP
  have hD : va_D A [(a_md, .inr (11, [.ref a_md_tape, .int md_size, .int md_at, .int md_token, .int md_tokenPlace, .int md_number, .int md_sign, .int md_bad, .int md_faultPlace, .int md_place, .ref a_md_acts, .ref a_md_actNumbers, .ref a_md_actCounts, .int md_bank, .int md_unaries, .int md_opens, .ref a_md_pile, .int (md_piled + 1), .int md_loop, .ref a_md_begins, .ref a_md_goals, .ref a_md_ranks, .ref a_md_choiceCounts, .ref a_md_whens, .ref a_md_becomes, .ref a_md_guessCounts, .ref a_md_guesses, .ref a_md_unaryCounts, .ref a_md_stack, .ref a_md_nexts, .ref a_md_isBegin, .ref a_md_isGoal, .ref a_md_levels, .ref a_md_queue, .ref a_md_hasGuesses, .int md_keptBits, .ref a_md_rounds, .ref a_md_marked, .ref a_md_other, .ref a_md_heights])), (a_md_pile, .inl (cI, 300, .inl (upd md_pile (md_piled : Int32).toNatClampNeg x1)))] := hD
  subst hQ
  have hP9 := hP
  have hD9 := hD
  exact W.vret hx hb hr (fun t ht hW => ⟨⟨(md_piled + 1, upd md_pile (md_piled : Int32).toNatClampNeg x1), rfl, h, by rw [ht]; exact hP9, va_K.moved hW.alike hK, hD9⟩, hS.F ht⟩) hS.2.2 d_Md_push_20
def wp_Md_strengthOf (x0 : Int32) (post : Int32 → Prop) : Prop :=
  ((¬ (x0 : Int32) = (42 : Int32) → (((x0 : Int32) = (43 : Int32) → post 1) ∧ (¬ (x0 : Int32) = (43 : Int32) → ((¬ (x0 : Int32) = (45 : Int32) → post 0) ∧ ((x0 : Int32) = (45 : Int32) → post 1))))) ∧ ((x0 : Int32) = (42 : Int32) → post 2))
set_option maxHeartbeats 4000000 in
set_option maxRecDepth 100000 in
theorem c_Md_strengthOf (l : Launch) (dC : Nat → ClassId) (dI : Nat → Nat → Nat) (cI cB cZ : ClassId) (adK adV : Nat → Nat) (sz : Nat) (x0 : Int32) (post : Int32 → Prop) (h : wp_Md_strengthOf x0 post) : Met l y_Md_strengthOf w_Md_strengthOf ({ frames := 0, cells := 0, slots := 0, locals := 0 }) (pc_ (dC, dI) [(cI, .int), (cB, .byte), (cZ, .boolean)] [] sz adK adV [.int x0]) (va_Qi (fun (r : Int32) (u : Unit) => post r ) (fun (u : Unit) t => bw_ (dC, dI) [(cI, .int), (cB, .byte), (cZ, .boolean)] (va_A [] sz) [] t) (va_A [] sz)) 0 0 (va_A [] sz) := by
  refine Met.ofW (cc := b_Md_strengthOf) (maxL := 1) (ret := (some .int)) (by decide) rfl ?_
  intro p e s m args below meth c s₁ B hml hv
  obtain ⟨rfl, hsz, hP, hK, hD0, hN, hT⟩ := hv
  have hx := B.exec
  have hb := B.bytes
  have hr := B.returns
  have hts := atoms_spec (ws := w_Md_strengthOf) B.pre
  have hown : s.vm.findClass "LoopInductionModel" = some m.cls := findClass_of_methodNamed B.named
  have hlocks := B.notSynchronized
  subst hsz
  have hD := hD0.self (sz := s.heap.size)
  generalize hAe : va_A [] s.heap.size = A at hD hT ⊢
  have hA : ∀ q : Nat, s.heap.size ≤ q → A q := fun q h => by rw [← hAe]; exact Or.inr h
  have hS : va_S A s.heap s.heap [] := va_S.rf
  generalize hQ : MQ below _ _ s 0 0 _ = QQ
  have hl := lv_entry ([.int x0]) (n := 1) (Nat.le_of_ble_eq_true rfl)
  rw [lg_entry_eq]
  generalize (lg_sl ([.int x0]) ++ List.replicate (1 - (lg_sl ([.int x0])).length) Slot.unset).toArray = ls at hl ⊢
  have hl : lv_has ls 1 [(0, .int x0)] := hl
  refine lv_iload_n hx hb d_Md_strengthOf_0 rfl (lv_at hl 0 rfl) ?_
  refine lv_bipush (v := 42) hx hb d_Md_strengthOf_1 (by decide) ?_
  refine lv_icmp_ne (tgt := 10) hx hb d_Md_strengthOf_3 (by decide) (fun c_3 => ?_) (fun c_3 => ?_)
  · have h := And.left h c_3
    refine lv_iload_n hx hb d_Md_strengthOf_10 rfl (lv_at hl 0 rfl) ?_
    refine lv_bipush (v := 43) hx hb d_Md_strengthOf_11 (by decide) ?_
    refine lv_icmp_eq (tgt := 22) hx hb d_Md_strengthOf_13 (by decide) (fun c_13 => ?_) (fun c_13 => ?_)
    · have h := And.left h c_13
      refine lv_iconst (v := 1) hx hb d_Md_strengthOf_22 (by decide) ?_
      refine lv_goto (tgt := 27) hx hb d_Md_strengthOf_23 (by decide) ?_
      subst hQ
      have hP9 := hP
      have hD9 := hD
      exact W.iret (v := 1) hx hb hr (fun t ht hW => ⟨⟨1, (), rfl, h, by rw [ht]; exact hP9, va_K.moved hW.alike hK, hD9⟩, hS.F ht⟩) hS.2.2 d_Md_strengthOf_27
    · have h := And.right h c_13
      refine lv_iload_n hx hb d_Md_strengthOf_16 rfl (lv_at hl 0 rfl) ?_
      refine lv_bipush (v := 45) hx hb d_Md_strengthOf_17 (by decide) ?_
      refine lv_icmp_ne (tgt := 26) hx hb d_Md_strengthOf_19 (by decide) (fun c_19 => ?_) (fun c_19 => ?_)
      · have h := And.left h c_19
        refine lv_iconst (v := 0) hx hb d_Md_strengthOf_26 (by decide) ?_
        subst hQ
        have hP9 := hP
        have hD9 := hD
        exact W.iret (v := 0) hx hb hr (fun t ht hW => ⟨⟨0, (), rfl, h, by rw [ht]; exact hP9, va_K.moved hW.alike hK, hD9⟩, hS.F ht⟩) hS.2.2 d_Md_strengthOf_27
      · have h := And.right h c_19
        refine lv_iconst (v := 1) hx hb d_Md_strengthOf_22 (by decide) ?_
        refine lv_goto (tgt := 27) hx hb d_Md_strengthOf_23 (by decide) ?_
        subst hQ
        have hP9 := hP
        have hD9 := hD
        exact W.iret (v := 1) hx hb hr (fun t ht hW => ⟨⟨1, (), rfl, h, by rw [ht]; exact hP9, va_K.moved hW.alike hK, hD9⟩, hS.F ht⟩) hS.2.2 d_Md_strengthOf_27
  · have h := And.right h c_3
    refine lv_iconst (v := 2) hx hb d_Md_strengthOf_6 (by decide) ?_
    refine lv_goto (tgt := 27) hx hb d_Md_strengthOf_7 (by decide) ?_
    subst hQ
    have hP9 := hP
    have hD9 := hD
    exact W.iret (v := 2) hx hb hr (fun t ht hW => ⟨⟨2, (), rfl, h, by rw [ht]; exact hP9, va_K.moved hW.alike hK, hD9⟩, hS.F ht⟩) hS.2.2 d_Md_strengthOf_27
def wp_Md_negatives_L0 (x1 : Int32) (md_bank : Int32) (md_pile : Nat → Int32) (k54 : (Int32) → (Int32) → (Nat → Int32) → (Nat → Int32) → (Nat → Int32) → Prop) : Nat → (Int32) → (Int32) → (Nat → Int32) → (Nat → Int32) → (Nat → Int32) → Prop
  | 0, _, _, _, _, _ => False
  | n + 1, md_opens, md_piled, md_acts, md_actNumbers, md_actCounts =>
    (((md_piled : Int32) ≤ (x1 : Int32) → k54 md_opens md_piled md_acts md_actNumbers md_actCounts) ∧ (¬ (md_piled : Int32) ≤ (x1 : Int32) → (vp_in (md_piled - 1) 300 ∧ ((¬ (md_pile (md_piled - 1 : Int32).toNatClampNeg : Int32) = (1000 : Int32) → k54 md_opens md_piled md_acts md_actNumbers md_actCounts) ∧ ((md_pile (md_piled - 1 : Int32).toNatClampNeg : Int32) = (1000 : Int32) → wp_Md_act 3 0 md_bank md_acts md_actNumbers md_actCounts (fun md_acts_1 md_actNumbers_2 md_actCounts_3 => wp_Md_negatives_L0 x1 md_bank md_pile k54 n (md_opens - 1) (md_piled - 1) md_acts_1 md_actNumbers_2 md_actCounts_3))))))
def wp_Md_negatives (x1 : Int32) (md_bank : Int32) (md_opens : Int32) (md_piled : Int32) (md_acts : Nat → Int32) (md_actNumbers : Nat → Int32) (md_actCounts : Nat → Int32) (md_pile : Nat → Int32) (post : Int32 → Int32 → (Nat → Int32) → (Nat → Int32) → (Nat → Int32) → Prop) : Prop :=
  ∃ n_9, wp_Md_negatives_L0 x1 md_bank md_pile (fun md_opens_4 md_piled_5 md_acts_6 md_actNumbers_7 md_actCounts_8 => post md_opens_4 md_piled_5 md_acts_6 md_actNumbers_7 md_actCounts_8) n_9 md_opens md_piled md_acts md_actNumbers md_actCounts
set_option maxHeartbeats 4000000 in
set_option maxRecDepth 100000 in
theorem c_Md_negatives (l : Launch) (dC : Nat → ClassId) (dI : Nat → Nat → Nat) (cI cB cZ : ClassId) (adK adV : Nat → Nat) (sz : Nat) (a_md a_md_tape a_md_acts a_md_actNumbers a_md_actCounts a_md_pile a_md_begins a_md_goals a_md_ranks a_md_choiceCounts a_md_whens a_md_becomes a_md_guessCounts a_md_guesses a_md_unaryCounts a_md_stack a_md_nexts a_md_isBegin a_md_isGoal a_md_levels a_md_queue a_md_hasGuesses a_md_rounds a_md_marked a_md_other a_md_heights : Nat) (md_size : Int32) (md_at : Int32) (md_token : Int32) (md_tokenPlace : Int32) (md_number : Int32) (md_sign : Int32) (md_bad : Int32) (md_faultPlace : Int32) (md_place : Int32) (md_bank : Int32) (md_unaries : Int32) (md_opens : Int32) (md_piled : Int32) (md_loop : Int32) (md_keptBits : Int32) (md_acts : Nat → Int32) (md_actNumbers : Nat → Int32) (md_actCounts : Nat → Int32) (md_pile : Nat → Int32) (x1 : Int32) (post : Int32 → Int32 → (Nat → Int32) → (Nat → Int32) → (Nat → Int32) → Prop) (h : wp_Md_negatives x1 md_bank md_opens md_piled md_acts md_actNumbers md_actCounts md_pile post) : Met l y_Md_negatives w_Md_negatives ({ frames := 1, cells := 0, slots := 0, locals := 23 }) (pc_ (dC, dI) [(cI, .int), (cB, .byte), (cZ, .boolean)] [(a_md, .inr (11, [.ref a_md_tape, .int md_size, .int md_at, .int md_token, .int md_tokenPlace, .int md_number, .int md_sign, .int md_bad, .int md_faultPlace, .int md_place, .ref a_md_acts, .ref a_md_actNumbers, .ref a_md_actCounts, .int md_bank, .int md_unaries, .int md_opens, .ref a_md_pile, .int md_piled, .int md_loop, .ref a_md_begins, .ref a_md_goals, .ref a_md_ranks, .ref a_md_choiceCounts, .ref a_md_whens, .ref a_md_becomes, .ref a_md_guessCounts, .ref a_md_guesses, .ref a_md_unaryCounts, .ref a_md_stack, .ref a_md_nexts, .ref a_md_isBegin, .ref a_md_isGoal, .ref a_md_levels, .ref a_md_queue, .ref a_md_hasGuesses, .int md_keptBits, .ref a_md_rounds, .ref a_md_marked, .ref a_md_other, .ref a_md_heights])), (a_md_acts, .inl (cI, 3000, .inl md_acts)), (a_md_actNumbers, .inl (cI, 3000, .inl md_actNumbers)), (a_md_actCounts, .inl (cI, 3, .inl md_actCounts)), (a_md_pile, .inl (cI, 300, .inl md_pile))] sz adK adV [.ref a_md, .int x1]) (va_Qv (fun (u : Int32 × Int32 × (Nat → Int32) × (Nat → Int32) × (Nat → Int32)) => post u.1 u.2.1 u.2.2.1 u.2.2.2.1 u.2.2.2.2) (fun (u : Int32 × Int32 × (Nat → Int32) × (Nat → Int32) × (Nat → Int32)) t => bw_ (dC, dI) [(cI, .int), (cB, .byte), (cZ, .boolean)] (va_A [(a_md, .inr (11, [.ref a_md_tape, .int md_size, .int md_at, .int md_token, .int md_tokenPlace, .int md_number, .int md_sign, .int md_bad, .int md_faultPlace, .int md_place, .ref a_md_acts, .ref a_md_actNumbers, .ref a_md_actCounts, .int md_bank, .int md_unaries, .int md_opens, .ref a_md_pile, .int md_piled, .int md_loop, .ref a_md_begins, .ref a_md_goals, .ref a_md_ranks, .ref a_md_choiceCounts, .ref a_md_whens, .ref a_md_becomes, .ref a_md_guessCounts, .ref a_md_guesses, .ref a_md_unaryCounts, .ref a_md_stack, .ref a_md_nexts, .ref a_md_isBegin, .ref a_md_isGoal, .ref a_md_levels, .ref a_md_queue, .ref a_md_hasGuesses, .int md_keptBits, .ref a_md_rounds, .ref a_md_marked, .ref a_md_other, .ref a_md_heights])), (a_md_acts, .inl (cI, 3000, .inl md_acts)), (a_md_actNumbers, .inl (cI, 3000, .inl md_actNumbers)), (a_md_actCounts, .inl (cI, 3, .inl md_actCounts)), (a_md_pile, .inl (cI, 300, .inl md_pile))] sz) [(a_md, .inr (11, [.ref a_md_tape, .int md_size, .int md_at, .int md_token, .int md_tokenPlace, .int md_number, .int md_sign, .int md_bad, .int md_faultPlace, .int md_place, .ref a_md_acts, .ref a_md_actNumbers, .ref a_md_actCounts, .int md_bank, .int md_unaries, .int u.1, .ref a_md_pile, .int u.2.1, .int md_loop, .ref a_md_begins, .ref a_md_goals, .ref a_md_ranks, .ref a_md_choiceCounts, .ref a_md_whens, .ref a_md_becomes, .ref a_md_guessCounts, .ref a_md_guesses, .ref a_md_unaryCounts, .ref a_md_stack, .ref a_md_nexts, .ref a_md_isBegin, .ref a_md_isGoal, .ref a_md_levels, .ref a_md_queue, .ref a_md_hasGuesses, .int md_keptBits, .ref a_md_rounds, .ref a_md_marked, .ref a_md_other, .ref a_md_heights])), (a_md_acts, .inl (cI, 3000, .inl u.2.2.1)), (a_md_actNumbers, .inl (cI, 3000, .inl u.2.2.2.1)), (a_md_actCounts, .inl (cI, 3, .inl u.2.2.2.2)), (a_md_pile, .inl (cI, 300, .inl md_pile))] t) (va_A [(a_md, .inr (11, [.ref a_md_tape, .int md_size, .int md_at, .int md_token, .int md_tokenPlace, .int md_number, .int md_sign, .int md_bad, .int md_faultPlace, .int md_place, .ref a_md_acts, .ref a_md_actNumbers, .ref a_md_actCounts, .int md_bank, .int md_unaries, .int md_opens, .ref a_md_pile, .int md_piled, .int md_loop, .ref a_md_begins, .ref a_md_goals, .ref a_md_ranks, .ref a_md_choiceCounts, .ref a_md_whens, .ref a_md_becomes, .ref a_md_guessCounts, .ref a_md_guesses, .ref a_md_unaryCounts, .ref a_md_stack, .ref a_md_nexts, .ref a_md_isBegin, .ref a_md_isGoal, .ref a_md_levels, .ref a_md_queue, .ref a_md_hasGuesses, .int md_keptBits, .ref a_md_rounds, .ref a_md_marked, .ref a_md_other, .ref a_md_heights])), (a_md_acts, .inl (cI, 3000, .inl md_acts)), (a_md_actNumbers, .inl (cI, 3000, .inl md_actNumbers)), (a_md_actCounts, .inl (cI, 3, .inl md_actCounts)), (a_md_pile, .inl (cI, 300, .inl md_pile))] sz)) 0 0 (va_A [(a_md, .inr (11, [.ref a_md_tape, .int md_size, .int md_at, .int md_token, .int md_tokenPlace, .int md_number, .int md_sign, .int md_bad, .int md_faultPlace, .int md_place, .ref a_md_acts, .ref a_md_actNumbers, .ref a_md_actCounts, .int md_bank, .int md_unaries, .int md_opens, .ref a_md_pile, .int md_piled, .int md_loop, .ref a_md_begins, .ref a_md_goals, .ref a_md_ranks, .ref a_md_choiceCounts, .ref a_md_whens, .ref a_md_becomes, .ref a_md_guessCounts, .ref a_md_guesses, .ref a_md_unaryCounts, .ref a_md_stack, .ref a_md_nexts, .ref a_md_isBegin, .ref a_md_isGoal, .ref a_md_levels, .ref a_md_queue, .ref a_md_hasGuesses, .int md_keptBits, .ref a_md_rounds, .ref a_md_marked, .ref a_md_other, .ref a_md_heights])), (a_md_acts, .inl (cI, 3000, .inl md_acts)), (a_md_actNumbers, .inl (cI, 3000, .inl md_actNumbers)), (a_md_actCounts, .inl (cI, 3, .inl md_actCounts)), (a_md_pile, .inl (cI, 300, .inl md_pile))] sz) := by
  refine Met.ofW (cc := b_Md_negatives) (maxL := 2) (ret := none) (by decide) rfl ?_
  intro p e s m args below meth c s₁ B hml hv
  obtain ⟨rfl, hsz, hP, hK, hD0, hN, hT⟩ := hv
  have hx := B.exec
  have hb := B.bytes
  have hr := B.returns
  have hts := atoms_spec (ws := w_Md_negatives) B.pre
  have hown : s.vm.findClass "LoopInductionModel" = some m.cls := findClass_of_methodNamed B.named
  have hlocks := B.notSynchronized
  subst hsz
  have hD := hD0.self (sz := s.heap.size)
  generalize hAe : va_A [(a_md, .inr (11, [.ref a_md_tape, .int md_size, .int md_at, .int md_token, .int md_tokenPlace, .int md_number, .int md_sign, .int md_bad, .int md_faultPlace, .int md_place, .ref a_md_acts, .ref a_md_actNumbers, .ref a_md_actCounts, .int md_bank, .int md_unaries, .int md_opens, .ref a_md_pile, .int md_piled, .int md_loop, .ref a_md_begins, .ref a_md_goals, .ref a_md_ranks, .ref a_md_choiceCounts, .ref a_md_whens, .ref a_md_becomes, .ref a_md_guessCounts, .ref a_md_guesses, .ref a_md_unaryCounts, .ref a_md_stack, .ref a_md_nexts, .ref a_md_isBegin, .ref a_md_isGoal, .ref a_md_levels, .ref a_md_queue, .ref a_md_hasGuesses, .int md_keptBits, .ref a_md_rounds, .ref a_md_marked, .ref a_md_other, .ref a_md_heights])), (a_md_acts, .inl (cI, 3000, .inl md_acts)), (a_md_actNumbers, .inl (cI, 3000, .inl md_actNumbers)), (a_md_actCounts, .inl (cI, 3, .inl md_actCounts)), (a_md_pile, .inl (cI, 300, .inl md_pile))] s.heap.size = A at hD hT ⊢
  have hA : ∀ q : Nat, s.heap.size ≤ q → A q := fun q h => by rw [← hAe]; exact Or.inr h
  have hS : va_S A s.heap s.heap [] := va_S.rf
  generalize hQ : MQ below _ _ s 0 0 _ = QQ
  have hl := lv_entry ([.ref a_md, .int x1]) (n := 2) (Nat.le_of_ble_eq_true rfl)
  rw [lg_entry_eq]
  generalize (lg_sl ([.ref a_md, .int x1]) ++ List.replicate (2 - (lg_sl ([.ref a_md, .int x1])).length) Slot.unset).toArray = ls at hl ⊢
  have hl : lv_has ls 2 [(0, .ref a_md), (1, .int x1)] := hl
  have fl_27 := (hts _ (List.mem_cons_of_mem _ m_1106))
  have fl_176 := (hts _ (List.mem_cons_of_mem _ m_1107))
  have fl_179 := (hts _ (List.mem_cons_of_mem _ m_1105))
  have L0_q_6 : ∀ (k54 : (Int32) → (Int32) → (Nat → Int32) → (Nat → Int32) → (Nat → Int32) → Prop) (hk54 : ∀ (md_opens_7 : Int32) (md_piled_8 : Int32) (md_acts_9 : Nat → Int32) (md_actNumbers_10 : Nat → Int32) (md_actCounts_11 : Nat → Int32), k54 md_opens_7 md_piled_8 md_acts_9 md_actNumbers_10 md_actCounts_11 → ∀ (H : Heap) (locs : List Loc), va_P (dC, dI) vwCl [(a_md, .inr (11, [.ref a_md_tape, .int md_size, .int md_at, .int md_token, .int md_tokenPlace, .int md_number, .int md_sign, .int md_bad, .int md_faultPlace, .int md_place, .ref a_md_acts, .ref a_md_actNumbers, .ref a_md_actCounts, .int md_bank, .int md_unaries, .int md_opens_7, .ref a_md_pile, .int md_piled_8, .int md_loop, .ref a_md_begins, .ref a_md_goals, .ref a_md_ranks, .ref a_md_choiceCounts, .ref a_md_whens, .ref a_md_becomes, .ref a_md_guessCounts, .ref a_md_guesses, .ref a_md_unaryCounts, .ref a_md_stack, .ref a_md_nexts, .ref a_md_isBegin, .ref a_md_isGoal, .ref a_md_levels, .ref a_md_queue, .ref a_md_hasGuesses, .int md_keptBits, .ref a_md_rounds, .ref a_md_marked, .ref a_md_other, .ref a_md_heights])), (a_md_acts, .inl (cI, 3000, .inl md_acts_9)), (a_md_actNumbers, .inl (cI, 3000, .inl md_actNumbers_10)), (a_md_actCounts, .inl (cI, 3, .inl md_actCounts_11)), (a_md_pile, .inl (cI, 300, .inl md_pile))] H → va_D A [(a_md, .inr (11, [.ref a_md_tape, .int md_size, .int md_at, .int md_token, .int md_tokenPlace, .int md_number, .int md_sign, .int md_bad, .int md_faultPlace, .int md_place, .ref a_md_acts, .ref a_md_actNumbers, .ref a_md_actCounts, .int md_bank, .int md_unaries, .int md_opens_7, .ref a_md_pile, .int md_piled_8, .int md_loop, .ref a_md_begins, .ref a_md_goals, .ref a_md_ranks, .ref a_md_choiceCounts, .ref a_md_whens, .ref a_md_becomes, .ref a_md_guessCounts, .ref a_md_guesses, .ref a_md_unaryCounts, .ref a_md_stack, .ref a_md_nexts, .ref a_md_isBegin, .ref a_md_isGoal, .ref a_md_levels, .ref a_md_queue, .ref a_md_hasGuesses, .int md_keptBits, .ref a_md_rounds, .ref a_md_marked, .ref a_md_other, .ref a_md_heights])), (a_md_acts, .inl (cI, 3000, .inl md_acts_9)), (a_md_actNumbers, .inl (cI, 3000, .inl md_actNumbers_10)), (a_md_actCounts, .inl (cI, 3, .inl md_actCounts_11)), (a_md_pile, .inl (cI, 300, .inl md_pile))] → va_S A s.heap H locs → ∀ ls : Array Slot, lv_has ls 2 [] → W p l e (headSpec w_Md_negatives ({ frames := 1, cells := 0, slots := 0, locals := 23 })).room s m (([.ref a_md, .int x1] : List Value).toArray) below meth c H locs 0 0 QQ (F0 m 54 ls [])) (n : Nat) (md_opens_1 : Int32) (md_piled_2 : Int32) (md_acts_3 : Nat → Int32) (md_actNumbers_4 : Nat → Int32) (md_actCounts_5 : Nat → Int32), wp_Md_negatives_L0 x1 md_bank md_pile k54 n md_opens_1 md_piled_2 md_acts_3 md_actNumbers_4 md_actCounts_5 → ∀ (H : Heap) (locs : List Loc), va_P (dC, dI) vwCl [(a_md, .inr (11, [.ref a_md_tape, .int md_size, .int md_at, .int md_token, .int md_tokenPlace, .int md_number, .int md_sign, .int md_bad, .int md_faultPlace, .int md_place, .ref a_md_acts, .ref a_md_actNumbers, .ref a_md_actCounts, .int md_bank, .int md_unaries, .int md_opens_1, .ref a_md_pile, .int md_piled_2, .int md_loop, .ref a_md_begins, .ref a_md_goals, .ref a_md_ranks, .ref a_md_choiceCounts, .ref a_md_whens, .ref a_md_becomes, .ref a_md_guessCounts, .ref a_md_guesses, .ref a_md_unaryCounts, .ref a_md_stack, .ref a_md_nexts, .ref a_md_isBegin, .ref a_md_isGoal, .ref a_md_levels, .ref a_md_queue, .ref a_md_hasGuesses, .int md_keptBits, .ref a_md_rounds, .ref a_md_marked, .ref a_md_other, .ref a_md_heights])), (a_md_acts, .inl (cI, 3000, .inl md_acts_3)), (a_md_actNumbers, .inl (cI, 3000, .inl md_actNumbers_4)), (a_md_actCounts, .inl (cI, 3, .inl md_actCounts_5)), (a_md_pile, .inl (cI, 300, .inl md_pile))] H → va_D A [(a_md, .inr (11, [.ref a_md_tape, .int md_size, .int md_at, .int md_token, .int md_tokenPlace, .int md_number, .int md_sign, .int md_bad, .int md_faultPlace, .int md_place, .ref a_md_acts, .ref a_md_actNumbers, .ref a_md_actCounts, .int md_bank, .int md_unaries, .int md_opens_1, .ref a_md_pile, .int md_piled_2, .int md_loop, .ref a_md_begins, .ref a_md_goals, .ref a_md_ranks, .ref a_md_choiceCounts, .ref a_md_whens, .ref a_md_becomes, .ref a_md_guessCounts, .ref a_md_guesses, .ref a_md_unaryCounts, .ref a_md_stack, .ref a_md_nexts, .ref a_md_isBegin, .ref a_md_isGoal, .ref a_md_levels, .ref a_md_queue, .ref a_md_hasGuesses, .int md_keptBits, .ref a_md_rounds, .ref a_md_marked, .ref a_md_other, .ref a_md_heights])), (a_md_acts, .inl (cI, 3000, .inl md_acts_3)), (a_md_actNumbers, .inl (cI, 3000, .inl md_actNumbers_4)), (a_md_actCounts, .inl (cI, 3, .inl md_actCounts_5)), (a_md_pile, .inl (cI, 300, .inl md_pile))] → va_S A s.heap H locs → ∀ ls : Array Slot, lv_has ls 2 [(0, .ref a_md), (1, .int x1)] → W p l e (headSpec w_Md_negatives ({ frames := 1, cells := 0, slots := 0, locals := 23 })).room s m (([.ref a_md, .int x1] : List Value).toArray) below meth c H locs 0 0 QQ (F0 m 0 ls []) := by
    intro k54 hk54 n
    induction n with
    | zero => intro md_opens_1 md_piled_2 md_acts_3 md_actNumbers_4 md_actCounts_5 h; exact (show False from h).elim
    | succ n il =>
      intro md_opens_1 md_piled_2 md_acts_3 md_actNumbers_4 md_actCounts_5 h H locs hP hD hS ls hl
      refine lv_aload_n hx hb d_Md_negatives_0 rfl (lv_at hl 0 rfl) ?_
      refine va_get (D := (dC, dI)) (ci := 11) (v := .int md_piled_2) (C := "LoopInductionModel") (T := F_Md) (N := 40) hx hb hts iC_Md hown hK hP 0 rfl rfl 17 (by decide) fl_176 (fun _ h9 => h9) rfl d_Md_negatives_1 ?_
      refine lv_iload_n hx hb d_Md_negatives_4 rfl (lv_at hl 1 rfl) ?_
      refine lv_icmp_le (tgt := 54) hx hb d_Md_negatives_5 (by decide) (fun c_5 => ?_) (fun c_5 => ?_)
      · have h := And.left h c_5
        exact hk54 _ _ _ _ _ h _ _ hP hD hS _ (lv_sub hl [] rfl)
      · have h := And.right h c_5
        refine lv_aload_n hx hb d_Md_negatives_8 rfl (lv_at hl 0 rfl) ?_
        refine va_get (D := (dC, dI)) (ci := 11) (v := .ref a_md_pile) (C := "LoopInductionModel") (T := F_Md) (N := 40) hx hb hts iC_Md hown hK hP 0 rfl rfl 16 (by decide) fl_27 (fun _ h9 => h9) rfl d_Md_negatives_9 ?_
        refine lv_aload_n hx hb d_Md_negatives_12 rfl (lv_at hl 0 rfl) ?_
        refine va_get (D := (dC, dI)) (ci := 11) (v := .int md_piled_2) (C := "LoopInductionModel") (T := F_Md) (N := 40) hx hb hts iC_Md hown hK hP 0 rfl rfl 17 (by decide) fl_176 (fun _ h9 => h9) rfl d_Md_negatives_13 ?_
        refine lv_iconst (v := 1) hx hb d_Md_negatives_16 (by decide) ?_
        refine lv_isub hx hb d_Md_negatives_17 ?_
        obtain ⟨hin_18, h⟩ := h
        refine va_iald hx hb hK hP 4 0 rfl rfl hin_18 d_Md_negatives_18 ?_
        refine lv_sipush (v := 1000) hx hb d_Md_negatives_19 (by decide) ?_
        refine lv_icmp_ne (tgt := 54) hx hb d_Md_negatives_22 (by decide) (fun c_22 => ?_) (fun c_22 => ?_)
        · have h := And.left h c_22
          exact hk54 _ _ _ _ _ h _ _ hP hD hS _ (lv_sub hl [] rfl)
        · have h := And.right h c_22
          refine lv_aload_n hx hb d_Md_negatives_25 rfl (lv_at hl 0 rfl) ?_
          refine lv_dup hx hb d_Md_negatives_26 rfl ?_
          refine va_get (D := (dC, dI)) (ci := 11) (v := .int md_piled_2) (C := "LoopInductionModel") (T := F_Md) (N := 40) hx hb hts iC_Md hown hK hP 0 rfl rfl 17 (by decide) fl_176 (fun _ h9 => h9) rfl d_Md_negatives_27 ?_
          refine lv_iconst (v := 1) hx hb d_Md_negatives_30 (by decide) ?_
          refine lv_isub hx hb d_Md_negatives_31 ?_
          refine va_put (D := (dC, dI)) (ci := 11) (v := .int (md_piled_2 - 1)) (ty := .int) (C := "LoopInductionModel") (T := F_Md) (N := 40) hx hb hts iC_Md t_Md t_Md_ok n_Md hown hK hP hD hS 0 rfl rfl 17 (by decide) fl_176 (fun _ h9 => h9) rfl (by decide +kernel) rfl rfl (Nat.le_of_ble_eq_true rfl) d_Md_negatives_32 (fun H locs hP hD hS => ?_)
          have hP : va_P (dC, dI) vwCl [(a_md, .inr (11, [.ref a_md_tape, .int md_size, .int md_at, .int md_token, .int md_tokenPlace, .int md_number, .int md_sign, .int md_bad, .int md_faultPlace, .int md_place, .ref a_md_acts, .ref a_md_actNumbers, .ref a_md_actCounts, .int md_bank, .int md_unaries, .int md_opens_1, .ref a_md_pile, .int (md_piled_2 - 1), .int md_loop, .ref a_md_begins, .ref a_md_goals, .ref a_md_ranks, .ref a_md_choiceCounts, .ref a_md_whens, .ref a_md_becomes, .ref a_md_guessCounts, .ref a_md_guesses, .ref a_md_unaryCounts, .ref a_md_stack, .ref a_md_nexts, .ref a_md_isBegin, .ref a_md_isGoal, .ref a_md_levels, .ref a_md_queue, .ref a_md_hasGuesses, .int md_keptBits, .ref a_md_rounds, .ref a_md_marked, .ref a_md_other, .ref a_md_heights])), (a_md_acts, .inl (cI, 3000, .inl md_acts_3)), (a_md_actNumbers, .inl (cI, 3000, .inl md_actNumbers_4)), (a_md_actCounts, .inl (cI, 3, .inl md_actCounts_5)), (a_md_pile, .inl (cI, 300, .inl md_pile))] H := hP
          have hD : va_D A [(a_md, .inr (11, [.ref a_md_tape, .int md_size, .int md_at, .int md_token, .int md_tokenPlace, .int md_number, .int md_sign, .int md_bad, .int md_faultPlace, .int md_place, .ref a_md_acts, .ref a_md_actNumbers, .ref a_md_actCounts, .int md_bank, .int md_unaries, .int md_opens_1, .ref a_md_pile, .int (md_piled_2 - 1), .int md_loop, .ref a_md_begins, .ref a_md_goals, .ref a_md_ranks, .ref a_md_choiceCounts, .ref a_md_whens, .ref a_md_becomes, .ref a_md_guessCounts, .ref a_md_guesses, .ref a_md_unaryCounts, .ref a_md_stack, .ref a_md_nexts, .ref a_md_isBegin, .ref a_md_isGoal, .ref a_md_levels, .ref a_md_queue, .ref a_md_hasGuesses, .int md_keptBits, .ref a_md_rounds, .ref a_md_marked, .ref a_md_other, .ref a_md_heights])), (a_md_acts, .inl (cI, 3000, .inl md_acts_3)), (a_md_actNumbers, .inl (cI, 3000, .inl md_actNumbers_4)), (a_md_actCounts, .inl (cI, 3, .inl md_actCounts_5)), (a_md_pile, .inl (cI, 300, .inl md_pile))] := hD
          refine lv_aload_n hx hb d_Md_negatives_35 rfl (lv_at hl 0 rfl) ?_
          refine lv_dup hx hb d_Md_negatives_36 rfl ?_
          refine va_get (D := (dC, dI)) (ci := 11) (v := .int md_opens_1) (C := "LoopInductionModel") (T := F_Md) (N := 40) hx hb hts iC_Md hown hK hP 0 rfl rfl 15 (by decide) fl_179 (fun _ h9 => h9) rfl d_Md_negatives_37 ?_
          refine lv_iconst (v := 1) hx hb d_Md_negatives_40 (by decide) ?_
          refine lv_isub hx hb d_Md_negatives_41 ?_
          refine va_put (D := (dC, dI)) (ci := 11) (v := .int (md_opens_1 - 1)) (ty := .int) (C := "LoopInductionModel") (T := F_Md) (N := 40) hx hb hts iC_Md t_Md t_Md_ok n_Md hown hK hP hD hS 0 rfl rfl 15 (by decide) fl_179 (fun _ h9 => h9) rfl (by decide +kernel) rfl rfl (Nat.le_of_ble_eq_true rfl) d_Md_negatives_42 (fun H locs hP hD hS => ?_)
          have hP : va_P (dC, dI) vwCl [(a_md, .inr (11, [.ref a_md_tape, .int md_size, .int md_at, .int md_token, .int md_tokenPlace, .int md_number, .int md_sign, .int md_bad, .int md_faultPlace, .int md_place, .ref a_md_acts, .ref a_md_actNumbers, .ref a_md_actCounts, .int md_bank, .int md_unaries, .int (md_opens_1 - 1), .ref a_md_pile, .int (md_piled_2 - 1), .int md_loop, .ref a_md_begins, .ref a_md_goals, .ref a_md_ranks, .ref a_md_choiceCounts, .ref a_md_whens, .ref a_md_becomes, .ref a_md_guessCounts, .ref a_md_guesses, .ref a_md_unaryCounts, .ref a_md_stack, .ref a_md_nexts, .ref a_md_isBegin, .ref a_md_isGoal, .ref a_md_levels, .ref a_md_queue, .ref a_md_hasGuesses, .int md_keptBits, .ref a_md_rounds, .ref a_md_marked, .ref a_md_other, .ref a_md_heights])), (a_md_acts, .inl (cI, 3000, .inl md_acts_3)), (a_md_actNumbers, .inl (cI, 3000, .inl md_actNumbers_4)), (a_md_actCounts, .inl (cI, 3, .inl md_actCounts_5)), (a_md_pile, .inl (cI, 300, .inl md_pile))] H := hP
          have hD : va_D A [(a_md, .inr (11, [.ref a_md_tape, .int md_size, .int md_at, .int md_token, .int md_tokenPlace, .int md_number, .int md_sign, .int md_bad, .int md_faultPlace, .int md_place, .ref a_md_acts, .ref a_md_actNumbers, .ref a_md_actCounts, .int md_bank, .int md_unaries, .int (md_opens_1 - 1), .ref a_md_pile, .int (md_piled_2 - 1), .int md_loop, .ref a_md_begins, .ref a_md_goals, .ref a_md_ranks, .ref a_md_choiceCounts, .ref a_md_whens, .ref a_md_becomes, .ref a_md_guessCounts, .ref a_md_guesses, .ref a_md_unaryCounts, .ref a_md_stack, .ref a_md_nexts, .ref a_md_isBegin, .ref a_md_isGoal, .ref a_md_levels, .ref a_md_queue, .ref a_md_hasGuesses, .int md_keptBits, .ref a_md_rounds, .ref a_md_marked, .ref a_md_other, .ref a_md_heights])), (a_md_acts, .inl (cI, 3000, .inl md_acts_3)), (a_md_actNumbers, .inl (cI, 3000, .inl md_actNumbers_4)), (a_md_actCounts, .inl (cI, 3, .inl md_actCounts_5)), (a_md_pile, .inl (cI, 300, .inl md_pile))] := hD
          refine lv_aload_n hx hb d_Md_negatives_45 rfl (lv_at hl 0 rfl) ?_
          refine lv_iconst (v := 3) hx hb d_Md_negatives_46 (by decide) ?_
          refine lv_iconst (v := 0) hx hb d_Md_negatives_47 (by decide) ?_
          refine jn_v (wr := [(a_md_pile, .inl (cI, 300, .inl md_pile))]) (va_runV (As := [.int 3, .int 0]) (rest := []) ⟨hx, hb, hml, hown, hts⟩ (c_Md_act l dC dI cI cB cZ adK adV _ a_md a_md_tape a_md_acts a_md_actNumbers a_md_actCounts a_md_pile a_md_begins a_md_goals a_md_ranks a_md_choiceCounts a_md_whens a_md_becomes a_md_guessCounts a_md_guesses a_md_unaryCounts a_md_stack a_md_nexts a_md_isBegin a_md_isGoal a_md_levels a_md_queue a_md_hasGuesses a_md_rounds a_md_marked a_md_other a_md_heights md_size md_at md_token md_tokenPlace md_number md_sign md_bad md_faultPlace md_place md_bank md_unaries (md_opens_1 - 1) (md_piled_2 - 1) md_loop md_keptBits md_acts_3 md_actNumbers_4 md_actCounts_5 3 0 _ h) (cwV 2 hts (gv_ m_1292 m_1294 m_62 m_96 m_1295) rfl rfl rfl pd_Md_act ⟨Nat.le_of_ble_eq_true rfl, Nat.le_of_ble_eq_true rfl⟩) ⟨pc_blind, va_recv hK hP (ci := 11) (q0 := 0) rfl rfl, pc_of (hP.sub [0, 1, 2, 3] rfl) hK (hD.sub [0, 1, 2, 3] (by decide) rfl) hN hT hS hA⟩ rfl rfl hl.1 rfl (lv_room (Nat.le_of_ble_eq_true rfl)) d_Md_negatives_48 ⟨Nat.zero_le _, Nat.zero_le _⟩) hP hD hS hA [0, 1, 2, 3] [4] rfl rfl (by decide) (by decide) (fun u_ H locs h hP hD hS => ?_)
          obtain ⟨md_acts_12, md_actNumbers_13, md_actCounts_14⟩ := u_
          have hP : va_P (dC, dI) vwCl [(a_md_pile, .inl (cI, 300, .inl md_pile)), (a_md, .inr (11, [.ref a_md_tape, .int md_size, .int md_at, .int md_token, .int md_tokenPlace, .int md_number, .int md_sign, .int md_bad, .int md_faultPlace, .int md_place, .ref a_md_acts, .ref a_md_actNumbers, .ref a_md_actCounts, .int md_bank, .int md_unaries, .int (md_opens_1 - 1), .ref a_md_pile, .int (md_piled_2 - 1), .int md_loop, .ref a_md_begins, .ref a_md_goals, .ref a_md_ranks, .ref a_md_choiceCounts, .ref a_md_whens, .ref a_md_becomes, .ref a_md_guessCounts, .ref a_md_guesses, .ref a_md_unaryCounts, .ref a_md_stack, .ref a_md_nexts, .ref a_md_isBegin, .ref a_md_isGoal, .ref a_md_levels, .ref a_md_queue, .ref a_md_hasGuesses, .int md_keptBits, .ref a_md_rounds, .ref a_md_marked, .ref a_md_other, .ref a_md_heights])), (a_md_acts, .inl (cI, 3000, .inl md_acts_12)), (a_md_actNumbers, .inl (cI, 3000, .inl md_actNumbers_13)), (a_md_actCounts, .inl (cI, 3, .inl md_actCounts_14))] H := hP
          have hD : va_D A [(a_md_pile, .inl (cI, 300, .inl md_pile)), (a_md, .inr (11, [.ref a_md_tape, .int md_size, .int md_at, .int md_token, .int md_tokenPlace, .int md_number, .int md_sign, .int md_bad, .int md_faultPlace, .int md_place, .ref a_md_acts, .ref a_md_actNumbers, .ref a_md_actCounts, .int md_bank, .int md_unaries, .int (md_opens_1 - 1), .ref a_md_pile, .int (md_piled_2 - 1), .int md_loop, .ref a_md_begins, .ref a_md_goals, .ref a_md_ranks, .ref a_md_choiceCounts, .ref a_md_whens, .ref a_md_becomes, .ref a_md_guessCounts, .ref a_md_guesses, .ref a_md_unaryCounts, .ref a_md_stack, .ref a_md_nexts, .ref a_md_isBegin, .ref a_md_isGoal, .ref a_md_levels, .ref a_md_queue, .ref a_md_hasGuesses, .int md_keptBits, .ref a_md_rounds, .ref a_md_marked, .ref a_md_other, .ref a_md_heights])), (a_md_acts, .inl (cI, 3000, .inl md_acts_12)), (a_md_actNumbers, .inl (cI, 3000, .inl md_actNumbers_13)), (a_md_actCounts, .inl (cI, 3, .inl md_actCounts_14))] := hD
          refine lv_goto (tgt := 0) hx hb d_Md_negatives_51 (by decide) ?_
          exact il _ _ _ _ _ h _ _ (hP.sub [1, 2, 3, 4, 0] rfl) (hD.sub [1, 2, 3, 4, 0] (by decide) rfl) hS _ hl
  obtain ⟨n_, h⟩ := h
  refine L0_q_6 _ ?_ n_ _ _ _ _ _ h _ _ hP hD hS _ hl
  intro md_opens_15 md_piled_16 md_acts_17 md_actNumbers_18 md_actCounts_19 h H locs hP hD hS ls hl
  subst hQ
  have hP9 := hP
  have hD9 := hD
  exact W.vret hx hb hr (fun t ht hW => ⟨⟨(md_opens_15, md_piled_16, md_acts_17, md_actNumbers_18, md_actCounts_19), rfl, h, by rw [ht]; exact hP9, va_K.moved hW.alike hK, hD9⟩, hS.F ht⟩) hS.2.2 d_Md_negatives_54
def wp_Md_isOpened (md_tokenPlace : Int32) (md_bad : Int32) (md_faultPlace : Int32) (md_opens : Int32) (post : Int32 → Int32 → Int32 → Int32 → Prop) : Prop :=
  ((¬ (md_opens : Int32) = (8 : Int32) → post 1 md_bad md_faultPlace (md_opens + 1)) ∧ ((md_opens : Int32) = (8 : Int32) → wp_Md_misplaced md_tokenPlace md_bad md_faultPlace (fun md_bad_1 md_faultPlace_2 => post 0 md_bad_1 md_faultPlace_2 md_opens)))
set_option maxHeartbeats 4000000 in
set_option maxRecDepth 100000 in
theorem c_Md_isOpened (l : Launch) (dC : Nat → ClassId) (dI : Nat → Nat → Nat) (cI cB cZ : ClassId) (adK adV : Nat → Nat) (sz : Nat) (a_md a_md_tape a_md_acts a_md_actNumbers a_md_actCounts a_md_pile a_md_begins a_md_goals a_md_ranks a_md_choiceCounts a_md_whens a_md_becomes a_md_guessCounts a_md_guesses a_md_unaryCounts a_md_stack a_md_nexts a_md_isBegin a_md_isGoal a_md_levels a_md_queue a_md_hasGuesses a_md_rounds a_md_marked a_md_other a_md_heights : Nat) (md_size : Int32) (md_at : Int32) (md_token : Int32) (md_tokenPlace : Int32) (md_number : Int32) (md_sign : Int32) (md_bad : Int32) (md_faultPlace : Int32) (md_place : Int32) (md_bank : Int32) (md_unaries : Int32) (md_opens : Int32) (md_piled : Int32) (md_loop : Int32) (md_keptBits : Int32) (post : Int32 → Int32 → Int32 → Int32 → Prop) (h : wp_Md_isOpened md_tokenPlace md_bad md_faultPlace md_opens post) : Met l y_Md_isOpened w_Md_isOpened ({ frames := 1, cells := 0, slots := 0, locals := 20 }) (pc_ (dC, dI) [(cI, .int), (cB, .byte), (cZ, .boolean)] [(a_md, .inr (11, [.ref a_md_tape, .int md_size, .int md_at, .int md_token, .int md_tokenPlace, .int md_number, .int md_sign, .int md_bad, .int md_faultPlace, .int md_place, .ref a_md_acts, .ref a_md_actNumbers, .ref a_md_actCounts, .int md_bank, .int md_unaries, .int md_opens, .ref a_md_pile, .int md_piled, .int md_loop, .ref a_md_begins, .ref a_md_goals, .ref a_md_ranks, .ref a_md_choiceCounts, .ref a_md_whens, .ref a_md_becomes, .ref a_md_guessCounts, .ref a_md_guesses, .ref a_md_unaryCounts, .ref a_md_stack, .ref a_md_nexts, .ref a_md_isBegin, .ref a_md_isGoal, .ref a_md_levels, .ref a_md_queue, .ref a_md_hasGuesses, .int md_keptBits, .ref a_md_rounds, .ref a_md_marked, .ref a_md_other, .ref a_md_heights]))] sz adK adV [.ref a_md]) (va_Qi (fun (r : Int32) (u : Int32 × Int32 × Int32) => post r u.1 u.2.1 u.2.2) (fun (u : Int32 × Int32 × Int32) t => bw_ (dC, dI) [(cI, .int), (cB, .byte), (cZ, .boolean)] (va_A [(a_md, .inr (11, [.ref a_md_tape, .int md_size, .int md_at, .int md_token, .int md_tokenPlace, .int md_number, .int md_sign, .int md_bad, .int md_faultPlace, .int md_place, .ref a_md_acts, .ref a_md_actNumbers, .ref a_md_actCounts, .int md_bank, .int md_unaries, .int md_opens, .ref a_md_pile, .int md_piled, .int md_loop, .ref a_md_begins, .ref a_md_goals, .ref a_md_ranks, .ref a_md_choiceCounts, .ref a_md_whens, .ref a_md_becomes, .ref a_md_guessCounts, .ref a_md_guesses, .ref a_md_unaryCounts, .ref a_md_stack, .ref a_md_nexts, .ref a_md_isBegin, .ref a_md_isGoal, .ref a_md_levels, .ref a_md_queue, .ref a_md_hasGuesses, .int md_keptBits, .ref a_md_rounds, .ref a_md_marked, .ref a_md_other, .ref a_md_heights]))] sz) [(a_md, .inr (11, [.ref a_md_tape, .int md_size, .int md_at, .int md_token, .int md_tokenPlace, .int md_number, .int md_sign, .int u.1, .int u.2.1, .int md_place, .ref a_md_acts, .ref a_md_actNumbers, .ref a_md_actCounts, .int md_bank, .int md_unaries, .int u.2.2, .ref a_md_pile, .int md_piled, .int md_loop, .ref a_md_begins, .ref a_md_goals, .ref a_md_ranks, .ref a_md_choiceCounts, .ref a_md_whens, .ref a_md_becomes, .ref a_md_guessCounts, .ref a_md_guesses, .ref a_md_unaryCounts, .ref a_md_stack, .ref a_md_nexts, .ref a_md_isBegin, .ref a_md_isGoal, .ref a_md_levels, .ref a_md_queue, .ref a_md_hasGuesses, .int md_keptBits, .ref a_md_rounds, .ref a_md_marked, .ref a_md_other, .ref a_md_heights]))] t) (va_A [(a_md, .inr (11, [.ref a_md_tape, .int md_size, .int md_at, .int md_token, .int md_tokenPlace, .int md_number, .int md_sign, .int md_bad, .int md_faultPlace, .int md_place, .ref a_md_acts, .ref a_md_actNumbers, .ref a_md_actCounts, .int md_bank, .int md_unaries, .int md_opens, .ref a_md_pile, .int md_piled, .int md_loop, .ref a_md_begins, .ref a_md_goals, .ref a_md_ranks, .ref a_md_choiceCounts, .ref a_md_whens, .ref a_md_becomes, .ref a_md_guessCounts, .ref a_md_guesses, .ref a_md_unaryCounts, .ref a_md_stack, .ref a_md_nexts, .ref a_md_isBegin, .ref a_md_isGoal, .ref a_md_levels, .ref a_md_queue, .ref a_md_hasGuesses, .int md_keptBits, .ref a_md_rounds, .ref a_md_marked, .ref a_md_other, .ref a_md_heights]))] sz)) 0 0 (va_A [(a_md, .inr (11, [.ref a_md_tape, .int md_size, .int md_at, .int md_token, .int md_tokenPlace, .int md_number, .int md_sign, .int md_bad, .int md_faultPlace, .int md_place, .ref a_md_acts, .ref a_md_actNumbers, .ref a_md_actCounts, .int md_bank, .int md_unaries, .int md_opens, .ref a_md_pile, .int md_piled, .int md_loop, .ref a_md_begins, .ref a_md_goals, .ref a_md_ranks, .ref a_md_choiceCounts, .ref a_md_whens, .ref a_md_becomes, .ref a_md_guessCounts, .ref a_md_guesses, .ref a_md_unaryCounts, .ref a_md_stack, .ref a_md_nexts, .ref a_md_isBegin, .ref a_md_isGoal, .ref a_md_levels, .ref a_md_queue, .ref a_md_hasGuesses, .int md_keptBits, .ref a_md_rounds, .ref a_md_marked, .ref a_md_other, .ref a_md_heights]))] sz) := by
  refine Met.ofW (cc := b_Md_isOpened) (maxL := 1) (ret := (some .boolean)) (by decide) rfl ?_
  intro p e s m args below meth c s₁ B hml hv
  obtain ⟨rfl, hsz, hP, hK, hD0, hN, hT⟩ := hv
  have hx := B.exec
  have hb := B.bytes
  have hr := B.returns
  have hts := atoms_spec (ws := w_Md_isOpened) B.pre
  have hown : s.vm.findClass "LoopInductionModel" = some m.cls := findClass_of_methodNamed B.named
  have hlocks := B.notSynchronized
  subst hsz
  have hD := hD0.self (sz := s.heap.size)
  generalize hAe : va_A [(a_md, .inr (11, [.ref a_md_tape, .int md_size, .int md_at, .int md_token, .int md_tokenPlace, .int md_number, .int md_sign, .int md_bad, .int md_faultPlace, .int md_place, .ref a_md_acts, .ref a_md_actNumbers, .ref a_md_actCounts, .int md_bank, .int md_unaries, .int md_opens, .ref a_md_pile, .int md_piled, .int md_loop, .ref a_md_begins, .ref a_md_goals, .ref a_md_ranks, .ref a_md_choiceCounts, .ref a_md_whens, .ref a_md_becomes, .ref a_md_guessCounts, .ref a_md_guesses, .ref a_md_unaryCounts, .ref a_md_stack, .ref a_md_nexts, .ref a_md_isBegin, .ref a_md_isGoal, .ref a_md_levels, .ref a_md_queue, .ref a_md_hasGuesses, .int md_keptBits, .ref a_md_rounds, .ref a_md_marked, .ref a_md_other, .ref a_md_heights]))] s.heap.size = A at hD hT ⊢
  have hA : ∀ q : Nat, s.heap.size ≤ q → A q := fun q h => by rw [← hAe]; exact Or.inr h
  have hS : va_S A s.heap s.heap [] := va_S.rf
  generalize hQ : MQ below _ _ s 0 0 _ = QQ
  have hl := lv_entry ([.ref a_md]) (n := 1) (Nat.le_of_ble_eq_true rfl)
  rw [lg_entry_eq]
  generalize (lg_sl ([.ref a_md]) ++ List.replicate (1 - (lg_sl ([.ref a_md])).length) Slot.unset).toArray = ls at hl ⊢
  have hl : lv_has ls 1 [(0, .ref a_md)] := hl
  have fl_179 := (hts _ (List.mem_cons_of_mem _ m_1105))
  refine lv_aload_n hx hb d_Md_isOpened_0 rfl (lv_at hl 0 rfl) ?_
  refine va_get (D := (dC, dI)) (ci := 11) (v := .int md_opens) (C := "LoopInductionModel") (T := F_Md) (N := 40) hx hb hts iC_Md hown hK hP 0 rfl rfl 15 (by decide) fl_179 (fun _ h9 => h9) rfl d_Md_isOpened_1 ?_
  refine lv_bipush (v := 8) hx hb d_Md_isOpened_4 (by decide) ?_
  refine lv_icmp_ne (tgt := 15) hx hb d_Md_isOpened_6 (by decide) (fun c_6 => ?_) (fun c_6 => ?_)
  · have h := And.left h c_6
    refine lv_aload_n hx hb d_Md_isOpened_15 rfl (lv_at hl 0 rfl) ?_
    refine lv_dup hx hb d_Md_isOpened_16 rfl ?_
    refine va_get (D := (dC, dI)) (ci := 11) (v := .int md_opens) (C := "LoopInductionModel") (T := F_Md) (N := 40) hx hb hts iC_Md hown hK hP 0 rfl rfl 15 (by decide) fl_179 (fun _ h9 => h9) rfl d_Md_isOpened_17 ?_
    refine lv_iconst (v := 1) hx hb d_Md_isOpened_20 (by decide) ?_
    refine lv_iadd hx hb d_Md_isOpened_21 ?_
    refine va_put (D := (dC, dI)) (ci := 11) (v := .int (md_opens + 1)) (ty := .int) (C := "LoopInductionModel") (T := F_Md) (N := 40) hx hb hts iC_Md t_Md t_Md_ok n_Md hown hK hP hD hS 0 rfl rfl 15 (by decide) fl_179 (fun _ h9 => h9) rfl (by decide +kernel) rfl rfl (Nat.le_of_ble_eq_true rfl) d_Md_isOpened_22 (fun H locs hP hD hS => ?_)
    have hP : va_P (dC, dI) vwCl [(a_md, .inr (11, [.ref a_md_tape, .int md_size, .int md_at, .int md_token, .int md_tokenPlace, .int md_number, .int md_sign, .int md_bad, .int md_faultPlace, .int md_place, .ref a_md_acts, .ref a_md_actNumbers, .ref a_md_actCounts, .int md_bank, .int md_unaries, .int (md_opens + 1), .ref a_md_pile, .int md_piled, .int md_loop, .ref a_md_begins, .ref a_md_goals, .ref a_md_ranks, .ref a_md_choiceCounts, .ref a_md_whens, .ref a_md_becomes, .ref a_md_guessCounts, .ref a_md_guesses, .ref a_md_unaryCounts, .ref a_md_stack, .ref a_md_nexts, .ref a_md_isBegin, .ref a_md_isGoal, .ref a_md_levels, .ref a_md_queue, .ref a_md_hasGuesses, .int md_keptBits, .ref a_md_rounds, .ref a_md_marked, .ref a_md_other, .ref a_md_heights]))] H := hP
    have hD : va_D A [(a_md, .inr (11, [.ref a_md_tape, .int md_size, .int md_at, .int md_token, .int md_tokenPlace, .int md_number, .int md_sign, .int md_bad, .int md_faultPlace, .int md_place, .ref a_md_acts, .ref a_md_actNumbers, .ref a_md_actCounts, .int md_bank, .int md_unaries, .int (md_opens + 1), .ref a_md_pile, .int md_piled, .int md_loop, .ref a_md_begins, .ref a_md_goals, .ref a_md_ranks, .ref a_md_choiceCounts, .ref a_md_whens, .ref a_md_becomes, .ref a_md_guessCounts, .ref a_md_guesses, .ref a_md_unaryCounts, .ref a_md_stack, .ref a_md_nexts, .ref a_md_isBegin, .ref a_md_isGoal, .ref a_md_levels, .ref a_md_queue, .ref a_md_hasGuesses, .int md_keptBits, .ref a_md_rounds, .ref a_md_marked, .ref a_md_other, .ref a_md_heights]))] := hD
    refine lv_iconst (v := 1) hx hb d_Md_isOpened_25 (by decide) ?_
    subst hQ
    have hP9 := hP
    have hD9 := hD
    exact W.zret (v := 1) hx hb hr rfl (fun t ht hW => ⟨⟨1, (md_bad, md_faultPlace, md_opens + 1), rfl, h, by rw [ht]; exact hP9, va_K.moved hW.alike hK, hD9⟩, hS.F ht⟩) hS.2.2 d_Md_isOpened_26
  · have h := And.right h c_6
    refine lv_aload_n hx hb d_Md_isOpened_9 rfl (lv_at hl 0 rfl) ?_
    refine jn_v (wr := []) (va_runV (As := []) (rest := []) ⟨hx, hb, hml, hown, hts⟩ (c_Md_misplaced l dC dI cI cB cZ adK adV _ a_md a_md_tape a_md_acts a_md_actNumbers a_md_actCounts a_md_pile a_md_begins a_md_goals a_md_ranks a_md_choiceCounts a_md_whens a_md_becomes a_md_guessCounts a_md_guesses a_md_unaryCounts a_md_stack a_md_nexts a_md_isBegin a_md_isGoal a_md_levels a_md_queue a_md_hasGuesses a_md_rounds a_md_marked a_md_other a_md_heights md_size md_at md_token md_tokenPlace md_number md_sign md_bad md_faultPlace md_place md_bank md_unaries md_opens md_piled md_loop md_keptBits _ h) (cwV 0 hts (gv_ m_1268 m_1270 m_56 m_96 m_1271) rfl rfl rfl pd_Md_misplaced ⟨Nat.le_of_ble_eq_true rfl, Nat.le_of_ble_eq_true rfl⟩) ⟨pc_blind, va_recv hK hP (ci := 11) (q0 := 0) rfl rfl, pc_of (hP.sub [0] rfl) hK (hD.sub [0] (by decide) rfl) hN hT hS hA⟩ rfl rfl hl.1 rfl (lv_room (Nat.le_of_ble_eq_true rfl)) d_Md_isOpened_10 ⟨Nat.zero_le _, Nat.zero_le _⟩) hP hD hS hA [0] [] rfl rfl (by decide) (by decide) (fun u_ H locs h hP hD hS => ?_)
    obtain ⟨md_bad_1, md_faultPlace_2⟩ := u_
    have hP : va_P (dC, dI) vwCl [(a_md, .inr (11, [.ref a_md_tape, .int md_size, .int md_at, .int md_token, .int md_tokenPlace, .int md_number, .int md_sign, .int md_bad_1, .int md_faultPlace_2, .int md_place, .ref a_md_acts, .ref a_md_actNumbers, .ref a_md_actCounts, .int md_bank, .int md_unaries, .int md_opens, .ref a_md_pile, .int md_piled, .int md_loop, .ref a_md_begins, .ref a_md_goals, .ref a_md_ranks, .ref a_md_choiceCounts, .ref a_md_whens, .ref a_md_becomes, .ref a_md_guessCounts, .ref a_md_guesses, .ref a_md_unaryCounts, .ref a_md_stack, .ref a_md_nexts, .ref a_md_isBegin, .ref a_md_isGoal, .ref a_md_levels, .ref a_md_queue, .ref a_md_hasGuesses, .int md_keptBits, .ref a_md_rounds, .ref a_md_marked, .ref a_md_other, .ref a_md_heights]))] H := hP
    have hD : va_D A [(a_md, .inr (11, [.ref a_md_tape, .int md_size, .int md_at, .int md_token, .int md_tokenPlace, .int md_number, .int md_sign, .int md_bad_1, .int md_faultPlace_2, .int md_place, .ref a_md_acts, .ref a_md_actNumbers, .ref a_md_actCounts, .int md_bank, .int md_unaries, .int md_opens, .ref a_md_pile, .int md_piled, .int md_loop, .ref a_md_begins, .ref a_md_goals, .ref a_md_ranks, .ref a_md_choiceCounts, .ref a_md_whens, .ref a_md_becomes, .ref a_md_guessCounts, .ref a_md_guesses, .ref a_md_unaryCounts, .ref a_md_stack, .ref a_md_nexts, .ref a_md_isBegin, .ref a_md_isGoal, .ref a_md_levels, .ref a_md_queue, .ref a_md_hasGuesses, .int md_keptBits, .ref a_md_rounds, .ref a_md_marked, .ref a_md_other, .ref a_md_heights]))] := hD
    refine lv_iconst (v := 0) hx hb d_Md_isOpened_13 (by decide) ?_
    subst hQ
    have hP9 := hP
    have hD9 := hD
    exact W.zret (v := 0) hx hb hr rfl (fun t ht hW => ⟨⟨0, (md_bad_1, md_faultPlace_2, md_opens), rfl, h, by rw [ht]; exact hP9, va_K.moved hW.alike hK, hD9⟩, hS.F ht⟩) hS.2.2 d_Md_isOpened_14
def wp_Md_reduceLevel_L0 (x1 : Int32) (x2 : Int32) (md_bank : Int32) (md_pile : Nat → Int32) (k69 : (Int32) → (Nat → Int32) → (Nat → Int32) → (Nat → Int32) → Prop) : Nat → (Int32) → (Nat → Int32) → (Nat → Int32) → (Nat → Int32) → Prop
  | 0, _, _, _, _ => False
  | n + 1, md_piled, md_acts, md_actNumbers, md_actCounts =>
    (((md_piled : Int32) ≤ (x1 : Int32) → k69 md_piled md_acts md_actNumbers md_actCounts) ∧ (¬ (md_piled : Int32) ≤ (x1 : Int32) → (vp_in (md_piled - 1) 300 ∧ (((md_pile (md_piled - 1 : Int32).toNatClampNeg : Int32) = (40 : Int32) → k69 md_piled md_acts md_actNumbers md_actCounts) ∧ (¬ (md_pile (md_piled - 1 : Int32).toNatClampNeg : Int32) = (40 : Int32) → (vp_in (md_piled - 1) 300 ∧ wp_Md_strengthOf (md_pile (md_piled - 1 : Int32).toNatClampNeg) (fun r_1 => (((r_1 : Int32) < (x2 : Int32) → k69 md_piled md_acts md_actNumbers md_actCounts) ∧ (¬ (r_1 : Int32) < (x2 : Int32) → (vp_in (md_piled - 1) 300 ∧ wp_Md_act (md_pile (md_piled - 1 : Int32).toNatClampNeg) 0 md_bank md_acts md_actNumbers md_actCounts (fun md_acts_2 md_actNumbers_3 md_actCounts_4 => wp_Md_reduceLevel_L0 x1 x2 md_bank md_pile k69 n (md_piled - 1) md_acts_2 md_actNumbers_3 md_actCounts_4)))))))))))
def wp_Md_reduceLevel (x1 : Int32) (x2 : Int32) (md_bank : Int32) (md_piled : Int32) (md_acts : Nat → Int32) (md_actNumbers : Nat → Int32) (md_actCounts : Nat → Int32) (md_pile : Nat → Int32) (post : Int32 → (Nat → Int32) → (Nat → Int32) → (Nat → Int32) → Prop) : Prop :=
  ∃ n_9, wp_Md_reduceLevel_L0 x1 x2 md_bank md_pile (fun md_piled_5 md_acts_6 md_actNumbers_7 md_actCounts_8 => post md_piled_5 md_acts_6 md_actNumbers_7 md_actCounts_8) n_9 md_piled md_acts md_actNumbers md_actCounts
set_option maxHeartbeats 4000000 in
set_option maxRecDepth 100000 in
theorem c_Md_reduceLevel (l : Launch) (dC : Nat → ClassId) (dI : Nat → Nat → Nat) (cI cB cZ : ClassId) (adK adV : Nat → Nat) (sz : Nat) (a_md a_md_tape a_md_acts a_md_actNumbers a_md_actCounts a_md_pile a_md_begins a_md_goals a_md_ranks a_md_choiceCounts a_md_whens a_md_becomes a_md_guessCounts a_md_guesses a_md_unaryCounts a_md_stack a_md_nexts a_md_isBegin a_md_isGoal a_md_levels a_md_queue a_md_hasGuesses a_md_rounds a_md_marked a_md_other a_md_heights : Nat) (md_size : Int32) (md_at : Int32) (md_token : Int32) (md_tokenPlace : Int32) (md_number : Int32) (md_sign : Int32) (md_bad : Int32) (md_faultPlace : Int32) (md_place : Int32) (md_bank : Int32) (md_unaries : Int32) (md_opens : Int32) (md_piled : Int32) (md_loop : Int32) (md_keptBits : Int32) (md_acts : Nat → Int32) (md_actNumbers : Nat → Int32) (md_actCounts : Nat → Int32) (md_pile : Nat → Int32) (x1 : Int32) (x2 : Int32) (post : Int32 → (Nat → Int32) → (Nat → Int32) → (Nat → Int32) → Prop) (h : wp_Md_reduceLevel x1 x2 md_bank md_piled md_acts md_actNumbers md_actCounts md_pile post) : Met l y_Md_reduceLevel w_Md_reduceLevel ({ frames := 1, cells := 0, slots := 0, locals := 23 }) (pc_ (dC, dI) [(cI, .int), (cB, .byte), (cZ, .boolean)] [(a_md, .inr (11, [.ref a_md_tape, .int md_size, .int md_at, .int md_token, .int md_tokenPlace, .int md_number, .int md_sign, .int md_bad, .int md_faultPlace, .int md_place, .ref a_md_acts, .ref a_md_actNumbers, .ref a_md_actCounts, .int md_bank, .int md_unaries, .int md_opens, .ref a_md_pile, .int md_piled, .int md_loop, .ref a_md_begins, .ref a_md_goals, .ref a_md_ranks, .ref a_md_choiceCounts, .ref a_md_whens, .ref a_md_becomes, .ref a_md_guessCounts, .ref a_md_guesses, .ref a_md_unaryCounts, .ref a_md_stack, .ref a_md_nexts, .ref a_md_isBegin, .ref a_md_isGoal, .ref a_md_levels, .ref a_md_queue, .ref a_md_hasGuesses, .int md_keptBits, .ref a_md_rounds, .ref a_md_marked, .ref a_md_other, .ref a_md_heights])), (a_md_acts, .inl (cI, 3000, .inl md_acts)), (a_md_actNumbers, .inl (cI, 3000, .inl md_actNumbers)), (a_md_actCounts, .inl (cI, 3, .inl md_actCounts)), (a_md_pile, .inl (cI, 300, .inl md_pile))] sz adK adV [.ref a_md, .int x1, .int x2]) (va_Qv (fun (u : Int32 × (Nat → Int32) × (Nat → Int32) × (Nat → Int32)) => post u.1 u.2.1 u.2.2.1 u.2.2.2) (fun (u : Int32 × (Nat → Int32) × (Nat → Int32) × (Nat → Int32)) t => bw_ (dC, dI) [(cI, .int), (cB, .byte), (cZ, .boolean)] (va_A [(a_md, .inr (11, [.ref a_md_tape, .int md_size, .int md_at, .int md_token, .int md_tokenPlace, .int md_number, .int md_sign, .int md_bad, .int md_faultPlace, .int md_place, .ref a_md_acts, .ref a_md_actNumbers, .ref a_md_actCounts, .int md_bank, .int md_unaries, .int md_opens, .ref a_md_pile, .int md_piled, .int md_loop, .ref a_md_begins, .ref a_md_goals, .ref a_md_ranks, .ref a_md_choiceCounts, .ref a_md_whens, .ref a_md_becomes, .ref a_md_guessCounts, .ref a_md_guesses, .ref a_md_unaryCounts, .ref a_md_stack, .ref a_md_nexts, .ref a_md_isBegin, .ref a_md_isGoal, .ref a_md_levels, .ref a_md_queue, .ref a_md_hasGuesses, .int md_keptBits, .ref a_md_rounds, .ref a_md_marked, .ref a_md_other, .ref a_md_heights])), (a_md_acts, .inl (cI, 3000, .inl md_acts)), (a_md_actNumbers, .inl (cI, 3000, .inl md_actNumbers)), (a_md_actCounts, .inl (cI, 3, .inl md_actCounts)), (a_md_pile, .inl (cI, 300, .inl md_pile))] sz) [(a_md, .inr (11, [.ref a_md_tape, .int md_size, .int md_at, .int md_token, .int md_tokenPlace, .int md_number, .int md_sign, .int md_bad, .int md_faultPlace, .int md_place, .ref a_md_acts, .ref a_md_actNumbers, .ref a_md_actCounts, .int md_bank, .int md_unaries, .int md_opens, .ref a_md_pile, .int u.1, .int md_loop, .ref a_md_begins, .ref a_md_goals, .ref a_md_ranks, .ref a_md_choiceCounts, .ref a_md_whens, .ref a_md_becomes, .ref a_md_guessCounts, .ref a_md_guesses, .ref a_md_unaryCounts, .ref a_md_stack, .ref a_md_nexts, .ref a_md_isBegin, .ref a_md_isGoal, .ref a_md_levels, .ref a_md_queue, .ref a_md_hasGuesses, .int md_keptBits, .ref a_md_rounds, .ref a_md_marked, .ref a_md_other, .ref a_md_heights])), (a_md_acts, .inl (cI, 3000, .inl u.2.1)), (a_md_actNumbers, .inl (cI, 3000, .inl u.2.2.1)), (a_md_actCounts, .inl (cI, 3, .inl u.2.2.2)), (a_md_pile, .inl (cI, 300, .inl md_pile))] t) (va_A [(a_md, .inr (11, [.ref a_md_tape, .int md_size, .int md_at, .int md_token, .int md_tokenPlace, .int md_number, .int md_sign, .int md_bad, .int md_faultPlace, .int md_place, .ref a_md_acts, .ref a_md_actNumbers, .ref a_md_actCounts, .int md_bank, .int md_unaries, .int md_opens, .ref a_md_pile, .int md_piled, .int md_loop, .ref a_md_begins, .ref a_md_goals, .ref a_md_ranks, .ref a_md_choiceCounts, .ref a_md_whens, .ref a_md_becomes, .ref a_md_guessCounts, .ref a_md_guesses, .ref a_md_unaryCounts, .ref a_md_stack, .ref a_md_nexts, .ref a_md_isBegin, .ref a_md_isGoal, .ref a_md_levels, .ref a_md_queue, .ref a_md_hasGuesses, .int md_keptBits, .ref a_md_rounds, .ref a_md_marked, .ref a_md_other, .ref a_md_heights])), (a_md_acts, .inl (cI, 3000, .inl md_acts)), (a_md_actNumbers, .inl (cI, 3000, .inl md_actNumbers)), (a_md_actCounts, .inl (cI, 3, .inl md_actCounts)), (a_md_pile, .inl (cI, 300, .inl md_pile))] sz)) 0 0 (va_A [(a_md, .inr (11, [.ref a_md_tape, .int md_size, .int md_at, .int md_token, .int md_tokenPlace, .int md_number, .int md_sign, .int md_bad, .int md_faultPlace, .int md_place, .ref a_md_acts, .ref a_md_actNumbers, .ref a_md_actCounts, .int md_bank, .int md_unaries, .int md_opens, .ref a_md_pile, .int md_piled, .int md_loop, .ref a_md_begins, .ref a_md_goals, .ref a_md_ranks, .ref a_md_choiceCounts, .ref a_md_whens, .ref a_md_becomes, .ref a_md_guessCounts, .ref a_md_guesses, .ref a_md_unaryCounts, .ref a_md_stack, .ref a_md_nexts, .ref a_md_isBegin, .ref a_md_isGoal, .ref a_md_levels, .ref a_md_queue, .ref a_md_hasGuesses, .int md_keptBits, .ref a_md_rounds, .ref a_md_marked, .ref a_md_other, .ref a_md_heights])), (a_md_acts, .inl (cI, 3000, .inl md_acts)), (a_md_actNumbers, .inl (cI, 3000, .inl md_actNumbers)), (a_md_actCounts, .inl (cI, 3, .inl md_actCounts)), (a_md_pile, .inl (cI, 300, .inl md_pile))] sz) := by
  refine Met.ofW (cc := b_Md_reduceLevel) (maxL := 3) (ret := none) (by decide) rfl ?_
  intro p e s m args below meth c s₁ B hml hv
  obtain ⟨rfl, hsz, hP, hK, hD0, hN, hT⟩ := hv
  have hx := B.exec
  have hb := B.bytes
  have hr := B.returns
  have hts := atoms_spec (ws := w_Md_reduceLevel) B.pre
  have hown : s.vm.findClass "LoopInductionModel" = some m.cls := findClass_of_methodNamed B.named
  have hlocks := B.notSynchronized
  subst hsz
  have hD := hD0.self (sz := s.heap.size)
  generalize hAe : va_A [(a_md, .inr (11, [.ref a_md_tape, .int md_size, .int md_at, .int md_token, .int md_tokenPlace, .int md_number, .int md_sign, .int md_bad, .int md_faultPlace, .int md_place, .ref a_md_acts, .ref a_md_actNumbers, .ref a_md_actCounts, .int md_bank, .int md_unaries, .int md_opens, .ref a_md_pile, .int md_piled, .int md_loop, .ref a_md_begins, .ref a_md_goals, .ref a_md_ranks, .ref a_md_choiceCounts, .ref a_md_whens, .ref a_md_becomes, .ref a_md_guessCounts, .ref a_md_guesses, .ref a_md_unaryCounts, .ref a_md_stack, .ref a_md_nexts, .ref a_md_isBegin, .ref a_md_isGoal, .ref a_md_levels, .ref a_md_queue, .ref a_md_hasGuesses, .int md_keptBits, .ref a_md_rounds, .ref a_md_marked, .ref a_md_other, .ref a_md_heights])), (a_md_acts, .inl (cI, 3000, .inl md_acts)), (a_md_actNumbers, .inl (cI, 3000, .inl md_actNumbers)), (a_md_actCounts, .inl (cI, 3, .inl md_actCounts)), (a_md_pile, .inl (cI, 300, .inl md_pile))] s.heap.size = A at hD hT ⊢
  have hA : ∀ q : Nat, s.heap.size ≤ q → A q := fun q h => by rw [← hAe]; exact Or.inr h
  have hS : va_S A s.heap s.heap [] := va_S.rf
  generalize hQ : MQ below _ _ s 0 0 _ = QQ
  have hl := lv_entry ([.ref a_md, .int x1, .int x2]) (n := 3) (Nat.le_of_ble_eq_true rfl)
  rw [lg_entry_eq]
  generalize (lg_sl ([.ref a_md, .int x1, .int x2]) ++ List.replicate (3 - (lg_sl ([.ref a_md, .int x1, .int x2])).length) Slot.unset).toArray = ls at hl ⊢
  have hl : lv_has ls 3 [(0, .ref a_md), (1, .int x1), (2, .int x2)] := hl
  have fl_27 := (hts _ (List.mem_cons_of_mem _ m_1106))
  have fl_176 := (hts _ (List.mem_cons_of_mem _ m_1107))
  have L0_q_5 : ∀ (k69 : (Int32) → (Nat → Int32) → (Nat → Int32) → (Nat → Int32) → Prop) (hk69 : ∀ (md_piled_6 : Int32) (md_acts_7 : Nat → Int32) (md_actNumbers_8 : Nat → Int32) (md_actCounts_9 : Nat → Int32), k69 md_piled_6 md_acts_7 md_actNumbers_8 md_actCounts_9 → ∀ (H : Heap) (locs : List Loc), va_P (dC, dI) vwCl [(a_md, .inr (11, [.ref a_md_tape, .int md_size, .int md_at, .int md_token, .int md_tokenPlace, .int md_number, .int md_sign, .int md_bad, .int md_faultPlace, .int md_place, .ref a_md_acts, .ref a_md_actNumbers, .ref a_md_actCounts, .int md_bank, .int md_unaries, .int md_opens, .ref a_md_pile, .int md_piled_6, .int md_loop, .ref a_md_begins, .ref a_md_goals, .ref a_md_ranks, .ref a_md_choiceCounts, .ref a_md_whens, .ref a_md_becomes, .ref a_md_guessCounts, .ref a_md_guesses, .ref a_md_unaryCounts, .ref a_md_stack, .ref a_md_nexts, .ref a_md_isBegin, .ref a_md_isGoal, .ref a_md_levels, .ref a_md_queue, .ref a_md_hasGuesses, .int md_keptBits, .ref a_md_rounds, .ref a_md_marked, .ref a_md_other, .ref a_md_heights])), (a_md_acts, .inl (cI, 3000, .inl md_acts_7)), (a_md_actNumbers, .inl (cI, 3000, .inl md_actNumbers_8)), (a_md_actCounts, .inl (cI, 3, .inl md_actCounts_9)), (a_md_pile, .inl (cI, 300, .inl md_pile))] H → va_D A [(a_md, .inr (11, [.ref a_md_tape, .int md_size, .int md_at, .int md_token, .int md_tokenPlace, .int md_number, .int md_sign, .int md_bad, .int md_faultPlace, .int md_place, .ref a_md_acts, .ref a_md_actNumbers, .ref a_md_actCounts, .int md_bank, .int md_unaries, .int md_opens, .ref a_md_pile, .int md_piled_6, .int md_loop, .ref a_md_begins, .ref a_md_goals, .ref a_md_ranks, .ref a_md_choiceCounts, .ref a_md_whens, .ref a_md_becomes, .ref a_md_guessCounts, .ref a_md_guesses, .ref a_md_unaryCounts, .ref a_md_stack, .ref a_md_nexts, .ref a_md_isBegin, .ref a_md_isGoal, .ref a_md_levels, .ref a_md_queue, .ref a_md_hasGuesses, .int md_keptBits, .ref a_md_rounds, .ref a_md_marked, .ref a_md_other, .ref a_md_heights])), (a_md_acts, .inl (cI, 3000, .inl md_acts_7)), (a_md_actNumbers, .inl (cI, 3000, .inl md_actNumbers_8)), (a_md_actCounts, .inl (cI, 3, .inl md_actCounts_9)), (a_md_pile, .inl (cI, 300, .inl md_pile))] → va_S A s.heap H locs → ∀ ls : Array Slot, lv_has ls 3 [] → W p l e (headSpec w_Md_reduceLevel ({ frames := 1, cells := 0, slots := 0, locals := 23 })).room s m (([.ref a_md, .int x1, .int x2] : List Value).toArray) below meth c H locs 0 0 QQ (F0 m 69 ls [])) (n : Nat) (md_piled_1 : Int32) (md_acts_2 : Nat → Int32) (md_actNumbers_3 : Nat → Int32) (md_actCounts_4 : Nat → Int32), wp_Md_reduceLevel_L0 x1 x2 md_bank md_pile k69 n md_piled_1 md_acts_2 md_actNumbers_3 md_actCounts_4 → ∀ (H : Heap) (locs : List Loc), va_P (dC, dI) vwCl [(a_md, .inr (11, [.ref a_md_tape, .int md_size, .int md_at, .int md_token, .int md_tokenPlace, .int md_number, .int md_sign, .int md_bad, .int md_faultPlace, .int md_place, .ref a_md_acts, .ref a_md_actNumbers, .ref a_md_actCounts, .int md_bank, .int md_unaries, .int md_opens, .ref a_md_pile, .int md_piled_1, .int md_loop, .ref a_md_begins, .ref a_md_goals, .ref a_md_ranks, .ref a_md_choiceCounts, .ref a_md_whens, .ref a_md_becomes, .ref a_md_guessCounts, .ref a_md_guesses, .ref a_md_unaryCounts, .ref a_md_stack, .ref a_md_nexts, .ref a_md_isBegin, .ref a_md_isGoal, .ref a_md_levels, .ref a_md_queue, .ref a_md_hasGuesses, .int md_keptBits, .ref a_md_rounds, .ref a_md_marked, .ref a_md_other, .ref a_md_heights])), (a_md_acts, .inl (cI, 3000, .inl md_acts_2)), (a_md_actNumbers, .inl (cI, 3000, .inl md_actNumbers_3)), (a_md_actCounts, .inl (cI, 3, .inl md_actCounts_4)), (a_md_pile, .inl (cI, 300, .inl md_pile))] H → va_D A [(a_md, .inr (11, [.ref a_md_tape, .int md_size, .int md_at, .int md_token, .int md_tokenPlace, .int md_number, .int md_sign, .int md_bad, .int md_faultPlace, .int md_place, .ref a_md_acts, .ref a_md_actNumbers, .ref a_md_actCounts, .int md_bank, .int md_unaries, .int md_opens, .ref a_md_pile, .int md_piled_1, .int md_loop, .ref a_md_begins, .ref a_md_goals, .ref a_md_ranks, .ref a_md_choiceCounts, .ref a_md_whens, .ref a_md_becomes, .ref a_md_guessCounts, .ref a_md_guesses, .ref a_md_unaryCounts, .ref a_md_stack, .ref a_md_nexts, .ref a_md_isBegin, .ref a_md_isGoal, .ref a_md_levels, .ref a_md_queue, .ref a_md_hasGuesses, .int md_keptBits, .ref a_md_rounds, .ref a_md_marked, .ref a_md_other, .ref a_md_heights])), (a_md_acts, .inl (cI, 3000, .inl md_acts_2)), (a_md_actNumbers, .inl (cI, 3000, .inl md_actNumbers_3)), (a_md_actCounts, .inl (cI, 3, .inl md_actCounts_4)), (a_md_pile, .inl (cI, 300, .inl md_pile))] → va_S A s.heap H locs → ∀ ls : Array Slot, lv_has ls 3 [(0, .ref a_md), (1, .int x1), (2, .int x2)] → W p l e (headSpec w_Md_reduceLevel ({ frames := 1, cells := 0, slots := 0, locals := 23 })).room s m (([.ref a_md, .int x1, .int x2] : List Value).toArray) below meth c H locs 0 0 QQ (F0 m 0 ls []) := by
    intro k69 hk69 n
    induction n with
    | zero => intro md_piled_1 md_acts_2 md_actNumbers_3 md_actCounts_4 h; exact (show False from h).elim
    | succ n il =>
      intro md_piled_1 md_acts_2 md_actNumbers_3 md_actCounts_4 h H locs hP hD hS ls hl
      refine lv_aload_n hx hb d_Md_reduceLevel_0 rfl (lv_at hl 0 rfl) ?_
      refine va_get (D := (dC, dI)) (ci := 11) (v := .int md_piled_1) (C := "LoopInductionModel") (T := F_Md) (N := 40) hx hb hts iC_Md hown hK hP 0 rfl rfl 17 (by decide) fl_176 (fun _ h9 => h9) rfl d_Md_reduceLevel_1 ?_
      refine lv_iload_n hx hb d_Md_reduceLevel_4 rfl (lv_at hl 1 rfl) ?_
      refine lv_icmp_le (tgt := 69) hx hb d_Md_reduceLevel_5 (by decide) (fun c_5 => ?_) (fun c_5 => ?_)
      · have h := And.left h c_5
        exact hk69 _ _ _ _ h _ _ hP hD hS _ (lv_sub hl [] rfl)
      · have h := And.right h c_5
        refine lv_aload_n hx hb d_Md_reduceLevel_8 rfl (lv_at hl 0 rfl) ?_
        refine va_get (D := (dC, dI)) (ci := 11) (v := .ref a_md_pile) (C := "LoopInductionModel") (T := F_Md) (N := 40) hx hb hts iC_Md hown hK hP 0 rfl rfl 16 (by decide) fl_27 (fun _ h9 => h9) rfl d_Md_reduceLevel_9 ?_
        refine lv_aload_n hx hb d_Md_reduceLevel_12 rfl (lv_at hl 0 rfl) ?_
        refine va_get (D := (dC, dI)) (ci := 11) (v := .int md_piled_1) (C := "LoopInductionModel") (T := F_Md) (N := 40) hx hb hts iC_Md hown hK hP 0 rfl rfl 17 (by decide) fl_176 (fun _ h9 => h9) rfl d_Md_reduceLevel_13 ?_
        refine lv_iconst (v := 1) hx hb d_Md_reduceLevel_16 (by decide) ?_
        refine lv_isub hx hb d_Md_reduceLevel_17 ?_
        obtain ⟨hin_18, h⟩ := h
        refine va_iald hx hb hK hP 4 0 rfl rfl hin_18 d_Md_reduceLevel_18 ?_
        refine lv_bipush (v := 40) hx hb d_Md_reduceLevel_19 (by decide) ?_
        refine lv_icmp_eq (tgt := 69) hx hb d_Md_reduceLevel_21 (by decide) (fun c_21 => ?_) (fun c_21 => ?_)
        · have h := And.left h c_21
          exact hk69 _ _ _ _ h _ _ hP hD hS _ (lv_sub hl [] rfl)
        · have h := And.right h c_21
          refine lv_aload_n hx hb d_Md_reduceLevel_24 rfl (lv_at hl 0 rfl) ?_
          refine va_get (D := (dC, dI)) (ci := 11) (v := .ref a_md_pile) (C := "LoopInductionModel") (T := F_Md) (N := 40) hx hb hts iC_Md hown hK hP 0 rfl rfl 16 (by decide) fl_27 (fun _ h9 => h9) rfl d_Md_reduceLevel_25 ?_
          refine lv_aload_n hx hb d_Md_reduceLevel_28 rfl (lv_at hl 0 rfl) ?_
          refine va_get (D := (dC, dI)) (ci := 11) (v := .int md_piled_1) (C := "LoopInductionModel") (T := F_Md) (N := 40) hx hb hts iC_Md hown hK hP 0 rfl rfl 17 (by decide) fl_176 (fun _ h9 => h9) rfl d_Md_reduceLevel_29 ?_
          refine lv_iconst (v := 1) hx hb d_Md_reduceLevel_32 (by decide) ?_
          refine lv_isub hx hb d_Md_reduceLevel_33 ?_
          obtain ⟨hin_34, h⟩ := h
          refine va_iald hx hb hK hP 4 0 rfl rfl hin_34 d_Md_reduceLevel_34 ?_
          refine jn_i (wr := [(a_md, .inr (11, [.ref a_md_tape, .int md_size, .int md_at, .int md_token, .int md_tokenPlace, .int md_number, .int md_sign, .int md_bad, .int md_faultPlace, .int md_place, .ref a_md_acts, .ref a_md_actNumbers, .ref a_md_actCounts, .int md_bank, .int md_unaries, .int md_opens, .ref a_md_pile, .int md_piled_1, .int md_loop, .ref a_md_begins, .ref a_md_goals, .ref a_md_ranks, .ref a_md_choiceCounts, .ref a_md_whens, .ref a_md_becomes, .ref a_md_guessCounts, .ref a_md_guesses, .ref a_md_unaryCounts, .ref a_md_stack, .ref a_md_nexts, .ref a_md_isBegin, .ref a_md_isGoal, .ref a_md_levels, .ref a_md_queue, .ref a_md_hasGuesses, .int md_keptBits, .ref a_md_rounds, .ref a_md_marked, .ref a_md_other, .ref a_md_heights])), (a_md_acts, .inl (cI, 3000, .inl md_acts_2)), (a_md_actNumbers, .inl (cI, 3000, .inl md_actNumbers_3)), (a_md_actCounts, .inl (cI, 3, .inl md_actCounts_4)), (a_md_pile, .inl (cI, 300, .inl md_pile))]) (va_runS (As := [.int (md_pile (md_piled_1 - 1 : Int32).toNatClampNeg)]) (rest := []) ⟨hx, hb, hml, hown, hts⟩ (c_Md_strengthOf l dC dI cI cB cZ adK adV _ (md_pile (md_piled_1 - 1 : Int32).toNatClampNeg) _ h) (cwS 1 hts (gs_ m_1308 m_1309 m_96 m_1310) rfl rfl rfl pd_Md_strengthOf ⟨Nat.le_of_ble_eq_true rfl, Nat.le_of_ble_eq_true rfl⟩) ⟨pc_blind, pc_of (hP.sub [] rfl) hK (hD.sub [] (by decide) rfl) hN hT hS hA⟩ rfl rfl hl.1 rfl (lv_room (Nat.le_of_ble_eq_true rfl)) d_Md_reduceLevel_35 ⟨Nat.zero_le _, Nat.zero_le _⟩) hP hD hS hA [] [0, 1, 2, 3, 4] rfl rfl (by decide) (by decide) (fun r_10 u_ H locs h hP hD hS => ?_)
          have hP : va_P (dC, dI) vwCl [(a_md, .inr (11, [.ref a_md_tape, .int md_size, .int md_at, .int md_token, .int md_tokenPlace, .int md_number, .int md_sign, .int md_bad, .int md_faultPlace, .int md_place, .ref a_md_acts, .ref a_md_actNumbers, .ref a_md_actCounts, .int md_bank, .int md_unaries, .int md_opens, .ref a_md_pile, .int md_piled_1, .int md_loop, .ref a_md_begins, .ref a_md_goals, .ref a_md_ranks, .ref a_md_choiceCounts, .ref a_md_whens, .ref a_md_becomes, .ref a_md_guessCounts, .ref a_md_guesses, .ref a_md_unaryCounts, .ref a_md_stack, .ref a_md_nexts, .ref a_md_isBegin, .ref a_md_isGoal, .ref a_md_levels, .ref a_md_queue, .ref a_md_hasGuesses, .int md_keptBits, .ref a_md_rounds, .ref a_md_marked, .ref a_md_other, .ref a_md_heights])), (a_md_acts, .inl (cI, 3000, .inl md_acts_2)), (a_md_actNumbers, .inl (cI, 3000, .inl md_actNumbers_3)), (a_md_actCounts, .inl (cI, 3, .inl md_actCounts_4)), (a_md_pile, .inl (cI, 300, .inl md_pile))] H := hP
          have hD : va_D A [(a_md, .inr (11, [.ref a_md_tape, .int md_size, .int md_at, .int md_token, .int md_tokenPlace, .int md_number, .int md_sign, .int md_bad, .int md_faultPlace, .int md_place, .ref a_md_acts, .ref a_md_actNumbers, .ref a_md_actCounts, .int md_bank, .int md_unaries, .int md_opens, .ref a_md_pile, .int md_piled_1, .int md_loop, .ref a_md_begins, .ref a_md_goals, .ref a_md_ranks, .ref a_md_choiceCounts, .ref a_md_whens, .ref a_md_becomes, .ref a_md_guessCounts, .ref a_md_guesses, .ref a_md_unaryCounts, .ref a_md_stack, .ref a_md_nexts, .ref a_md_isBegin, .ref a_md_isGoal, .ref a_md_levels, .ref a_md_queue, .ref a_md_hasGuesses, .int md_keptBits, .ref a_md_rounds, .ref a_md_marked, .ref a_md_other, .ref a_md_heights])), (a_md_acts, .inl (cI, 3000, .inl md_acts_2)), (a_md_actNumbers, .inl (cI, 3000, .inl md_actNumbers_3)), (a_md_actCounts, .inl (cI, 3, .inl md_actCounts_4)), (a_md_pile, .inl (cI, 300, .inl md_pile))] := hD
          refine lv_iload_n hx hb d_Md_reduceLevel_38 rfl (lv_at hl 2 rfl) ?_
          refine lv_icmp_lt (tgt := 69) hx hb d_Md_reduceLevel_39 (by decide) (fun c_39 => ?_) (fun c_39 => ?_)
          · have h := And.left h c_39
            exact hk69 _ _ _ _ h _ _ hP hD hS _ (lv_sub hl [] rfl)
          · have h := And.right h c_39
            refine lv_aload_n hx hb d_Md_reduceLevel_42 rfl (lv_at hl 0 rfl) ?_
            refine lv_dup hx hb d_Md_reduceLevel_43 rfl ?_
            refine va_get (D := (dC, dI)) (ci := 11) (v := .int md_piled_1) (C := "LoopInductionModel") (T := F_Md) (N := 40) hx hb hts iC_Md hown hK hP 0 rfl rfl 17 (by decide) fl_176 (fun _ h9 => h9) rfl d_Md_reduceLevel_44 ?_
            refine lv_iconst (v := 1) hx hb d_Md_reduceLevel_47 (by decide) ?_
            refine lv_isub hx hb d_Md_reduceLevel_48 ?_
            refine va_put (D := (dC, dI)) (ci := 11) (v := .int (md_piled_1 - 1)) (ty := .int) (C := "LoopInductionModel") (T := F_Md) (N := 40) hx hb hts iC_Md t_Md t_Md_ok n_Md hown hK hP hD hS 0 rfl rfl 17 (by decide) fl_176 (fun _ h9 => h9) rfl (by decide +kernel) rfl rfl (Nat.le_of_ble_eq_true rfl) d_Md_reduceLevel_49 (fun H locs hP hD hS => ?_)
            have hP : va_P (dC, dI) vwCl [(a_md, .inr (11, [.ref a_md_tape, .int md_size, .int md_at, .int md_token, .int md_tokenPlace, .int md_number, .int md_sign, .int md_bad, .int md_faultPlace, .int md_place, .ref a_md_acts, .ref a_md_actNumbers, .ref a_md_actCounts, .int md_bank, .int md_unaries, .int md_opens, .ref a_md_pile, .int (md_piled_1 - 1), .int md_loop, .ref a_md_begins, .ref a_md_goals, .ref a_md_ranks, .ref a_md_choiceCounts, .ref a_md_whens, .ref a_md_becomes, .ref a_md_guessCounts, .ref a_md_guesses, .ref a_md_unaryCounts, .ref a_md_stack, .ref a_md_nexts, .ref a_md_isBegin, .ref a_md_isGoal, .ref a_md_levels, .ref a_md_queue, .ref a_md_hasGuesses, .int md_keptBits, .ref a_md_rounds, .ref a_md_marked, .ref a_md_other, .ref a_md_heights])), (a_md_acts, .inl (cI, 3000, .inl md_acts_2)), (a_md_actNumbers, .inl (cI, 3000, .inl md_actNumbers_3)), (a_md_actCounts, .inl (cI, 3, .inl md_actCounts_4)), (a_md_pile, .inl (cI, 300, .inl md_pile))] H := hP
            have hD : va_D A [(a_md, .inr (11, [.ref a_md_tape, .int md_size, .int md_at, .int md_token, .int md_tokenPlace, .int md_number, .int md_sign, .int md_bad, .int md_faultPlace, .int md_place, .ref a_md_acts, .ref a_md_actNumbers, .ref a_md_actCounts, .int md_bank, .int md_unaries, .int md_opens, .ref a_md_pile, .int (md_piled_1 - 1), .int md_loop, .ref a_md_begins, .ref a_md_goals, .ref a_md_ranks, .ref a_md_choiceCounts, .ref a_md_whens, .ref a_md_becomes, .ref a_md_guessCounts, .ref a_md_guesses, .ref a_md_unaryCounts, .ref a_md_stack, .ref a_md_nexts, .ref a_md_isBegin, .ref a_md_isGoal, .ref a_md_levels, .ref a_md_queue, .ref a_md_hasGuesses, .int md_keptBits, .ref a_md_rounds, .ref a_md_marked, .ref a_md_other, .ref a_md_heights])), (a_md_acts, .inl (cI, 3000, .inl md_acts_2)), (a_md_actNumbers, .inl (cI, 3000, .inl md_actNumbers_3)), (a_md_actCounts, .inl (cI, 3, .inl md_actCounts_4)), (a_md_pile, .inl (cI, 300, .inl md_pile))] := hD
            refine lv_aload_n hx hb d_Md_reduceLevel_52 rfl (lv_at hl 0 rfl) ?_
            refine lv_aload_n hx hb d_Md_reduceLevel_53 rfl (lv_at hl 0 rfl) ?_
            refine va_get (D := (dC, dI)) (ci := 11) (v := .ref a_md_pile) (C := "LoopInductionModel") (T := F_Md) (N := 40) hx hb hts iC_Md hown hK hP 0 rfl rfl 16 (by decide) fl_27 (fun _ h9 => h9) rfl d_Md_reduceLevel_54 ?_
            refine lv_aload_n hx hb d_Md_reduceLevel_57 rfl (lv_at hl 0 rfl) ?_
            refine va_get (D := (dC, dI)) (ci := 11) (v := .int (md_piled_1 - 1)) (C := "LoopInductionModel") (T := F_Md) (N := 40) hx hb hts iC_Md hown hK hP 0 rfl rfl 17 (by decide) fl_176 (fun _ h9 => h9) rfl d_Md_reduceLevel_58 ?_
            obtain ⟨hin_61, h⟩ := h
            refine va_iald hx hb hK hP 4 0 rfl rfl hin_61 d_Md_reduceLevel_61 ?_
            refine lv_iconst (v := 0) hx hb d_Md_reduceLevel_62 (by decide) ?_
            refine jn_v (wr := [(a_md_pile, .inl (cI, 300, .inl md_pile))]) (va_runV (As := [.int (md_pile (md_piled_1 - 1 : Int32).toNatClampNeg), .int 0]) (rest := []) ⟨hx, hb, hml, hown, hts⟩ (c_Md_act l dC dI cI cB cZ adK adV _ a_md a_md_tape a_md_acts a_md_actNumbers a_md_actCounts a_md_pile a_md_begins a_md_goals a_md_ranks a_md_choiceCounts a_md_whens a_md_becomes a_md_guessCounts a_md_guesses a_md_unaryCounts a_md_stack a_md_nexts a_md_isBegin a_md_isGoal a_md_levels a_md_queue a_md_hasGuesses a_md_rounds a_md_marked a_md_other a_md_heights md_size md_at md_token md_tokenPlace md_number md_sign md_bad md_faultPlace md_place md_bank md_unaries md_opens (md_piled_1 - 1) md_loop md_keptBits md_acts_2 md_actNumbers_3 md_actCounts_4 (md_pile (md_piled_1 - 1 : Int32).toNatClampNeg) 0 _ h) (cwV 2 hts (gv_ m_1292 m_1294 m_62 m_96 m_1295) rfl rfl rfl pd_Md_act ⟨Nat.le_of_ble_eq_true rfl, Nat.le_of_ble_eq_true rfl⟩) ⟨pc_blind, va_recv hK hP (ci := 11) (q0 := 0) rfl rfl, pc_of (hP.sub [0, 1, 2, 3] rfl) hK (hD.sub [0, 1, 2, 3] (by decide) rfl) hN hT hS hA⟩ rfl rfl hl.1 rfl (lv_room (Nat.le_of_ble_eq_true rfl)) d_Md_reduceLevel_63 ⟨Nat.zero_le _, Nat.zero_le _⟩) hP hD hS hA [0, 1, 2, 3] [4] rfl rfl (by decide) (by decide) (fun u_ H locs h hP hD hS => ?_)
            obtain ⟨md_acts_11, md_actNumbers_12, md_actCounts_13⟩ := u_
            have hP : va_P (dC, dI) vwCl [(a_md_pile, .inl (cI, 300, .inl md_pile)), (a_md, .inr (11, [.ref a_md_tape, .int md_size, .int md_at, .int md_token, .int md_tokenPlace, .int md_number, .int md_sign, .int md_bad, .int md_faultPlace, .int md_place, .ref a_md_acts, .ref a_md_actNumbers, .ref a_md_actCounts, .int md_bank, .int md_unaries, .int md_opens, .ref a_md_pile, .int (md_piled_1 - 1), .int md_loop, .ref a_md_begins, .ref a_md_goals, .ref a_md_ranks, .ref a_md_choiceCounts, .ref a_md_whens, .ref a_md_becomes, .ref a_md_guessCounts, .ref a_md_guesses, .ref a_md_unaryCounts, .ref a_md_stack, .ref a_md_nexts, .ref a_md_isBegin, .ref a_md_isGoal, .ref a_md_levels, .ref a_md_queue, .ref a_md_hasGuesses, .int md_keptBits, .ref a_md_rounds, .ref a_md_marked, .ref a_md_other, .ref a_md_heights])), (a_md_acts, .inl (cI, 3000, .inl md_acts_11)), (a_md_actNumbers, .inl (cI, 3000, .inl md_actNumbers_12)), (a_md_actCounts, .inl (cI, 3, .inl md_actCounts_13))] H := hP
            have hD : va_D A [(a_md_pile, .inl (cI, 300, .inl md_pile)), (a_md, .inr (11, [.ref a_md_tape, .int md_size, .int md_at, .int md_token, .int md_tokenPlace, .int md_number, .int md_sign, .int md_bad, .int md_faultPlace, .int md_place, .ref a_md_acts, .ref a_md_actNumbers, .ref a_md_actCounts, .int md_bank, .int md_unaries, .int md_opens, .ref a_md_pile, .int (md_piled_1 - 1), .int md_loop, .ref a_md_begins, .ref a_md_goals, .ref a_md_ranks, .ref a_md_choiceCounts, .ref a_md_whens, .ref a_md_becomes, .ref a_md_guessCounts, .ref a_md_guesses, .ref a_md_unaryCounts, .ref a_md_stack, .ref a_md_nexts, .ref a_md_isBegin, .ref a_md_isGoal, .ref a_md_levels, .ref a_md_queue, .ref a_md_hasGuesses, .int md_keptBits, .ref a_md_rounds, .ref a_md_marked, .ref a_md_other, .ref a_md_heights])), (a_md_acts, .inl (cI, 3000, .inl md_acts_11)), (a_md_actNumbers, .inl (cI, 3000, .inl md_actNumbers_12)), (a_md_actCounts, .inl (cI, 3, .inl md_actCounts_13))] := hD
            refine lv_goto (tgt := 0) hx hb d_Md_reduceLevel_66 (by decide) ?_
            exact il _ _ _ _ h _ _ (hP.sub [1, 2, 3, 4, 0] rfl) (hD.sub [1, 2, 3, 4, 0] (by decide) rfl) hS _ hl
  obtain ⟨n_, h⟩ := h
  refine L0_q_5 _ ?_ n_ _ _ _ _ h _ _ hP hD hS _ hl
  intro md_piled_14 md_acts_15 md_actNumbers_16 md_actCounts_17 h H locs hP hD hS ls hl
  subst hQ
  have hP9 := hP
  have hD9 := hD
  exact W.vret hx hb hr (fun t ht hW => ⟨⟨(md_piled_14, md_acts_15, md_actNumbers_16, md_actCounts_17), rfl, h, by rw [ht]; exact hP9, va_K.moved hW.alike hK, hD9⟩, hS.F ht⟩) hS.2.2 d_Md_reduceLevel_69
def wp_Md_reduceTo (x1 : Int32) (md_bank : Int32) (md_piled : Int32) (md_acts : Nat → Int32) (md_actNumbers : Nat → Int32) (md_actCounts : Nat → Int32) (md_pile : Nat → Int32) (post : Int32 → (Nat → Int32) → (Nat → Int32) → (Nat → Int32) → Prop) : Prop :=
  wp_Md_reduceLevel x1 1 md_bank md_piled md_acts md_actNumbers md_actCounts md_pile (fun md_piled_1 md_acts_2 md_actNumbers_3 md_actCounts_4 => post md_piled_1 md_acts_2 md_actNumbers_3 md_actCounts_4)
set_option maxHeartbeats 4000000 in
set_option maxRecDepth 100000 in
theorem c_Md_reduceTo (l : Launch) (dC : Nat → ClassId) (dI : Nat → Nat → Nat) (cI cB cZ : ClassId) (adK adV : Nat → Nat) (sz : Nat) (a_md a_md_tape a_md_acts a_md_actNumbers a_md_actCounts a_md_pile a_md_begins a_md_goals a_md_ranks a_md_choiceCounts a_md_whens a_md_becomes a_md_guessCounts a_md_guesses a_md_unaryCounts a_md_stack a_md_nexts a_md_isBegin a_md_isGoal a_md_levels a_md_queue a_md_hasGuesses a_md_rounds a_md_marked a_md_other a_md_heights : Nat) (md_size : Int32) (md_at : Int32) (md_token : Int32) (md_tokenPlace : Int32) (md_number : Int32) (md_sign : Int32) (md_bad : Int32) (md_faultPlace : Int32) (md_place : Int32) (md_bank : Int32) (md_unaries : Int32) (md_opens : Int32) (md_piled : Int32) (md_loop : Int32) (md_keptBits : Int32) (md_acts : Nat → Int32) (md_actNumbers : Nat → Int32) (md_actCounts : Nat → Int32) (md_pile : Nat → Int32) (x1 : Int32) (post : Int32 → (Nat → Int32) → (Nat → Int32) → (Nat → Int32) → Prop) (h : wp_Md_reduceTo x1 md_bank md_piled md_acts md_actNumbers md_actCounts md_pile post) : Met l y_Md_reduceTo w_Md_reduceTo ({ frames := 2, cells := 0, slots := 0, locals := 45 }) (pc_ (dC, dI) [(cI, .int), (cB, .byte), (cZ, .boolean)] [(a_md, .inr (11, [.ref a_md_tape, .int md_size, .int md_at, .int md_token, .int md_tokenPlace, .int md_number, .int md_sign, .int md_bad, .int md_faultPlace, .int md_place, .ref a_md_acts, .ref a_md_actNumbers, .ref a_md_actCounts, .int md_bank, .int md_unaries, .int md_opens, .ref a_md_pile, .int md_piled, .int md_loop, .ref a_md_begins, .ref a_md_goals, .ref a_md_ranks, .ref a_md_choiceCounts, .ref a_md_whens, .ref a_md_becomes, .ref a_md_guessCounts, .ref a_md_guesses, .ref a_md_unaryCounts, .ref a_md_stack, .ref a_md_nexts, .ref a_md_isBegin, .ref a_md_isGoal, .ref a_md_levels, .ref a_md_queue, .ref a_md_hasGuesses, .int md_keptBits, .ref a_md_rounds, .ref a_md_marked, .ref a_md_other, .ref a_md_heights])), (a_md_acts, .inl (cI, 3000, .inl md_acts)), (a_md_actNumbers, .inl (cI, 3000, .inl md_actNumbers)), (a_md_actCounts, .inl (cI, 3, .inl md_actCounts)), (a_md_pile, .inl (cI, 300, .inl md_pile))] sz adK adV [.ref a_md, .int x1]) (va_Qv (fun (u : Int32 × (Nat → Int32) × (Nat → Int32) × (Nat → Int32)) => post u.1 u.2.1 u.2.2.1 u.2.2.2) (fun (u : Int32 × (Nat → Int32) × (Nat → Int32) × (Nat → Int32)) t => bw_ (dC, dI) [(cI, .int), (cB, .byte), (cZ, .boolean)] (va_A [(a_md, .inr (11, [.ref a_md_tape, .int md_size, .int md_at, .int md_token, .int md_tokenPlace, .int md_number, .int md_sign, .int md_bad, .int md_faultPlace, .int md_place, .ref a_md_acts, .ref a_md_actNumbers, .ref a_md_actCounts, .int md_bank, .int md_unaries, .int md_opens, .ref a_md_pile, .int md_piled, .int md_loop, .ref a_md_begins, .ref a_md_goals, .ref a_md_ranks, .ref a_md_choiceCounts, .ref a_md_whens, .ref a_md_becomes, .ref a_md_guessCounts, .ref a_md_guesses, .ref a_md_unaryCounts, .ref a_md_stack, .ref a_md_nexts, .ref a_md_isBegin, .ref a_md_isGoal, .ref a_md_levels, .ref a_md_queue, .ref a_md_hasGuesses, .int md_keptBits, .ref a_md_rounds, .ref a_md_marked, .ref a_md_other, .ref a_md_heights])), (a_md_acts, .inl (cI, 3000, .inl md_acts)), (a_md_actNumbers, .inl (cI, 3000, .inl md_actNumbers)), (a_md_actCounts, .inl (cI, 3, .inl md_actCounts)), (a_md_pile, .inl (cI, 300, .inl md_pile))] sz) [(a_md, .inr (11, [.ref a_md_tape, .int md_size, .int md_at, .int md_token, .int md_tokenPlace, .int md_number, .int md_sign, .int md_bad, .int md_faultPlace, .int md_place, .ref a_md_acts, .ref a_md_actNumbers, .ref a_md_actCounts, .int md_bank, .int md_unaries, .int md_opens, .ref a_md_pile, .int u.1, .int md_loop, .ref a_md_begins, .ref a_md_goals, .ref a_md_ranks, .ref a_md_choiceCounts, .ref a_md_whens, .ref a_md_becomes, .ref a_md_guessCounts, .ref a_md_guesses, .ref a_md_unaryCounts, .ref a_md_stack, .ref a_md_nexts, .ref a_md_isBegin, .ref a_md_isGoal, .ref a_md_levels, .ref a_md_queue, .ref a_md_hasGuesses, .int md_keptBits, .ref a_md_rounds, .ref a_md_marked, .ref a_md_other, .ref a_md_heights])), (a_md_acts, .inl (cI, 3000, .inl u.2.1)), (a_md_actNumbers, .inl (cI, 3000, .inl u.2.2.1)), (a_md_actCounts, .inl (cI, 3, .inl u.2.2.2)), (a_md_pile, .inl (cI, 300, .inl md_pile))] t) (va_A [(a_md, .inr (11, [.ref a_md_tape, .int md_size, .int md_at, .int md_token, .int md_tokenPlace, .int md_number, .int md_sign, .int md_bad, .int md_faultPlace, .int md_place, .ref a_md_acts, .ref a_md_actNumbers, .ref a_md_actCounts, .int md_bank, .int md_unaries, .int md_opens, .ref a_md_pile, .int md_piled, .int md_loop, .ref a_md_begins, .ref a_md_goals, .ref a_md_ranks, .ref a_md_choiceCounts, .ref a_md_whens, .ref a_md_becomes, .ref a_md_guessCounts, .ref a_md_guesses, .ref a_md_unaryCounts, .ref a_md_stack, .ref a_md_nexts, .ref a_md_isBegin, .ref a_md_isGoal, .ref a_md_levels, .ref a_md_queue, .ref a_md_hasGuesses, .int md_keptBits, .ref a_md_rounds, .ref a_md_marked, .ref a_md_other, .ref a_md_heights])), (a_md_acts, .inl (cI, 3000, .inl md_acts)), (a_md_actNumbers, .inl (cI, 3000, .inl md_actNumbers)), (a_md_actCounts, .inl (cI, 3, .inl md_actCounts)), (a_md_pile, .inl (cI, 300, .inl md_pile))] sz)) 0 0 (va_A [(a_md, .inr (11, [.ref a_md_tape, .int md_size, .int md_at, .int md_token, .int md_tokenPlace, .int md_number, .int md_sign, .int md_bad, .int md_faultPlace, .int md_place, .ref a_md_acts, .ref a_md_actNumbers, .ref a_md_actCounts, .int md_bank, .int md_unaries, .int md_opens, .ref a_md_pile, .int md_piled, .int md_loop, .ref a_md_begins, .ref a_md_goals, .ref a_md_ranks, .ref a_md_choiceCounts, .ref a_md_whens, .ref a_md_becomes, .ref a_md_guessCounts, .ref a_md_guesses, .ref a_md_unaryCounts, .ref a_md_stack, .ref a_md_nexts, .ref a_md_isBegin, .ref a_md_isGoal, .ref a_md_levels, .ref a_md_queue, .ref a_md_hasGuesses, .int md_keptBits, .ref a_md_rounds, .ref a_md_marked, .ref a_md_other, .ref a_md_heights])), (a_md_acts, .inl (cI, 3000, .inl md_acts)), (a_md_actNumbers, .inl (cI, 3000, .inl md_actNumbers)), (a_md_actCounts, .inl (cI, 3, .inl md_actCounts)), (a_md_pile, .inl (cI, 300, .inl md_pile))] sz) := by
  refine Met.ofW (cc := b_Md_reduceTo) (maxL := 2) (ret := none) (by decide) rfl ?_
  intro p e s m args below meth c s₁ B hml hv
  obtain ⟨rfl, hsz, hP, hK, hD0, hN, hT⟩ := hv
  have hx := B.exec
  have hb := B.bytes
  have hr := B.returns
  have hts := atoms_spec (ws := w_Md_reduceTo) B.pre
  have hown : s.vm.findClass "LoopInductionModel" = some m.cls := findClass_of_methodNamed B.named
  have hlocks := B.notSynchronized
  subst hsz
  have hD := hD0.self (sz := s.heap.size)
  generalize hAe : va_A [(a_md, .inr (11, [.ref a_md_tape, .int md_size, .int md_at, .int md_token, .int md_tokenPlace, .int md_number, .int md_sign, .int md_bad, .int md_faultPlace, .int md_place, .ref a_md_acts, .ref a_md_actNumbers, .ref a_md_actCounts, .int md_bank, .int md_unaries, .int md_opens, .ref a_md_pile, .int md_piled, .int md_loop, .ref a_md_begins, .ref a_md_goals, .ref a_md_ranks, .ref a_md_choiceCounts, .ref a_md_whens, .ref a_md_becomes, .ref a_md_guessCounts, .ref a_md_guesses, .ref a_md_unaryCounts, .ref a_md_stack, .ref a_md_nexts, .ref a_md_isBegin, .ref a_md_isGoal, .ref a_md_levels, .ref a_md_queue, .ref a_md_hasGuesses, .int md_keptBits, .ref a_md_rounds, .ref a_md_marked, .ref a_md_other, .ref a_md_heights])), (a_md_acts, .inl (cI, 3000, .inl md_acts)), (a_md_actNumbers, .inl (cI, 3000, .inl md_actNumbers)), (a_md_actCounts, .inl (cI, 3, .inl md_actCounts)), (a_md_pile, .inl (cI, 300, .inl md_pile))] s.heap.size = A at hD hT ⊢
  have hA : ∀ q : Nat, s.heap.size ≤ q → A q := fun q h => by rw [← hAe]; exact Or.inr h
  have hS : va_S A s.heap s.heap [] := va_S.rf
  generalize hQ : MQ below _ _ s 0 0 _ = QQ
  have hl := lv_entry ([.ref a_md, .int x1]) (n := 2) (Nat.le_of_ble_eq_true rfl)
  rw [lg_entry_eq]
  generalize (lg_sl ([.ref a_md, .int x1]) ++ List.replicate (2 - (lg_sl ([.ref a_md, .int x1])).length) Slot.unset).toArray = ls at hl ⊢
  have hl : lv_has ls 2 [(0, .ref a_md), (1, .int x1)] := hl
  refine lv_aload_n hx hb d_Md_reduceTo_0 rfl (lv_at hl 0 rfl) ?_
  refine lv_iload_n hx hb d_Md_reduceTo_1 rfl (lv_at hl 1 rfl) ?_
  refine lv_iconst (v := 1) hx hb d_Md_reduceTo_2 (by decide) ?_
  refine jn_v (wr := []) (va_runV (As := [.int x1, .int 1]) (rest := []) ⟨hx, hb, hml, hown, hts⟩ (c_Md_reduceLevel l dC dI cI cB cZ adK adV _ a_md a_md_tape a_md_acts a_md_actNumbers a_md_actCounts a_md_pile a_md_begins a_md_goals a_md_ranks a_md_choiceCounts a_md_whens a_md_becomes a_md_guessCounts a_md_guesses a_md_unaryCounts a_md_stack a_md_nexts a_md_isBegin a_md_isGoal a_md_levels a_md_queue a_md_hasGuesses a_md_rounds a_md_marked a_md_other a_md_heights md_size md_at md_token md_tokenPlace md_number md_sign md_bad md_faultPlace md_place md_bank md_unaries md_opens md_piled md_loop md_keptBits md_acts md_actNumbers md_actCounts md_pile x1 1 _ h) (cwV 2 hts (gv_ m_1304 m_1306 m_65 m_96 m_1307) rfl rfl rfl pd_Md_reduceLevel ⟨Nat.le_of_ble_eq_true rfl, Nat.le_of_ble_eq_true rfl⟩) ⟨pc_blind, va_recv hK hP (ci := 11) (q0 := 0) rfl rfl, pc_of (hP.sub [0, 1, 2, 3, 4] rfl) hK (hD.sub [0, 1, 2, 3, 4] (by decide) rfl) hN hT hS hA⟩ rfl rfl hl.1 rfl (lv_room (Nat.le_of_ble_eq_true rfl)) d_Md_reduceTo_3 ⟨Nat.zero_le _, Nat.zero_le _⟩) hP hD hS hA [0, 1, 2, 3, 4] [] rfl rfl (by decide) (by decide) (fun u_ H locs h hP hD hS => ?_)
  obtain ⟨md_piled_1, md_acts_2, md_actNumbers_3, md_actCounts_4⟩ := u_
  have hP : va_P (dC, dI) vwCl [(a_md, .inr (11, [.ref a_md_tape, .int md_size, .int md_at, .int md_token, .int md_tokenPlace, .int md_number, .int md_sign, .int md_bad, .int md_faultPlace, .int md_place, .ref a_md_acts, .ref a_md_actNumbers, .ref a_md_actCounts, .int md_bank, .int md_unaries, .int md_opens, .ref a_md_pile, .int md_piled_1, .int md_loop, .ref a_md_begins, .ref a_md_goals, .ref a_md_ranks, .ref a_md_choiceCounts, .ref a_md_whens, .ref a_md_becomes, .ref a_md_guessCounts, .ref a_md_guesses, .ref a_md_unaryCounts, .ref a_md_stack, .ref a_md_nexts, .ref a_md_isBegin, .ref a_md_isGoal, .ref a_md_levels, .ref a_md_queue, .ref a_md_hasGuesses, .int md_keptBits, .ref a_md_rounds, .ref a_md_marked, .ref a_md_other, .ref a_md_heights])), (a_md_acts, .inl (cI, 3000, .inl md_acts_2)), (a_md_actNumbers, .inl (cI, 3000, .inl md_actNumbers_3)), (a_md_actCounts, .inl (cI, 3, .inl md_actCounts_4)), (a_md_pile, .inl (cI, 300, .inl md_pile))] H := hP
  have hD : va_D A [(a_md, .inr (11, [.ref a_md_tape, .int md_size, .int md_at, .int md_token, .int md_tokenPlace, .int md_number, .int md_sign, .int md_bad, .int md_faultPlace, .int md_place, .ref a_md_acts, .ref a_md_actNumbers, .ref a_md_actCounts, .int md_bank, .int md_unaries, .int md_opens, .ref a_md_pile, .int md_piled_1, .int md_loop, .ref a_md_begins, .ref a_md_goals, .ref a_md_ranks, .ref a_md_choiceCounts, .ref a_md_whens, .ref a_md_becomes, .ref a_md_guessCounts, .ref a_md_guesses, .ref a_md_unaryCounts, .ref a_md_stack, .ref a_md_nexts, .ref a_md_isBegin, .ref a_md_isGoal, .ref a_md_levels, .ref a_md_queue, .ref a_md_hasGuesses, .int md_keptBits, .ref a_md_rounds, .ref a_md_marked, .ref a_md_other, .ref a_md_heights])), (a_md_acts, .inl (cI, 3000, .inl md_acts_2)), (a_md_actNumbers, .inl (cI, 3000, .inl md_actNumbers_3)), (a_md_actCounts, .inl (cI, 3, .inl md_actCounts_4)), (a_md_pile, .inl (cI, 300, .inl md_pile))] := hD
  subst hQ
  have hP9 := hP
  have hD9 := hD
  exact W.vret hx hb hr (fun t ht hW => ⟨⟨(md_piled_1, md_acts_2, md_actNumbers_3, md_actCounts_4), rfl, h, by rw [ht]; exact hP9, va_K.moved hW.alike hK, hD9⟩, hS.F ht⟩) hS.2.2 d_Md_reduceTo_6
