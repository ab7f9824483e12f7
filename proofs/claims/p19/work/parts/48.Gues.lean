abbrev b_Gues_keptSum : ByteArray := prog_4_method_2_code
abbrev y_Gues_keptSum : MethodName := ⟨"LoopInduction$Guesses", "keptSum", "()I"⟩
abbrev w_Gues_keptSum : List Cond := .code y_Gues_keptSum b_Gues_keptSum 1 (some .int) :: allW
theorem pn_Gues_keptSum : y_Gues_keptSum.cls ≠ "java/lang/invoke/MethodHandle" ∧ y_Gues_keptSum.cls ≠ "java/lang/invoke/VarHandle" ∧ (parseMethodDescriptor y_Gues_keptSum.desc).map (fun d => d.parameters.length) = some 0 := by decide +kernel
theorem pd_Gues_keptSum : y_Gues_keptSum.cls = "LoopInduction$Guesses" ∧ y_Gues_keptSum.cls ≠ "java/lang/invoke/MethodHandle" ∧ y_Gues_keptSum.cls ≠ "java/lang/invoke/VarHandle" ∧ (parseMethodDescriptor y_Gues_keptSum.desc).map (fun d => d.parameters.length) = some 0 := by decide +kernel
abbrev b_Gues_keptFacts : ByteArray := prog_4_method_3_code
abbrev y_Gues_keptFacts : MethodName := ⟨"LoopInduction$Guesses", "keptFacts", "()I"⟩
abbrev w_Gues_keptFacts : List Cond := .code y_Gues_keptFacts b_Gues_keptFacts 1 (some .int) :: allW
theorem pn_Gues_keptFacts : y_Gues_keptFacts.cls ≠ "java/lang/invoke/MethodHandle" ∧ y_Gues_keptFacts.cls ≠ "java/lang/invoke/VarHandle" ∧ (parseMethodDescriptor y_Gues_keptFacts.desc).map (fun d => d.parameters.length) = some 0 := by decide +kernel
theorem pd_Gues_keptFacts : y_Gues_keptFacts.cls = "LoopInduction$Guesses" ∧ y_Gues_keptFacts.cls ≠ "java/lang/invoke/MethodHandle" ∧ y_Gues_keptFacts.cls ≠ "java/lang/invoke/VarHandle" ∧ (parseMethodDescriptor y_Gues_keptFacts.desc).map (fun d => d.parameters.length) = some 0 := by decide +kernel
abbrev b_Gues_roundOf : ByteArray := prog_4_method_4_code
abbrev y_Gues_roundOf : MethodName := ⟨"LoopInduction$Guesses", "roundOf", "(I)I"⟩
abbrev w_Gues_roundOf : List Cond := .code y_Gues_roundOf b_Gues_roundOf 2 (some .int) :: allW
theorem pn_Gues_roundOf : y_Gues_roundOf.cls ≠ "java/lang/invoke/MethodHandle" ∧ y_Gues_roundOf.cls ≠ "java/lang/invoke/VarHandle" ∧ (parseMethodDescriptor y_Gues_roundOf.desc).map (fun d => d.parameters.length) = some 1 := by decide +kernel
theorem pd_Gues_roundOf : y_Gues_roundOf.cls = "LoopInduction$Guesses" ∧ y_Gues_roundOf.cls ≠ "java/lang/invoke/MethodHandle" ∧ y_Gues_roundOf.cls ≠ "java/lang/invoke/VarHandle" ∧ (parseMethodDescriptor y_Gues_roundOf.desc).map (fun d => d.parameters.length) = some 1 := by decide +kernel
abbrev b_Gues_lackedAtBegin : ByteArray := prog_4_method_7_code
abbrev y_Gues_lackedAtBegin : MethodName := ⟨"LoopInduction$Guesses", "lackedAtBegin", "()I"⟩
abbrev w_Gues_lackedAtBegin : List Cond := .code y_Gues_lackedAtBegin b_Gues_lackedAtBegin 3 (some .int) :: allW
theorem pn_Gues_lackedAtBegin : y_Gues_lackedAtBegin.cls ≠ "java/lang/invoke/MethodHandle" ∧ y_Gues_lackedAtBegin.cls ≠ "java/lang/invoke/VarHandle" ∧ (parseMethodDescriptor y_Gues_lackedAtBegin.desc).map (fun d => d.parameters.length) = some 0 := by decide +kernel
theorem pd_Gues_lackedAtBegin : y_Gues_lackedAtBegin.cls = "LoopInduction$Guesses" ∧ y_Gues_lackedAtBegin.cls ≠ "java/lang/invoke/MethodHandle" ∧ y_Gues_lackedAtBegin.cls ≠ "java/lang/invoke/VarHandle" ∧ (parseMethodDescriptor y_Gues_lackedAtBegin.desc).map (fun d => d.parameters.length) = some 0 := by decide +kernel
abbrev b_Gues_dismiss : ByteArray := prog_4_method_6_code
abbrev y_Gues_dismiss : MethodName := ⟨"LoopInduction$Guesses", "dismiss", "(II)V"⟩
abbrev w_Gues_dismiss : List Cond := .code y_Gues_dismiss b_Gues_dismiss 4 none :: allW
theorem pn_Gues_dismiss : y_Gues_dismiss.cls ≠ "java/lang/invoke/MethodHandle" ∧ y_Gues_dismiss.cls ≠ "java/lang/invoke/VarHandle" ∧ (parseMethodDescriptor y_Gues_dismiss.desc).map (fun d => d.parameters.length) = some 2 := by decide +kernel
theorem pd_Gues_dismiss : y_Gues_dismiss.cls = "LoopInduction$Guesses" ∧ y_Gues_dismiss.cls ≠ "java/lang/invoke/MethodHandle" ∧ y_Gues_dismiss.cls ≠ "java/lang/invoke/VarHandle" ∧ (parseMethodDescriptor y_Gues_dismiss.desc).map (fun d => d.parameters.length) = some 2 := by decide +kernel
abbrev b_Gues_lackedBehind : ByteArray := prog_4_method_9_code
abbrev y_Gues_lackedBehind : MethodName := ⟨"LoopInduction$Guesses", "lackedBehind", "(I)I"⟩
abbrev w_Gues_lackedBehind : List Cond := .code y_Gues_lackedBehind b_Gues_lackedBehind 5 (some .int) :: allW
theorem pn_Gues_lackedBehind : y_Gues_lackedBehind.cls ≠ "java/lang/invoke/MethodHandle" ∧ y_Gues_lackedBehind.cls ≠ "java/lang/invoke/VarHandle" ∧ (parseMethodDescriptor y_Gues_lackedBehind.desc).map (fun d => d.parameters.length) = some 1 := by decide +kernel
theorem pd_Gues_lackedBehind : y_Gues_lackedBehind.cls = "LoopInduction$Guesses" ∧ y_Gues_lackedBehind.cls ≠ "java/lang/invoke/MethodHandle" ∧ y_Gues_lackedBehind.cls ≠ "java/lang/invoke/VarHandle" ∧ (parseMethodDescriptor y_Gues_lackedBehind.desc).map (fun d => d.parameters.length) = some 1 := by decide +kernel
abbrev b_Gues_lackedBehindTurns : ByteArray := prog_4_method_8_code
abbrev y_Gues_lackedBehindTurns : MethodName := ⟨"LoopInduction$Guesses", "lackedBehindTurns", "()I"⟩
abbrev w_Gues_lackedBehindTurns : List Cond := .code y_Gues_lackedBehindTurns b_Gues_lackedBehindTurns 3 (some .int) :: allW
theorem pn_Gues_lackedBehindTurns : y_Gues_lackedBehindTurns.cls ≠ "java/lang/invoke/MethodHandle" ∧ y_Gues_lackedBehindTurns.cls ≠ "java/lang/invoke/VarHandle" ∧ (parseMethodDescriptor y_Gues_lackedBehindTurns.desc).map (fun d => d.parameters.length) = some 0 := by decide +kernel
theorem pd_Gues_lackedBehindTurns : y_Gues_lackedBehindTurns.cls = "LoopInduction$Guesses" ∧ y_Gues_lackedBehindTurns.cls ≠ "java/lang/invoke/MethodHandle" ∧ y_Gues_lackedBehindTurns.cls ≠ "java/lang/invoke/VarHandle" ∧ (parseMethodDescriptor y_Gues_lackedBehindTurns.desc).map (fun d => d.parameters.length) = some 0 := by decide +kernel
abbrev b_Gues_sift : ByteArray := prog_4_method_5_code
abbrev y_Gues_sift : MethodName := ⟨"LoopInduction$Guesses", "sift", "()V"⟩
abbrev w_Gues_sift : List Cond := .code y_Gues_sift b_Gues_sift 3 none :: allW
theorem pn_Gues_sift : y_Gues_sift.cls ≠ "java/lang/invoke/MethodHandle" ∧ y_Gues_sift.cls ≠ "java/lang/invoke/VarHandle" ∧ (parseMethodDescriptor y_Gues_sift.desc).map (fun d => d.parameters.length) = some 0 := by decide +kernel
theorem pd_Gues_sift : y_Gues_sift.cls = "LoopInduction$Guesses" ∧ y_Gues_sift.cls ≠ "java/lang/invoke/MethodHandle" ∧ y_Gues_sift.cls ≠ "java/lang/invoke/VarHandle" ∧ (parseMethodDescriptor y_Gues_sift.desc).map (fun d => d.parameters.length) = some 0 := by decide +kernel
abbrev b_Gues_implyGoal : ByteArray := prog_4_method_10_code
abbrev y_Gues_implyGoal : MethodName := ⟨"LoopInduction$Guesses", "implyGoal", "()Z"⟩
abbrev w_Gues_implyGoal : List Cond := .code y_Gues_implyGoal b_Gues_implyGoal 1 (some .boolean) :: allW
theorem pn_Gues_implyGoal : y_Gues_implyGoal.cls ≠ "java/lang/invoke/MethodHandle" ∧ y_Gues_implyGoal.cls ≠ "java/lang/invoke/VarHandle" ∧ (parseMethodDescriptor y_Gues_implyGoal.desc).map (fun d => d.parameters.length) = some 0 := by decide +kernel
theorem pd_Gues_implyGoal : y_Gues_implyGoal.cls = "LoopInduction$Guesses" ∧ y_Gues_implyGoal.cls ≠ "java/lang/invoke/MethodHandle" ∧ y_Gues_implyGoal.cls ≠ "java/lang/invoke/VarHandle" ∧ (parseMethodDescriptor y_Gues_implyGoal.desc).map (fun d => d.parameters.length) = some 0 := by decide +kernel
abbrev b_Gues_leadsToMarked : ByteArray := prog_4_method_13_code
abbrev y_Gues_leadsToMarked : MethodName := ⟨"LoopInduction$Guesses", "leadsToMarked", "(I)Z"⟩
abbrev w_Gues_leadsToMarked : List Cond := .code y_Gues_leadsToMarked b_Gues_leadsToMarked 4 (some .boolean) :: allW
theorem pn_Gues_leadsToMarked : y_Gues_leadsToMarked.cls ≠ "java/lang/invoke/MethodHandle" ∧ y_Gues_leadsToMarked.cls ≠ "java/lang/invoke/VarHandle" ∧ (parseMethodDescriptor y_Gues_leadsToMarked.desc).map (fun d => d.parameters.length) = some 1 := by decide +kernel
theorem pd_Gues_leadsToMarked : y_Gues_leadsToMarked.cls = "LoopInduction$Guesses" ∧ y_Gues_leadsToMarked.cls ≠ "java/lang/invoke/MethodHandle" ∧ y_Gues_leadsToMarked.cls ≠ "java/lang/invoke/VarHandle" ∧ (parseMethodDescriptor y_Gues_leadsToMarked.desc).map (fun d => d.parameters.length) = some 1 := by decide +kernel
abbrev b_Gues_stepBack : ByteArray := prog_4_method_12_code
abbrev y_Gues_stepBack : MethodName := ⟨"LoopInduction$Guesses", "stepBack", "(I)Z"⟩
abbrev w_Gues_stepBack : List Cond := .code y_Gues_stepBack b_Gues_stepBack 4 (some .boolean) :: allW
theorem pn_Gues_stepBack : y_Gues_stepBack.cls ≠ "java/lang/invoke/MethodHandle" ∧ y_Gues_stepBack.cls ≠ "java/lang/invoke/VarHandle" ∧ (parseMethodDescriptor y_Gues_stepBack.desc).map (fun d => d.parameters.length) = some 1 := by decide +kernel
theorem pd_Gues_stepBack : y_Gues_stepBack.cls = "LoopInduction$Guesses" ∧ y_Gues_stepBack.cls ≠ "java/lang/invoke/MethodHandle" ∧ y_Gues_stepBack.cls ≠ "java/lang/invoke/VarHandle" ∧ (parseMethodDescriptor y_Gues_stepBack.desc).map (fun d => d.parameters.length) = some 1 := by decide +kernel
abbrev b_Gues_leastInduction : ByteArray := prog_4_method_11_code
abbrev y_Gues_leastInduction : MethodName := ⟨"LoopInduction$Guesses", "leastInduction", "(ZI)I"⟩
abbrev w_Gues_leastInduction : List Cond := .code y_Gues_leastInduction b_Gues_leastInduction 5 (some .int) :: allW
theorem pn_Gues_leastInduction : y_Gues_leastInduction.cls ≠ "java/lang/invoke/MethodHandle" ∧ y_Gues_leastInduction.cls ≠ "java/lang/invoke/VarHandle" ∧ (parseMethodDescriptor y_Gues_leastInduction.desc).map (fun d => d.parameters.length) = some 2 := by decide +kernel
theorem pd_Gues_leastInduction : y_Gues_leastInduction.cls = "LoopInduction$Guesses" ∧ y_Gues_leastInduction.cls ≠ "java/lang/invoke/MethodHandle" ∧ y_Gues_leastInduction.cls ≠ "java/lang/invoke/VarHandle" ∧ (parseMethodDescriptor y_Gues_leastInduction.desc).map (fun d => d.parameters.length) = some 2 := by decide +kernel
theorem d_Gues_keptSum_0 : decode b_Gues_keptSum 0 = .ok (.aload_n 0, 1) := by decide +kernel
theorem d_Gues_keptSum_1 : decode b_Gues_keptSum 1 = .ok (.getfield 15, 3) := by decide +kernel
theorem d_Gues_keptSum_4 : decode b_Gues_keptSum 4 = .ok (.ireturn, 1) := by decide +kernel
theorem d_Gues_keptFacts_0 : decode b_Gues_keptFacts 0 = .ok (.aload_n 0, 1) := by decide +kernel
theorem d_Gues_keptFacts_1 : decode b_Gues_keptFacts 1 = .ok (.getfield 15, 3) := by decide +kernel
theorem d_Gues_keptFacts_4 : decode b_Gues_keptFacts 4 = .ok (.iconst 4, 1) := by decide +kernel
theorem d_Gues_keptFacts_5 : decode b_Gues_keptFacts 5 = .ok (.ishl, 1) := by decide +kernel
theorem d_Gues_keptFacts_6 : decode b_Gues_keptFacts 6 = .ok (.ireturn, 1) := by decide +kernel
theorem d_Gues_roundOf_0 : decode b_Gues_roundOf 0 = .ok (.iload_n 1, 1) := by decide +kernel
theorem d_Gues_roundOf_1 : decode b_Gues_roundOf 1 = .ok (.ifCond .lt 32, 3) := by decide +kernel
theorem d_Gues_roundOf_4 : decode b_Gues_roundOf 4 = .ok (.iload_n 1, 1) := by decide +kernel
theorem d_Gues_roundOf_5 : decode b_Gues_roundOf 5 = .ok (.aload_n 0, 1) := by decide +kernel
theorem d_Gues_roundOf_6 : decode b_Gues_roundOf 6 = .ok (.getfield 19, 3) := by decide +kernel
theorem d_Gues_roundOf_9 : decode b_Gues_roundOf 9 = .ok (.invokevirtual 38, 3) := by decide +kernel
theorem d_Gues_roundOf_12 : decode b_Gues_roundOf 12 = .ok (.if_icmp .ge 21, 3) := by decide +kernel
theorem d_Gues_roundOf_15 : decode b_Gues_roundOf 15 = .ok (.iload_n 1, 1) := by decide +kernel
theorem d_Gues_roundOf_16 : decode b_Gues_roundOf 16 = .ok (.aload_n 0, 1) := by decide +kernel
theorem d_Gues_roundOf_17 : decode b_Gues_roundOf 17 = .ok (.getfield 9, 3) := by decide +kernel
theorem d_Gues_roundOf_20 : decode b_Gues_roundOf 20 = .ok (.arraylength, 1) := by decide +kernel
theorem d_Gues_roundOf_21 : decode b_Gues_roundOf 21 = .ok (.if_icmp .ge 12, 3) := by decide +kernel
theorem d_Gues_roundOf_24 : decode b_Gues_roundOf 24 = .ok (.aload_n 0, 1) := by decide +kernel
theorem d_Gues_roundOf_25 : decode b_Gues_roundOf 25 = .ok (.getfield 9, 3) := by decide +kernel
theorem d_Gues_roundOf_28 : decode b_Gues_roundOf 28 = .ok (.iload_n 1, 1) := by decide +kernel
theorem d_Gues_roundOf_29 : decode b_Gues_roundOf 29 = .ok (.iaload, 1) := by decide +kernel
theorem d_Gues_roundOf_30 : decode b_Gues_roundOf 30 = .ok (.goto 4, 3) := by decide +kernel
theorem d_Gues_roundOf_33 : decode b_Gues_roundOf 33 = .ok (.iconst (-1), 1) := by decide +kernel
theorem d_Gues_roundOf_34 : decode b_Gues_roundOf 34 = .ok (.ireturn, 1) := by decide +kernel
theorem d_Gues_lackedAtBegin_0 : decode b_Gues_lackedAtBegin 0 = .ok (.iconst 0, 1) := by decide +kernel
theorem d_Gues_lackedAtBegin_1 : decode b_Gues_lackedAtBegin 1 = .ok (.istore_n 1, 1) := by decide +kernel
theorem d_Gues_lackedAtBegin_2 : decode b_Gues_lackedAtBegin 2 = .ok (.iconst 0, 1) := by decide +kernel
theorem d_Gues_lackedAtBegin_3 : decode b_Gues_lackedAtBegin 3 = .ok (.istore_n 2, 1) := by decide +kernel
theorem d_Gues_lackedAtBegin_4 : decode b_Gues_lackedAtBegin 4 = .ok (.iload_n 2, 1) := by decide +kernel
theorem d_Gues_lackedAtBegin_5 : decode b_Gues_lackedAtBegin 5 = .ok (.sipush 4096, 3) := by decide +kernel
theorem d_Gues_lackedAtBegin_8 : decode b_Gues_lackedAtBegin 8 = .ok (.if_icmp .ge 39, 3) := by decide +kernel
theorem d_Gues_lackedAtBegin_11 : decode b_Gues_lackedAtBegin 11 = .ok (.aload_n 0, 1) := by decide +kernel
theorem d_Gues_lackedAtBegin_12 : decode b_Gues_lackedAtBegin 12 = .ok (.getfield 19, 3) := by decide +kernel
theorem d_Gues_lackedAtBegin_15 : decode b_Gues_lackedAtBegin 15 = .ok (.iload_n 2, 1) := by decide +kernel
theorem d_Gues_lackedAtBegin_16 : decode b_Gues_lackedAtBegin 16 = .ok (.iconst 1, 1) := by decide +kernel
theorem d_Gues_lackedAtBegin_17 : decode b_Gues_lackedAtBegin 17 = .ok (.invokevirtual 58, 3) := by decide +kernel
theorem d_Gues_lackedAtBegin_20 : decode b_Gues_lackedAtBegin 20 = .ok (.ifCond .eq 21, 3) := by decide +kernel
theorem d_Gues_lackedAtBegin_23 : decode b_Gues_lackedAtBegin 23 = .ok (.iload_n 1, 1) := by decide +kernel
theorem d_Gues_lackedAtBegin_24 : decode b_Gues_lackedAtBegin 24 = .ok (.aload_n 0, 1) := by decide +kernel
theorem d_Gues_lackedAtBegin_25 : decode b_Gues_lackedAtBegin 25 = .ok (.getfield 15, 3) := by decide +kernel
theorem d_Gues_lackedAtBegin_28 : decode b_Gues_lackedAtBegin 28 = .ok (.aload_n 0, 1) := by decide +kernel
theorem d_Gues_lackedAtBegin_29 : decode b_Gues_lackedAtBegin 29 = .ok (.getfield 19, 3) := by decide +kernel
theorem d_Gues_lackedAtBegin_32 : decode b_Gues_lackedAtBegin 32 = .ok (.iload_n 2, 1) := by decide +kernel
theorem d_Gues_lackedAtBegin_33 : decode b_Gues_lackedAtBegin 33 = .ok (.invokevirtual 62, 3) := by decide +kernel
theorem d_Gues_lackedAtBegin_36 : decode b_Gues_lackedAtBegin 36 = .ok (.iconst (-1), 1) := by decide +kernel
theorem d_Gues_lackedAtBegin_37 : decode b_Gues_lackedAtBegin 37 = .ok (.ixor, 1) := by decide +kernel
theorem d_Gues_lackedAtBegin_38 : decode b_Gues_lackedAtBegin 38 = .ok (.iand, 1) := by decide +kernel
theorem d_Gues_lackedAtBegin_39 : decode b_Gues_lackedAtBegin 39 = .ok (.ior, 1) := by decide +kernel
theorem d_Gues_lackedAtBegin_40 : decode b_Gues_lackedAtBegin 40 = .ok (.istore_n 1, 1) := by decide +kernel
theorem d_Gues_lackedAtBegin_41 : decode b_Gues_lackedAtBegin 41 = .ok (.iinc 2 1, 3) := by decide +kernel
theorem d_Gues_lackedAtBegin_44 : decode b_Gues_lackedAtBegin 44 = .ok (.goto (-40), 3) := by decide +kernel
theorem d_Gues_lackedAtBegin_47 : decode b_Gues_lackedAtBegin 47 = .ok (.iload_n 1, 1) := by decide +kernel
theorem d_Gues_lackedAtBegin_48 : decode b_Gues_lackedAtBegin 48 = .ok (.ireturn, 1) := by decide +kernel
theorem d_Gues_dismiss_0 : decode b_Gues_dismiss 0 = .ok (.aload_n 0, 1) := by decide +kernel
theorem d_Gues_dismiss_1 : decode b_Gues_dismiss 1 = .ok (.dup, 1) := by decide +kernel
theorem d_Gues_dismiss_2 : decode b_Gues_dismiss 2 = .ok (.getfield 15, 3) := by decide +kernel
theorem d_Gues_dismiss_5 : decode b_Gues_dismiss 5 = .ok (.iload_n 1, 1) := by decide +kernel
theorem d_Gues_dismiss_6 : decode b_Gues_dismiss 6 = .ok (.iconst (-1), 1) := by decide +kernel
theorem d_Gues_dismiss_7 : decode b_Gues_dismiss 7 = .ok (.ixor, 1) := by decide +kernel
theorem d_Gues_dismiss_8 : decode b_Gues_dismiss 8 = .ok (.iand, 1) := by decide +kernel
theorem d_Gues_dismiss_9 : decode b_Gues_dismiss 9 = .ok (.putfield 15, 3) := by decide +kernel
theorem d_Gues_dismiss_12 : decode b_Gues_dismiss 12 = .ok (.iconst 0, 1) := by decide +kernel
theorem d_Gues_dismiss_13 : decode b_Gues_dismiss 13 = .ok (.istore_n 3, 1) := by decide +kernel
theorem d_Gues_dismiss_14 : decode b_Gues_dismiss 14 = .ok (.iload_n 3, 1) := by decide +kernel
theorem d_Gues_dismiss_15 : decode b_Gues_dismiss 15 = .ok (.bipush 12, 2) := by decide +kernel
theorem d_Gues_dismiss_17 : decode b_Gues_dismiss 17 = .ok (.if_icmp .ge 25, 3) := by decide +kernel
theorem d_Gues_dismiss_20 : decode b_Gues_dismiss 20 = .ok (.iload_n 1, 1) := by decide +kernel
theorem d_Gues_dismiss_21 : decode b_Gues_dismiss 21 = .ok (.iload_n 3, 1) := by decide +kernel
theorem d_Gues_dismiss_22 : decode b_Gues_dismiss 22 = .ok (.ishr, 1) := by decide +kernel
theorem d_Gues_dismiss_23 : decode b_Gues_dismiss 23 = .ok (.iconst 1, 1) := by decide +kernel
theorem d_Gues_dismiss_24 : decode b_Gues_dismiss 24 = .ok (.iand, 1) := by decide +kernel
theorem d_Gues_dismiss_25 : decode b_Gues_dismiss 25 = .ok (.iconst 1, 1) := by decide +kernel
theorem d_Gues_dismiss_26 : decode b_Gues_dismiss 26 = .ok (.if_icmp .ne 10, 3) := by decide +kernel
theorem d_Gues_dismiss_29 : decode b_Gues_dismiss 29 = .ok (.aload_n 0, 1) := by decide +kernel
theorem d_Gues_dismiss_30 : decode b_Gues_dismiss 30 = .ok (.getfield 9, 3) := by decide +kernel
theorem d_Gues_dismiss_33 : decode b_Gues_dismiss 33 = .ok (.iload_n 3, 1) := by decide +kernel
theorem d_Gues_dismiss_34 : decode b_Gues_dismiss 34 = .ok (.iload_n 2, 1) := by decide +kernel
theorem d_Gues_dismiss_35 : decode b_Gues_dismiss 35 = .ok (.iastore, 1) := by decide +kernel
theorem d_Gues_dismiss_36 : decode b_Gues_dismiss 36 = .ok (.iinc 3 1, 3) := by decide +kernel
theorem d_Gues_dismiss_39 : decode b_Gues_dismiss 39 = .ok (.goto (-25), 3) := by decide +kernel
theorem d_Gues_dismiss_42 : decode b_Gues_dismiss 42 = .ok (.return_, 1) := by decide +kernel
theorem d_Gues_lackedBehind_0 : decode b_Gues_lackedBehind 0 = .ok (.iconst 0, 1) := by decide +kernel
theorem d_Gues_lackedBehind_1 : decode b_Gues_lackedBehind 1 = .ok (.istore_n 2, 1) := by decide +kernel
theorem d_Gues_lackedBehind_2 : decode b_Gues_lackedBehind 2 = .ok (.iconst 0, 1) := by decide +kernel
theorem d_Gues_lackedBehind_3 : decode b_Gues_lackedBehind 3 = .ok (.istore_n 3, 1) := by decide +kernel
theorem d_Gues_lackedBehind_4 : decode b_Gues_lackedBehind 4 = .ok (.iload_n 3, 1) := by decide +kernel
theorem d_Gues_lackedBehind_5 : decode b_Gues_lackedBehind 5 = .ok (.aload_n 0, 1) := by decide +kernel
theorem d_Gues_lackedBehind_6 : decode b_Gues_lackedBehind 6 = .ok (.getfield 19, 3) := by decide +kernel
theorem d_Gues_lackedBehind_9 : decode b_Gues_lackedBehind 9 = .ok (.invokevirtual 72, 3) := by decide +kernel
theorem d_Gues_lackedBehind_12 : decode b_Gues_lackedBehind 12 = .ok (.if_icmp .ge 45, 3) := by decide +kernel
theorem d_Gues_lackedBehind_15 : decode b_Gues_lackedBehind 15 = .ok (.aload_n 0, 1) := by decide +kernel
theorem d_Gues_lackedBehind_16 : decode b_Gues_lackedBehind 16 = .ok (.getfield 19, 3) := by decide +kernel
theorem d_Gues_lackedBehind_19 : decode b_Gues_lackedBehind 19 = .ok (.iload_n 1, 1) := by decide +kernel
theorem d_Gues_lackedBehind_20 : decode b_Gues_lackedBehind 20 = .ok (.iload_n 3, 1) := by decide +kernel
theorem d_Gues_lackedBehind_21 : decode b_Gues_lackedBehind 21 = .ok (.invokevirtual 75, 3) := by decide +kernel
theorem d_Gues_lackedBehind_24 : decode b_Gues_lackedBehind 24 = .ok (.istore 4, 2) := by decide +kernel
theorem d_Gues_lackedBehind_26 : decode b_Gues_lackedBehind 26 = .ok (.iload 4, 2) := by decide +kernel
theorem d_Gues_lackedBehind_28 : decode b_Gues_lackedBehind 28 = .ok (.iconst (-1), 1) := by decide +kernel
theorem d_Gues_lackedBehind_29 : decode b_Gues_lackedBehind 29 = .ok (.if_icmp .eq 22, 3) := by decide +kernel
theorem d_Gues_lackedBehind_32 : decode b_Gues_lackedBehind 32 = .ok (.iload_n 2, 1) := by decide +kernel
theorem d_Gues_lackedBehind_33 : decode b_Gues_lackedBehind 33 = .ok (.aload_n 0, 1) := by decide +kernel
theorem d_Gues_lackedBehind_34 : decode b_Gues_lackedBehind 34 = .ok (.getfield 15, 3) := by decide +kernel
theorem d_Gues_lackedBehind_37 : decode b_Gues_lackedBehind 37 = .ok (.aload_n 0, 1) := by decide +kernel
theorem d_Gues_lackedBehind_38 : decode b_Gues_lackedBehind 38 = .ok (.getfield 19, 3) := by decide +kernel
theorem d_Gues_lackedBehind_41 : decode b_Gues_lackedBehind 41 = .ok (.iload 4, 2) := by decide +kernel
theorem d_Gues_lackedBehind_43 : decode b_Gues_lackedBehind 43 = .ok (.invokevirtual 62, 3) := by decide +kernel
theorem d_Gues_lackedBehind_46 : decode b_Gues_lackedBehind 46 = .ok (.iconst (-1), 1) := by decide +kernel
theorem d_Gues_lackedBehind_47 : decode b_Gues_lackedBehind 47 = .ok (.ixor, 1) := by decide +kernel
theorem d_Gues_lackedBehind_48 : decode b_Gues_lackedBehind 48 = .ok (.iand, 1) := by decide +kernel
theorem d_Gues_lackedBehind_49 : decode b_Gues_lackedBehind 49 = .ok (.ior, 1) := by decide +kernel
theorem d_Gues_lackedBehind_50 : decode b_Gues_lackedBehind 50 = .ok (.istore_n 2, 1) := by decide +kernel
theorem d_Gues_lackedBehind_51 : decode b_Gues_lackedBehind 51 = .ok (.iinc 3 1, 3) := by decide +kernel
theorem d_Gues_lackedBehind_54 : decode b_Gues_lackedBehind 54 = .ok (.goto (-50), 3) := by decide +kernel
theorem d_Gues_lackedBehind_57 : decode b_Gues_lackedBehind 57 = .ok (.iload_n 2, 1) := by decide +kernel
theorem d_Gues_lackedBehind_58 : decode b_Gues_lackedBehind 58 = .ok (.ireturn, 1) := by decide +kernel
theorem d_Gues_lackedBehindTurns_0 : decode b_Gues_lackedBehindTurns 0 = .ok (.iconst 0, 1) := by decide +kernel
theorem d_Gues_lackedBehindTurns_1 : decode b_Gues_lackedBehindTurns 1 = .ok (.istore_n 1, 1) := by decide +kernel
theorem d_Gues_lackedBehindTurns_2 : decode b_Gues_lackedBehindTurns 2 = .ok (.iconst 0, 1) := by decide +kernel
theorem d_Gues_lackedBehindTurns_3 : decode b_Gues_lackedBehindTurns 3 = .ok (.istore_n 2, 1) := by decide +kernel
theorem d_Gues_lackedBehindTurns_4 : decode b_Gues_lackedBehindTurns 4 = .ok (.iload_n 2, 1) := by decide +kernel
theorem d_Gues_lackedBehindTurns_5 : decode b_Gues_lackedBehindTurns 5 = .ok (.sipush 4096, 3) := by decide +kernel
theorem d_Gues_lackedBehindTurns_8 : decode b_Gues_lackedBehindTurns 8 = .ok (.if_icmp .ge 32, 3) := by decide +kernel
theorem d_Gues_lackedBehindTurns_11 : decode b_Gues_lackedBehindTurns 11 = .ok (.aload_n 0, 1) := by decide +kernel
theorem d_Gues_lackedBehindTurns_12 : decode b_Gues_lackedBehindTurns 12 = .ok (.getfield 19, 3) := by decide +kernel
theorem d_Gues_lackedBehindTurns_15 : decode b_Gues_lackedBehindTurns 15 = .ok (.iload_n 2, 1) := by decide +kernel
theorem d_Gues_lackedBehindTurns_16 : decode b_Gues_lackedBehindTurns 16 = .ok (.aload_n 0, 1) := by decide +kernel
theorem d_Gues_lackedBehindTurns_17 : decode b_Gues_lackedBehindTurns 17 = .ok (.invokevirtual 66, 3) := by decide +kernel
theorem d_Gues_lackedBehindTurns_20 : decode b_Gues_lackedBehindTurns 20 = .ok (.invokevirtual 58, 3) := by decide +kernel
theorem d_Gues_lackedBehindTurns_23 : decode b_Gues_lackedBehindTurns 23 = .ok (.ifCond .eq 11, 3) := by decide +kernel
theorem d_Gues_lackedBehindTurns_26 : decode b_Gues_lackedBehindTurns 26 = .ok (.iload_n 1, 1) := by decide +kernel
theorem d_Gues_lackedBehindTurns_27 : decode b_Gues_lackedBehindTurns 27 = .ok (.aload_n 0, 1) := by decide +kernel
theorem d_Gues_lackedBehindTurns_28 : decode b_Gues_lackedBehindTurns 28 = .ok (.iload_n 2, 1) := by decide +kernel
theorem d_Gues_lackedBehindTurns_29 : decode b_Gues_lackedBehindTurns 29 = .ok (.invokevirtual 69, 3) := by decide +kernel
theorem d_Gues_lackedBehindTurns_32 : decode b_Gues_lackedBehindTurns 32 = .ok (.ior, 1) := by decide +kernel
theorem d_Gues_lackedBehindTurns_33 : decode b_Gues_lackedBehindTurns 33 = .ok (.istore_n 1, 1) := by decide +kernel
theorem d_Gues_lackedBehindTurns_34 : decode b_Gues_lackedBehindTurns 34 = .ok (.iinc 2 1, 3) := by decide +kernel
theorem d_Gues_lackedBehindTurns_37 : decode b_Gues_lackedBehindTurns 37 = .ok (.goto (-33), 3) := by decide +kernel
theorem d_Gues_lackedBehindTurns_40 : decode b_Gues_lackedBehindTurns 40 = .ok (.iload_n 1, 1) := by decide +kernel
theorem d_Gues_lackedBehindTurns_41 : decode b_Gues_lackedBehindTurns 41 = .ok (.ireturn, 1) := by decide +kernel
theorem d_Gues_sift_0 : decode b_Gues_sift 0 = .ok (.aload_n 0, 1) := by decide +kernel
theorem d_Gues_sift_1 : decode b_Gues_sift 1 = .ok (.getfield 9, 3) := by decide +kernel
theorem d_Gues_sift_4 : decode b_Gues_sift 4 = .ok (.bipush 100, 2) := by decide +kernel
theorem d_Gues_sift_6 : decode b_Gues_sift 6 = .ok (.invokestatic 42, 3) := by decide +kernel
theorem d_Gues_sift_9 : decode b_Gues_sift 9 = .ok (.aload_n 0, 1) := by decide +kernel
theorem d_Gues_sift_10 : decode b_Gues_sift 10 = .ok (.iconst 1, 1) := by decide +kernel
theorem d_Gues_sift_11 : decode b_Gues_sift 11 = .ok (.aload_n 0, 1) := by decide +kernel
theorem d_Gues_sift_12 : decode b_Gues_sift 12 = .ok (.getfield 19, 3) := by decide +kernel
theorem d_Gues_sift_15 : decode b_Gues_sift 15 = .ok (.invokevirtual 38, 3) := by decide +kernel
theorem d_Gues_sift_18 : decode b_Gues_sift 18 = .ok (.ishl, 1) := by decide +kernel
theorem d_Gues_sift_19 : decode b_Gues_sift 19 = .ok (.iconst 1, 1) := by decide +kernel
theorem d_Gues_sift_20 : decode b_Gues_sift 20 = .ok (.isub, 1) := by decide +kernel
theorem d_Gues_sift_21 : decode b_Gues_sift 21 = .ok (.putfield 15, 3) := by decide +kernel
theorem d_Gues_sift_24 : decode b_Gues_sift 24 = .ok (.aload_n 0, 1) := by decide +kernel
theorem d_Gues_sift_25 : decode b_Gues_sift 25 = .ok (.aload_n 0, 1) := by decide +kernel
theorem d_Gues_sift_26 : decode b_Gues_sift 26 = .ok (.invokevirtual 48, 3) := by decide +kernel
theorem d_Gues_sift_29 : decode b_Gues_sift 29 = .ok (.iconst 0, 1) := by decide +kernel
theorem d_Gues_sift_30 : decode b_Gues_sift 30 = .ok (.invokevirtual 51, 3) := by decide +kernel
theorem d_Gues_sift_33 : decode b_Gues_sift 33 = .ok (.aload_n 0, 1) := by decide +kernel
theorem d_Gues_sift_34 : decode b_Gues_sift 34 = .ok (.invokevirtual 55, 3) := by decide +kernel
theorem d_Gues_sift_37 : decode b_Gues_sift 37 = .ok (.istore_n 1, 1) := by decide +kernel
theorem d_Gues_sift_38 : decode b_Gues_sift 38 = .ok (.iconst 1, 1) := by decide +kernel
theorem d_Gues_sift_39 : decode b_Gues_sift 39 = .ok (.istore_n 2, 1) := by decide +kernel
theorem d_Gues_sift_40 : decode b_Gues_sift 40 = .ok (.iload_n 2, 1) := by decide +kernel
theorem d_Gues_sift_41 : decode b_Gues_sift 41 = .ok (.bipush 12, 2) := by decide +kernel
theorem d_Gues_sift_43 : decode b_Gues_sift 43 = .ok (.if_icmp .gt 24, 3) := by decide +kernel
theorem d_Gues_sift_46 : decode b_Gues_sift 46 = .ok (.iload_n 1, 1) := by decide +kernel
theorem d_Gues_sift_47 : decode b_Gues_sift 47 = .ok (.ifCond .eq 20, 3) := by decide +kernel
theorem d_Gues_sift_50 : decode b_Gues_sift 50 = .ok (.aload_n 0, 1) := by decide +kernel
theorem d_Gues_sift_51 : decode b_Gues_sift 51 = .ok (.iload_n 1, 1) := by decide +kernel
theorem d_Gues_sift_52 : decode b_Gues_sift 52 = .ok (.iload_n 2, 1) := by decide +kernel
theorem d_Gues_sift_53 : decode b_Gues_sift 53 = .ok (.invokevirtual 51, 3) := by decide +kernel
theorem d_Gues_sift_56 : decode b_Gues_sift 56 = .ok (.aload_n 0, 1) := by decide +kernel
theorem d_Gues_sift_57 : decode b_Gues_sift 57 = .ok (.invokevirtual 55, 3) := by decide +kernel
theorem d_Gues_sift_60 : decode b_Gues_sift 60 = .ok (.istore_n 1, 1) := by decide +kernel
theorem d_Gues_sift_61 : decode b_Gues_sift 61 = .ok (.iinc 2 1, 3) := by decide +kernel
theorem d_Gues_sift_64 : decode b_Gues_sift 64 = .ok (.goto (-24), 3) := by decide +kernel
theorem d_Gues_sift_67 : decode b_Gues_sift 67 = .ok (.return_, 1) := by decide +kernel
theorem d_Gues_implyGoal_0 : decode b_Gues_implyGoal 0 = .ok (.aload_n 0, 1) := by decide +kernel
theorem d_Gues_implyGoal_1 : decode b_Gues_implyGoal 1 = .ok (.getfield 19, 3) := by decide +kernel
theorem d_Gues_implyGoal_4 : decode b_Gues_implyGoal 4 = .ok (.aload_n 0, 1) := by decide +kernel
theorem d_Gues_implyGoal_5 : decode b_Gues_implyGoal 5 = .ok (.invokevirtual 66, 3) := by decide +kernel
theorem d_Gues_implyGoal_8 : decode b_Gues_implyGoal 8 = .ok (.invokevirtual 79, 3) := by decide +kernel
theorem d_Gues_implyGoal_11 : decode b_Gues_implyGoal 11 = .ok (.aload_n 0, 1) := by decide +kernel
theorem d_Gues_implyGoal_12 : decode b_Gues_implyGoal 12 = .ok (.getfield 19, 3) := by decide +kernel
theorem d_Gues_implyGoal_15 : decode b_Gues_implyGoal 15 = .ok (.aload_n 0, 1) := by decide +kernel
theorem d_Gues_implyGoal_16 : decode b_Gues_implyGoal 16 = .ok (.invokevirtual 66, 3) := by decide +kernel
theorem d_Gues_implyGoal_19 : decode b_Gues_implyGoal 19 = .ok (.iconst 2, 1) := by decide +kernel
theorem d_Gues_implyGoal_20 : decode b_Gues_implyGoal 20 = .ok (.ior, 1) := by decide +kernel
theorem d_Gues_implyGoal_21 : decode b_Gues_implyGoal 21 = .ok (.invokevirtual 79, 3) := by decide +kernel
theorem d_Gues_implyGoal_24 : decode b_Gues_implyGoal 24 = .ok (.if_icmp .ne 7, 3) := by decide +kernel
theorem d_Gues_implyGoal_27 : decode b_Gues_implyGoal 27 = .ok (.iconst 1, 1) := by decide +kernel
theorem d_Gues_implyGoal_28 : decode b_Gues_implyGoal 28 = .ok (.goto 4, 3) := by decide +kernel
theorem d_Gues_implyGoal_31 : decode b_Gues_implyGoal 31 = .ok (.iconst 0, 1) := by decide +kernel
theorem d_Gues_implyGoal_32 : decode b_Gues_implyGoal 32 = .ok (.ireturn, 1) := by decide +kernel
theorem d_Gues_leadsToMarked_0 : decode b_Gues_leadsToMarked 0 = .ok (.iconst 0, 1) := by decide +kernel
theorem d_Gues_leadsToMarked_1 : decode b_Gues_leadsToMarked 1 = .ok (.istore_n 2, 1) := by decide +kernel
theorem d_Gues_leadsToMarked_2 : decode b_Gues_leadsToMarked 2 = .ok (.iload_n 2, 1) := by decide +kernel
theorem d_Gues_leadsToMarked_3 : decode b_Gues_leadsToMarked 3 = .ok (.aload_n 0, 1) := by decide +kernel
theorem d_Gues_leadsToMarked_4 : decode b_Gues_leadsToMarked 4 = .ok (.getfield 19, 3) := by decide +kernel
theorem d_Gues_leadsToMarked_7 : decode b_Gues_leadsToMarked 7 = .ok (.invokevirtual 72, 3) := by decide +kernel
theorem d_Gues_leadsToMarked_10 : decode b_Gues_leadsToMarked 10 = .ok (.if_icmp .ge 38, 3) := by decide +kernel
theorem d_Gues_leadsToMarked_13 : decode b_Gues_leadsToMarked 13 = .ok (.aload_n 0, 1) := by decide +kernel
theorem d_Gues_leadsToMarked_14 : decode b_Gues_leadsToMarked 14 = .ok (.getfield 19, 3) := by decide +kernel
theorem d_Gues_leadsToMarked_17 : decode b_Gues_leadsToMarked 17 = .ok (.iload_n 1, 1) := by decide +kernel
theorem d_Gues_leadsToMarked_18 : decode b_Gues_leadsToMarked 18 = .ok (.iload_n 2, 1) := by decide +kernel
theorem d_Gues_leadsToMarked_19 : decode b_Gues_leadsToMarked 19 = .ok (.invokevirtual 75, 3) := by decide +kernel
theorem d_Gues_leadsToMarked_22 : decode b_Gues_leadsToMarked 22 = .ok (.istore_n 3, 1) := by decide +kernel
theorem d_Gues_leadsToMarked_23 : decode b_Gues_leadsToMarked 23 = .ok (.iload_n 3, 1) := by decide +kernel
theorem d_Gues_leadsToMarked_24 : decode b_Gues_leadsToMarked 24 = .ok (.invokestatic 95, 3) := by decide +kernel
theorem d_Gues_leadsToMarked_27 : decode b_Gues_leadsToMarked 27 = .ok (.ifCond .eq 15, 3) := by decide +kernel
theorem d_Gues_leadsToMarked_30 : decode b_Gues_leadsToMarked 30 = .ok (.aload_n 0, 1) := by decide +kernel
theorem d_Gues_leadsToMarked_31 : decode b_Gues_leadsToMarked 31 = .ok (.getfield 29, 3) := by decide +kernel
theorem d_Gues_leadsToMarked_34 : decode b_Gues_leadsToMarked 34 = .ok (.iload_n 3, 1) := by decide +kernel
theorem d_Gues_leadsToMarked_35 : decode b_Gues_leadsToMarked 35 = .ok (.iaload, 1) := by decide +kernel
theorem d_Gues_leadsToMarked_36 : decode b_Gues_leadsToMarked 36 = .ok (.iconst 1, 1) := by decide +kernel
theorem d_Gues_leadsToMarked_37 : decode b_Gues_leadsToMarked 37 = .ok (.if_icmp .ne 5, 3) := by decide +kernel
theorem d_Gues_leadsToMarked_40 : decode b_Gues_leadsToMarked 40 = .ok (.iconst 1, 1) := by decide +kernel
theorem d_Gues_leadsToMarked_41 : decode b_Gues_leadsToMarked 41 = .ok (.ireturn, 1) := by decide +kernel
theorem d_Gues_leadsToMarked_42 : decode b_Gues_leadsToMarked 42 = .ok (.iinc 2 1, 3) := by decide +kernel
theorem d_Gues_leadsToMarked_45 : decode b_Gues_leadsToMarked 45 = .ok (.goto (-43), 3) := by decide +kernel
theorem d_Gues_leadsToMarked_48 : decode b_Gues_leadsToMarked 48 = .ok (.iconst 0, 1) := by decide +kernel
theorem d_Gues_leadsToMarked_49 : decode b_Gues_leadsToMarked 49 = .ok (.ireturn, 1) := by decide +kernel
theorem d_Gues_stepBack_0 : decode b_Gues_stepBack 0 = .ok (.iconst 0, 1) := by decide +kernel
theorem d_Gues_stepBack_1 : decode b_Gues_stepBack 1 = .ok (.istore_n 2, 1) := by decide +kernel
theorem d_Gues_stepBack_2 : decode b_Gues_stepBack 2 = .ok (.iconst 0, 1) := by decide +kernel
theorem d_Gues_stepBack_3 : decode b_Gues_stepBack 3 = .ok (.istore_n 3, 1) := by decide +kernel
theorem d_Gues_stepBack_4 : decode b_Gues_stepBack 4 = .ok (.iload_n 3, 1) := by decide +kernel
theorem d_Gues_stepBack_5 : decode b_Gues_stepBack 5 = .ok (.sipush 4096, 3) := by decide +kernel
theorem d_Gues_stepBack_8 : decode b_Gues_stepBack 8 = .ok (.if_icmp .ge 60, 3) := by decide +kernel
theorem d_Gues_stepBack_11 : decode b_Gues_stepBack 11 = .ok (.aload_n 0, 1) := by decide +kernel
theorem d_Gues_stepBack_12 : decode b_Gues_stepBack 12 = .ok (.getfield 34, 3) := by decide +kernel
theorem d_Gues_stepBack_15 : decode b_Gues_stepBack 15 = .ok (.iload_n 3, 1) := by decide +kernel
theorem d_Gues_stepBack_16 : decode b_Gues_stepBack 16 = .ok (.aload_n 0, 1) := by decide +kernel
theorem d_Gues_stepBack_17 : decode b_Gues_stepBack 17 = .ok (.getfield 19, 3) := by decide +kernel
theorem d_Gues_stepBack_20 : decode b_Gues_stepBack 20 = .ok (.iload_n 3, 1) := by decide +kernel
theorem d_Gues_stepBack_21 : decode b_Gues_stepBack 21 = .ok (.iload_n 1, 1) := by decide +kernel
theorem d_Gues_stepBack_22 : decode b_Gues_stepBack 22 = .ok (.invokevirtual 58, 3) := by decide +kernel
theorem d_Gues_stepBack_25 : decode b_Gues_stepBack 25 = .ok (.ifCond .eq 15, 3) := by decide +kernel
theorem d_Gues_stepBack_28 : decode b_Gues_stepBack 28 = .ok (.aload_n 0, 1) := by decide +kernel
theorem d_Gues_stepBack_29 : decode b_Gues_stepBack 29 = .ok (.iload_n 3, 1) := by decide +kernel
theorem d_Gues_stepBack_30 : decode b_Gues_stepBack 30 = .ok (.invokevirtual 86, 3) := by decide +kernel
theorem d_Gues_stepBack_33 : decode b_Gues_stepBack 33 = .ok (.ifCond .eq 7, 3) := by decide +kernel
theorem d_Gues_stepBack_36 : decode b_Gues_stepBack 36 = .ok (.iconst 1, 1) := by decide +kernel
theorem d_Gues_stepBack_37 : decode b_Gues_stepBack 37 = .ok (.goto 4, 3) := by decide +kernel
theorem d_Gues_stepBack_40 : decode b_Gues_stepBack 40 = .ok (.iconst 0, 1) := by decide +kernel
theorem d_Gues_stepBack_41 : decode b_Gues_stepBack 41 = .ok (.iastore, 1) := by decide +kernel
theorem d_Gues_stepBack_42 : decode b_Gues_stepBack 42 = .ok (.iload_n 2, 1) := by decide +kernel
theorem d_Gues_stepBack_43 : decode b_Gues_stepBack 43 = .ok (.ifCond .ne 13, 3) := by decide +kernel
theorem d_Gues_stepBack_46 : decode b_Gues_stepBack 46 = .ok (.aload_n 0, 1) := by decide +kernel
theorem d_Gues_stepBack_47 : decode b_Gues_stepBack 47 = .ok (.getfield 34, 3) := by decide +kernel
theorem d_Gues_stepBack_50 : decode b_Gues_stepBack 50 = .ok (.iload_n 3, 1) := by decide +kernel
theorem d_Gues_stepBack_51 : decode b_Gues_stepBack 51 = .ok (.iaload, 1) := by decide +kernel
theorem d_Gues_stepBack_52 : decode b_Gues_stepBack 52 = .ok (.iconst 1, 1) := by decide +kernel
theorem d_Gues_stepBack_53 : decode b_Gues_stepBack 53 = .ok (.if_icmp .ne 7, 3) := by decide +kernel
theorem d_Gues_stepBack_56 : decode b_Gues_stepBack 56 = .ok (.iconst 1, 1) := by decide +kernel
theorem d_Gues_stepBack_57 : decode b_Gues_stepBack 57 = .ok (.goto 4, 3) := by decide +kernel
theorem d_Gues_stepBack_60 : decode b_Gues_stepBack 60 = .ok (.iconst 0, 1) := by decide +kernel
theorem d_Gues_stepBack_61 : decode b_Gues_stepBack 61 = .ok (.istore_n 2, 1) := by decide +kernel
theorem d_Gues_stepBack_62 : decode b_Gues_stepBack 62 = .ok (.iinc 3 1, 3) := by decide +kernel
theorem d_Gues_stepBack_65 : decode b_Gues_stepBack 65 = .ok (.goto (-61), 3) := by decide +kernel
theorem d_Gues_stepBack_68 : decode b_Gues_stepBack 68 = .ok (.aload_n 0, 1) := by decide +kernel
theorem d_Gues_stepBack_69 : decode b_Gues_stepBack 69 = .ok (.getfield 34, 3) := by decide +kernel
theorem d_Gues_stepBack_72 : decode b_Gues_stepBack 72 = .ok (.iconst 0, 1) := by decide +kernel
theorem d_Gues_stepBack_73 : decode b_Gues_stepBack 73 = .ok (.aload_n 0, 1) := by decide +kernel
theorem d_Gues_stepBack_74 : decode b_Gues_stepBack 74 = .ok (.getfield 29, 3) := by decide +kernel
theorem d_Gues_stepBack_77 : decode b_Gues_stepBack 77 = .ok (.iconst 0, 1) := by decide +kernel
theorem d_Gues_stepBack_78 : decode b_Gues_stepBack 78 = .ok (.sipush 4096, 3) := by decide +kernel
theorem d_Gues_stepBack_81 : decode b_Gues_stepBack 81 = .ok (.invokestatic 89, 3) := by decide +kernel
theorem d_Gues_stepBack_84 : decode b_Gues_stepBack 84 = .ok (.iload_n 2, 1) := by decide +kernel
theorem d_Gues_stepBack_85 : decode b_Gues_stepBack 85 = .ok (.ireturn, 1) := by decide +kernel
theorem d_Gues_leastInduction_0 : decode b_Gues_leastInduction 0 = .ok (.iload_n 1, 1) := by decide +kernel
theorem d_Gues_leastInduction_1 : decode b_Gues_leastInduction 1 = .ok (.ifCond .eq 12, 3) := by decide +kernel
theorem d_Gues_leastInduction_4 : decode b_Gues_leastInduction 4 = .ok (.iconst 2, 1) := by decide +kernel
theorem d_Gues_leastInduction_5 : decode b_Gues_leastInduction 5 = .ok (.aload_n 0, 1) := by decide +kernel
theorem d_Gues_leastInduction_6 : decode b_Gues_leastInduction 6 = .ok (.invokevirtual 66, 3) := by decide +kernel
theorem d_Gues_leastInduction_9 : decode b_Gues_leastInduction 9 = .ok (.ior, 1) := by decide +kernel
theorem d_Gues_leastInduction_10 : decode b_Gues_leastInduction 10 = .ok (.goto 4, 3) := by decide +kernel
theorem d_Gues_leastInduction_13 : decode b_Gues_leastInduction 13 = .ok (.iconst 2, 1) := by decide +kernel
theorem d_Gues_leastInduction_14 : decode b_Gues_leastInduction 14 = .ok (.istore_n 3, 1) := by decide +kernel
theorem d_Gues_leastInduction_15 : decode b_Gues_leastInduction 15 = .ok (.iconst 0, 1) := by decide +kernel
theorem d_Gues_leastInduction_16 : decode b_Gues_leastInduction 16 = .ok (.istore 4, 2) := by decide +kernel
theorem d_Gues_leastInduction_18 : decode b_Gues_leastInduction 18 = .ok (.iload 4, 2) := by decide +kernel
theorem d_Gues_leastInduction_20 : decode b_Gues_leastInduction 20 = .ok (.sipush 4096, 3) := by decide +kernel
theorem d_Gues_leastInduction_23 : decode b_Gues_leastInduction 23 = .ok (.if_icmp .ge 34, 3) := by decide +kernel
theorem d_Gues_leastInduction_26 : decode b_Gues_leastInduction 26 = .ok (.aload_n 0, 1) := by decide +kernel
theorem d_Gues_leastInduction_27 : decode b_Gues_leastInduction 27 = .ok (.getfield 29, 3) := by decide +kernel
theorem d_Gues_leastInduction_30 : decode b_Gues_leastInduction 30 = .ok (.iload 4, 2) := by decide +kernel
theorem d_Gues_leastInduction_32 : decode b_Gues_leastInduction 32 = .ok (.aload_n 0, 1) := by decide +kernel
theorem d_Gues_leastInduction_33 : decode b_Gues_leastInduction 33 = .ok (.getfield 19, 3) := by decide +kernel
theorem d_Gues_leastInduction_36 : decode b_Gues_leastInduction 36 = .ok (.iload 4, 2) := by decide +kernel
theorem d_Gues_leastInduction_38 : decode b_Gues_leastInduction 38 = .ok (.iconst 2, 1) := by decide +kernel
theorem d_Gues_leastInduction_39 : decode b_Gues_leastInduction 39 = .ok (.invokevirtual 58, 3) := by decide +kernel
theorem d_Gues_leastInduction_42 : decode b_Gues_leastInduction 42 = .ok (.ifCond .eq 7, 3) := by decide +kernel
theorem d_Gues_leastInduction_45 : decode b_Gues_leastInduction 45 = .ok (.iconst 0, 1) := by decide +kernel
theorem d_Gues_leastInduction_46 : decode b_Gues_leastInduction 46 = .ok (.goto 4, 3) := by decide +kernel
theorem d_Gues_leastInduction_49 : decode b_Gues_leastInduction 49 = .ok (.iconst 1, 1) := by decide +kernel
theorem d_Gues_leastInduction_50 : decode b_Gues_leastInduction 50 = .ok (.iastore, 1) := by decide +kernel
theorem d_Gues_leastInduction_51 : decode b_Gues_leastInduction 51 = .ok (.iinc 4 1, 3) := by decide +kernel
theorem d_Gues_leastInduction_54 : decode b_Gues_leastInduction 54 = .ok (.goto (-36), 3) := by decide +kernel
theorem d_Gues_leastInduction_57 : decode b_Gues_leastInduction 57 = .ok (.iconst 1, 1) := by decide +kernel
theorem d_Gues_leastInduction_58 : decode b_Gues_leastInduction 58 = .ok (.istore 4, 2) := by decide +kernel
theorem d_Gues_leastInduction_60 : decode b_Gues_leastInduction 60 = .ok (.iload 4, 2) := by decide +kernel
theorem d_Gues_leastInduction_62 : decode b_Gues_leastInduction 62 = .ok (.bipush 16, 2) := by decide +kernel
theorem d_Gues_leastInduction_64 : decode b_Gues_leastInduction 64 = .ok (.if_icmp .gt 33, 3) := by decide +kernel
theorem d_Gues_leastInduction_67 : decode b_Gues_leastInduction 67 = .ok (.iload_n 2, 1) := by decide +kernel
theorem d_Gues_leastInduction_68 : decode b_Gues_leastInduction 68 = .ok (.iconst (-1), 1) := by decide +kernel
theorem d_Gues_leastInduction_69 : decode b_Gues_leastInduction 69 = .ok (.if_icmp .eq 11, 3) := by decide +kernel
theorem d_Gues_leastInduction_72 : decode b_Gues_leastInduction 72 = .ok (.iload_n 2, 1) := by decide +kernel
theorem d_Gues_leastInduction_73 : decode b_Gues_leastInduction 73 = .ok (.iload 4, 2) := by decide +kernel
theorem d_Gues_leastInduction_75 : decode b_Gues_leastInduction 75 = .ok (.if_icmp .ge 5, 3) := by decide +kernel
theorem d_Gues_leastInduction_78 : decode b_Gues_leastInduction 78 = .ok (.iconst 0, 1) := by decide +kernel
theorem d_Gues_leastInduction_79 : decode b_Gues_leastInduction 79 = .ok (.ireturn, 1) := by decide +kernel
theorem d_Gues_leastInduction_80 : decode b_Gues_leastInduction 80 = .ok (.aload_n 0, 1) := by decide +kernel
theorem d_Gues_leastInduction_81 : decode b_Gues_leastInduction 81 = .ok (.iload_n 3, 1) := by decide +kernel
theorem d_Gues_leastInduction_82 : decode b_Gues_leastInduction 82 = .ok (.invokevirtual 82, 3) := by decide +kernel
theorem d_Gues_leastInduction_85 : decode b_Gues_leastInduction 85 = .ok (.ifCond .ne 6, 3) := by decide +kernel
theorem d_Gues_leastInduction_88 : decode b_Gues_leastInduction 88 = .ok (.iload 4, 2) := by decide +kernel
theorem d_Gues_leastInduction_90 : decode b_Gues_leastInduction 90 = .ok (.ireturn, 1) := by decide +kernel
theorem d_Gues_leastInduction_91 : decode b_Gues_leastInduction 91 = .ok (.iinc 4 1, 3) := by decide +kernel
theorem d_Gues_leastInduction_94 : decode b_Gues_leastInduction 94 = .ok (.goto (-34), 3) := by decide +kernel
theorem d_Gues_leastInduction_97 : decode b_Gues_leastInduction 97 = .ok (.iconst 0, 1) := by decide +kernel
theorem d_Gues_leastInduction_98 : decode b_Gues_leastInduction 98 = .ok (.ireturn, 1) := by decide +kernel
set_option maxHeartbeats 4000000 in
set_option maxRecDepth 100000 in
theorem c_Gues_keptSum (l : Launch) (dC : Nat → ClassId) (dI : Nat → Nat → Nat) (cI cB cZ : ClassId) (adK adV : Nat → Nat) (sz : Nat) (a_gu a_lp a_gu_rounds a_s1 a_s2 : Nat) (gu_left : Int32) (post : Int32 → Prop) (h : wp_Gues_keptSum gu_left post) : Met l y_Gues_keptSum w_Gues_keptSum ({ frames := 0, cells := 0, slots := 0, locals := 0 }) (pc_ (dC, dI) [(cI, .int), (cB, .byte), (cZ, .boolean)] [(a_gu, .inr (3, [.ref a_lp, .ref a_gu_rounds, .ref a_s1, .ref a_s2, .int gu_left]))] sz adK adV [.ref a_gu]) (va_Qi (fun (r : Int32) (u : Unit) => post r ) (fun (u : Unit) t => bw_ (dC, dI) [(cI, .int), (cB, .byte), (cZ, .boolean)] (va_A [(a_gu, .inr (3, [.ref a_lp, .ref a_gu_rounds, .ref a_s1, .ref a_s2, .int gu_left]))] sz) [(a_gu, .inr (3, [.ref a_lp, .ref a_gu_rounds, .ref a_s1, .ref a_s2, .int gu_left]))] t) (va_A [(a_gu, .inr (3, [.ref a_lp, .ref a_gu_rounds, .ref a_s1, .ref a_s2, .int gu_left]))] sz)) 0 0 (va_A [(a_gu, .inr (3, [.ref a_lp, .ref a_gu_rounds, .ref a_s1, .ref a_s2, .int gu_left]))] sz) := by
  refine Met.ofW (cc := b_Gues_keptSum) (maxL := 1) (ret := (some .int)) (by decide) rfl ?_
  intro p e s m args below meth c s₁ B hml hv
  obtain ⟨rfl, hsz, hP, hK, hD0, hN, hT⟩ := hv
  have hx := B.exec
  have hb := B.bytes
  have hr := B.returns
  have hts := atoms_spec (ws := w_Gues_keptSum) B.pre
  have hown : s.vm.findClass "LoopInduction$Guesses" = some m.cls := findClass_of_methodNamed B.named
  have hlocks := B.notSynchronized
  subst hsz
  have hD := hD0.self (sz := s.heap.size)
  generalize hAe : va_A [(a_gu, .inr (3, [.ref a_lp, .ref a_gu_rounds, .ref a_s1, .ref a_s2, .int gu_left]))] s.heap.size = A at hD hT ⊢
  have hA : ∀ q : Nat, s.heap.size ≤ q → A q := fun q h => by rw [← hAe]; exact Or.inr h
  have hS : va_S A s.heap s.heap [] := va_S.rf
  generalize hQ : MQ below _ _ s 0 0 _ = QQ
  have hl := lv_entry ([.ref a_gu]) (n := 1) (Nat.le_of_ble_eq_true rfl)
  rw [lg_entry_eq]
  generalize (lg_sl ([.ref a_gu]) ++ List.replicate (1 - (lg_sl ([.ref a_gu])).length) Slot.unset).toArray = ls at hl ⊢
  have hl : lv_has ls 1 [(0, .ref a_gu)] := hl
  have fl_15 := (hts _ (List.mem_cons_of_mem _ m_337))
  refine lv_aload_n hx hb d_Gues_keptSum_0 rfl (lv_at hl 0 rfl) ?_
  refine va_get (D := (dC, dI)) (ci := 3) (v := .int gu_left) (C := "LoopInduction$Guesses") (T := F_Gues) (N := 5) hx hb hts iC_Gues hown hK hP 0 rfl rfl 4 (by decide) fl_15 (fun _ h9 => h9) rfl d_Gues_keptSum_1 ?_
  rw [← hQ]
  have hP9 := hP
  have hD9 := hD
  exact W.iret (v := gu_left) hx hb hr (fun t ht hW => ⟨⟨gu_left, (), rfl, h, by rw [ht]; exact hP9, va_K.moved hW.alike hK, hD9⟩, hS.F ht⟩) hS.2.2 d_Gues_keptSum_4
set_option maxHeartbeats 4000000 in
set_option maxRecDepth 100000 in
theorem c_Gues_keptFacts (l : Launch) (dC : Nat → ClassId) (dI : Nat → Nat → Nat) (cI cB cZ : ClassId) (adK adV : Nat → Nat) (sz : Nat) (a_gu a_lp a_gu_rounds a_s1 a_s2 : Nat) (gu_left : Int32) (post : Int32 → Prop) (h : wp_Gues_keptFacts gu_left post) : Met l y_Gues_keptFacts w_Gues_keptFacts ({ frames := 0, cells := 0, slots := 0, locals := 0 }) (pc_ (dC, dI) [(cI, .int), (cB, .byte), (cZ, .boolean)] [(a_gu, .inr (3, [.ref a_lp, .ref a_gu_rounds, .ref a_s1, .ref a_s2, .int gu_left]))] sz adK adV [.ref a_gu]) (va_Qi (fun (r : Int32) (u : Unit) => post r ) (fun (u : Unit) t => bw_ (dC, dI) [(cI, .int), (cB, .byte), (cZ, .boolean)] (va_A [(a_gu, .inr (3, [.ref a_lp, .ref a_gu_rounds, .ref a_s1, .ref a_s2, .int gu_left]))] sz) [(a_gu, .inr (3, [.ref a_lp, .ref a_gu_rounds, .ref a_s1, .ref a_s2, .int gu_left]))] t) (va_A [(a_gu, .inr (3, [.ref a_lp, .ref a_gu_rounds, .ref a_s1, .ref a_s2, .int gu_left]))] sz)) 0 0 (va_A [(a_gu, .inr (3, [.ref a_lp, .ref a_gu_rounds, .ref a_s1, .ref a_s2, .int gu_left]))] sz) := by
  refine Met.ofW (cc := b_Gues_keptFacts) (maxL := 1) (ret := (some .int)) (by decide) rfl ?_
  intro p e s m args below meth c s₁ B hml hv
  obtain ⟨rfl, hsz, hP, hK, hD0, hN, hT⟩ := hv
  have hx := B.exec
  have hb := B.bytes
  have hr := B.returns
  have hts := atoms_spec (ws := w_Gues_keptFacts) B.pre
  have hown : s.vm.findClass "LoopInduction$Guesses" = some m.cls := findClass_of_methodNamed B.named
  have hlocks := B.notSynchronized
  subst hsz
  have hD := hD0.self (sz := s.heap.size)
  generalize hAe : va_A [(a_gu, .inr (3, [.ref a_lp, .ref a_gu_rounds, .ref a_s1, .ref a_s2, .int gu_left]))] s.heap.size = A at hD hT ⊢
  have hA : ∀ q : Nat, s.heap.size ≤ q → A q := fun q h => by rw [← hAe]; exact Or.inr h
  have hS : va_S A s.heap s.heap [] := va_S.rf
  generalize hQ : MQ below _ _ s 0 0 _ = QQ
  have hl := lv_entry ([.ref a_gu]) (n := 1) (Nat.le_of_ble_eq_true rfl)
  rw [lg_entry_eq]
  generalize (lg_sl ([.ref a_gu]) ++ List.replicate (1 - (lg_sl ([.ref a_gu])).length) Slot.unset).toArray = ls at hl ⊢
  have hl : lv_has ls 1 [(0, .ref a_gu)] := hl
  have fl_15 := (hts _ (List.mem_cons_of_mem _ m_337))
  refine lv_aload_n hx hb d_Gues_keptFacts_0 rfl (lv_at hl 0 rfl) ?_
  refine va_get (D := (dC, dI)) (ci := 3) (v := .int gu_left) (C := "LoopInduction$Guesses") (T := F_Gues) (N := 5) hx hb hts iC_Gues hown hK hP 0 rfl rfl 4 (by decide) fl_15 (fun _ h9 => h9) rfl d_Gues_keptFacts_1 ?_
  refine lv_iconst (v := 4) hx hb d_Gues_keptFacts_4 (by decide) ?_
  refine lv_ishl hx hb d_Gues_keptFacts_5 ?_
  rw [← hQ]
  have hP9 := hP
  have hD9 := hD
  exact W.iret (v := gu_left <<< (4 &&& 31)) hx hb hr (fun t ht hW => ⟨⟨(gu_left <<< (4 &&& 31)), (), rfl, h, by rw [ht]; exact hP9, va_K.moved hW.alike hK, hD9⟩, hS.F ht⟩) hS.2.2 d_Gues_keptFacts_6
set_option maxHeartbeats 4000000 in
set_option maxRecDepth 100000 in
theorem c_Gues_roundOf (l : Launch) (dC : Nat → ClassId) (dI : Nat → Nat → Nat) (cI cB cZ : ClassId) (adK adV : Nat → Nat) (sz : Nat) (a_lp a_lp_facts a_lp_turns a_lp_first a_lp_src a_s1 a_gu a_gu_rounds a_s2 : Nat) (lp_choices : Int32) (lp_guesses : Int32) (lp_unaries : Int32) (lp_ranked : Int32) (gu_left : Int32) (gu_rounds : Nat → Int32) (x1 : Int32) (post : Int32 → Prop) (h : wp_Gues_roundOf x1 lp_guesses gu_rounds post) : Met l y_Gues_roundOf w_Gues_roundOf ({ frames := 1, cells := 0, slots := 0, locals := 20 }) (pc_ (dC, dI) [(cI, .int), (cB, .byte), (cZ, .boolean)] [(a_lp, .inr (4, [.ref a_lp_facts, .ref a_lp_turns, .ref a_lp_first, .ref a_lp_src, .ref a_s1, .int lp_choices, .int lp_guesses, .int lp_unaries, .int lp_ranked])), (a_gu, .inr (3, [.ref a_lp, .ref a_gu_rounds, .ref a_s1, .ref a_s2, .int gu_left])), (a_gu_rounds, .inl (cI, 12, .inl gu_rounds))] sz adK adV [.ref a_gu, .int x1]) (va_Qi (fun (r : Int32) (u : Unit) => post r ) (fun (u : Unit) t => bw_ (dC, dI) [(cI, .int), (cB, .byte), (cZ, .boolean)] (va_A [(a_lp, .inr (4, [.ref a_lp_facts, .ref a_lp_turns, .ref a_lp_first, .ref a_lp_src, .ref a_s1, .int lp_choices, .int lp_guesses, .int lp_unaries, .int lp_ranked])), (a_gu, .inr (3, [.ref a_lp, .ref a_gu_rounds, .ref a_s1, .ref a_s2, .int gu_left])), (a_gu_rounds, .inl (cI, 12, .inl gu_rounds))] sz) [(a_lp, .inr (4, [.ref a_lp_facts, .ref a_lp_turns, .ref a_lp_first, .ref a_lp_src, .ref a_s1, .int lp_choices, .int lp_guesses, .int lp_unaries, .int lp_ranked])), (a_gu, .inr (3, [.ref a_lp, .ref a_gu_rounds, .ref a_s1, .ref a_s2, .int gu_left])), (a_gu_rounds, .inl (cI, 12, .inl gu_rounds))] t) (va_A [(a_lp, .inr (4, [.ref a_lp_facts, .ref a_lp_turns, .ref a_lp_first, .ref a_lp_src, .ref a_s1, .int lp_choices, .int lp_guesses, .int lp_unaries, .int lp_ranked])), (a_gu, .inr (3, [.ref a_lp, .ref a_gu_rounds, .ref a_s1, .ref a_s2, .int gu_left])), (a_gu_rounds, .inl (cI, 12, .inl gu_rounds))] sz)) 0 0 (va_A [(a_lp, .inr (4, [.ref a_lp_facts, .ref a_lp_turns, .ref a_lp_first, .ref a_lp_src, .ref a_s1, .int lp_choices, .int lp_guesses, .int lp_unaries, .int lp_ranked])), (a_gu, .inr (3, [.ref a_lp, .ref a_gu_rounds, .ref a_s1, .ref a_s2, .int gu_left])), (a_gu_rounds, .inl (cI, 12, .inl gu_rounds))] sz) := by
  refine Met.ofW (cc := b_Gues_roundOf) (maxL := 2) (ret := (some .int)) (by decide) rfl ?_
  intro p e s m args below meth c s₁ B hml hv
  obtain ⟨rfl, hsz, hP, hK, hD0, hN, hT⟩ := hv
  have hx := B.exec
  have hb := B.bytes
  have hr := B.returns
  have hts := atoms_spec (ws := w_Gues_roundOf) B.pre
  have hown : s.vm.findClass "LoopInduction$Guesses" = some m.cls := findClass_of_methodNamed B.named
  have hlocks := B.notSynchronized
  subst hsz
  have hD := hD0.self (sz := s.heap.size)
  generalize hAe : va_A [(a_lp, .inr (4, [.ref a_lp_facts, .ref a_lp_turns, .ref a_lp_first, .ref a_lp_src, .ref a_s1, .int lp_choices, .int lp_guesses, .int lp_unaries, .int lp_ranked])), (a_gu, .inr (3, [.ref a_lp, .ref a_gu_rounds, .ref a_s1, .ref a_s2, .int gu_left])), (a_gu_rounds, .inl (cI, 12, .inl gu_rounds))] s.heap.size = A at hD hT ⊢
  have hA : ∀ q : Nat, s.heap.size ≤ q → A q := fun q h => by rw [← hAe]; exact Or.inr h
  have hS : va_S A s.heap s.heap [] := va_S.rf
  generalize hQ : MQ below _ _ s 0 0 _ = QQ
  have hl := lv_entry ([.ref a_gu, .int x1]) (n := 2) (Nat.le_of_ble_eq_true rfl)
  rw [lg_entry_eq]
  generalize (lg_sl ([.ref a_gu, .int x1]) ++ List.replicate (2 - (lg_sl ([.ref a_gu, .int x1])).length) Slot.unset).toArray = ls at hl ⊢
  have hl : lv_has ls 2 [(0, .ref a_gu), (1, .int x1)] := hl
  have fl_9 := (hts _ (List.mem_cons_of_mem _ m_334))
  have fl_19 := (hts _ (List.mem_cons_of_mem _ m_333))
  refine lv_iload_n hx hb d_Gues_roundOf_0 rfl (lv_at hl 1 rfl) ?_
  refine lv_if_lt (tgt := 33) hx hb d_Gues_roundOf_1 (by decide) (fun c_1 => ?_) (fun c_1 => ?_)
  · have h := And.left h c_1
    refine lv_iconst (v := (-1)) hx hb d_Gues_roundOf_33 (by decide) ?_
    rw [← hQ]
    have hP9 := hP
    have hD9 := hD
    exact W.iret (v := (-1)) hx hb hr (fun t ht hW => ⟨⟨(-1), (), rfl, h, by rw [ht]; exact hP9, va_K.moved hW.alike hK, hD9⟩, hS.F ht⟩) hS.2.2 d_Gues_roundOf_34
  · have h := And.right h c_1
    refine lv_iload_n hx hb d_Gues_roundOf_4 rfl (lv_at hl 1 rfl) ?_
    refine lv_aload_n hx hb d_Gues_roundOf_5 rfl (lv_at hl 0 rfl) ?_
    refine va_get (D := (dC, dI)) (ci := 3) (v := .ref a_lp) (C := "LoopInduction$Guesses") (T := F_Gues) (N := 5) hx hb hts iC_Gues hown hK hP 1 rfl rfl 0 (by decide) fl_19 (fun _ h9 => h9) rfl d_Gues_roundOf_6 ?_
    refine jn_i (wr := [(a_gu, .inr (3, [.ref a_lp, .ref a_gu_rounds, .ref a_s1, .ref a_s2, .int gu_left])), (a_gu_rounds, .inl (cI, 12, .inl gu_rounds))]) (va_runV (As := []) (rest := [.int x1]) ⟨hx, hb, hml, hown, hts⟩ (c_Loop_guesses l dC dI cI cB cZ adK adV _ a_lp a_lp_facts a_lp_turns a_lp_first a_lp_src a_s1 lp_choices lp_guesses lp_unaries lp_ranked _ h) (cwV 0 hts (gv_ m_855 m_856 m_857 m_92 m_858) rfl rfl rfl pd_Loop_guesses ⟨Nat.le_of_ble_eq_true rfl, Nat.le_of_ble_eq_true rfl⟩) ⟨pc_blind, va_recv hK hP (ci := 4) (q0 := 0) rfl rfl, pc_of (hP.sub [0] rfl) hK (hD.sub [0] (by decide) rfl) hN hT hS hA⟩ rfl rfl hl.1 rfl (lv_room (Nat.le_of_ble_eq_true rfl)) d_Gues_roundOf_9 ⟨Nat.zero_le _, Nat.zero_le _⟩) hP hD hS hA [0] [1, 2] rfl rfl (by decide) (by decide) (fun r_1 u_ H locs h hP hD hS => ?_)
    have hP : va_P (dC, dI) vwCl [(a_gu, .inr (3, [.ref a_lp, .ref a_gu_rounds, .ref a_s1, .ref a_s2, .int gu_left])), (a_gu_rounds, .inl (cI, 12, .inl gu_rounds)), (a_lp, .inr (4, [.ref a_lp_facts, .ref a_lp_turns, .ref a_lp_first, .ref a_lp_src, .ref a_s1, .int lp_choices, .int lp_guesses, .int lp_unaries, .int lp_ranked]))] H := hP
    have hD : va_D A [(a_gu, .inr (3, [.ref a_lp, .ref a_gu_rounds, .ref a_s1, .ref a_s2, .int gu_left])), (a_gu_rounds, .inl (cI, 12, .inl gu_rounds)), (a_lp, .inr (4, [.ref a_lp_facts, .ref a_lp_turns, .ref a_lp_first, .ref a_lp_src, .ref a_s1, .int lp_choices, .int lp_guesses, .int lp_unaries, .int lp_ranked]))] := hD
    refine lv_icmp_ge (tgt := 33) hx hb d_Gues_roundOf_12 (by decide) (fun c_12 => ?_) (fun c_12 => ?_)
    · have h := And.left h c_12
      refine lv_iconst (v := (-1)) hx hb d_Gues_roundOf_33 (by decide) ?_
      rw [← hQ]
      have hP9 := hP.sub (ws' := [(a_lp, .inr (4, [.ref a_lp_facts, .ref a_lp_turns, .ref a_lp_first, .ref a_lp_src, .ref a_s1, .int lp_choices, .int lp_guesses, .int lp_unaries, .int lp_ranked])), (a_gu, .inr (3, [.ref a_lp, .ref a_gu_rounds, .ref a_s1, .ref a_s2, .int gu_left])), (a_gu_rounds, .inl (cI, 12, .inl gu_rounds))]) [2, 0, 1] rfl
      have hD9 := hD.sub (ws' := [(a_lp, .inr (4, [.ref a_lp_facts, .ref a_lp_turns, .ref a_lp_first, .ref a_lp_src, .ref a_s1, .int lp_choices, .int lp_guesses, .int lp_unaries, .int lp_ranked])), (a_gu, .inr (3, [.ref a_lp, .ref a_gu_rounds, .ref a_s1, .ref a_s2, .int gu_left])), (a_gu_rounds, .inl (cI, 12, .inl gu_rounds))]) [2, 0, 1] (by decide) rfl
      exact W.iret (v := (-1)) hx hb hr (fun t ht hW => ⟨⟨(-1), (), rfl, h, by rw [ht]; exact hP9, va_K.moved hW.alike hK, hD9⟩, hS.F ht⟩) hS.2.2 d_Gues_roundOf_34
    · have h := And.right h c_12
      refine lv_iload_n hx hb d_Gues_roundOf_15 rfl (lv_at hl 1 rfl) ?_
      refine lv_aload_n hx hb d_Gues_roundOf_16 rfl (lv_at hl 0 rfl) ?_
      refine va_get (D := (dC, dI)) (ci := 3) (v := .ref a_gu_rounds) (C := "LoopInduction$Guesses") (T := F_Gues) (N := 5) hx hb hts iC_Gues hown hK hP 0 rfl rfl 1 (by decide) fl_9 (fun _ h9 => h9) rfl d_Gues_roundOf_17 ?_
      refine va_alen (v := 12) hx hb hK hP 1 0 rfl rfl rfl d_Gues_roundOf_20 ?_
      refine lv_icmp_ge (tgt := 33) hx hb d_Gues_roundOf_21 (by decide) (fun c_21 => ?_) (fun c_21 => ?_)
      · have h := And.left h c_21
        refine lv_iconst (v := (-1)) hx hb d_Gues_roundOf_33 (by decide) ?_
        rw [← hQ]
        have hP9 := hP.sub (ws' := [(a_lp, .inr (4, [.ref a_lp_facts, .ref a_lp_turns, .ref a_lp_first, .ref a_lp_src, .ref a_s1, .int lp_choices, .int lp_guesses, .int lp_unaries, .int lp_ranked])), (a_gu, .inr (3, [.ref a_lp, .ref a_gu_rounds, .ref a_s1, .ref a_s2, .int gu_left])), (a_gu_rounds, .inl (cI, 12, .inl gu_rounds))]) [2, 0, 1] rfl
        have hD9 := hD.sub (ws' := [(a_lp, .inr (4, [.ref a_lp_facts, .ref a_lp_turns, .ref a_lp_first, .ref a_lp_src, .ref a_s1, .int lp_choices, .int lp_guesses, .int lp_unaries, .int lp_ranked])), (a_gu, .inr (3, [.ref a_lp, .ref a_gu_rounds, .ref a_s1, .ref a_s2, .int gu_left])), (a_gu_rounds, .inl (cI, 12, .inl gu_rounds))]) [2, 0, 1] (by decide) rfl
        exact W.iret (v := (-1)) hx hb hr (fun t ht hW => ⟨⟨(-1), (), rfl, h, by rw [ht]; exact hP9, va_K.moved hW.alike hK, hD9⟩, hS.F ht⟩) hS.2.2 d_Gues_roundOf_34
      · have h := And.right h c_21
        refine lv_aload_n hx hb d_Gues_roundOf_24 rfl (lv_at hl 0 rfl) ?_
        refine va_get (D := (dC, dI)) (ci := 3) (v := .ref a_gu_rounds) (C := "LoopInduction$Guesses") (T := F_Gues) (N := 5) hx hb hts iC_Gues hown hK hP 0 rfl rfl 1 (by decide) fl_9 (fun _ h9 => h9) rfl d_Gues_roundOf_25 ?_
        refine lv_iload_n hx hb d_Gues_roundOf_28 rfl (lv_at hl 1 rfl) ?_
        obtain ⟨hin_29, h⟩ := h
        refine va_iald hx hb hK hP 1 0 rfl rfl hin_29 d_Gues_roundOf_29 ?_
        refine lv_goto (tgt := 34) hx hb d_Gues_roundOf_30 (by decide) ?_
        rw [← hQ]
        have hP9 := hP.sub (ws' := [(a_lp, .inr (4, [.ref a_lp_facts, .ref a_lp_turns, .ref a_lp_first, .ref a_lp_src, .ref a_s1, .int lp_choices, .int lp_guesses, .int lp_unaries, .int lp_ranked])), (a_gu, .inr (3, [.ref a_lp, .ref a_gu_rounds, .ref a_s1, .ref a_s2, .int gu_left])), (a_gu_rounds, .inl (cI, 12, .inl gu_rounds))]) [2, 0, 1] rfl
        have hD9 := hD.sub (ws' := [(a_lp, .inr (4, [.ref a_lp_facts, .ref a_lp_turns, .ref a_lp_first, .ref a_lp_src, .ref a_s1, .int lp_choices, .int lp_guesses, .int lp_unaries, .int lp_ranked])), (a_gu, .inr (3, [.ref a_lp, .ref a_gu_rounds, .ref a_s1, .ref a_s2, .int gu_left])), (a_gu_rounds, .inl (cI, 12, .inl gu_rounds))]) [2, 0, 1] (by decide) rfl
        exact W.iret (v := gu_rounds (x1 : Int32).toNatClampNeg) hx hb hr (fun t ht hW => ⟨⟨(gu_rounds (x1 : Int32).toNatClampNeg), (), rfl, h, by rw [ht]; exact hP9, va_K.moved hW.alike hK, hD9⟩, hS.F ht⟩) hS.2.2 d_Gues_roundOf_34
set_option maxHeartbeats 4000000 in
set_option maxRecDepth 100000 in
theorem c_Gues_lackedAtBegin (l : Launch) (dC : Nat → ClassId) (dI : Nat → Nat → Nat) (cI cB cZ : ClassId) (adK adV : Nat → Nat) (sz : Nat) (a_lp a_lp_facts a_lp_turns a_lp_first a_lp_src a_s1 a_gu a_gu_rounds a_s2 : Nat) (lp_choices : Int32) (lp_guesses : Int32) (lp_unaries : Int32) (lp_ranked : Int32) (lp_facts : Nat → Int32) (gu_left : Int32) (post : Int32 → Prop) (h : wp_Gues_lackedAtBegin lp_facts gu_left post) : Met l y_Gues_lackedAtBegin w_Gues_lackedAtBegin ({ frames := 2, cells := 0, slots := 0, locals := 42 }) (pc_ (dC, dI) [(cI, .int), (cB, .byte), (cZ, .boolean)] [(a_lp, .inr (4, [.ref a_lp_facts, .ref a_lp_turns, .ref a_lp_first, .ref a_lp_src, .ref a_s1, .int lp_choices, .int lp_guesses, .int lp_unaries, .int lp_ranked])), (a_lp_facts, .inl (cI, 4096, .inl lp_facts)), (a_gu, .inr (3, [.ref a_lp, .ref a_gu_rounds, .ref a_s1, .ref a_s2, .int gu_left]))] sz adK adV [.ref a_gu]) (va_Qi (fun (r : Int32) (u : Unit) => post r ) (fun (u : Unit) t => bw_ (dC, dI) [(cI, .int), (cB, .byte), (cZ, .boolean)] (va_A [(a_lp, .inr (4, [.ref a_lp_facts, .ref a_lp_turns, .ref a_lp_first, .ref a_lp_src, .ref a_s1, .int lp_choices, .int lp_guesses, .int lp_unaries, .int lp_ranked])), (a_lp_facts, .inl (cI, 4096, .inl lp_facts)), (a_gu, .inr (3, [.ref a_lp, .ref a_gu_rounds, .ref a_s1, .ref a_s2, .int gu_left]))] sz) [(a_lp, .inr (4, [.ref a_lp_facts, .ref a_lp_turns, .ref a_lp_first, .ref a_lp_src, .ref a_s1, .int lp_choices, .int lp_guesses, .int lp_unaries, .int lp_ranked])), (a_lp_facts, .inl (cI, 4096, .inl lp_facts)), (a_gu, .inr (3, [.ref a_lp, .ref a_gu_rounds, .ref a_s1, .ref a_s2, .int gu_left]))] t) (va_A [(a_lp, .inr (4, [.ref a_lp_facts, .ref a_lp_turns, .ref a_lp_first, .ref a_lp_src, .ref a_s1, .int lp_choices, .int lp_guesses, .int lp_unaries, .int lp_ranked])), (a_lp_facts, .inl (cI, 4096, .inl lp_facts)), (a_gu, .inr (3, [.ref a_lp, .ref a_gu_rounds, .ref a_s1, .ref a_s2, .int gu_left]))] sz)) 0 0 (va_A [(a_lp, .inr (4, [.ref a_lp_facts, .ref a_lp_turns, .ref a_lp_first, .ref a_lp_src, .ref a_s1, .int lp_choices, .int lp_guesses, .int lp_unaries, .int lp_ranked])), (a_lp_facts, .inl (cI, 4096, .inl lp_facts)), (a_gu, .inr (3, [.ref a_lp, .ref a_gu_rounds, .ref a_s1, .ref a_s2, .int gu_left]))] sz) := by
  refine Met.ofW (cc := b_Gues_lackedAtBegin) (maxL := 3) (ret := (some .int)) (by decide) rfl ?_
  intro p e s m args below meth c s₁ B hml hv
  obtain ⟨rfl, hsz, hP, hK, hD0, hN, hT⟩ := hv
  have hx := B.exec
  have hb := B.bytes
  have hr := B.returns
  have hts := atoms_spec (ws := w_Gues_lackedAtBegin) B.pre
  have hown : s.vm.findClass "LoopInduction$Guesses" = some m.cls := findClass_of_methodNamed B.named
  have hlocks := B.notSynchronized
  subst hsz
  have hD := hD0.self (sz := s.heap.size)
  generalize hAe : va_A [(a_lp, .inr (4, [.ref a_lp_facts, .ref a_lp_turns, .ref a_lp_first, .ref a_lp_src, .ref a_s1, .int lp_choices, .int lp_guesses, .int lp_unaries, .int lp_ranked])), (a_lp_facts, .inl (cI, 4096, .inl lp_facts)), (a_gu, .inr (3, [.ref a_lp, .ref a_gu_rounds, .ref a_s1, .ref a_s2, .int gu_left]))] s.heap.size = A at hD hT ⊢
  have hA : ∀ q : Nat, s.heap.size ≤ q → A q := fun q h => by rw [← hAe]; exact Or.inr h
  have hS : va_S A s.heap s.heap [] := va_S.rf
  generalize hQ : MQ below _ _ s 0 0 _ = QQ
  have hl := lv_entry ([.ref a_gu]) (n := 3) (Nat.le_of_ble_eq_true rfl)
  rw [lg_entry_eq]
  generalize (lg_sl ([.ref a_gu]) ++ List.replicate (3 - (lg_sl ([.ref a_gu])).length) Slot.unset).toArray = ls at hl ⊢
  have hl : lv_has ls 3 [(0, .ref a_gu)] := hl
  have fl_15 := (hts _ (List.mem_cons_of_mem _ m_337))
  have fl_19 := (hts _ (List.mem_cons_of_mem _ m_333))
  refine lv_iconst (v := 0) hx hb d_Gues_lackedAtBegin_0 (by decide) ?_
  refine lv_istore_n (lv' := [(1, .int 0), (0, .ref a_gu)]) hx hb d_Gues_lackedAtBegin_1 rfl hl (by decide) rfl (fun ls hl => ?_)
  refine lv_iconst (v := 0) hx hb d_Gues_lackedAtBegin_2 (by decide) ?_
  refine lv_istore_n (lv' := [(2, .int 0), (1, .int 0), (0, .ref a_gu)]) hx hb d_Gues_lackedAtBegin_3 rfl hl (by decide) rfl (fun ls hl => ?_)
  have L4_q_3 : ∀ (k47 : Int32 → Prop) (hk47 : ∀ (x1_4 : Int32), k47 x1_4 → ∀ (H : Heap) (locs : List Loc), va_P (dC, dI) vwCl [(a_lp, .inr (4, [.ref a_lp_facts, .ref a_lp_turns, .ref a_lp_first, .ref a_lp_src, .ref a_s1, .int lp_choices, .int lp_guesses, .int lp_unaries, .int lp_ranked])), (a_lp_facts, .inl (cI, 4096, .inl lp_facts)), (a_gu, .inr (3, [.ref a_lp, .ref a_gu_rounds, .ref a_s1, .ref a_s2, .int gu_left]))] H → va_D A [(a_lp, .inr (4, [.ref a_lp_facts, .ref a_lp_turns, .ref a_lp_first, .ref a_lp_src, .ref a_s1, .int lp_choices, .int lp_guesses, .int lp_unaries, .int lp_ranked])), (a_lp_facts, .inl (cI, 4096, .inl lp_facts)), (a_gu, .inr (3, [.ref a_lp, .ref a_gu_rounds, .ref a_s1, .ref a_s2, .int gu_left]))] → va_S A s.heap H locs → ∀ ls : Array Slot, lv_has ls 3 [(1, .int x1_4)] → W p l e (headSpec w_Gues_lackedAtBegin ({ frames := 2, cells := 0, slots := 0, locals := 42 })).room s m (([.ref a_gu] : List Value).toArray) below meth c H locs 0 0 QQ (F0 m 47 ls [])) (n : Nat) (x1_1 : Int32) (x2_2 : Int32), wp_Gues_lackedAtBegin_L4 lp_facts gu_left k47 n x1_1 x2_2 → ∀ (H : Heap) (locs : List Loc), va_P (dC, dI) vwCl [(a_lp, .inr (4, [.ref a_lp_facts, .ref a_lp_turns, .ref a_lp_first, .ref a_lp_src, .ref a_s1, .int lp_choices, .int lp_guesses, .int lp_unaries, .int lp_ranked])), (a_lp_facts, .inl (cI, 4096, .inl lp_facts)), (a_gu, .inr (3, [.ref a_lp, .ref a_gu_rounds, .ref a_s1, .ref a_s2, .int gu_left]))] H → va_D A [(a_lp, .inr (4, [.ref a_lp_facts, .ref a_lp_turns, .ref a_lp_first, .ref a_lp_src, .ref a_s1, .int lp_choices, .int lp_guesses, .int lp_unaries, .int lp_ranked])), (a_lp_facts, .inl (cI, 4096, .inl lp_facts)), (a_gu, .inr (3, [.ref a_lp, .ref a_gu_rounds, .ref a_s1, .ref a_s2, .int gu_left]))] → va_S A s.heap H locs → ∀ ls : Array Slot, lv_has ls 3 [(0, .ref a_gu), (1, .int x1_1), (2, .int x2_2)] → W p l e (headSpec w_Gues_lackedAtBegin ({ frames := 2, cells := 0, slots := 0, locals := 42 })).room s m (([.ref a_gu] : List Value).toArray) below meth c H locs 0 0 QQ (F0 m 4 ls []) := by
    intro k47 hk47 n
    induction n with
    | zero => intro x1_1 x2_2 h; exact (show False from h).elim
    | succ n il =>
      intro x1_1 x2_2 h
      intro H locs hP hD hS ls hl
      refine lv_iload_n hx hb d_Gues_lackedAtBegin_4 rfl (lv_at hl 2 rfl) ?_
      refine lv_sipush (v := 4096) hx hb d_Gues_lackedAtBegin_5 (by decide) ?_
      refine lv_icmp_ge (tgt := 47) hx hb d_Gues_lackedAtBegin_8 (by decide) (fun c_8 => ?_) (fun c_8 => ?_)
      · have h := And.left h c_8
        exact hk47 _ h _ _ hP hD hS _ (lv_sub hl [1] rfl)
      · have h := And.right h c_8
        refine lv_aload_n hx hb d_Gues_lackedAtBegin_11 rfl (lv_at hl 0 rfl) ?_
        refine va_get (D := (dC, dI)) (ci := 3) (v := .ref a_lp) (C := "LoopInduction$Guesses") (T := F_Gues) (N := 5) hx hb hts iC_Gues hown hK hP 2 rfl rfl 0 (by decide) fl_19 (fun _ h9 => h9) rfl d_Gues_lackedAtBegin_12 ?_
        refine lv_iload_n hx hb d_Gues_lackedAtBegin_15 rfl (lv_at hl 2 rfl) ?_
        refine lv_iconst (v := 1) hx hb d_Gues_lackedAtBegin_16 (by decide) ?_
        refine jn_i (wr := [(a_gu, .inr (3, [.ref a_lp, .ref a_gu_rounds, .ref a_s1, .ref a_s2, .int gu_left]))]) (va_runV (As := [.int x2_2, .int 1]) (rest := []) ⟨hx, hb, hml, hown, hts⟩ (c_Loop_hasAll l dC dI cI cB cZ adK adV _ a_lp a_lp_facts a_lp_turns a_lp_first a_lp_src a_s1 lp_choices lp_guesses lp_unaries lp_ranked lp_facts x2_2 1 _ h) (cwV 2 hts (gv_ m_863 m_785 m_786 m_92 m_787) rfl rfl rfl pd_Loop_hasAll ⟨Nat.le_of_ble_eq_true rfl, Nat.le_of_ble_eq_true rfl⟩) ⟨pc_blind, va_recv hK hP (ci := 4) (q0 := 0) rfl rfl, pc_of (hP.sub [0, 1] rfl) hK (hD.sub [0, 1] (by decide) rfl) hN hT hS hA⟩ rfl rfl hl.1 rfl (lv_room (Nat.le_of_ble_eq_true rfl)) d_Gues_lackedAtBegin_17 ⟨Nat.zero_le _, Nat.zero_le _⟩) hP hD hS hA [0, 1] [2] rfl rfl (by decide) (by decide) (fun r_5 u_ H locs h hP hD hS => ?_)
        have hP : va_P (dC, dI) vwCl [(a_gu, .inr (3, [.ref a_lp, .ref a_gu_rounds, .ref a_s1, .ref a_s2, .int gu_left])), (a_lp, .inr (4, [.ref a_lp_facts, .ref a_lp_turns, .ref a_lp_first, .ref a_lp_src, .ref a_s1, .int lp_choices, .int lp_guesses, .int lp_unaries, .int lp_ranked])), (a_lp_facts, .inl (cI, 4096, .inl lp_facts))] H := hP
        have hD : va_D A [(a_gu, .inr (3, [.ref a_lp, .ref a_gu_rounds, .ref a_s1, .ref a_s2, .int gu_left])), (a_lp, .inr (4, [.ref a_lp_facts, .ref a_lp_turns, .ref a_lp_first, .ref a_lp_src, .ref a_s1, .int lp_choices, .int lp_guesses, .int lp_unaries, .int lp_ranked])), (a_lp_facts, .inl (cI, 4096, .inl lp_facts))] := hD
        refine lv_if_eq (tgt := 41) hx hb d_Gues_lackedAtBegin_20 (by decide) (fun c_20 => ?_) (fun c_20 => ?_)
        · have h := And.left h c_20
          refine lv_iinc (v := x2_2 + 1) (lv' := [(2, .int (x2_2 + 1)), (0, .ref a_gu), (1, .int x1_1)]) hx hb d_Gues_lackedAtBegin_41 hl (k := 2) rfl rfl (by decide) rfl (fun ls hl => ?_)
          refine lv_goto (tgt := 4) hx hb d_Gues_lackedAtBegin_44 (by decide) ?_
          exact il _ _ h _ _ (hP.sub [1, 2, 0] rfl) (hD.sub [1, 2, 0] (by decide) rfl) hS _ (lv_sub hl [1, 2, 0] rfl)
        · have h := And.right h c_20
          refine lv_iload_n hx hb d_Gues_lackedAtBegin_23 rfl (lv_at hl 1 rfl) ?_
          refine lv_aload_n hx hb d_Gues_lackedAtBegin_24 rfl (lv_at hl 0 rfl) ?_
          refine va_get (D := (dC, dI)) (ci := 3) (v := .int gu_left) (C := "LoopInduction$Guesses") (T := F_Gues) (N := 5) hx hb hts iC_Gues hown hK hP 0 rfl rfl 4 (by decide) fl_15 (fun _ h9 => h9) rfl d_Gues_lackedAtBegin_25 ?_
          refine lv_aload_n hx hb d_Gues_lackedAtBegin_28 rfl (lv_at hl 0 rfl) ?_
          refine va_get (D := (dC, dI)) (ci := 3) (v := .ref a_lp) (C := "LoopInduction$Guesses") (T := F_Gues) (N := 5) hx hb hts iC_Gues hown hK hP 0 rfl rfl 0 (by decide) fl_19 (fun _ h9 => h9) rfl d_Gues_lackedAtBegin_29 ?_
          refine lv_iload_n hx hb d_Gues_lackedAtBegin_32 rfl (lv_at hl 2 rfl) ?_
          refine jn_i (wr := [(a_gu, .inr (3, [.ref a_lp, .ref a_gu_rounds, .ref a_s1, .ref a_s2, .int gu_left]))]) (va_runV (As := [.int x2_2]) (rest := [.int gu_left, .int x1_1]) ⟨hx, hb, hml, hown, hts⟩ (c_Loop_guessesOf l dC dI cI cB cZ adK adV _ a_lp a_lp_facts a_lp_turns a_lp_first a_lp_src a_s1 lp_choices lp_guesses lp_unaries lp_ranked lp_facts x2_2 _ h) (cwV 1 hts (gv_ m_864 m_865 m_866 m_92 m_867) rfl rfl rfl pd_Loop_guessesOf ⟨Nat.le_of_ble_eq_true rfl, Nat.le_of_ble_eq_true rfl⟩) ⟨pc_blind, va_recv hK hP (ci := 4) (q0 := 1) rfl rfl, pc_of (hP.sub [1, 2] rfl) hK (hD.sub [1, 2] (by decide) rfl) hN hT hS hA⟩ rfl rfl hl.1 rfl (lv_room (Nat.le_of_ble_eq_true rfl)) d_Gues_lackedAtBegin_33 ⟨Nat.zero_le _, Nat.zero_le _⟩) hP hD hS hA [1, 2] [0] rfl rfl (by decide) (by decide) (fun r_6 u_ H locs h hP hD hS => ?_)
          have hP : va_P (dC, dI) vwCl [(a_gu, .inr (3, [.ref a_lp, .ref a_gu_rounds, .ref a_s1, .ref a_s2, .int gu_left])), (a_lp, .inr (4, [.ref a_lp_facts, .ref a_lp_turns, .ref a_lp_first, .ref a_lp_src, .ref a_s1, .int lp_choices, .int lp_guesses, .int lp_unaries, .int lp_ranked])), (a_lp_facts, .inl (cI, 4096, .inl lp_facts))] H := hP
          have hD : va_D A [(a_gu, .inr (3, [.ref a_lp, .ref a_gu_rounds, .ref a_s1, .ref a_s2, .int gu_left])), (a_lp, .inr (4, [.ref a_lp_facts, .ref a_lp_turns, .ref a_lp_first, .ref a_lp_src, .ref a_s1, .int lp_choices, .int lp_guesses, .int lp_unaries, .int lp_ranked])), (a_lp_facts, .inl (cI, 4096, .inl lp_facts))] := hD
          refine lv_iconst (v := (-1)) hx hb d_Gues_lackedAtBegin_36 (by decide) ?_
          refine lv_ixor hx hb d_Gues_lackedAtBegin_37 ?_
          refine lv_iand hx hb d_Gues_lackedAtBegin_38 ?_
          refine lv_ior hx hb d_Gues_lackedAtBegin_39 ?_
          refine lv_topi (fun x1_7 ex1_7 => ?_)
          have h := h x1_7 ex1_7
          refine lv_istore_n (lv' := [(1, .int x1_7), (0, .ref a_gu), (2, .int x2_2)]) hx hb d_Gues_lackedAtBegin_40 rfl hl (by decide) rfl (fun ls hl => ?_)
          refine lv_iinc (v := x2_2 + 1) (lv' := [(2, .int (x2_2 + 1)), (1, .int x1_7), (0, .ref a_gu)]) hx hb d_Gues_lackedAtBegin_41 hl (k := 2) rfl rfl (by decide) rfl (fun ls hl => ?_)
          refine lv_goto (tgt := 4) hx hb d_Gues_lackedAtBegin_44 (by decide) ?_
          exact il _ _ h _ _ (hP.sub [1, 2, 0] rfl) (hD.sub [1, 2, 0] (by decide) rfl) hS _ (lv_sub hl [2, 1, 0] rfl)
  obtain ⟨n_, h⟩ := h
  refine L4_q_3 _ ?_ n_ _ _ h _ _ hP hD hS _ (lv_sub hl [2, 1, 0] rfl)
  intro x1_8 h
  intro H locs hP hD hS ls hl
  refine lv_iload_n hx hb d_Gues_lackedAtBegin_47 rfl (lv_at hl 0 rfl) ?_
  rw [← hQ]
  have hP9 := hP
  have hD9 := hD
  exact W.iret (v := x1_8) hx hb hr (fun t ht hW => ⟨⟨x1_8, (), rfl, h, by rw [ht]; exact hP9, va_K.moved hW.alike hK, hD9⟩, hS.F ht⟩) hS.2.2 d_Gues_lackedAtBegin_48
set_option maxHeartbeats 4000000 in
set_option maxRecDepth 100000 in
theorem c_Gues_dismiss (l : Launch) (dC : Nat → ClassId) (dI : Nat → Nat → Nat) (cI cB cZ : ClassId) (adK adV : Nat → Nat) (sz : Nat) (a_gu a_lp a_gu_rounds a_s1 a_s2 : Nat) (gu_left : Int32) (gu_rounds : Nat → Int32) (x1 : Int32) (x2 : Int32) (post : Int32 → (Nat → Int32) → Prop) (h : wp_Gues_dismiss x1 x2 gu_left gu_rounds post) : Met l y_Gues_dismiss w_Gues_dismiss ({ frames := 0, cells := 0, slots := 0, locals := 0 }) (pc_ (dC, dI) [(cI, .int), (cB, .byte), (cZ, .boolean)] [(a_gu, .inr (3, [.ref a_lp, .ref a_gu_rounds, .ref a_s1, .ref a_s2, .int gu_left])), (a_gu_rounds, .inl (cI, 12, .inl gu_rounds))] sz adK adV [.ref a_gu, .int x1, .int x2]) (va_Qv (fun (u : Int32 × (Nat → Int32)) => post u.1 u.2) (fun (u : Int32 × (Nat → Int32)) t => bw_ (dC, dI) [(cI, .int), (cB, .byte), (cZ, .boolean)] (va_A [(a_gu, .inr (3, [.ref a_lp, .ref a_gu_rounds, .ref a_s1, .ref a_s2, .int gu_left])), (a_gu_rounds, .inl (cI, 12, .inl gu_rounds))] sz) [(a_gu, .inr (3, [.ref a_lp, .ref a_gu_rounds, .ref a_s1, .ref a_s2, .int u.1])), (a_gu_rounds, .inl (cI, 12, .inl u.2))] t) (va_A [(a_gu, .inr (3, [.ref a_lp, .ref a_gu_rounds, .ref a_s1, .ref a_s2, .int gu_left])), (a_gu_rounds, .inl (cI, 12, .inl gu_rounds))] sz)) 0 0 (va_A [(a_gu, .inr (3, [.ref a_lp, .ref a_gu_rounds, .ref a_s1, .ref a_s2, .int gu_left])), (a_gu_rounds, .inl (cI, 12, .inl gu_rounds))] sz) := by
  refine Met.ofW (cc := b_Gues_dismiss) (maxL := 4) (ret := none) (by decide) rfl ?_
  intro p e s m args below meth c s₁ B hml hv
  obtain ⟨rfl, hsz, hP, hK, hD0, hN, hT⟩ := hv
  have hx := B.exec
  have hb := B.bytes
  have hr := B.returns
  have hts := atoms_spec (ws := w_Gues_dismiss) B.pre
  have hown : s.vm.findClass "LoopInduction$Guesses" = some m.cls := findClass_of_methodNamed B.named
  have hlocks := B.notSynchronized
  subst hsz
  have hD := hD0.self (sz := s.heap.size)
  generalize hAe : va_A [(a_gu, .inr (3, [.ref a_lp, .ref a_gu_rounds, .ref a_s1, .ref a_s2, .int gu_left])), (a_gu_rounds, .inl (cI, 12, .inl gu_rounds))] s.heap.size = A at hD hT ⊢
  have hA : ∀ q : Nat, s.heap.size ≤ q → A q := fun q h => by rw [← hAe]; exact Or.inr h
  have hS : va_S A s.heap s.heap [] := va_S.rf
  generalize hQ : MQ below _ _ s 0 0 _ = QQ
  have hl := lv_entry ([.ref a_gu, .int x1, .int x2]) (n := 4) (Nat.le_of_ble_eq_true rfl)
  rw [lg_entry_eq]
  generalize (lg_sl ([.ref a_gu, .int x1, .int x2]) ++ List.replicate (4 - (lg_sl ([.ref a_gu, .int x1, .int x2])).length) Slot.unset).toArray = ls at hl ⊢
  have hl : lv_has ls 4 [(0, .ref a_gu), (1, .int x1), (2, .int x2)] := hl
  have fl_9 := (hts _ (List.mem_cons_of_mem _ m_334))
  have fl_15 := (hts _ (List.mem_cons_of_mem _ m_337))
  refine lv_aload_n hx hb d_Gues_dismiss_0 rfl (lv_at hl 0 rfl) ?_
  refine lv_dup hx hb d_Gues_dismiss_1 rfl ?_
  refine va_get (D := (dC, dI)) (ci := 3) (v := .int gu_left) (C := "LoopInduction$Guesses") (T := F_Gues) (N := 5) hx hb hts iC_Gues hown hK hP 0 rfl rfl 4 (by decide) fl_15 (fun _ h9 => h9) rfl d_Gues_dismiss_2 ?_
  refine lv_iload_n hx hb d_Gues_dismiss_5 rfl (lv_at hl 1 rfl) ?_
  refine lv_iconst (v := (-1)) hx hb d_Gues_dismiss_6 (by decide) ?_
  refine lv_ixor hx hb d_Gues_dismiss_7 ?_
  refine lv_iand hx hb d_Gues_dismiss_8 ?_
  refine va_put (D := (dC, dI)) (ci := 3) (v := .int (gu_left &&& (x1 ^^^ (-1)))) (ty := .int) (C := "LoopInduction$Guesses") (T := F_Gues) (N := 5) hx hb hts iC_Gues t_Gues t_Gues_ok n_Gues hown hK hP hD hS 0 rfl rfl 4 (by decide) fl_15 (fun _ h9 => h9) rfl (by decide +kernel) rfl rfl (Nat.le_of_ble_eq_true rfl) d_Gues_dismiss_9 (fun H locs hP hD hS => ?_)
  have hP : va_P (dC, dI) vwCl [(a_gu, .inr (3, [.ref a_lp, .ref a_gu_rounds, .ref a_s1, .ref a_s2, .int (gu_left &&& (x1 ^^^ (-1)))])), (a_gu_rounds, .inl (cI, 12, .inl gu_rounds))] H := hP
  have hD : va_D A [(a_gu, .inr (3, [.ref a_lp, .ref a_gu_rounds, .ref a_s1, .ref a_s2, .int (gu_left &&& (x1 ^^^ (-1)))])), (a_gu_rounds, .inl (cI, 12, .inl gu_rounds))] := hD
  refine lv_iconst (v := 0) hx hb d_Gues_dismiss_12 (by decide) ?_
  refine lv_istore_n (lv' := [(3, .int 0), (0, .ref a_gu), (1, .int x1), (2, .int x2)]) hx hb d_Gues_dismiss_13 rfl hl (by decide) rfl (fun ls hl => ?_)
  have L14_q_3 : ∀ (k42 : (Nat → Int32) → Prop) (hk42 : ∀ (gu_rounds_4 : Nat → Int32), k42 gu_rounds_4 → ∀ (H : Heap) (locs : List Loc), va_P (dC, dI) vwCl [(a_gu, .inr (3, [.ref a_lp, .ref a_gu_rounds, .ref a_s1, .ref a_s2, .int (gu_left &&& (x1 ^^^ (-1)))])), (a_gu_rounds, .inl (cI, 12, .inl gu_rounds_4))] H → va_D A [(a_gu, .inr (3, [.ref a_lp, .ref a_gu_rounds, .ref a_s1, .ref a_s2, .int (gu_left &&& (x1 ^^^ (-1)))])), (a_gu_rounds, .inl (cI, 12, .inl gu_rounds_4))] → va_S A s.heap H locs → ∀ ls : Array Slot, lv_has ls 4 [] → W p l e (headSpec w_Gues_dismiss ({ frames := 0, cells := 0, slots := 0, locals := 0 })).room s m (([.ref a_gu, .int x1, .int x2] : List Value).toArray) below meth c H locs 0 0 QQ (F0 m 42 ls [])) (n : Nat) (x3_1 : Int32) (gu_rounds_2 : Nat → Int32), wp_Gues_dismiss_L14 x1 x2 k42 n x3_1 gu_rounds_2 → ∀ (H : Heap) (locs : List Loc), va_P (dC, dI) vwCl [(a_gu, .inr (3, [.ref a_lp, .ref a_gu_rounds, .ref a_s1, .ref a_s2, .int (gu_left &&& (x1 ^^^ (-1)))])), (a_gu_rounds, .inl (cI, 12, .inl gu_rounds_2))] H → va_D A [(a_gu, .inr (3, [.ref a_lp, .ref a_gu_rounds, .ref a_s1, .ref a_s2, .int (gu_left &&& (x1 ^^^ (-1)))])), (a_gu_rounds, .inl (cI, 12, .inl gu_rounds_2))] → va_S A s.heap H locs → ∀ ls : Array Slot, lv_has ls 4 [(0, .ref a_gu), (1, .int x1), (2, .int x2), (3, .int x3_1)] → W p l e (headSpec w_Gues_dismiss ({ frames := 0, cells := 0, slots := 0, locals := 0 })).room s m (([.ref a_gu, .int x1, .int x2] : List Value).toArray) below meth c H locs 0 0 QQ (F0 m 14 ls []) := by
    intro k42 hk42 n
    induction n with
    | zero => intro x3_1 gu_rounds_2 h; exact (show False from h).elim
    | succ n il =>
      intro x3_1 gu_rounds_2 h
      intro H locs hP hD hS ls hl
      refine lv_iload_n hx hb d_Gues_dismiss_14 rfl (lv_at hl 3 rfl) ?_
      refine lv_bipush (v := 12) hx hb d_Gues_dismiss_15 (by decide) ?_
      refine lv_icmp_ge (tgt := 42) hx hb d_Gues_dismiss_17 (by decide) (fun c_17 => ?_) (fun c_17 => ?_)
      · have h := And.left h c_17
        exact hk42 _ h _ _ hP hD hS _ (lv_sub hl [] rfl)
      · have h := And.right h c_17
        refine lv_iload_n hx hb d_Gues_dismiss_20 rfl (lv_at hl 1 rfl) ?_
        refine lv_iload_n hx hb d_Gues_dismiss_21 rfl (lv_at hl 3 rfl) ?_
        refine lv_ishr hx hb d_Gues_dismiss_22 ?_
        refine lv_iconst (v := 1) hx hb d_Gues_dismiss_23 (by decide) ?_
        refine lv_iand hx hb d_Gues_dismiss_24 ?_
        refine lv_iconst (v := 1) hx hb d_Gues_dismiss_25 (by decide) ?_
        refine lv_icmp_ne (tgt := 36) hx hb d_Gues_dismiss_26 (by decide) (fun c_26 => ?_) (fun c_26 => ?_)
        · have h := And.left h c_26
          refine lv_iinc (v := x3_1 + 1) (lv' := [(3, .int (x3_1 + 1)), (0, .ref a_gu), (1, .int x1), (2, .int x2)]) hx hb d_Gues_dismiss_36 hl (k := 3) rfl rfl (by decide) rfl (fun ls hl => ?_)
          refine lv_goto (tgt := 14) hx hb d_Gues_dismiss_39 (by decide) ?_
          exact il _ _ h _ _ hP hD hS _ (lv_sub hl [1, 2, 3, 0] rfl)
        · have h := And.right h c_26
          refine lv_aload_n hx hb d_Gues_dismiss_29 rfl (lv_at hl 0 rfl) ?_
          refine va_get (D := (dC, dI)) (ci := 3) (v := .ref a_gu_rounds) (C := "LoopInduction$Guesses") (T := F_Gues) (N := 5) hx hb hts iC_Gues hown hK hP 0 rfl rfl 1 (by decide) fl_9 (fun _ h9 => h9) rfl d_Gues_dismiss_30 ?_
          refine lv_iload_n hx hb d_Gues_dismiss_33 rfl (lv_at hl 3 rfl) ?_
          refine lv_iload_n hx hb d_Gues_dismiss_34 rfl (lv_at hl 2 rfl) ?_
          obtain ⟨hin_35, h⟩ := h
          refine va_iast hx hb hK hP hD hS 1 0 rfl rfl hin_35 d_Gues_dismiss_35 (fun H locs hP hD hS => ?_)
          have hP : va_P (dC, dI) vwCl [(a_gu, .inr (3, [.ref a_lp, .ref a_gu_rounds, .ref a_s1, .ref a_s2, .int (gu_left &&& (x1 ^^^ (-1)))])), (a_gu_rounds, .inl (cI, 12, .inl (upd gu_rounds_2 (x3_1 : Int32).toNatClampNeg x2)))] H := hP
          have hD : va_D A [(a_gu, .inr (3, [.ref a_lp, .ref a_gu_rounds, .ref a_s1, .ref a_s2, .int (gu_left &&& (x1 ^^^ (-1)))])), (a_gu_rounds, .inl (cI, 12, .inl (upd gu_rounds_2 (x3_1 : Int32).toNatClampNeg x2)))] := hD
          refine lv_iinc (v := x3_1 + 1) (lv' := [(3, .int (x3_1 + 1)), (0, .ref a_gu), (1, .int x1), (2, .int x2)]) hx hb d_Gues_dismiss_36 hl (k := 3) rfl rfl (by decide) rfl (fun ls hl => ?_)
          refine lv_goto (tgt := 14) hx hb d_Gues_dismiss_39 (by decide) ?_
          exact il _ _ h _ _ hP hD hS _ (lv_sub hl [1, 2, 3, 0] rfl)
  obtain ⟨n_, h⟩ := h
  refine L14_q_3 _ ?_ n_ _ _ h _ _ hP hD hS _ (lv_sub hl [1, 2, 3, 0] rfl)
  intro gu_rounds_5 h
  intro H locs hP hD hS ls hl
  rw [← hQ]
  have hP9 := hP
  have hD9 := hD
  exact W.vret hx hb hr (fun t ht hW => ⟨⟨(gu_left &&& (x1 ^^^ (-1)), gu_rounds_5), rfl, h, by rw [ht]; exact hP9, va_K.moved hW.alike hK, hD9⟩, hS.F ht⟩) hS.2.2 d_Gues_dismiss_42
set_option maxHeartbeats 4000000 in
set_option maxRecDepth 100000 in
theorem c_Gues_lackedBehind (l : Launch) (dC : Nat → ClassId) (dI : Nat → Nat → Nat) (cI cB cZ : ClassId) (adK adV : Nat → Nat) (sz : Nat) (a_lp a_lp_facts a_lp_turns a_lp_first a_lp_src a_s1 a_gu a_gu_rounds a_s2 : Nat) (lp_choices : Int32) (lp_guesses : Int32) (lp_unaries : Int32) (lp_ranked : Int32) (lp_facts : Nat → Int32) (lp_turns : Nat → Int32) (gu_left : Int32) (x1 : Int32) (post : Int32 → Prop) (h : wp_Gues_lackedBehind x1 lp_choices lp_facts lp_turns gu_left post) : Met l y_Gues_lackedBehind w_Gues_lackedBehind ({ frames := 2, cells := 0, slots := 0, locals := 42 }) (pc_ (dC, dI) [(cI, .int), (cB, .byte), (cZ, .boolean)] [(a_lp, .inr (4, [.ref a_lp_facts, .ref a_lp_turns, .ref a_lp_first, .ref a_lp_src, .ref a_s1, .int lp_choices, .int lp_guesses, .int lp_unaries, .int lp_ranked])), (a_lp_facts, .inl (cI, 4096, .inl lp_facts)), (a_lp_turns, .inl (cI, 24576, .inl lp_turns)), (a_gu, .inr (3, [.ref a_lp, .ref a_gu_rounds, .ref a_s1, .ref a_s2, .int gu_left]))] sz adK adV [.ref a_gu, .int x1]) (va_Qi (fun (r : Int32) (u : Unit) => post r ) (fun (u : Unit) t => bw_ (dC, dI) [(cI, .int), (cB, .byte), (cZ, .boolean)] (va_A [(a_lp, .inr (4, [.ref a_lp_facts, .ref a_lp_turns, .ref a_lp_first, .ref a_lp_src, .ref a_s1, .int lp_choices, .int lp_guesses, .int lp_unaries, .int lp_ranked])), (a_lp_facts, .inl (cI, 4096, .inl lp_facts)), (a_lp_turns, .inl (cI, 24576, .inl lp_turns)), (a_gu, .inr (3, [.ref a_lp, .ref a_gu_rounds, .ref a_s1, .ref a_s2, .int gu_left]))] sz) [(a_lp, .inr (4, [.ref a_lp_facts, .ref a_lp_turns, .ref a_lp_first, .ref a_lp_src, .ref a_s1, .int lp_choices, .int lp_guesses, .int lp_unaries, .int lp_ranked])), (a_lp_facts, .inl (cI, 4096, .inl lp_facts)), (a_lp_turns, .inl (cI, 24576, .inl lp_turns)), (a_gu, .inr (3, [.ref a_lp, .ref a_gu_rounds, .ref a_s1, .ref a_s2, .int gu_left]))] t) (va_A [(a_lp, .inr (4, [.ref a_lp_facts, .ref a_lp_turns, .ref a_lp_first, .ref a_lp_src, .ref a_s1, .int lp_choices, .int lp_guesses, .int lp_unaries, .int lp_ranked])), (a_lp_facts, .inl (cI, 4096, .inl lp_facts)), (a_lp_turns, .inl (cI, 24576, .inl lp_turns)), (a_gu, .inr (3, [.ref a_lp, .ref a_gu_rounds, .ref a_s1, .ref a_s2, .int gu_left]))] sz)) 0 0 (va_A [(a_lp, .inr (4, [.ref a_lp_facts, .ref a_lp_turns, .ref a_lp_first, .ref a_lp_src, .ref a_s1, .int lp_choices, .int lp_guesses, .int lp_unaries, .int lp_ranked])), (a_lp_facts, .inl (cI, 4096, .inl lp_facts)), (a_lp_turns, .inl (cI, 24576, .inl lp_turns)), (a_gu, .inr (3, [.ref a_lp, .ref a_gu_rounds, .ref a_s1, .ref a_s2, .int gu_left]))] sz) := by
  refine Met.ofW (cc := b_Gues_lackedBehind) (maxL := 5) (ret := (some .int)) (by decide) rfl ?_
  intro p e s m args below meth c s₁ B hml hv
  obtain ⟨rfl, hsz, hP, hK, hD0, hN, hT⟩ := hv
  have hx := B.exec
  have hb := B.bytes
  have hr := B.returns
  have hts := atoms_spec (ws := w_Gues_lackedBehind) B.pre
  have hown : s.vm.findClass "LoopInduction$Guesses" = some m.cls := findClass_of_methodNamed B.named
  have hlocks := B.notSynchronized
  subst hsz
  have hD := hD0.self (sz := s.heap.size)
  generalize hAe : va_A [(a_lp, .inr (4, [.ref a_lp_facts, .ref a_lp_turns, .ref a_lp_first, .ref a_lp_src, .ref a_s1, .int lp_choices, .int lp_guesses, .int lp_unaries, .int lp_ranked])), (a_lp_facts, .inl (cI, 4096, .inl lp_facts)), (a_lp_turns, .inl (cI, 24576, .inl lp_turns)), (a_gu, .inr (3, [.ref a_lp, .ref a_gu_rounds, .ref a_s1, .ref a_s2, .int gu_left]))] s.heap.size = A at hD hT ⊢
  have hA : ∀ q : Nat, s.heap.size ≤ q → A q := fun q h => by rw [← hAe]; exact Or.inr h
  have hS : va_S A s.heap s.heap [] := va_S.rf
  generalize hQ : MQ below _ _ s 0 0 _ = QQ
  have hl := lv_entry ([.ref a_gu, .int x1]) (n := 5) (Nat.le_of_ble_eq_true rfl)
  rw [lg_entry_eq]
  generalize (lg_sl ([.ref a_gu, .int x1]) ++ List.replicate (5 - (lg_sl ([.ref a_gu, .int x1])).length) Slot.unset).toArray = ls at hl ⊢
  have hl : lv_has ls 5 [(0, .ref a_gu), (1, .int x1)] := hl
  have fl_15 := (hts _ (List.mem_cons_of_mem _ m_337))
  have fl_19 := (hts _ (List.mem_cons_of_mem _ m_333))
  refine lv_iconst (v := 0) hx hb d_Gues_lackedBehind_0 (by decide) ?_
  refine lv_istore_n (lv' := [(2, .int 0), (0, .ref a_gu), (1, .int x1)]) hx hb d_Gues_lackedBehind_1 rfl hl (by decide) rfl (fun ls hl => ?_)
  refine lv_iconst (v := 0) hx hb d_Gues_lackedBehind_2 (by decide) ?_
  refine lv_istore_n (lv' := [(3, .int 0), (2, .int 0), (0, .ref a_gu), (1, .int x1)]) hx hb d_Gues_lackedBehind_3 rfl hl (by decide) rfl (fun ls hl => ?_)
  have L4_q_3 : ∀ (k57 : Int32 → Prop) (hk57 : ∀ (x2_4 : Int32), k57 x2_4 → ∀ (H : Heap) (locs : List Loc), va_P (dC, dI) vwCl [(a_lp, .inr (4, [.ref a_lp_facts, .ref a_lp_turns, .ref a_lp_first, .ref a_lp_src, .ref a_s1, .int lp_choices, .int lp_guesses, .int lp_unaries, .int lp_ranked])), (a_lp_facts, .inl (cI, 4096, .inl lp_facts)), (a_lp_turns, .inl (cI, 24576, .inl lp_turns)), (a_gu, .inr (3, [.ref a_lp, .ref a_gu_rounds, .ref a_s1, .ref a_s2, .int gu_left]))] H → va_D A [(a_lp, .inr (4, [.ref a_lp_facts, .ref a_lp_turns, .ref a_lp_first, .ref a_lp_src, .ref a_s1, .int lp_choices, .int lp_guesses, .int lp_unaries, .int lp_ranked])), (a_lp_facts, .inl (cI, 4096, .inl lp_facts)), (a_lp_turns, .inl (cI, 24576, .inl lp_turns)), (a_gu, .inr (3, [.ref a_lp, .ref a_gu_rounds, .ref a_s1, .ref a_s2, .int gu_left]))] → va_S A s.heap H locs → ∀ ls : Array Slot, lv_has ls 5 [(2, .int x2_4)] → W p l e (headSpec w_Gues_lackedBehind ({ frames := 2, cells := 0, slots := 0, locals := 42 })).room s m (([.ref a_gu, .int x1] : List Value).toArray) below meth c H locs 0 0 QQ (F0 m 57 ls [])) (n : Nat) (x2_1 : Int32) (x3_2 : Int32), wp_Gues_lackedBehind_L4 x1 lp_choices lp_facts lp_turns gu_left k57 n x2_1 x3_2 → ∀ (H : Heap) (locs : List Loc), va_P (dC, dI) vwCl [(a_lp, .inr (4, [.ref a_lp_facts, .ref a_lp_turns, .ref a_lp_first, .ref a_lp_src, .ref a_s1, .int lp_choices, .int lp_guesses, .int lp_unaries, .int lp_ranked])), (a_lp_facts, .inl (cI, 4096, .inl lp_facts)), (a_lp_turns, .inl (cI, 24576, .inl lp_turns)), (a_gu, .inr (3, [.ref a_lp, .ref a_gu_rounds, .ref a_s1, .ref a_s2, .int gu_left]))] H → va_D A [(a_lp, .inr (4, [.ref a_lp_facts, .ref a_lp_turns, .ref a_lp_first, .ref a_lp_src, .ref a_s1, .int lp_choices, .int lp_guesses, .int lp_unaries, .int lp_ranked])), (a_lp_facts, .inl (cI, 4096, .inl lp_facts)), (a_lp_turns, .inl (cI, 24576, .inl lp_turns)), (a_gu, .inr (3, [.ref a_lp, .ref a_gu_rounds, .ref a_s1, .ref a_s2, .int gu_left]))] → va_S A s.heap H locs → ∀ ls : Array Slot, lv_has ls 5 [(0, .ref a_gu), (1, .int x1), (2, .int x2_1), (3, .int x3_2)] → W p l e (headSpec w_Gues_lackedBehind ({ frames := 2, cells := 0, slots := 0, locals := 42 })).room s m (([.ref a_gu, .int x1] : List Value).toArray) below meth c H locs 0 0 QQ (F0 m 4 ls []) := by
    intro k57 hk57 n
    induction n with
    | zero => intro x2_1 x3_2 h; exact (show False from h).elim
    | succ n il =>
      intro x2_1 x3_2 h
      intro H locs hP hD hS ls hl
      refine lv_iload_n hx hb d_Gues_lackedBehind_4 rfl (lv_at hl 3 rfl) ?_
      refine lv_aload_n hx hb d_Gues_lackedBehind_5 rfl (lv_at hl 0 rfl) ?_
      refine va_get (D := (dC, dI)) (ci := 3) (v := .ref a_lp) (C := "LoopInduction$Guesses") (T := F_Gues) (N := 5) hx hb hts iC_Gues hown hK hP 3 rfl rfl 0 (by decide) fl_19 (fun _ h9 => h9) rfl d_Gues_lackedBehind_6 ?_
      refine jn_i (wr := [(a_lp_facts, .inl (cI, 4096, .inl lp_facts)), (a_lp_turns, .inl (cI, 24576, .inl lp_turns)), (a_gu, .inr (3, [.ref a_lp, .ref a_gu_rounds, .ref a_s1, .ref a_s2, .int gu_left]))]) (va_runV (As := []) (rest := [.int x3_2]) ⟨hx, hb, hml, hown, hts⟩ (c_Loop_choices l dC dI cI cB cZ adK adV _ a_lp a_lp_facts a_lp_turns a_lp_first a_lp_src a_s1 lp_choices lp_guesses lp_unaries lp_ranked _ h) (cwV 0 hts (gv_ m_884 m_810 m_811 m_92 m_812) rfl rfl rfl pd_Loop_choices ⟨Nat.le_of_ble_eq_true rfl, Nat.le_of_ble_eq_true rfl⟩) ⟨pc_blind, va_recv hK hP (ci := 4) (q0 := 0) rfl rfl, pc_of (hP.sub [0] rfl) hK (hD.sub [0] (by decide) rfl) hN hT hS hA⟩ rfl rfl hl.1 rfl (lv_room (Nat.le_of_ble_eq_true rfl)) d_Gues_lackedBehind_9 ⟨Nat.zero_le _, Nat.zero_le _⟩) hP hD hS hA [0] [1, 2, 3] rfl rfl (by decide) (by decide) (fun r_5 u_ H locs h hP hD hS => ?_)
      have hP : va_P (dC, dI) vwCl [(a_lp_facts, .inl (cI, 4096, .inl lp_facts)), (a_lp_turns, .inl (cI, 24576, .inl lp_turns)), (a_gu, .inr (3, [.ref a_lp, .ref a_gu_rounds, .ref a_s1, .ref a_s2, .int gu_left])), (a_lp, .inr (4, [.ref a_lp_facts, .ref a_lp_turns, .ref a_lp_first, .ref a_lp_src, .ref a_s1, .int lp_choices, .int lp_guesses, .int lp_unaries, .int lp_ranked]))] H := hP
      have hD : va_D A [(a_lp_facts, .inl (cI, 4096, .inl lp_facts)), (a_lp_turns, .inl (cI, 24576, .inl lp_turns)), (a_gu, .inr (3, [.ref a_lp, .ref a_gu_rounds, .ref a_s1, .ref a_s2, .int gu_left])), (a_lp, .inr (4, [.ref a_lp_facts, .ref a_lp_turns, .ref a_lp_first, .ref a_lp_src, .ref a_s1, .int lp_choices, .int lp_guesses, .int lp_unaries, .int lp_ranked]))] := hD
      refine lv_icmp_ge (tgt := 57) hx hb d_Gues_lackedBehind_12 (by decide) (fun c_12 => ?_) (fun c_12 => ?_)
      · have h := And.left h c_12
        exact hk57 _ h _ _ (hP.sub [3, 0, 1, 2] rfl) (hD.sub [3, 0, 1, 2] (by decide) rfl) hS _ (lv_sub hl [2] rfl)
      · have h := And.right h c_12
        refine lv_aload_n hx hb d_Gues_lackedBehind_15 rfl (lv_at hl 0 rfl) ?_
        refine va_get (D := (dC, dI)) (ci := 3) (v := .ref a_lp) (C := "LoopInduction$Guesses") (T := F_Gues) (N := 5) hx hb hts iC_Gues hown hK hP 2 rfl rfl 0 (by decide) fl_19 (fun _ h9 => h9) rfl d_Gues_lackedBehind_16 ?_
        refine lv_iload_n hx hb d_Gues_lackedBehind_19 rfl (lv_at hl 1 rfl) ?_
        refine lv_iload_n hx hb d_Gues_lackedBehind_20 rfl (lv_at hl 3 rfl) ?_
        refine jn_i (wr := [(a_lp_facts, .inl (cI, 4096, .inl lp_facts)), (a_gu, .inr (3, [.ref a_lp, .ref a_gu_rounds, .ref a_s1, .ref a_s2, .int gu_left]))]) (va_runV (As := [.int x1, .int x3_2]) (rest := []) ⟨hx, hb, hml, hown, hts⟩ (c_Loop_turn l dC dI cI cB cZ adK adV _ a_lp a_lp_facts a_lp_turns a_lp_first a_lp_src a_s1 lp_choices lp_guesses lp_unaries lp_ranked lp_turns x1 x3_2 _ h) (cwV 2 hts (gv_ m_885 m_757 m_758 m_92 m_759) rfl rfl rfl pd_Loop_turn ⟨Nat.le_of_ble_eq_true rfl, Nat.le_of_ble_eq_true rfl⟩) ⟨pc_blind, va_recv hK hP (ci := 4) (q0 := 3) rfl rfl, pc_of (hP.sub [3, 1] rfl) hK (hD.sub [3, 1] (by decide) rfl) hN hT hS hA⟩ rfl rfl hl.1 rfl (lv_room (Nat.le_of_ble_eq_true rfl)) d_Gues_lackedBehind_21 ⟨Nat.zero_le _, Nat.zero_le _⟩) hP hD hS hA [3, 1] [0, 2] rfl rfl (by decide) (by decide) (fun r_6 u_ H locs h hP hD hS => ?_)
        have hP : va_P (dC, dI) vwCl [(a_lp_facts, .inl (cI, 4096, .inl lp_facts)), (a_gu, .inr (3, [.ref a_lp, .ref a_gu_rounds, .ref a_s1, .ref a_s2, .int gu_left])), (a_lp, .inr (4, [.ref a_lp_facts, .ref a_lp_turns, .ref a_lp_first, .ref a_lp_src, .ref a_s1, .int lp_choices, .int lp_guesses, .int lp_unaries, .int lp_ranked])), (a_lp_turns, .inl (cI, 24576, .inl lp_turns))] H := hP
        have hD : va_D A [(a_lp_facts, .inl (cI, 4096, .inl lp_facts)), (a_gu, .inr (3, [.ref a_lp, .ref a_gu_rounds, .ref a_s1, .ref a_s2, .int gu_left])), (a_lp, .inr (4, [.ref a_lp_facts, .ref a_lp_turns, .ref a_lp_first, .ref a_lp_src, .ref a_s1, .int lp_choices, .int lp_guesses, .int lp_unaries, .int lp_ranked])), (a_lp_turns, .inl (cI, 24576, .inl lp_turns))] := hD
        refine lv_istore (lv' := [(4, .int r_6), (0, .ref a_gu), (1, .int x1), (2, .int x2_1), (3, .int x3_2)]) hx hb d_Gues_lackedBehind_24 hl (by decide) rfl (fun ls hl => ?_)
        refine lv_iload hx hb d_Gues_lackedBehind_26 (lv_at hl 0 rfl) ?_
        refine lv_iconst (v := (-1)) hx hb d_Gues_lackedBehind_28 (by decide) ?_
        refine lv_icmp_eq (tgt := 51) hx hb d_Gues_lackedBehind_29 (by decide) (fun c_29 => ?_) (fun c_29 => ?_)
        · have h := And.left h c_29
          refine lv_iinc (v := x3_2 + 1) (lv' := [(3, .int (x3_2 + 1)), (4, .int r_6), (0, .ref a_gu), (1, .int x1), (2, .int x2_1)]) hx hb d_Gues_lackedBehind_51 hl (k := 4) rfl rfl (by decide) rfl (fun ls hl => ?_)
          refine lv_goto (tgt := 4) hx hb d_Gues_lackedBehind_54 (by decide) ?_
          exact il _ _ h _ _ (hP.sub [2, 0, 3, 1] rfl) (hD.sub [2, 0, 3, 1] (by decide) rfl) hS _ (lv_sub hl [2, 3, 4, 0] rfl)
        · have h := And.right h c_29
          refine lv_iload_n hx hb d_Gues_lackedBehind_32 rfl (lv_at hl 3 rfl) ?_
          refine lv_aload_n hx hb d_Gues_lackedBehind_33 rfl (lv_at hl 1 rfl) ?_
          refine va_get (D := (dC, dI)) (ci := 3) (v := .int gu_left) (C := "LoopInduction$Guesses") (T := F_Gues) (N := 5) hx hb hts iC_Gues hown hK hP 1 rfl rfl 4 (by decide) fl_15 (fun _ h9 => h9) rfl d_Gues_lackedBehind_34 ?_
          refine lv_aload_n hx hb d_Gues_lackedBehind_37 rfl (lv_at hl 1 rfl) ?_
          refine va_get (D := (dC, dI)) (ci := 3) (v := .ref a_lp) (C := "LoopInduction$Guesses") (T := F_Gues) (N := 5) hx hb hts iC_Gues hown hK hP 1 rfl rfl 0 (by decide) fl_19 (fun _ h9 => h9) rfl d_Gues_lackedBehind_38 ?_
          refine lv_iload hx hb d_Gues_lackedBehind_41 (lv_at hl 0 rfl) ?_
          refine jn_i (wr := [(a_gu, .inr (3, [.ref a_lp, .ref a_gu_rounds, .ref a_s1, .ref a_s2, .int gu_left])), (a_lp_turns, .inl (cI, 24576, .inl lp_turns))]) (va_runV (As := [.int r_6]) (rest := [.int gu_left, .int x2_1]) ⟨hx, hb, hml, hown, hts⟩ (c_Loop_guessesOf l dC dI cI cB cZ adK adV _ a_lp a_lp_facts a_lp_turns a_lp_first a_lp_src a_s1 lp_choices lp_guesses lp_unaries lp_ranked lp_facts r_6 _ h) (cwV 1 hts (gv_ m_864 m_865 m_866 m_92 m_867) rfl rfl rfl pd_Loop_guessesOf ⟨Nat.le_of_ble_eq_true rfl, Nat.le_of_ble_eq_true rfl⟩) ⟨pc_blind, va_recv hK hP (ci := 4) (q0 := 2) rfl rfl, pc_of (hP.sub [2, 0] rfl) hK (hD.sub [2, 0] (by decide) rfl) hN hT hS hA⟩ rfl rfl hl.1 rfl (lv_room (Nat.le_of_ble_eq_true rfl)) d_Gues_lackedBehind_43 ⟨Nat.zero_le _, Nat.zero_le _⟩) hP hD hS hA [2, 0] [1, 3] rfl rfl (by decide) (by decide) (fun r_7 u_ H locs h hP hD hS => ?_)
          have hP : va_P (dC, dI) vwCl [(a_gu, .inr (3, [.ref a_lp, .ref a_gu_rounds, .ref a_s1, .ref a_s2, .int gu_left])), (a_lp_turns, .inl (cI, 24576, .inl lp_turns)), (a_lp, .inr (4, [.ref a_lp_facts, .ref a_lp_turns, .ref a_lp_first, .ref a_lp_src, .ref a_s1, .int lp_choices, .int lp_guesses, .int lp_unaries, .int lp_ranked])), (a_lp_facts, .inl (cI, 4096, .inl lp_facts))] H := hP
          have hD : va_D A [(a_gu, .inr (3, [.ref a_lp, .ref a_gu_rounds, .ref a_s1, .ref a_s2, .int gu_left])), (a_lp_turns, .inl (cI, 24576, .inl lp_turns)), (a_lp, .inr (4, [.ref a_lp_facts, .ref a_lp_turns, .ref a_lp_first, .ref a_lp_src, .ref a_s1, .int lp_choices, .int lp_guesses, .int lp_unaries, .int lp_ranked])), (a_lp_facts, .inl (cI, 4096, .inl lp_facts))] := hD
          refine lv_iconst (v := (-1)) hx hb d_Gues_lackedBehind_46 (by decide) ?_
          refine lv_ixor hx hb d_Gues_lackedBehind_47 ?_
          refine lv_iand hx hb d_Gues_lackedBehind_48 ?_
          refine lv_ior hx hb d_Gues_lackedBehind_49 ?_
          refine lv_topi (fun x2_8 ex2_8 => ?_)
          have h := h x2_8 ex2_8
          refine lv_istore_n (lv' := [(2, .int x2_8), (4, .int r_6), (0, .ref a_gu), (1, .int x1), (3, .int x3_2)]) hx hb d_Gues_lackedBehind_50 rfl hl (by decide) rfl (fun ls hl => ?_)
          refine lv_iinc (v := x3_2 + 1) (lv' := [(3, .int (x3_2 + 1)), (2, .int x2_8), (4, .int r_6), (0, .ref a_gu), (1, .int x1)]) hx hb d_Gues_lackedBehind_51 hl (k := 4) rfl rfl (by decide) rfl (fun ls hl => ?_)
          refine lv_goto (tgt := 4) hx hb d_Gues_lackedBehind_54 (by decide) ?_
          exact il _ _ h _ _ (hP.sub [2, 3, 1, 0] rfl) (hD.sub [2, 3, 1, 0] (by decide) rfl) hS _ (lv_sub hl [3, 4, 1, 0] rfl)
  obtain ⟨n_, h⟩ := h
  refine L4_q_3 _ ?_ n_ _ _ h _ _ hP hD hS _ (lv_sub hl [2, 3, 1, 0] rfl)
  intro x2_9 h
  intro H locs hP hD hS ls hl
  refine lv_iload_n hx hb d_Gues_lackedBehind_57 rfl (lv_at hl 0 rfl) ?_
  rw [← hQ]
  have hP9 := hP
  have hD9 := hD
  exact W.iret (v := x2_9) hx hb hr (fun t ht hW => ⟨⟨x2_9, (), rfl, h, by rw [ht]; exact hP9, va_K.moved hW.alike hK, hD9⟩, hS.F ht⟩) hS.2.2 d_Gues_lackedBehind_58
set_option maxHeartbeats 4000000 in
set_option maxRecDepth 100000 in
theorem c_Gues_lackedBehindTurns (l : Launch) (dC : Nat → ClassId) (dI : Nat → Nat → Nat) (cI cB cZ : ClassId) (adK adV : Nat → Nat) (sz : Nat) (a_lp a_lp_facts a_lp_turns a_lp_first a_lp_src a_s1 a_gu a_gu_rounds a_s2 : Nat) (lp_choices : Int32) (lp_guesses : Int32) (lp_unaries : Int32) (lp_ranked : Int32) (lp_facts : Nat → Int32) (lp_turns : Nat → Int32) (gu_left : Int32) (post : Int32 → Prop) (h : wp_Gues_lackedBehindTurns lp_choices lp_facts lp_turns gu_left post) : Met l y_Gues_lackedBehindTurns w_Gues_lackedBehindTurns ({ frames := 3, cells := 0, slots := 0, locals := 66 }) (pc_ (dC, dI) [(cI, .int), (cB, .byte), (cZ, .boolean)] [(a_lp, .inr (4, [.ref a_lp_facts, .ref a_lp_turns, .ref a_lp_first, .ref a_lp_src, .ref a_s1, .int lp_choices, .int lp_guesses, .int lp_unaries, .int lp_ranked])), (a_lp_facts, .inl (cI, 4096, .inl lp_facts)), (a_lp_turns, .inl (cI, 24576, .inl lp_turns)), (a_gu, .inr (3, [.ref a_lp, .ref a_gu_rounds, .ref a_s1, .ref a_s2, .int gu_left]))] sz adK adV [.ref a_gu]) (va_Qi (fun (r : Int32) (u : Unit) => post r ) (fun (u : Unit) t => bw_ (dC, dI) [(cI, .int), (cB, .byte), (cZ, .boolean)] (va_A [(a_lp, .inr (4, [.ref a_lp_facts, .ref a_lp_turns, .ref a_lp_first, .ref a_lp_src, .ref a_s1, .int lp_choices, .int lp_guesses, .int lp_unaries, .int lp_ranked])), (a_lp_facts, .inl (cI, 4096, .inl lp_facts)), (a_lp_turns, .inl (cI, 24576, .inl lp_turns)), (a_gu, .inr (3, [.ref a_lp, .ref a_gu_rounds, .ref a_s1, .ref a_s2, .int gu_left]))] sz) [(a_lp, .inr (4, [.ref a_lp_facts, .ref a_lp_turns, .ref a_lp_first, .ref a_lp_src, .ref a_s1, .int lp_choices, .int lp_guesses, .int lp_unaries, .int lp_ranked])), (a_lp_facts, .inl (cI, 4096, .inl lp_facts)), (a_lp_turns, .inl (cI, 24576, .inl lp_turns)), (a_gu, .inr (3, [.ref a_lp, .ref a_gu_rounds, .ref a_s1, .ref a_s2, .int gu_left]))] t) (va_A [(a_lp, .inr (4, [.ref a_lp_facts, .ref a_lp_turns, .ref a_lp_first, .ref a_lp_src, .ref a_s1, .int lp_choices, .int lp_guesses, .int lp_unaries, .int lp_ranked])), (a_lp_facts, .inl (cI, 4096, .inl lp_facts)), (a_lp_turns, .inl (cI, 24576, .inl lp_turns)), (a_gu, .inr (3, [.ref a_lp, .ref a_gu_rounds, .ref a_s1, .ref a_s2, .int gu_left]))] sz)) 0 0 (va_A [(a_lp, .inr (4, [.ref a_lp_facts, .ref a_lp_turns, .ref a_lp_first, .ref a_lp_src, .ref a_s1, .int lp_choices, .int lp_guesses, .int lp_unaries, .int lp_ranked])), (a_lp_facts, .inl (cI, 4096, .inl lp_facts)), (a_lp_turns, .inl (cI, 24576, .inl lp_turns)), (a_gu, .inr (3, [.ref a_lp, .ref a_gu_rounds, .ref a_s1, .ref a_s2, .int gu_left]))] sz) := by
  refine Met.ofW (cc := b_Gues_lackedBehindTurns) (maxL := 3) (ret := (some .int)) (by decide) rfl ?_
  intro p e s m args below meth c s₁ B hml hv
  obtain ⟨rfl, hsz, hP, hK, hD0, hN, hT⟩ := hv
  have hx := B.exec
  have hb := B.bytes
  have hr := B.returns
  have hts := atoms_spec (ws := w_Gues_lackedBehindTurns) B.pre
  have hown : s.vm.findClass "LoopInduction$Guesses" = some m.cls := findClass_of_methodNamed B.named
  have hlocks := B.notSynchronized
  subst hsz
  have hD := hD0.self (sz := s.heap.size)
  generalize hAe : va_A [(a_lp, .inr (4, [.ref a_lp_facts, .ref a_lp_turns, .ref a_lp_first, .ref a_lp_src, .ref a_s1, .int lp_choices, .int lp_guesses, .int lp_unaries, .int lp_ranked])), (a_lp_facts, .inl (cI, 4096, .inl lp_facts)), (a_lp_turns, .inl (cI, 24576, .inl lp_turns)), (a_gu, .inr (3, [.ref a_lp, .ref a_gu_rounds, .ref a_s1, .ref a_s2, .int gu_left]))] s.heap.size = A at hD hT ⊢
  have hA : ∀ q : Nat, s.heap.size ≤ q → A q := fun q h => by rw [← hAe]; exact Or.inr h
  have hS : va_S A s.heap s.heap [] := va_S.rf
  generalize hQ : MQ below _ _ s 0 0 _ = QQ
  have hl := lv_entry ([.ref a_gu]) (n := 3) (Nat.le_of_ble_eq_true rfl)
  rw [lg_entry_eq]
  generalize (lg_sl ([.ref a_gu]) ++ List.replicate (3 - (lg_sl ([.ref a_gu])).length) Slot.unset).toArray = ls at hl ⊢
  have hl : lv_has ls 3 [(0, .ref a_gu)] := hl
  have fl_19 := (hts _ (List.mem_cons_of_mem _ m_333))
  refine lv_iconst (v := 0) hx hb d_Gues_lackedBehindTurns_0 (by decide) ?_
  refine lv_istore_n (lv' := [(1, .int 0), (0, .ref a_gu)]) hx hb d_Gues_lackedBehindTurns_1 rfl hl (by decide) rfl (fun ls hl => ?_)
  refine lv_iconst (v := 0) hx hb d_Gues_lackedBehindTurns_2 (by decide) ?_
  refine lv_istore_n (lv' := [(2, .int 0), (1, .int 0), (0, .ref a_gu)]) hx hb d_Gues_lackedBehindTurns_3 rfl hl (by decide) rfl (fun ls hl => ?_)
  have L4_q_3 : ∀ (k40 : Int32 → Prop) (hk40 : ∀ (x1_4 : Int32), k40 x1_4 → ∀ (H : Heap) (locs : List Loc), va_P (dC, dI) vwCl [(a_lp, .inr (4, [.ref a_lp_facts, .ref a_lp_turns, .ref a_lp_first, .ref a_lp_src, .ref a_s1, .int lp_choices, .int lp_guesses, .int lp_unaries, .int lp_ranked])), (a_lp_facts, .inl (cI, 4096, .inl lp_facts)), (a_lp_turns, .inl (cI, 24576, .inl lp_turns)), (a_gu, .inr (3, [.ref a_lp, .ref a_gu_rounds, .ref a_s1, .ref a_s2, .int gu_left]))] H → va_D A [(a_lp, .inr (4, [.ref a_lp_facts, .ref a_lp_turns, .ref a_lp_first, .ref a_lp_src, .ref a_s1, .int lp_choices, .int lp_guesses, .int lp_unaries, .int lp_ranked])), (a_lp_facts, .inl (cI, 4096, .inl lp_facts)), (a_lp_turns, .inl (cI, 24576, .inl lp_turns)), (a_gu, .inr (3, [.ref a_lp, .ref a_gu_rounds, .ref a_s1, .ref a_s2, .int gu_left]))] → va_S A s.heap H locs → ∀ ls : Array Slot, lv_has ls 3 [(1, .int x1_4)] → W p l e (headSpec w_Gues_lackedBehindTurns ({ frames := 3, cells := 0, slots := 0, locals := 66 })).room s m (([.ref a_gu] : List Value).toArray) below meth c H locs 0 0 QQ (F0 m 40 ls [])) (n : Nat) (x1_1 : Int32) (x2_2 : Int32), wp_Gues_lackedBehindTurns_L4 lp_choices lp_facts lp_turns gu_left k40 n x1_1 x2_2 → ∀ (H : Heap) (locs : List Loc), va_P (dC, dI) vwCl [(a_lp, .inr (4, [.ref a_lp_facts, .ref a_lp_turns, .ref a_lp_first, .ref a_lp_src, .ref a_s1, .int lp_choices, .int lp_guesses, .int lp_unaries, .int lp_ranked])), (a_lp_facts, .inl (cI, 4096, .inl lp_facts)), (a_lp_turns, .inl (cI, 24576, .inl lp_turns)), (a_gu, .inr (3, [.ref a_lp, .ref a_gu_rounds, .ref a_s1, .ref a_s2, .int gu_left]))] H → va_D A [(a_lp, .inr (4, [.ref a_lp_facts, .ref a_lp_turns, .ref a_lp_first, .ref a_lp_src, .ref a_s1, .int lp_choices, .int lp_guesses, .int lp_unaries, .int lp_ranked])), (a_lp_facts, .inl (cI, 4096, .inl lp_facts)), (a_lp_turns, .inl (cI, 24576, .inl lp_turns)), (a_gu, .inr (3, [.ref a_lp, .ref a_gu_rounds, .ref a_s1, .ref a_s2, .int gu_left]))] → va_S A s.heap H locs → ∀ ls : Array Slot, lv_has ls 3 [(0, .ref a_gu), (1, .int x1_1), (2, .int x2_2)] → W p l e (headSpec w_Gues_lackedBehindTurns ({ frames := 3, cells := 0, slots := 0, locals := 66 })).room s m (([.ref a_gu] : List Value).toArray) below meth c H locs 0 0 QQ (F0 m 4 ls []) := by
    intro k40 hk40 n
    induction n with
    | zero => intro x1_1 x2_2 h; exact (show False from h).elim
    | succ n il =>
      intro x1_1 x2_2 h
      intro H locs hP hD hS ls hl
      refine lv_iload_n hx hb d_Gues_lackedBehindTurns_4 rfl (lv_at hl 2 rfl) ?_
      refine lv_sipush (v := 4096) hx hb d_Gues_lackedBehindTurns_5 (by decide) ?_
      refine lv_icmp_ge (tgt := 40) hx hb d_Gues_lackedBehindTurns_8 (by decide) (fun c_8 => ?_) (fun c_8 => ?_)
      · have h := And.left h c_8
        exact hk40 _ h _ _ hP hD hS _ (lv_sub hl [1] rfl)
      · have h := And.right h c_8
        refine lv_aload_n hx hb d_Gues_lackedBehindTurns_11 rfl (lv_at hl 0 rfl) ?_
        refine va_get (D := (dC, dI)) (ci := 3) (v := .ref a_lp) (C := "LoopInduction$Guesses") (T := F_Gues) (N := 5) hx hb hts iC_Gues hown hK hP 3 rfl rfl 0 (by decide) fl_19 (fun _ h9 => h9) rfl d_Gues_lackedBehindTurns_12 ?_
        refine lv_iload_n hx hb d_Gues_lackedBehindTurns_15 rfl (lv_at hl 2 rfl) ?_
        refine lv_aload_n hx hb d_Gues_lackedBehindTurns_16 rfl (lv_at hl 0 rfl) ?_
        refine jn_i (wr := [(a_lp, .inr (4, [.ref a_lp_facts, .ref a_lp_turns, .ref a_lp_first, .ref a_lp_src, .ref a_s1, .int lp_choices, .int lp_guesses, .int lp_unaries, .int lp_ranked])), (a_lp_facts, .inl (cI, 4096, .inl lp_facts)), (a_lp_turns, .inl (cI, 24576, .inl lp_turns))]) (va_runV (As := []) (rest := [.int x2_2, .ref a_lp]) ⟨hx, hb, hml, hown, hts⟩ (c_Gues_keptFacts l dC dI cI cB cZ adK adV _ a_gu a_lp a_gu_rounds a_s1 a_s2 gu_left _ h) (cwV 0 hts (gv_ m_876 m_877 m_878 m_94 m_879) rfl rfl rfl pd_Gues_keptFacts ⟨Nat.le_of_ble_eq_true rfl, Nat.le_of_ble_eq_true rfl⟩) ⟨pc_blind, va_recv hK hP (ci := 3) (q0 := 3) rfl rfl, pc_of (hP.sub [3] rfl) hK (hD.sub [3] (by decide) rfl) hN hT hS hA⟩ rfl rfl hl.1 rfl (lv_room (Nat.le_of_ble_eq_true rfl)) d_Gues_lackedBehindTurns_17 ⟨Nat.zero_le _, Nat.zero_le _⟩) hP hD hS hA [3] [0, 1, 2] rfl rfl (by decide) (by decide) (fun r_5 u_ H locs h hP hD hS => ?_)
        have hP : va_P (dC, dI) vwCl [(a_lp, .inr (4, [.ref a_lp_facts, .ref a_lp_turns, .ref a_lp_first, .ref a_lp_src, .ref a_s1, .int lp_choices, .int lp_guesses, .int lp_unaries, .int lp_ranked])), (a_lp_facts, .inl (cI, 4096, .inl lp_facts)), (a_lp_turns, .inl (cI, 24576, .inl lp_turns)), (a_gu, .inr (3, [.ref a_lp, .ref a_gu_rounds, .ref a_s1, .ref a_s2, .int gu_left]))] H := hP
        have hD : va_D A [(a_lp, .inr (4, [.ref a_lp_facts, .ref a_lp_turns, .ref a_lp_first, .ref a_lp_src, .ref a_s1, .int lp_choices, .int lp_guesses, .int lp_unaries, .int lp_ranked])), (a_lp_facts, .inl (cI, 4096, .inl lp_facts)), (a_lp_turns, .inl (cI, 24576, .inl lp_turns)), (a_gu, .inr (3, [.ref a_lp, .ref a_gu_rounds, .ref a_s1, .ref a_s2, .int gu_left]))] := hD
        refine jn_i (wr := [(a_lp_turns, .inl (cI, 24576, .inl lp_turns)), (a_gu, .inr (3, [.ref a_lp, .ref a_gu_rounds, .ref a_s1, .ref a_s2, .int gu_left]))]) (va_runV (As := [.int x2_2, .int r_5]) (rest := []) ⟨hx, hb, hml, hown, hts⟩ (c_Loop_hasAll l dC dI cI cB cZ adK adV _ a_lp a_lp_facts a_lp_turns a_lp_first a_lp_src a_s1 lp_choices lp_guesses lp_unaries lp_ranked lp_facts x2_2 r_5 _ h) (cwV 2 hts (gv_ m_863 m_785 m_786 m_92 m_787) rfl rfl rfl pd_Loop_hasAll ⟨Nat.le_of_ble_eq_true rfl, Nat.le_of_ble_eq_true rfl⟩) ⟨pc_blind, va_recv hK hP (ci := 4) (q0 := 0) rfl rfl, pc_of (hP.sub [0, 1] rfl) hK (hD.sub [0, 1] (by decide) rfl) hN hT hS hA⟩ rfl rfl hl.1 rfl (lv_room (Nat.le_of_ble_eq_true rfl)) d_Gues_lackedBehindTurns_20 ⟨Nat.zero_le _, Nat.zero_le _⟩) hP hD hS hA [0, 1] [2, 3] rfl rfl (by decide) (by decide) (fun r_6 u_ H locs h hP hD hS => ?_)
        have hP : va_P (dC, dI) vwCl [(a_lp_turns, .inl (cI, 24576, .inl lp_turns)), (a_gu, .inr (3, [.ref a_lp, .ref a_gu_rounds, .ref a_s1, .ref a_s2, .int gu_left])), (a_lp, .inr (4, [.ref a_lp_facts, .ref a_lp_turns, .ref a_lp_first, .ref a_lp_src, .ref a_s1, .int lp_choices, .int lp_guesses, .int lp_unaries, .int lp_ranked])), (a_lp_facts, .inl (cI, 4096, .inl lp_facts))] H := hP
        have hD : va_D A [(a_lp_turns, .inl (cI, 24576, .inl lp_turns)), (a_gu, .inr (3, [.ref a_lp, .ref a_gu_rounds, .ref a_s1, .ref a_s2, .int gu_left])), (a_lp, .inr (4, [.ref a_lp_facts, .ref a_lp_turns, .ref a_lp_first, .ref a_lp_src, .ref a_s1, .int lp_choices, .int lp_guesses, .int lp_unaries, .int lp_ranked])), (a_lp_facts, .inl (cI, 4096, .inl lp_facts))] := hD
        refine lv_if_eq (tgt := 34) hx hb d_Gues_lackedBehindTurns_23 (by decide) (fun c_23 => ?_) (fun c_23 => ?_)
        · have h := And.left h c_23
          refine lv_iinc (v := x2_2 + 1) (lv' := [(2, .int (x2_2 + 1)), (0, .ref a_gu), (1, .int x1_1)]) hx hb d_Gues_lackedBehindTurns_34 hl (k := 2) rfl rfl (by decide) rfl (fun ls hl => ?_)
          refine lv_goto (tgt := 4) hx hb d_Gues_lackedBehindTurns_37 (by decide) ?_
          exact il _ _ h _ _ (hP.sub [2, 3, 0, 1] rfl) (hD.sub [2, 3, 0, 1] (by decide) rfl) hS _ (lv_sub hl [1, 2, 0] rfl)
        · have h := And.right h c_23
          refine lv_iload_n hx hb d_Gues_lackedBehindTurns_26 rfl (lv_at hl 1 rfl) ?_
          refine lv_aload_n hx hb d_Gues_lackedBehindTurns_27 rfl (lv_at hl 0 rfl) ?_
          refine lv_iload_n hx hb d_Gues_lackedBehindTurns_28 rfl (lv_at hl 2 rfl) ?_
          refine jn_i (wr := []) (va_runV (As := [.int x2_2]) (rest := [.int x1_1]) ⟨hx, hb, hml, hown, hts⟩ (c_Gues_lackedBehind l dC dI cI cB cZ adK adV _ a_lp a_lp_facts a_lp_turns a_lp_first a_lp_src a_s1 a_gu a_gu_rounds a_s2 lp_choices lp_guesses lp_unaries lp_ranked lp_facts lp_turns gu_left x2_2 _ h) (cwV 1 hts (gv_ m_880 m_882 m_39 m_94 m_883) rfl rfl rfl pd_Gues_lackedBehind ⟨Nat.le_of_ble_eq_true rfl, Nat.le_of_ble_eq_true rfl⟩) ⟨pc_blind, va_recv hK hP (ci := 3) (q0 := 1) rfl rfl, pc_of (hP.sub [2, 3, 0, 1] rfl) hK (hD.sub [2, 3, 0, 1] (by decide) rfl) hN hT hS hA⟩ rfl rfl hl.1 rfl (lv_room (Nat.le_of_ble_eq_true rfl)) d_Gues_lackedBehindTurns_29 ⟨Nat.zero_le _, Nat.zero_le _⟩) hP hD hS hA [2, 3, 0, 1] [] rfl rfl (by decide) (by decide) (fun r_7 u_ H locs h hP hD hS => ?_)
          have hP : va_P (dC, dI) vwCl [(a_lp, .inr (4, [.ref a_lp_facts, .ref a_lp_turns, .ref a_lp_first, .ref a_lp_src, .ref a_s1, .int lp_choices, .int lp_guesses, .int lp_unaries, .int lp_ranked])), (a_lp_facts, .inl (cI, 4096, .inl lp_facts)), (a_lp_turns, .inl (cI, 24576, .inl lp_turns)), (a_gu, .inr (3, [.ref a_lp, .ref a_gu_rounds, .ref a_s1, .ref a_s2, .int gu_left]))] H := hP
          have hD : va_D A [(a_lp, .inr (4, [.ref a_lp_facts, .ref a_lp_turns, .ref a_lp_first, .ref a_lp_src, .ref a_s1, .int lp_choices, .int lp_guesses, .int lp_unaries, .int lp_ranked])), (a_lp_facts, .inl (cI, 4096, .inl lp_facts)), (a_lp_turns, .inl (cI, 24576, .inl lp_turns)), (a_gu, .inr (3, [.ref a_lp, .ref a_gu_rounds, .ref a_s1, .ref a_s2, .int gu_left]))] := hD
          refine lv_ior hx hb d_Gues_lackedBehindTurns_32 ?_
          refine lv_topi (fun x1_8 ex1_8 => ?_)
          have h := h x1_8 ex1_8
          refine lv_istore_n (lv' := [(1, .int x1_8), (0, .ref a_gu), (2, .int x2_2)]) hx hb d_Gues_lackedBehindTurns_33 rfl hl (by decide) rfl (fun ls hl => ?_)
          refine lv_iinc (v := x2_2 + 1) (lv' := [(2, .int (x2_2 + 1)), (1, .int x1_8), (0, .ref a_gu)]) hx hb d_Gues_lackedBehindTurns_34 hl (k := 2) rfl rfl (by decide) rfl (fun ls hl => ?_)
          refine lv_goto (tgt := 4) hx hb d_Gues_lackedBehindTurns_37 (by decide) ?_
          exact il _ _ h _ _ hP hD hS _ (lv_sub hl [2, 1, 0] rfl)
  obtain ⟨n_, h⟩ := h
  refine L4_q_3 _ ?_ n_ _ _ h _ _ hP hD hS _ (lv_sub hl [2, 1, 0] rfl)
  intro x1_9 h
  intro H locs hP hD hS ls hl
  refine lv_iload_n hx hb d_Gues_lackedBehindTurns_40 rfl (lv_at hl 0 rfl) ?_
  rw [← hQ]
  have hP9 := hP
  have hD9 := hD
  exact W.iret (v := x1_9) hx hb hr (fun t ht hW => ⟨⟨x1_9, (), rfl, h, by rw [ht]; exact hP9, va_K.moved hW.alike hK, hD9⟩, hS.F ht⟩) hS.2.2 d_Gues_lackedBehindTurns_41
set_option maxHeartbeats 4000000 in
set_option maxRecDepth 100000 in
theorem c_Gues_sift (l : Launch) (dC : Nat → ClassId) (dI : Nat → Nat → Nat) (cI cB cZ : ClassId) (adK adV : Nat → Nat) (sz : Nat) (a_lp a_lp_facts a_lp_turns a_lp_first a_lp_src a_s1 a_gu a_gu_rounds a_s2 : Nat) (lp_choices : Int32) (lp_guesses : Int32) (lp_unaries : Int32) (lp_ranked : Int32) (lp_facts : Nat → Int32) (lp_turns : Nat → Int32) (gu_left : Int32) (gu_rounds : Nat → Int32) (post : Int32 → (Nat → Int32) → Prop) (h : wp_Gues_sift lp_choices lp_guesses lp_facts lp_turns gu_left gu_rounds post) : Met l y_Gues_sift w_Gues_sift ({ frames := 4, cells := 0, slots := 0, locals := 88 }) (pc_ (dC, dI) [(cI, .int), (cB, .byte), (cZ, .boolean)] [(a_lp, .inr (4, [.ref a_lp_facts, .ref a_lp_turns, .ref a_lp_first, .ref a_lp_src, .ref a_s1, .int lp_choices, .int lp_guesses, .int lp_unaries, .int lp_ranked])), (a_lp_facts, .inl (cI, 4096, .inl lp_facts)), (a_lp_turns, .inl (cI, 24576, .inl lp_turns)), (a_gu, .inr (3, [.ref a_lp, .ref a_gu_rounds, .ref a_s1, .ref a_s2, .int gu_left])), (a_gu_rounds, .inl (cI, 12, .inl gu_rounds))] sz adK adV [.ref a_gu]) (va_Qv (fun (u : Int32 × (Nat → Int32)) => post u.1 u.2) (fun (u : Int32 × (Nat → Int32)) t => bw_ (dC, dI) [(cI, .int), (cB, .byte), (cZ, .boolean)] (va_A [(a_lp, .inr (4, [.ref a_lp_facts, .ref a_lp_turns, .ref a_lp_first, .ref a_lp_src, .ref a_s1, .int lp_choices, .int lp_guesses, .int lp_unaries, .int lp_ranked])), (a_lp_facts, .inl (cI, 4096, .inl lp_facts)), (a_lp_turns, .inl (cI, 24576, .inl lp_turns)), (a_gu, .inr (3, [.ref a_lp, .ref a_gu_rounds, .ref a_s1, .ref a_s2, .int gu_left])), (a_gu_rounds, .inl (cI, 12, .inl gu_rounds))] sz) [(a_lp, .inr (4, [.ref a_lp_facts, .ref a_lp_turns, .ref a_lp_first, .ref a_lp_src, .ref a_s1, .int lp_choices, .int lp_guesses, .int lp_unaries, .int lp_ranked])), (a_lp_facts, .inl (cI, 4096, .inl lp_facts)), (a_lp_turns, .inl (cI, 24576, .inl lp_turns)), (a_gu, .inr (3, [.ref a_lp, .ref a_gu_rounds, .ref a_s1, .ref a_s2, .int u.1])), (a_gu_rounds, .inl (cI, 12, .inl u.2))] t) (va_A [(a_lp, .inr (4, [.ref a_lp_facts, .ref a_lp_turns, .ref a_lp_first, .ref a_lp_src, .ref a_s1, .int lp_choices, .int lp_guesses, .int lp_unaries, .int lp_ranked])), (a_lp_facts, .inl (cI, 4096, .inl lp_facts)), (a_lp_turns, .inl (cI, 24576, .inl lp_turns)), (a_gu, .inr (3, [.ref a_lp, .ref a_gu_rounds, .ref a_s1, .ref a_s2, .int gu_left])), (a_gu_rounds, .inl (cI, 12, .inl gu_rounds))] sz)) 0 0 (va_A [(a_lp, .inr (4, [.ref a_lp_facts, .ref a_lp_turns, .ref a_lp_first, .ref a_lp_src, .ref a_s1, .int lp_choices, .int lp_guesses, .int lp_unaries, .int lp_ranked])), (a_lp_facts, .inl (cI, 4096, .inl lp_facts)), (a_lp_turns, .inl (cI, 24576, .inl lp_turns)), (a_gu, .inr (3, [.ref a_lp, .ref a_gu_rounds, .ref a_s1, .ref a_s2, .int gu_left])), (a_gu_rounds, .inl (cI, 12, .inl gu_rounds))] sz) := by
  refine Met.ofW (cc := b_Gues_sift) (maxL := 3) (ret := none) (by decide) rfl ?_
  intro p e s m args below meth c s₁ B hml hv
  obtain ⟨rfl, hsz, hP, hK, hD0, hN, hT⟩ := hv
  have hx := B.exec
  have hb := B.bytes
  have hr := B.returns
  have hts := atoms_spec (ws := w_Gues_sift) B.pre
  have hown : s.vm.findClass "LoopInduction$Guesses" = some m.cls := findClass_of_methodNamed B.named
  have hlocks := B.notSynchronized
  subst hsz
  have hD := hD0.self (sz := s.heap.size)
  generalize hAe : va_A [(a_lp, .inr (4, [.ref a_lp_facts, .ref a_lp_turns, .ref a_lp_first, .ref a_lp_src, .ref a_s1, .int lp_choices, .int lp_guesses, .int lp_unaries, .int lp_ranked])), (a_lp_facts, .inl (cI, 4096, .inl lp_facts)), (a_lp_turns, .inl (cI, 24576, .inl lp_turns)), (a_gu, .inr (3, [.ref a_lp, .ref a_gu_rounds, .ref a_s1, .ref a_s2, .int gu_left])), (a_gu_rounds, .inl (cI, 12, .inl gu_rounds))] s.heap.size = A at hD hT ⊢
  have hA : ∀ q : Nat, s.heap.size ≤ q → A q := fun q h => by rw [← hAe]; exact Or.inr h
  have hS : va_S A s.heap s.heap [] := va_S.rf
  generalize hQ : MQ below _ _ s 0 0 _ = QQ
  have hl := lv_entry ([.ref a_gu]) (n := 3) (Nat.le_of_ble_eq_true rfl)
  rw [lg_entry_eq]
  generalize (lg_sl ([.ref a_gu]) ++ List.replicate (3 - (lg_sl ([.ref a_gu])).length) Slot.unset).toArray = ls at hl ⊢
  have hl : lv_has ls 3 [(0, .ref a_gu)] := hl
  have fl_9 := (hts _ (List.mem_cons_of_mem _ m_334))
  have fl_15 := (hts _ (List.mem_cons_of_mem _ m_337))
  have fl_19 := (hts _ (List.mem_cons_of_mem _ m_333))
  refine lv_aload_n hx hb d_Gues_sift_0 rfl (lv_at hl 0 rfl) ?_
  refine va_get (D := (dC, dI)) (ci := 3) (v := .ref a_gu_rounds) (C := "LoopInduction$Guesses") (T := F_Gues) (N := 5) hx hb hts iC_Gues hown hK hP 3 rfl rfl 1 (by decide) fl_9 (fun _ h9 => h9) rfl d_Gues_sift_1 ?_
  refine lv_bipush (v := 100) hx hb d_Gues_sift_4 (by decide) ?_
  refine jn_v (wr := [(a_lp, .inr (4, [.ref a_lp_facts, .ref a_lp_turns, .ref a_lp_first, .ref a_lp_src, .ref a_s1, .int lp_choices, .int lp_guesses, .int lp_unaries, .int lp_ranked])), (a_lp_facts, .inl (cI, 4096, .inl lp_facts)), (a_lp_turns, .inl (cI, 24576, .inl lp_turns)), (a_gu, .inr (3, [.ref a_lp, .ref a_gu_rounds, .ref a_s1, .ref a_s2, .int gu_left]))]) (va_runS (As := [.ref a_gu_rounds, .int 100]) (rest := []) ⟨hx, hb, hml, hown, hts⟩ (c_fill l dC dI cI cB cZ adK adV _ a_gu_rounds 12 gu_rounds 100 (by decide)) ⟨callB_of 2 hts (ga_ m_612) rfl rfl rfl (hts _ (List.mem_cons_of_mem _ m_103)) (hts _ (List.mem_cons_of_mem _ m_854)) pn_fill ⟨Nat.le_of_ble_eq_true rfl, Nat.le_of_ble_eq_true rfl⟩, (hts _ (List.mem_cons_of_mem _ m_611))⟩ ⟨pc_blind, pc_of (hP.sub [4] rfl) hK (hD.sub [4] (by decide) rfl) hN hT hS hA⟩ rfl rfl hl.1 rfl (lv_room (Nat.le_of_ble_eq_true rfl)) d_Gues_sift_6 ⟨Nat.zero_le _, Nat.zero_le _⟩) hP hD hS hA [4] [0, 1, 2, 3] rfl rfl (by decide) (by decide) (fun u_1 H locs eu_1 hP hD hS => ?_)
  subst eu_1
  have hP : va_P (dC, dI) vwCl [(a_lp, .inr (4, [.ref a_lp_facts, .ref a_lp_turns, .ref a_lp_first, .ref a_lp_src, .ref a_s1, .int lp_choices, .int lp_guesses, .int lp_unaries, .int lp_ranked])), (a_lp_facts, .inl (cI, 4096, .inl lp_facts)), (a_lp_turns, .inl (cI, 24576, .inl lp_turns)), (a_gu, .inr (3, [.ref a_lp, .ref a_gu_rounds, .ref a_s1, .ref a_s2, .int gu_left])), (a_gu_rounds, .inl (cI, 12, .inl (vp_fill gu_rounds 12 100)))] H := hP
  have hD : va_D A [(a_lp, .inr (4, [.ref a_lp_facts, .ref a_lp_turns, .ref a_lp_first, .ref a_lp_src, .ref a_s1, .int lp_choices, .int lp_guesses, .int lp_unaries, .int lp_ranked])), (a_lp_facts, .inl (cI, 4096, .inl lp_facts)), (a_lp_turns, .inl (cI, 24576, .inl lp_turns)), (a_gu, .inr (3, [.ref a_lp, .ref a_gu_rounds, .ref a_s1, .ref a_s2, .int gu_left])), (a_gu_rounds, .inl (cI, 12, .inl (vp_fill gu_rounds 12 100)))] := hD
  refine lv_aload_n hx hb d_Gues_sift_9 rfl (lv_at hl 0 rfl) ?_
  refine lv_iconst (v := 1) hx hb d_Gues_sift_10 (by decide) ?_
  refine lv_aload_n hx hb d_Gues_sift_11 rfl (lv_at hl 0 rfl) ?_
  refine va_get (D := (dC, dI)) (ci := 3) (v := .ref a_lp) (C := "LoopInduction$Guesses") (T := F_Gues) (N := 5) hx hb hts iC_Gues hown hK hP 3 rfl rfl 0 (by decide) fl_19 (fun _ h9 => h9) rfl d_Gues_sift_12 ?_
  refine jn_i (wr := [(a_lp_facts, .inl (cI, 4096, .inl lp_facts)), (a_lp_turns, .inl (cI, 24576, .inl lp_turns)), (a_gu, .inr (3, [.ref a_lp, .ref a_gu_rounds, .ref a_s1, .ref a_s2, .int gu_left])), (a_gu_rounds, .inl (cI, 12, .inl (vp_fill gu_rounds 12 100)))]) (va_runV (As := []) (rest := [.int 1, .ref a_gu]) ⟨hx, hb, hml, hown, hts⟩ (c_Loop_guesses l dC dI cI cB cZ adK adV _ a_lp a_lp_facts a_lp_turns a_lp_first a_lp_src a_s1 lp_choices lp_guesses lp_unaries lp_ranked _ h) (cwV 0 hts (gv_ m_855 m_856 m_857 m_92 m_858) rfl rfl rfl pd_Loop_guesses ⟨Nat.le_of_ble_eq_true rfl, Nat.le_of_ble_eq_true rfl⟩) ⟨pc_blind, va_recv hK hP (ci := 4) (q0 := 0) rfl rfl, pc_of (hP.sub [0] rfl) hK (hD.sub [0] (by decide) rfl) hN hT hS hA⟩ rfl rfl hl.1 rfl (lv_room (Nat.le_of_ble_eq_true rfl)) d_Gues_sift_15 ⟨Nat.zero_le _, Nat.zero_le _⟩) hP hD hS hA [0] [1, 2, 3, 4] rfl rfl (by decide) (by decide) (fun r_2 u_ H locs h hP hD hS => ?_)
  have hP : va_P (dC, dI) vwCl [(a_lp_facts, .inl (cI, 4096, .inl lp_facts)), (a_lp_turns, .inl (cI, 24576, .inl lp_turns)), (a_gu, .inr (3, [.ref a_lp, .ref a_gu_rounds, .ref a_s1, .ref a_s2, .int gu_left])), (a_gu_rounds, .inl (cI, 12, .inl (vp_fill gu_rounds 12 100))), (a_lp, .inr (4, [.ref a_lp_facts, .ref a_lp_turns, .ref a_lp_first, .ref a_lp_src, .ref a_s1, .int lp_choices, .int lp_guesses, .int lp_unaries, .int lp_ranked]))] H := hP
  have hD : va_D A [(a_lp_facts, .inl (cI, 4096, .inl lp_facts)), (a_lp_turns, .inl (cI, 24576, .inl lp_turns)), (a_gu, .inr (3, [.ref a_lp, .ref a_gu_rounds, .ref a_s1, .ref a_s2, .int gu_left])), (a_gu_rounds, .inl (cI, 12, .inl (vp_fill gu_rounds 12 100))), (a_lp, .inr (4, [.ref a_lp_facts, .ref a_lp_turns, .ref a_lp_first, .ref a_lp_src, .ref a_s1, .int lp_choices, .int lp_guesses, .int lp_unaries, .int lp_ranked]))] := hD
  refine lv_ishl hx hb d_Gues_sift_18 ?_
  refine lv_iconst (v := 1) hx hb d_Gues_sift_19 (by decide) ?_
  refine lv_isub hx hb d_Gues_sift_20 ?_
  refine va_put (D := (dC, dI)) (ci := 3) (v := .int ((1 <<< (r_2 &&& 31)) - 1)) (ty := .int) (C := "LoopInduction$Guesses") (T := F_Gues) (N := 5) hx hb hts iC_Gues t_Gues t_Gues_ok n_Gues hown hK hP hD hS 2 rfl rfl 4 (by decide) fl_15 (fun _ h9 => h9) rfl (by decide +kernel) rfl rfl (Nat.le_of_ble_eq_true rfl) d_Gues_sift_21 (fun H locs hP hD hS => ?_)
  have hP : va_P (dC, dI) vwCl [(a_lp_facts, .inl (cI, 4096, .inl lp_facts)), (a_lp_turns, .inl (cI, 24576, .inl lp_turns)), (a_gu, .inr (3, [.ref a_lp, .ref a_gu_rounds, .ref a_s1, .ref a_s2, .int ((1 <<< (r_2 &&& 31)) - 1)])), (a_gu_rounds, .inl (cI, 12, .inl (vp_fill gu_rounds 12 100))), (a_lp, .inr (4, [.ref a_lp_facts, .ref a_lp_turns, .ref a_lp_first, .ref a_lp_src, .ref a_s1, .int lp_choices, .int lp_guesses, .int lp_unaries, .int lp_ranked]))] H := hP
  have hD : va_D A [(a_lp_facts, .inl (cI, 4096, .inl lp_facts)), (a_lp_turns, .inl (cI, 24576, .inl lp_turns)), (a_gu, .inr (3, [.ref a_lp, .ref a_gu_rounds, .ref a_s1, .ref a_s2, .int ((1 <<< (r_2 &&& 31)) - 1)])), (a_gu_rounds, .inl (cI, 12, .inl (vp_fill gu_rounds 12 100))), (a_lp, .inr (4, [.ref a_lp_facts, .ref a_lp_turns, .ref a_lp_first, .ref a_lp_src, .ref a_s1, .int lp_choices, .int lp_guesses, .int lp_unaries, .int lp_ranked]))] := hD
  refine lv_aload_n hx hb d_Gues_sift_24 rfl (lv_at hl 0 rfl) ?_
  refine lv_aload_n hx hb d_Gues_sift_25 rfl (lv_at hl 0 rfl) ?_
  refine jn_i (wr := [(a_lp_turns, .inl (cI, 24576, .inl lp_turns)), (a_gu_rounds, .inl (cI, 12, .inl (vp_fill gu_rounds 12 100)))]) (va_runV (As := []) (rest := [.ref a_gu]) ⟨hx, hb, hml, hown, hts⟩ (c_Gues_lackedAtBegin l dC dI cI cB cZ adK adV _ a_lp a_lp_facts a_lp_turns a_lp_first a_lp_src a_s1 a_gu a_gu_rounds a_s2 lp_choices lp_guesses lp_unaries lp_ranked lp_facts ((1 <<< (r_2 &&& 31)) - 1) _ h) (cwV 0 hts (gv_ m_859 m_861 m_36 m_94 m_862) rfl rfl rfl pd_Gues_lackedAtBegin ⟨Nat.le_of_ble_eq_true rfl, Nat.le_of_ble_eq_true rfl⟩) ⟨pc_blind, va_recv hK hP (ci := 3) (q0 := 2) rfl rfl, pc_of (hP.sub [4, 0, 2] rfl) hK (hD.sub [4, 0, 2] (by decide) rfl) hN hT hS hA⟩ rfl rfl hl.1 rfl (lv_room (Nat.le_of_ble_eq_true rfl)) d_Gues_sift_26 ⟨Nat.zero_le _, Nat.zero_le _⟩) hP hD hS hA [4, 0, 2] [1, 3] rfl rfl (by decide) (by decide) (fun r_3 u_ H locs h hP hD hS => ?_)
  have hP : va_P (dC, dI) vwCl [(a_lp_turns, .inl (cI, 24576, .inl lp_turns)), (a_gu_rounds, .inl (cI, 12, .inl (vp_fill gu_rounds 12 100))), (a_lp, .inr (4, [.ref a_lp_facts, .ref a_lp_turns, .ref a_lp_first, .ref a_lp_src, .ref a_s1, .int lp_choices, .int lp_guesses, .int lp_unaries, .int lp_ranked])), (a_lp_facts, .inl (cI, 4096, .inl lp_facts)), (a_gu, .inr (3, [.ref a_lp, .ref a_gu_rounds, .ref a_s1, .ref a_s2, .int ((1 <<< (r_2 &&& 31)) - 1)]))] H := hP
  have hD : va_D A [(a_lp_turns, .inl (cI, 24576, .inl lp_turns)), (a_gu_rounds, .inl (cI, 12, .inl (vp_fill gu_rounds 12 100))), (a_lp, .inr (4, [.ref a_lp_facts, .ref a_lp_turns, .ref a_lp_first, .ref a_lp_src, .ref a_s1, .int lp_choices, .int lp_guesses, .int lp_unaries, .int lp_ranked])), (a_lp_facts, .inl (cI, 4096, .inl lp_facts)), (a_gu, .inr (3, [.ref a_lp, .ref a_gu_rounds, .ref a_s1, .ref a_s2, .int ((1 <<< (r_2 &&& 31)) - 1)]))] := hD
  refine lv_iconst (v := 0) hx hb d_Gues_sift_29 (by decide) ?_
  refine jn_v (wr := [(a_lp_turns, .inl (cI, 24576, .inl lp_turns)), (a_lp, .inr (4, [.ref a_lp_facts, .ref a_lp_turns, .ref a_lp_first, .ref a_lp_src, .ref a_s1, .int lp_choices, .int lp_guesses, .int lp_unaries, .int lp_ranked])), (a_lp_facts, .inl (cI, 4096, .inl lp_facts))]) (va_runV (As := [.int r_3, .int 0]) (rest := []) ⟨hx, hb, hml, hown, hts⟩ (c_Gues_dismiss l dC dI cI cB cZ adK adV _ a_gu a_lp a_gu_rounds a_s1 a_s2 ((1 <<< (r_2 &&& 31)) - 1) (vp_fill gu_rounds 12 100) r_3 0 _ h) (cwV 2 hts (gv_ m_868 m_870 m_37 m_94 m_871) rfl rfl rfl pd_Gues_dismiss ⟨Nat.le_of_ble_eq_true rfl, Nat.le_of_ble_eq_true rfl⟩) ⟨pc_blind, va_recv hK hP (ci := 3) (q0 := 4) rfl rfl, pc_of (hP.sub [4, 1] rfl) hK (hD.sub [4, 1] (by decide) rfl) hN hT hS hA⟩ rfl rfl hl.1 rfl (lv_room (Nat.le_of_ble_eq_true rfl)) d_Gues_sift_30 ⟨Nat.zero_le _, Nat.zero_le _⟩) hP hD hS hA [4, 1] [0, 2, 3] rfl rfl (by decide) (by decide) (fun u_ H locs h hP hD hS => ?_)
  obtain ⟨gu_left_4, gu_rounds_5⟩ := u_
  have hP : va_P (dC, dI) vwCl [(a_lp_turns, .inl (cI, 24576, .inl lp_turns)), (a_lp, .inr (4, [.ref a_lp_facts, .ref a_lp_turns, .ref a_lp_first, .ref a_lp_src, .ref a_s1, .int lp_choices, .int lp_guesses, .int lp_unaries, .int lp_ranked])), (a_lp_facts, .inl (cI, 4096, .inl lp_facts)), (a_gu, .inr (3, [.ref a_lp, .ref a_gu_rounds, .ref a_s1, .ref a_s2, .int gu_left_4])), (a_gu_rounds, .inl (cI, 12, .inl gu_rounds_5))] H := hP
  have hD : va_D A [(a_lp_turns, .inl (cI, 24576, .inl lp_turns)), (a_lp, .inr (4, [.ref a_lp_facts, .ref a_lp_turns, .ref a_lp_first, .ref a_lp_src, .ref a_s1, .int lp_choices, .int lp_guesses, .int lp_unaries, .int lp_ranked])), (a_lp_facts, .inl (cI, 4096, .inl lp_facts)), (a_gu, .inr (3, [.ref a_lp, .ref a_gu_rounds, .ref a_s1, .ref a_s2, .int gu_left_4])), (a_gu_rounds, .inl (cI, 12, .inl gu_rounds_5))] := hD
  refine lv_aload_n hx hb d_Gues_sift_33 rfl (lv_at hl 0 rfl) ?_
  refine jn_i (wr := [(a_gu_rounds, .inl (cI, 12, .inl gu_rounds_5))]) (va_runV (As := []) (rest := []) ⟨hx, hb, hml, hown, hts⟩ (c_Gues_lackedBehindTurns l dC dI cI cB cZ adK adV _ a_lp a_lp_facts a_lp_turns a_lp_first a_lp_src a_s1 a_gu a_gu_rounds a_s2 lp_choices lp_guesses lp_unaries lp_ranked lp_facts lp_turns gu_left_4 _ h) (cwV 0 hts (gv_ m_872 m_874 m_38 m_94 m_875) rfl rfl rfl pd_Gues_lackedBehindTurns ⟨Nat.le_of_ble_eq_true rfl, Nat.le_of_ble_eq_true rfl⟩) ⟨pc_blind, va_recv hK hP (ci := 3) (q0 := 3) rfl rfl, pc_of (hP.sub [1, 2, 0, 3] rfl) hK (hD.sub [1, 2, 0, 3] (by decide) rfl) hN hT hS hA⟩ rfl rfl hl.1 rfl (lv_room (Nat.le_of_ble_eq_true rfl)) d_Gues_sift_34 ⟨Nat.zero_le _, Nat.zero_le _⟩) hP hD hS hA [1, 2, 0, 3] [4] rfl rfl (by decide) (by decide) (fun r_6 u_ H locs h hP hD hS => ?_)
  have hP : va_P (dC, dI) vwCl [(a_gu_rounds, .inl (cI, 12, .inl gu_rounds_5)), (a_lp, .inr (4, [.ref a_lp_facts, .ref a_lp_turns, .ref a_lp_first, .ref a_lp_src, .ref a_s1, .int lp_choices, .int lp_guesses, .int lp_unaries, .int lp_ranked])), (a_lp_facts, .inl (cI, 4096, .inl lp_facts)), (a_lp_turns, .inl (cI, 24576, .inl lp_turns)), (a_gu, .inr (3, [.ref a_lp, .ref a_gu_rounds, .ref a_s1, .ref a_s2, .int gu_left_4]))] H := hP
  have hD : va_D A [(a_gu_rounds, .inl (cI, 12, .inl gu_rounds_5)), (a_lp, .inr (4, [.ref a_lp_facts, .ref a_lp_turns, .ref a_lp_first, .ref a_lp_src, .ref a_s1, .int lp_choices, .int lp_guesses, .int lp_unaries, .int lp_ranked])), (a_lp_facts, .inl (cI, 4096, .inl lp_facts)), (a_lp_turns, .inl (cI, 24576, .inl lp_turns)), (a_gu, .inr (3, [.ref a_lp, .ref a_gu_rounds, .ref a_s1, .ref a_s2, .int gu_left_4]))] := hD
  refine lv_istore_n (lv' := [(1, .int r_6), (0, .ref a_gu)]) hx hb d_Gues_sift_37 rfl hl (by decide) rfl (fun ls hl => ?_)
  refine lv_iconst (v := 1) hx hb d_Gues_sift_38 (by decide) ?_
  refine lv_istore_n (lv' := [(2, .int 1), (1, .int r_6), (0, .ref a_gu)]) hx hb d_Gues_sift_39 rfl hl (by decide) rfl (fun ls hl => ?_)
  have L40_q_11 : ∀ (k67 : (Int32) → (Nat → Int32) → Prop) (hk67 : ∀ (gu_left_12 : Int32) (gu_rounds_13 : Nat → Int32), k67 gu_left_12 gu_rounds_13 → ∀ (H : Heap) (locs : List Loc), va_P (dC, dI) vwCl [(a_gu_rounds, .inl (cI, 12, .inl gu_rounds_13)), (a_lp, .inr (4, [.ref a_lp_facts, .ref a_lp_turns, .ref a_lp_first, .ref a_lp_src, .ref a_s1, .int lp_choices, .int lp_guesses, .int lp_unaries, .int lp_ranked])), (a_lp_facts, .inl (cI, 4096, .inl lp_facts)), (a_lp_turns, .inl (cI, 24576, .inl lp_turns)), (a_gu, .inr (3, [.ref a_lp, .ref a_gu_rounds, .ref a_s1, .ref a_s2, .int gu_left_12]))] H → va_D A [(a_gu_rounds, .inl (cI, 12, .inl gu_rounds_13)), (a_lp, .inr (4, [.ref a_lp_facts, .ref a_lp_turns, .ref a_lp_first, .ref a_lp_src, .ref a_s1, .int lp_choices, .int lp_guesses, .int lp_unaries, .int lp_ranked])), (a_lp_facts, .inl (cI, 4096, .inl lp_facts)), (a_lp_turns, .inl (cI, 24576, .inl lp_turns)), (a_gu, .inr (3, [.ref a_lp, .ref a_gu_rounds, .ref a_s1, .ref a_s2, .int gu_left_12]))] → va_S A s.heap H locs → ∀ ls : Array Slot, lv_has ls 3 [] → W p l e (headSpec w_Gues_sift ({ frames := 4, cells := 0, slots := 0, locals := 88 })).room s m (([.ref a_gu] : List Value).toArray) below meth c H locs 0 0 QQ (F0 m 67 ls [])) (n : Nat) (x1_7 : Int32) (x2_8 : Int32) (gu_left_9 : Int32) (gu_rounds_10 : Nat → Int32), wp_Gues_sift_L40 lp_choices lp_facts lp_turns k67 n x1_7 x2_8 gu_left_9 gu_rounds_10 → ∀ (H : Heap) (locs : List Loc), va_P (dC, dI) vwCl [(a_gu_rounds, .inl (cI, 12, .inl gu_rounds_10)), (a_lp, .inr (4, [.ref a_lp_facts, .ref a_lp_turns, .ref a_lp_first, .ref a_lp_src, .ref a_s1, .int lp_choices, .int lp_guesses, .int lp_unaries, .int lp_ranked])), (a_lp_facts, .inl (cI, 4096, .inl lp_facts)), (a_lp_turns, .inl (cI, 24576, .inl lp_turns)), (a_gu, .inr (3, [.ref a_lp, .ref a_gu_rounds, .ref a_s1, .ref a_s2, .int gu_left_9]))] H → va_D A [(a_gu_rounds, .inl (cI, 12, .inl gu_rounds_10)), (a_lp, .inr (4, [.ref a_lp_facts, .ref a_lp_turns, .ref a_lp_first, .ref a_lp_src, .ref a_s1, .int lp_choices, .int lp_guesses, .int lp_unaries, .int lp_ranked])), (a_lp_facts, .inl (cI, 4096, .inl lp_facts)), (a_lp_turns, .inl (cI, 24576, .inl lp_turns)), (a_gu, .inr (3, [.ref a_lp, .ref a_gu_rounds, .ref a_s1, .ref a_s2, .int gu_left_9]))] → va_S A s.heap H locs → ∀ ls : Array Slot, lv_has ls 3 [(0, .ref a_gu), (1, .int x1_7), (2, .int x2_8)] → W p l e (headSpec w_Gues_sift ({ frames := 4, cells := 0, slots := 0, locals := 88 })).room s m (([.ref a_gu] : List Value).toArray) below meth c H locs 0 0 QQ (F0 m 40 ls []) := by
    intro k67 hk67 n
    induction n with
    | zero => intro x1_7 x2_8 gu_left_9 gu_rounds_10 h; exact (show False from h).elim
    | succ n il =>
      intro x1_7 x2_8 gu_left_9 gu_rounds_10 h
      intro H locs hP hD hS ls hl
      refine lv_iload_n hx hb d_Gues_sift_40 rfl (lv_at hl 2 rfl) ?_
      refine lv_bipush (v := 12) hx hb d_Gues_sift_41 (by decide) ?_
      refine lv_icmp_gt (tgt := 67) hx hb d_Gues_sift_43 (by decide) (fun c_43 => ?_) (fun c_43 => ?_)
      · have h := And.left h c_43
        exact hk67 _ _ h _ _ hP hD hS _ (lv_sub hl [] rfl)
      · have h := And.right h c_43
        refine lv_iload_n hx hb d_Gues_sift_46 rfl (lv_at hl 1 rfl) ?_
        refine lv_if_eq (tgt := 67) hx hb d_Gues_sift_47 (by decide) (fun c_47 => ?_) (fun c_47 => ?_)
        · have h := And.left h c_47
          exact hk67 _ _ h _ _ hP hD hS _ (lv_sub hl [] rfl)
        · have h := And.right h c_47
          refine lv_aload_n hx hb d_Gues_sift_50 rfl (lv_at hl 0 rfl) ?_
          refine lv_iload_n hx hb d_Gues_sift_51 rfl (lv_at hl 1 rfl) ?_
          refine lv_iload_n hx hb d_Gues_sift_52 rfl (lv_at hl 2 rfl) ?_
          refine jn_v (wr := [(a_lp, .inr (4, [.ref a_lp_facts, .ref a_lp_turns, .ref a_lp_first, .ref a_lp_src, .ref a_s1, .int lp_choices, .int lp_guesses, .int lp_unaries, .int lp_ranked])), (a_lp_facts, .inl (cI, 4096, .inl lp_facts)), (a_lp_turns, .inl (cI, 24576, .inl lp_turns))]) (va_runV (As := [.int x1_7, .int x2_8]) (rest := []) ⟨hx, hb, hml, hown, hts⟩ (c_Gues_dismiss l dC dI cI cB cZ adK adV _ a_gu a_lp a_gu_rounds a_s1 a_s2 gu_left_9 gu_rounds_10 x1_7 x2_8 _ h) (cwV 2 hts (gv_ m_868 m_870 m_37 m_94 m_871) rfl rfl rfl pd_Gues_dismiss ⟨Nat.le_of_ble_eq_true rfl, Nat.le_of_ble_eq_true rfl⟩) ⟨pc_blind, va_recv hK hP (ci := 3) (q0 := 4) rfl rfl, pc_of (hP.sub [4, 0] rfl) hK (hD.sub [4, 0] (by decide) rfl) hN hT hS hA⟩ rfl rfl hl.1 rfl (lv_room (Nat.le_of_ble_eq_true rfl)) d_Gues_sift_53 ⟨Nat.zero_le _, Nat.zero_le _⟩) hP hD hS hA [4, 0] [1, 2, 3] rfl rfl (by decide) (by decide) (fun u_ H locs h hP hD hS => ?_)
          obtain ⟨gu_left_14, gu_rounds_15⟩ := u_
          have hP : va_P (dC, dI) vwCl [(a_lp, .inr (4, [.ref a_lp_facts, .ref a_lp_turns, .ref a_lp_first, .ref a_lp_src, .ref a_s1, .int lp_choices, .int lp_guesses, .int lp_unaries, .int lp_ranked])), (a_lp_facts, .inl (cI, 4096, .inl lp_facts)), (a_lp_turns, .inl (cI, 24576, .inl lp_turns)), (a_gu, .inr (3, [.ref a_lp, .ref a_gu_rounds, .ref a_s1, .ref a_s2, .int gu_left_14])), (a_gu_rounds, .inl (cI, 12, .inl gu_rounds_15))] H := hP
          have hD : va_D A [(a_lp, .inr (4, [.ref a_lp_facts, .ref a_lp_turns, .ref a_lp_first, .ref a_lp_src, .ref a_s1, .int lp_choices, .int lp_guesses, .int lp_unaries, .int lp_ranked])), (a_lp_facts, .inl (cI, 4096, .inl lp_facts)), (a_lp_turns, .inl (cI, 24576, .inl lp_turns)), (a_gu, .inr (3, [.ref a_lp, .ref a_gu_rounds, .ref a_s1, .ref a_s2, .int gu_left_14])), (a_gu_rounds, .inl (cI, 12, .inl gu_rounds_15))] := hD
          refine lv_aload_n hx hb d_Gues_sift_56 rfl (lv_at hl 0 rfl) ?_
          refine jn_i (wr := [(a_gu_rounds, .inl (cI, 12, .inl gu_rounds_15))]) (va_runV (As := []) (rest := []) ⟨hx, hb, hml, hown, hts⟩ (c_Gues_lackedBehindTurns l dC dI cI cB cZ adK adV _ a_lp a_lp_facts a_lp_turns a_lp_first a_lp_src a_s1 a_gu a_gu_rounds a_s2 lp_choices lp_guesses lp_unaries lp_ranked lp_facts lp_turns gu_left_14 _ h) (cwV 0 hts (gv_ m_872 m_874 m_38 m_94 m_875) rfl rfl rfl pd_Gues_lackedBehindTurns ⟨Nat.le_of_ble_eq_true rfl, Nat.le_of_ble_eq_true rfl⟩) ⟨pc_blind, va_recv hK hP (ci := 3) (q0 := 3) rfl rfl, pc_of (hP.sub [0, 1, 2, 3] rfl) hK (hD.sub [0, 1, 2, 3] (by decide) rfl) hN hT hS hA⟩ rfl rfl hl.1 rfl (lv_room (Nat.le_of_ble_eq_true rfl)) d_Gues_sift_57 ⟨Nat.zero_le _, Nat.zero_le _⟩) hP hD hS hA [0, 1, 2, 3] [4] rfl rfl (by decide) (by decide) (fun r_16 u_ H locs h hP hD hS => ?_)
          have hP : va_P (dC, dI) vwCl [(a_gu_rounds, .inl (cI, 12, .inl gu_rounds_15)), (a_lp, .inr (4, [.ref a_lp_facts, .ref a_lp_turns, .ref a_lp_first, .ref a_lp_src, .ref a_s1, .int lp_choices, .int lp_guesses, .int lp_unaries, .int lp_ranked])), (a_lp_facts, .inl (cI, 4096, .inl lp_facts)), (a_lp_turns, .inl (cI, 24576, .inl lp_turns)), (a_gu, .inr (3, [.ref a_lp, .ref a_gu_rounds, .ref a_s1, .ref a_s2, .int gu_left_14]))] H := hP
          have hD : va_D A [(a_gu_rounds, .inl (cI, 12, .inl gu_rounds_15)), (a_lp, .inr (4, [.ref a_lp_facts, .ref a_lp_turns, .ref a_lp_first, .ref a_lp_src, .ref a_s1, .int lp_choices, .int lp_guesses, .int lp_unaries, .int lp_ranked])), (a_lp_facts, .inl (cI, 4096, .inl lp_facts)), (a_lp_turns, .inl (cI, 24576, .inl lp_turns)), (a_gu, .inr (3, [.ref a_lp, .ref a_gu_rounds, .ref a_s1, .ref a_s2, .int gu_left_14]))] := hD
          refine lv_istore_n (lv' := [(1, .int r_16), (0, .ref a_gu), (2, .int x2_8)]) hx hb d_Gues_sift_60 rfl hl (by decide) rfl (fun ls hl => ?_)
          refine lv_iinc (v := x2_8 + 1) (lv' := [(2, .int (x2_8 + 1)), (1, .int r_16), (0, .ref a_gu)]) hx hb d_Gues_sift_61 hl (k := 2) rfl rfl (by decide) rfl (fun ls hl => ?_)
          refine lv_goto (tgt := 40) hx hb d_Gues_sift_64 (by decide) ?_
          exact il _ _ _ _ h _ _ hP hD hS _ (lv_sub hl [2, 1, 0] rfl)
  obtain ⟨n_, h⟩ := h
  refine L40_q_11 _ ?_ n_ _ _ _ _ h _ _ hP hD hS _ (lv_sub hl [2, 1, 0] rfl)
  intro gu_left_17 gu_rounds_18 h
  intro H locs hP hD hS ls hl
  rw [← hQ]
  have hP9 := hP.sub (ws' := [(a_lp, .inr (4, [.ref a_lp_facts, .ref a_lp_turns, .ref a_lp_first, .ref a_lp_src, .ref a_s1, .int lp_choices, .int lp_guesses, .int lp_unaries, .int lp_ranked])), (a_lp_facts, .inl (cI, 4096, .inl lp_facts)), (a_lp_turns, .inl (cI, 24576, .inl lp_turns)), (a_gu, .inr (3, [.ref a_lp, .ref a_gu_rounds, .ref a_s1, .ref a_s2, .int gu_left_17])), (a_gu_rounds, .inl (cI, 12, .inl gu_rounds_18))]) [1, 2, 3, 4, 0] rfl
  have hD9 := hD.sub (ws' := [(a_lp, .inr (4, [.ref a_lp_facts, .ref a_lp_turns, .ref a_lp_first, .ref a_lp_src, .ref a_s1, .int lp_choices, .int lp_guesses, .int lp_unaries, .int lp_ranked])), (a_lp_facts, .inl (cI, 4096, .inl lp_facts)), (a_lp_turns, .inl (cI, 24576, .inl lp_turns)), (a_gu, .inr (3, [.ref a_lp, .ref a_gu_rounds, .ref a_s1, .ref a_s2, .int gu_left_17])), (a_gu_rounds, .inl (cI, 12, .inl gu_rounds_18))]) [1, 2, 3, 4, 0] (by decide) rfl
  exact W.vret hx hb hr (fun t ht hW => ⟨⟨(gu_left_17, gu_rounds_18), rfl, h, by rw [ht]; exact hP9, va_K.moved hW.alike hK, hD9⟩, hS.F ht⟩) hS.2.2 d_Gues_sift_67
set_option maxHeartbeats 4000000 in
set_option maxRecDepth 100000 in
theorem c_Gues_implyGoal (l : Launch) (dC : Nat → ClassId) (dI : Nat → Nat → Nat) (cI cB cZ : ClassId) (adK adV : Nat → Nat) (sz : Nat) (a_lp a_lp_facts a_lp_turns a_lp_first a_lp_src a_s1 a_gu a_gu_rounds a_s2 : Nat) (lp_choices : Int32) (lp_guesses : Int32) (lp_unaries : Int32) (lp_ranked : Int32) (lp_facts : Nat → Int32) (gu_left : Int32) (post : Int32 → Prop) (h : wp_Gues_implyGoal lp_facts gu_left post) : Met l y_Gues_implyGoal w_Gues_implyGoal ({ frames := 3, cells := 0, slots := 0, locals := 65 }) (pc_ (dC, dI) [(cI, .int), (cB, .byte), (cZ, .boolean)] [(a_lp, .inr (4, [.ref a_lp_facts, .ref a_lp_turns, .ref a_lp_first, .ref a_lp_src, .ref a_s1, .int lp_choices, .int lp_guesses, .int lp_unaries, .int lp_ranked])), (a_lp_facts, .inl (cI, 4096, .inl lp_facts)), (a_gu, .inr (3, [.ref a_lp, .ref a_gu_rounds, .ref a_s1, .ref a_s2, .int gu_left]))] sz adK adV [.ref a_gu]) (va_Qi (fun (r : Int32) (u : Unit) => post r ) (fun (u : Unit) t => bw_ (dC, dI) [(cI, .int), (cB, .byte), (cZ, .boolean)] (va_A [(a_lp, .inr (4, [.ref a_lp_facts, .ref a_lp_turns, .ref a_lp_first, .ref a_lp_src, .ref a_s1, .int lp_choices, .int lp_guesses, .int lp_unaries, .int lp_ranked])), (a_lp_facts, .inl (cI, 4096, .inl lp_facts)), (a_gu, .inr (3, [.ref a_lp, .ref a_gu_rounds, .ref a_s1, .ref a_s2, .int gu_left]))] sz) [(a_lp, .inr (4, [.ref a_lp_facts, .ref a_lp_turns, .ref a_lp_first, .ref a_lp_src, .ref a_s1, .int lp_choices, .int lp_guesses, .int lp_unaries, .int lp_ranked])), (a_lp_facts, .inl (cI, 4096, .inl lp_facts)), (a_gu, .inr (3, [.ref a_lp, .ref a_gu_rounds, .ref a_s1, .ref a_s2, .int gu_left]))] t) (va_A [(a_lp, .inr (4, [.ref a_lp_facts, .ref a_lp_turns, .ref a_lp_first, .ref a_lp_src, .ref a_s1, .int lp_choices, .int lp_guesses, .int lp_unaries, .int lp_ranked])), (a_lp_facts, .inl (cI, 4096, .inl lp_facts)), (a_gu, .inr (3, [.ref a_lp, .ref a_gu_rounds, .ref a_s1, .ref a_s2, .int gu_left]))] sz)) 0 0 (va_A [(a_lp, .inr (4, [.ref a_lp_facts, .ref a_lp_turns, .ref a_lp_first, .ref a_lp_src, .ref a_s1, .int lp_choices, .int lp_guesses, .int lp_unaries, .int lp_ranked])), (a_lp_facts, .inl (cI, 4096, .inl lp_facts)), (a_gu, .inr (3, [.ref a_lp, .ref a_gu_rounds, .ref a_s1, .ref a_s2, .int gu_left]))] sz) := by
  refine Met.ofW (cc := b_Gues_implyGoal) (maxL := 1) (ret := (some .boolean)) (by decide) rfl ?_
  intro p e s m args below meth c s₁ B hml hv
  obtain ⟨rfl, hsz, hP, hK, hD0, hN, hT⟩ := hv
  have hx := B.exec
  have hb := B.bytes
  have hr := B.returns
  have hts := atoms_spec (ws := w_Gues_implyGoal) B.pre
  have hown : s.vm.findClass "LoopInduction$Guesses" = some m.cls := findClass_of_methodNamed B.named
  have hlocks := B.notSynchronized
  subst hsz
  have hD := hD0.self (sz := s.heap.size)
  generalize hAe : va_A [(a_lp, .inr (4, [.ref a_lp_facts, .ref a_lp_turns, .ref a_lp_first, .ref a_lp_src, .ref a_s1, .int lp_choices, .int lp_guesses, .int lp_unaries, .int lp_ranked])), (a_lp_facts, .inl (cI, 4096, .inl lp_facts)), (a_gu, .inr (3, [.ref a_lp, .ref a_gu_rounds, .ref a_s1, .ref a_s2, .int gu_left]))] s.heap.size = A at hD hT ⊢
  have hA : ∀ q : Nat, s.heap.size ≤ q → A q := fun q h => by rw [← hAe]; exact Or.inr h
  have hS : va_S A s.heap s.heap [] := va_S.rf
  generalize hQ : MQ below _ _ s 0 0 _ = QQ
  have hl := lv_entry ([.ref a_gu]) (n := 1) (Nat.le_of_ble_eq_true rfl)
  rw [lg_entry_eq]
  generalize (lg_sl ([.ref a_gu]) ++ List.replicate (1 - (lg_sl ([.ref a_gu])).length) Slot.unset).toArray = ls at hl ⊢
  have hl : lv_has ls 1 [(0, .ref a_gu)] := hl
  have fl_19 := (hts _ (List.mem_cons_of_mem _ m_333))
  refine lv_aload_n hx hb d_Gues_implyGoal_0 rfl (lv_at hl 0 rfl) ?_
  refine va_get (D := (dC, dI)) (ci := 3) (v := .ref a_lp) (C := "LoopInduction$Guesses") (T := F_Gues) (N := 5) hx hb hts iC_Gues hown hK hP 2 rfl rfl 0 (by decide) fl_19 (fun _ h9 => h9) rfl d_Gues_implyGoal_1 ?_
  refine lv_aload_n hx hb d_Gues_implyGoal_4 rfl (lv_at hl 0 rfl) ?_
  refine jn_i (wr := [(a_lp, .inr (4, [.ref a_lp_facts, .ref a_lp_turns, .ref a_lp_first, .ref a_lp_src, .ref a_s1, .int lp_choices, .int lp_guesses, .int lp_unaries, .int lp_ranked])), (a_lp_facts, .inl (cI, 4096, .inl lp_facts))]) (va_runV (As := []) (rest := [.ref a_lp]) ⟨hx, hb, hml, hown, hts⟩ (c_Gues_keptFacts l dC dI cI cB cZ adK adV _ a_gu a_lp a_gu_rounds a_s1 a_s2 gu_left _ h) (cwV 0 hts (gv_ m_876 m_877 m_878 m_94 m_879) rfl rfl rfl pd_Gues_keptFacts ⟨Nat.le_of_ble_eq_true rfl, Nat.le_of_ble_eq_true rfl⟩) ⟨pc_blind, va_recv hK hP (ci := 3) (q0 := 2) rfl rfl, pc_of (hP.sub [2] rfl) hK (hD.sub [2] (by decide) rfl) hN hT hS hA⟩ rfl rfl hl.1 rfl (lv_room (Nat.le_of_ble_eq_true rfl)) d_Gues_implyGoal_5 ⟨Nat.zero_le _, Nat.zero_le _⟩) hP hD hS hA [2] [0, 1] rfl rfl (by decide) (by decide) (fun r_1 u_ H locs h hP hD hS => ?_)
  have hP : va_P (dC, dI) vwCl [(a_lp, .inr (4, [.ref a_lp_facts, .ref a_lp_turns, .ref a_lp_first, .ref a_lp_src, .ref a_s1, .int lp_choices, .int lp_guesses, .int lp_unaries, .int lp_ranked])), (a_lp_facts, .inl (cI, 4096, .inl lp_facts)), (a_gu, .inr (3, [.ref a_lp, .ref a_gu_rounds, .ref a_s1, .ref a_s2, .int gu_left]))] H := hP
  have hD : va_D A [(a_lp, .inr (4, [.ref a_lp_facts, .ref a_lp_turns, .ref a_lp_first, .ref a_lp_src, .ref a_s1, .int lp_choices, .int lp_guesses, .int lp_unaries, .int lp_ranked])), (a_lp_facts, .inl (cI, 4096, .inl lp_facts)), (a_gu, .inr (3, [.ref a_lp, .ref a_gu_rounds, .ref a_s1, .ref a_s2, .int gu_left]))] := hD
  refine jn_i (wr := [(a_gu, .inr (3, [.ref a_lp, .ref a_gu_rounds, .ref a_s1, .ref a_s2, .int gu_left]))]) (va_runV (As := [.int r_1]) (rest := []) ⟨hx, hb, hml, hown, hts⟩ (c_Loop_countWith l dC dI cI cB cZ adK adV _ a_lp a_lp_facts a_lp_turns a_lp_first a_lp_src a_s1 lp_choices lp_guesses lp_unaries lp_ranked lp_facts r_1 _ h) (cwV 1 hts (gv_ m_1010 m_928 m_929 m_92 m_930) rfl rfl rfl pd_Loop_countWith ⟨Nat.le_of_ble_eq_true rfl, Nat.le_of_ble_eq_true rfl⟩) ⟨pc_blind, va_recv hK hP (ci := 4) (q0 := 0) rfl rfl, pc_of (hP.sub [0, 1] rfl) hK (hD.sub [0, 1] (by decide) rfl) hN hT hS hA⟩ rfl rfl hl.1 rfl (lv_room (Nat.le_of_ble_eq_true rfl)) d_Gues_implyGoal_8 ⟨Nat.zero_le _, Nat.zero_le _⟩) hP hD hS hA [0, 1] [2] rfl rfl (by decide) (by decide) (fun r_2 u_ H locs h hP hD hS => ?_)
  have hP : va_P (dC, dI) vwCl [(a_gu, .inr (3, [.ref a_lp, .ref a_gu_rounds, .ref a_s1, .ref a_s2, .int gu_left])), (a_lp, .inr (4, [.ref a_lp_facts, .ref a_lp_turns, .ref a_lp_first, .ref a_lp_src, .ref a_s1, .int lp_choices, .int lp_guesses, .int lp_unaries, .int lp_ranked])), (a_lp_facts, .inl (cI, 4096, .inl lp_facts))] H := hP
  have hD : va_D A [(a_gu, .inr (3, [.ref a_lp, .ref a_gu_rounds, .ref a_s1, .ref a_s2, .int gu_left])), (a_lp, .inr (4, [.ref a_lp_facts, .ref a_lp_turns, .ref a_lp_first, .ref a_lp_src, .ref a_s1, .int lp_choices, .int lp_guesses, .int lp_unaries, .int lp_ranked])), (a_lp_facts, .inl (cI, 4096, .inl lp_facts))] := hD
  refine lv_aload_n hx hb d_Gues_implyGoal_11 rfl (lv_at hl 0 rfl) ?_
  refine va_get (D := (dC, dI)) (ci := 3) (v := .ref a_lp) (C := "LoopInduction$Guesses") (T := F_Gues) (N := 5) hx hb hts iC_Gues hown hK hP 0 rfl rfl 0 (by decide) fl_19 (fun _ h9 => h9) rfl d_Gues_implyGoal_12 ?_
  refine lv_aload_n hx hb d_Gues_implyGoal_15 rfl (lv_at hl 0 rfl) ?_
  refine jn_i (wr := [(a_lp, .inr (4, [.ref a_lp_facts, .ref a_lp_turns, .ref a_lp_first, .ref a_lp_src, .ref a_s1, .int lp_choices, .int lp_guesses, .int lp_unaries, .int lp_ranked])), (a_lp_facts, .inl (cI, 4096, .inl lp_facts))]) (va_runV (As := []) (rest := [.ref a_lp, .int r_2]) ⟨hx, hb, hml, hown, hts⟩ (c_Gues_keptFacts l dC dI cI cB cZ adK adV _ a_gu a_lp a_gu_rounds a_s1 a_s2 gu_left _ h) (cwV 0 hts (gv_ m_876 m_877 m_878 m_94 m_879) rfl rfl rfl pd_Gues_keptFacts ⟨Nat.le_of_ble_eq_true rfl, Nat.le_of_ble_eq_true rfl⟩) ⟨pc_blind, va_recv hK hP (ci := 3) (q0 := 0) rfl rfl, pc_of (hP.sub [0] rfl) hK (hD.sub [0] (by decide) rfl) hN hT hS hA⟩ rfl rfl hl.1 rfl (lv_room (Nat.le_of_ble_eq_true rfl)) d_Gues_implyGoal_16 ⟨Nat.zero_le _, Nat.zero_le _⟩) hP hD hS hA [0] [1, 2] rfl rfl (by decide) (by decide) (fun r_3 u_ H locs h hP hD hS => ?_)
  have hP : va_P (dC, dI) vwCl [(a_lp, .inr (4, [.ref a_lp_facts, .ref a_lp_turns, .ref a_lp_first, .ref a_lp_src, .ref a_s1, .int lp_choices, .int lp_guesses, .int lp_unaries, .int lp_ranked])), (a_lp_facts, .inl (cI, 4096, .inl lp_facts)), (a_gu, .inr (3, [.ref a_lp, .ref a_gu_rounds, .ref a_s1, .ref a_s2, .int gu_left]))] H := hP
  have hD : va_D A [(a_lp, .inr (4, [.ref a_lp_facts, .ref a_lp_turns, .ref a_lp_first, .ref a_lp_src, .ref a_s1, .int lp_choices, .int lp_guesses, .int lp_unaries, .int lp_ranked])), (a_lp_facts, .inl (cI, 4096, .inl lp_facts)), (a_gu, .inr (3, [.ref a_lp, .ref a_gu_rounds, .ref a_s1, .ref a_s2, .int gu_left]))] := hD
  refine lv_iconst (v := 2) hx hb d_Gues_implyGoal_19 (by decide) ?_
  refine lv_ior hx hb d_Gues_implyGoal_20 ?_
  refine jn_i (wr := [(a_gu, .inr (3, [.ref a_lp, .ref a_gu_rounds, .ref a_s1, .ref a_s2, .int gu_left]))]) (va_runV (As := [.int (r_3 ||| 2)]) (rest := [.int r_2]) ⟨hx, hb, hml, hown, hts⟩ (c_Loop_countWith l dC dI cI cB cZ adK adV _ a_lp a_lp_facts a_lp_turns a_lp_first a_lp_src a_s1 lp_choices lp_guesses lp_unaries lp_ranked lp_facts (r_3 ||| 2) _ h) (cwV 1 hts (gv_ m_1010 m_928 m_929 m_92 m_930) rfl rfl rfl pd_Loop_countWith ⟨Nat.le_of_ble_eq_true rfl, Nat.le_of_ble_eq_true rfl⟩) ⟨pc_blind, va_recv hK hP (ci := 4) (q0 := 0) rfl rfl, pc_of (hP.sub [0, 1] rfl) hK (hD.sub [0, 1] (by decide) rfl) hN hT hS hA⟩ rfl rfl hl.1 rfl (lv_room (Nat.le_of_ble_eq_true rfl)) d_Gues_implyGoal_21 ⟨Nat.zero_le _, Nat.zero_le _⟩) hP hD hS hA [0, 1] [2] rfl rfl (by decide) (by decide) (fun r_4 u_ H locs h hP hD hS => ?_)
  have hP : va_P (dC, dI) vwCl [(a_gu, .inr (3, [.ref a_lp, .ref a_gu_rounds, .ref a_s1, .ref a_s2, .int gu_left])), (a_lp, .inr (4, [.ref a_lp_facts, .ref a_lp_turns, .ref a_lp_first, .ref a_lp_src, .ref a_s1, .int lp_choices, .int lp_guesses, .int lp_unaries, .int lp_ranked])), (a_lp_facts, .inl (cI, 4096, .inl lp_facts))] H := hP
  have hD : va_D A [(a_gu, .inr (3, [.ref a_lp, .ref a_gu_rounds, .ref a_s1, .ref a_s2, .int gu_left])), (a_lp, .inr (4, [.ref a_lp_facts, .ref a_lp_turns, .ref a_lp_first, .ref a_lp_src, .ref a_s1, .int lp_choices, .int lp_guesses, .int lp_unaries, .int lp_ranked])), (a_lp_facts, .inl (cI, 4096, .inl lp_facts))] := hD
  refine lv_icmp_ne (tgt := 31) hx hb d_Gues_implyGoal_24 (by decide) (fun c_24 => ?_) (fun c_24 => ?_)
  · have h := And.left h c_24
    refine lv_iconst (v := 0) hx hb d_Gues_implyGoal_31 (by decide) ?_
    rw [← hQ]
    have hP9 := hP.sub (ws' := [(a_lp, .inr (4, [.ref a_lp_facts, .ref a_lp_turns, .ref a_lp_first, .ref a_lp_src, .ref a_s1, .int lp_choices, .int lp_guesses, .int lp_unaries, .int lp_ranked])), (a_lp_facts, .inl (cI, 4096, .inl lp_facts)), (a_gu, .inr (3, [.ref a_lp, .ref a_gu_rounds, .ref a_s1, .ref a_s2, .int gu_left]))]) [1, 2, 0] rfl
    have hD9 := hD.sub (ws' := [(a_lp, .inr (4, [.ref a_lp_facts, .ref a_lp_turns, .ref a_lp_first, .ref a_lp_src, .ref a_s1, .int lp_choices, .int lp_guesses, .int lp_unaries, .int lp_ranked])), (a_lp_facts, .inl (cI, 4096, .inl lp_facts)), (a_gu, .inr (3, [.ref a_lp, .ref a_gu_rounds, .ref a_s1, .ref a_s2, .int gu_left]))]) [1, 2, 0] (by decide) rfl
    exact W.zret (v := 0) hx hb hr rfl (fun t ht hW => ⟨⟨0, (), rfl, h, by rw [ht]; exact hP9, va_K.moved hW.alike hK, hD9⟩, hS.F ht⟩) hS.2.2 d_Gues_implyGoal_32
  · have h := And.right h c_24
    refine lv_iconst (v := 1) hx hb d_Gues_implyGoal_27 (by decide) ?_
    refine lv_goto (tgt := 32) hx hb d_Gues_implyGoal_28 (by decide) ?_
    rw [← hQ]
    have hP9 := hP.sub (ws' := [(a_lp, .inr (4, [.ref a_lp_facts, .ref a_lp_turns, .ref a_lp_first, .ref a_lp_src, .ref a_s1, .int lp_choices, .int lp_guesses, .int lp_unaries, .int lp_ranked])), (a_lp_facts, .inl (cI, 4096, .inl lp_facts)), (a_gu, .inr (3, [.ref a_lp, .ref a_gu_rounds, .ref a_s1, .ref a_s2, .int gu_left]))]) [1, 2, 0] rfl
    have hD9 := hD.sub (ws' := [(a_lp, .inr (4, [.ref a_lp_facts, .ref a_lp_turns, .ref a_lp_first, .ref a_lp_src, .ref a_s1, .int lp_choices, .int lp_guesses, .int lp_unaries, .int lp_ranked])), (a_lp_facts, .inl (cI, 4096, .inl lp_facts)), (a_gu, .inr (3, [.ref a_lp, .ref a_gu_rounds, .ref a_s1, .ref a_s2, .int gu_left]))]) [1, 2, 0] (by decide) rfl
    exact W.zret (v := 1) hx hb hr rfl (fun t ht hW => ⟨⟨1, (), rfl, h, by rw [ht]; exact hP9, va_K.moved hW.alike hK, hD9⟩, hS.F ht⟩) hS.2.2 d_Gues_implyGoal_32
set_option maxHeartbeats 4000000 in
set_option maxRecDepth 100000 in
theorem c_Gues_leadsToMarked (l : Launch) (dC : Nat → ClassId) (dI : Nat → Nat → Nat) (cI cB cZ : ClassId) (adK adV : Nat → Nat) (sz : Nat) (a_lp a_lp_facts a_lp_turns a_lp_first a_lp_src a_s1 a_gu a_gu_rounds a_s2 : Nat) (lp_choices : Int32) (lp_guesses : Int32) (lp_unaries : Int32) (lp_ranked : Int32) (lp_turns : Nat → Int32) (s1 : Nat → Int32) (gu_left : Int32) (x1 : Int32) (post : Int32 → Prop) (h : wp_Gues_leadsToMarked x1 lp_choices lp_turns s1 post) : Met l y_Gues_leadsToMarked w_Gues_leadsToMarked ({ frames := 2, cells := 0, slots := 0, locals := 42 }) (pc_ (dC, dI) [(cI, .int), (cB, .byte), (cZ, .boolean)] [(a_lp, .inr (4, [.ref a_lp_facts, .ref a_lp_turns, .ref a_lp_first, .ref a_lp_src, .ref a_s1, .int lp_choices, .int lp_guesses, .int lp_unaries, .int lp_ranked])), (a_lp_turns, .inl (cI, 24576, .inl lp_turns)), (a_s1, .inl (cI, 4096, .inl s1)), (a_gu, .inr (3, [.ref a_lp, .ref a_gu_rounds, .ref a_s1, .ref a_s2, .int gu_left]))] sz adK adV [.ref a_gu, .int x1]) (va_Qi (fun (r : Int32) (u : Unit) => post r ) (fun (u : Unit) t => bw_ (dC, dI) [(cI, .int), (cB, .byte), (cZ, .boolean)] (va_A [(a_lp, .inr (4, [.ref a_lp_facts, .ref a_lp_turns, .ref a_lp_first, .ref a_lp_src, .ref a_s1, .int lp_choices, .int lp_guesses, .int lp_unaries, .int lp_ranked])), (a_lp_turns, .inl (cI, 24576, .inl lp_turns)), (a_s1, .inl (cI, 4096, .inl s1)), (a_gu, .inr (3, [.ref a_lp, .ref a_gu_rounds, .ref a_s1, .ref a_s2, .int gu_left]))] sz) [(a_lp, .inr (4, [.ref a_lp_facts, .ref a_lp_turns, .ref a_lp_first, .ref a_lp_src, .ref a_s1, .int lp_choices, .int lp_guesses, .int lp_unaries, .int lp_ranked])), (a_lp_turns, .inl (cI, 24576, .inl lp_turns)), (a_s1, .inl (cI, 4096, .inl s1)), (a_gu, .inr (3, [.ref a_lp, .ref a_gu_rounds, .ref a_s1, .ref a_s2, .int gu_left]))] t) (va_A [(a_lp, .inr (4, [.ref a_lp_facts, .ref a_lp_turns, .ref a_lp_first, .ref a_lp_src, .ref a_s1, .int lp_choices, .int lp_guesses, .int lp_unaries, .int lp_ranked])), (a_lp_turns, .inl (cI, 24576, .inl lp_turns)), (a_s1, .inl (cI, 4096, .inl s1)), (a_gu, .inr (3, [.ref a_lp, .ref a_gu_rounds, .ref a_s1, .ref a_s2, .int gu_left]))] sz)) 0 0 (va_A [(a_lp, .inr (4, [.ref a_lp_facts, .ref a_lp_turns, .ref a_lp_first, .ref a_lp_src, .ref a_s1, .int lp_choices, .int lp_guesses, .int lp_unaries, .int lp_ranked])), (a_lp_turns, .inl (cI, 24576, .inl lp_turns)), (a_s1, .inl (cI, 4096, .inl s1)), (a_gu, .inr (3, [.ref a_lp, .ref a_gu_rounds, .ref a_s1, .ref a_s2, .int gu_left]))] sz) := by
  refine Met.ofW (cc := b_Gues_leadsToMarked) (maxL := 4) (ret := (some .boolean)) (by decide) rfl ?_
  intro p e s m args below meth c s₁ B hml hv
  obtain ⟨rfl, hsz, hP, hK, hD0, hN, hT⟩ := hv
  have hx := B.exec
  have hb := B.bytes
  have hr := B.returns
  have hts := atoms_spec (ws := w_Gues_leadsToMarked) B.pre
  have hown : s.vm.findClass "LoopInduction$Guesses" = some m.cls := findClass_of_methodNamed B.named
  have hlocks := B.notSynchronized
  subst hsz
  have hD := hD0.self (sz := s.heap.size)
  generalize hAe : va_A [(a_lp, .inr (4, [.ref a_lp_facts, .ref a_lp_turns, .ref a_lp_first, .ref a_lp_src, .ref a_s1, .int lp_choices, .int lp_guesses, .int lp_unaries, .int lp_ranked])), (a_lp_turns, .inl (cI, 24576, .inl lp_turns)), (a_s1, .inl (cI, 4096, .inl s1)), (a_gu, .inr (3, [.ref a_lp, .ref a_gu_rounds, .ref a_s1, .ref a_s2, .int gu_left]))] s.heap.size = A at hD hT ⊢
  have hA : ∀ q : Nat, s.heap.size ≤ q → A q := fun q h => by rw [← hAe]; exact Or.inr h
  have hS : va_S A s.heap s.heap [] := va_S.rf
  generalize hQ : MQ below _ _ s 0 0 _ = QQ
  have hl := lv_entry ([.ref a_gu, .int x1]) (n := 4) (Nat.le_of_ble_eq_true rfl)
  rw [lg_entry_eq]
  generalize (lg_sl ([.ref a_gu, .int x1]) ++ List.replicate (4 - (lg_sl ([.ref a_gu, .int x1])).length) Slot.unset).toArray = ls at hl ⊢
  have hl : lv_has ls 4 [(0, .ref a_gu), (1, .int x1)] := hl
  have fl_19 := (hts _ (List.mem_cons_of_mem _ m_333))
  have fl_29 := (hts _ (List.mem_cons_of_mem _ m_335))
  refine lv_iconst (v := 0) hx hb d_Gues_leadsToMarked_0 (by decide) ?_
  refine lv_istore_n (lv' := [(2, .int 0), (0, .ref a_gu), (1, .int x1)]) hx hb d_Gues_leadsToMarked_1 rfl hl (by decide) rfl (fun ls hl => ?_)
  have L2_q_2 : ∀ (k48 : Prop) (hk48 : k48 → ∀ (H : Heap) (locs : List Loc), va_P (dC, dI) vwCl [(a_lp, .inr (4, [.ref a_lp_facts, .ref a_lp_turns, .ref a_lp_first, .ref a_lp_src, .ref a_s1, .int lp_choices, .int lp_guesses, .int lp_unaries, .int lp_ranked])), (a_lp_turns, .inl (cI, 24576, .inl lp_turns)), (a_s1, .inl (cI, 4096, .inl s1)), (a_gu, .inr (3, [.ref a_lp, .ref a_gu_rounds, .ref a_s1, .ref a_s2, .int gu_left]))] H → va_D A [(a_lp, .inr (4, [.ref a_lp_facts, .ref a_lp_turns, .ref a_lp_first, .ref a_lp_src, .ref a_s1, .int lp_choices, .int lp_guesses, .int lp_unaries, .int lp_ranked])), (a_lp_turns, .inl (cI, 24576, .inl lp_turns)), (a_s1, .inl (cI, 4096, .inl s1)), (a_gu, .inr (3, [.ref a_lp, .ref a_gu_rounds, .ref a_s1, .ref a_s2, .int gu_left]))] → va_S A s.heap H locs → ∀ ls : Array Slot, lv_has ls 4 [] → W p l e (headSpec w_Gues_leadsToMarked ({ frames := 2, cells := 0, slots := 0, locals := 42 })).room s m (([.ref a_gu, .int x1] : List Value).toArray) below meth c H locs 0 0 QQ (F0 m 48 ls [])) (k40 : Prop) (hk40 : k40 → ∀ (H : Heap) (locs : List Loc), va_P (dC, dI) vwCl [(a_lp, .inr (4, [.ref a_lp_facts, .ref a_lp_turns, .ref a_lp_first, .ref a_lp_src, .ref a_s1, .int lp_choices, .int lp_guesses, .int lp_unaries, .int lp_ranked])), (a_lp_turns, .inl (cI, 24576, .inl lp_turns)), (a_s1, .inl (cI, 4096, .inl s1)), (a_gu, .inr (3, [.ref a_lp, .ref a_gu_rounds, .ref a_s1, .ref a_s2, .int gu_left]))] H → va_D A [(a_lp, .inr (4, [.ref a_lp_facts, .ref a_lp_turns, .ref a_lp_first, .ref a_lp_src, .ref a_s1, .int lp_choices, .int lp_guesses, .int lp_unaries, .int lp_ranked])), (a_lp_turns, .inl (cI, 24576, .inl lp_turns)), (a_s1, .inl (cI, 4096, .inl s1)), (a_gu, .inr (3, [.ref a_lp, .ref a_gu_rounds, .ref a_s1, .ref a_s2, .int gu_left]))] → va_S A s.heap H locs → ∀ ls : Array Slot, lv_has ls 4 [] → W p l e (headSpec w_Gues_leadsToMarked ({ frames := 2, cells := 0, slots := 0, locals := 42 })).room s m (([.ref a_gu, .int x1] : List Value).toArray) below meth c H locs 0 0 QQ (F0 m 40 ls [])) (n : Nat) (x2_1 : Int32), wp_Gues_leadsToMarked_L2 x1 lp_choices lp_turns s1 k48 k40 n x2_1 → ∀ (H : Heap) (locs : List Loc), va_P (dC, dI) vwCl [(a_lp, .inr (4, [.ref a_lp_facts, .ref a_lp_turns, .ref a_lp_first, .ref a_lp_src, .ref a_s1, .int lp_choices, .int lp_guesses, .int lp_unaries, .int lp_ranked])), (a_lp_turns, .inl (cI, 24576, .inl lp_turns)), (a_s1, .inl (cI, 4096, .inl s1)), (a_gu, .inr (3, [.ref a_lp, .ref a_gu_rounds, .ref a_s1, .ref a_s2, .int gu_left]))] H → va_D A [(a_lp, .inr (4, [.ref a_lp_facts, .ref a_lp_turns, .ref a_lp_first, .ref a_lp_src, .ref a_s1, .int lp_choices, .int lp_guesses, .int lp_unaries, .int lp_ranked])), (a_lp_turns, .inl (cI, 24576, .inl lp_turns)), (a_s1, .inl (cI, 4096, .inl s1)), (a_gu, .inr (3, [.ref a_lp, .ref a_gu_rounds, .ref a_s1, .ref a_s2, .int gu_left]))] → va_S A s.heap H locs → ∀ ls : Array Slot, lv_has ls 4 [(0, .ref a_gu), (1, .int x1), (2, .int x2_1)] → W p l e (headSpec w_Gues_leadsToMarked ({ frames := 2, cells := 0, slots := 0, locals := 42 })).room s m (([.ref a_gu, .int x1] : List Value).toArray) below meth c H locs 0 0 QQ (F0 m 2 ls []) := by
    intro k48 hk48 k40 hk40 n
    induction n with
    | zero => intro x2_1 h; exact (show False from h).elim
    | succ n il =>
      intro x2_1 h
      intro H locs hP hD hS ls hl
      refine lv_iload_n hx hb d_Gues_leadsToMarked_2 rfl (lv_at hl 2 rfl) ?_
      refine lv_aload_n hx hb d_Gues_leadsToMarked_3 rfl (lv_at hl 0 rfl) ?_
      refine va_get (D := (dC, dI)) (ci := 3) (v := .ref a_lp) (C := "LoopInduction$Guesses") (T := F_Gues) (N := 5) hx hb hts iC_Gues hown hK hP 3 rfl rfl 0 (by decide) fl_19 (fun _ h9 => h9) rfl d_Gues_leadsToMarked_4 ?_
      refine jn_i (wr := [(a_lp_turns, .inl (cI, 24576, .inl lp_turns)), (a_s1, .inl (cI, 4096, .inl s1)), (a_gu, .inr (3, [.ref a_lp, .ref a_gu_rounds, .ref a_s1, .ref a_s2, .int gu_left]))]) (va_runV (As := []) (rest := [.int x2_1]) ⟨hx, hb, hml, hown, hts⟩ (c_Loop_choices l dC dI cI cB cZ adK adV _ a_lp a_lp_facts a_lp_turns a_lp_first a_lp_src a_s1 lp_choices lp_guesses lp_unaries lp_ranked _ h) (cwV 0 hts (gv_ m_884 m_810 m_811 m_92 m_812) rfl rfl rfl pd_Loop_choices ⟨Nat.le_of_ble_eq_true rfl, Nat.le_of_ble_eq_true rfl⟩) ⟨pc_blind, va_recv hK hP (ci := 4) (q0 := 0) rfl rfl, pc_of (hP.sub [0] rfl) hK (hD.sub [0] (by decide) rfl) hN hT hS hA⟩ rfl rfl hl.1 rfl (lv_room (Nat.le_of_ble_eq_true rfl)) d_Gues_leadsToMarked_7 ⟨Nat.zero_le _, Nat.zero_le _⟩) hP hD hS hA [0] [1, 2, 3] rfl rfl (by decide) (by decide) (fun r_3 u_ H locs h hP hD hS => ?_)
      have hP : va_P (dC, dI) vwCl [(a_lp_turns, .inl (cI, 24576, .inl lp_turns)), (a_s1, .inl (cI, 4096, .inl s1)), (a_gu, .inr (3, [.ref a_lp, .ref a_gu_rounds, .ref a_s1, .ref a_s2, .int gu_left])), (a_lp, .inr (4, [.ref a_lp_facts, .ref a_lp_turns, .ref a_lp_first, .ref a_lp_src, .ref a_s1, .int lp_choices, .int lp_guesses, .int lp_unaries, .int lp_ranked]))] H := hP
      have hD : va_D A [(a_lp_turns, .inl (cI, 24576, .inl lp_turns)), (a_s1, .inl (cI, 4096, .inl s1)), (a_gu, .inr (3, [.ref a_lp, .ref a_gu_rounds, .ref a_s1, .ref a_s2, .int gu_left])), (a_lp, .inr (4, [.ref a_lp_facts, .ref a_lp_turns, .ref a_lp_first, .ref a_lp_src, .ref a_s1, .int lp_choices, .int lp_guesses, .int lp_unaries, .int lp_ranked]))] := hD
      refine lv_icmp_ge (tgt := 48) hx hb d_Gues_leadsToMarked_10 (by decide) (fun c_10 => ?_) (fun c_10 => ?_)
      · have h := And.left h c_10
        exact hk48 h _ _ (hP.sub [3, 0, 1, 2] rfl) (hD.sub [3, 0, 1, 2] (by decide) rfl) hS _ (lv_sub hl [] rfl)
      · have h := And.right h c_10
        refine lv_aload_n hx hb d_Gues_leadsToMarked_13 rfl (lv_at hl 0 rfl) ?_
        refine va_get (D := (dC, dI)) (ci := 3) (v := .ref a_lp) (C := "LoopInduction$Guesses") (T := F_Gues) (N := 5) hx hb hts iC_Gues hown hK hP 2 rfl rfl 0 (by decide) fl_19 (fun _ h9 => h9) rfl d_Gues_leadsToMarked_14 ?_
        refine lv_iload_n hx hb d_Gues_leadsToMarked_17 rfl (lv_at hl 1 rfl) ?_
        refine lv_iload_n hx hb d_Gues_leadsToMarked_18 rfl (lv_at hl 2 rfl) ?_
        refine jn_i (wr := [(a_s1, .inl (cI, 4096, .inl s1)), (a_gu, .inr (3, [.ref a_lp, .ref a_gu_rounds, .ref a_s1, .ref a_s2, .int gu_left]))]) (va_runV (As := [.int x1, .int x2_1]) (rest := []) ⟨hx, hb, hml, hown, hts⟩ (c_Loop_turn l dC dI cI cB cZ adK adV _ a_lp a_lp_facts a_lp_turns a_lp_first a_lp_src a_s1 lp_choices lp_guesses lp_unaries lp_ranked lp_turns x1 x2_1 _ h) (cwV 2 hts (gv_ m_885 m_757 m_758 m_92 m_759) rfl rfl rfl pd_Loop_turn ⟨Nat.le_of_ble_eq_true rfl, Nat.le_of_ble_eq_true rfl⟩) ⟨pc_blind, va_recv hK hP (ci := 4) (q0 := 3) rfl rfl, pc_of (hP.sub [3, 0] rfl) hK (hD.sub [3, 0] (by decide) rfl) hN hT hS hA⟩ rfl rfl hl.1 rfl (lv_room (Nat.le_of_ble_eq_true rfl)) d_Gues_leadsToMarked_19 ⟨Nat.zero_le _, Nat.zero_le _⟩) hP hD hS hA [3, 0] [1, 2] rfl rfl (by decide) (by decide) (fun r_4 u_ H locs h hP hD hS => ?_)
        have hP : va_P (dC, dI) vwCl [(a_s1, .inl (cI, 4096, .inl s1)), (a_gu, .inr (3, [.ref a_lp, .ref a_gu_rounds, .ref a_s1, .ref a_s2, .int gu_left])), (a_lp, .inr (4, [.ref a_lp_facts, .ref a_lp_turns, .ref a_lp_first, .ref a_lp_src, .ref a_s1, .int lp_choices, .int lp_guesses, .int lp_unaries, .int lp_ranked])), (a_lp_turns, .inl (cI, 24576, .inl lp_turns))] H := hP
        have hD : va_D A [(a_s1, .inl (cI, 4096, .inl s1)), (a_gu, .inr (3, [.ref a_lp, .ref a_gu_rounds, .ref a_s1, .ref a_s2, .int gu_left])), (a_lp, .inr (4, [.ref a_lp_facts, .ref a_lp_turns, .ref a_lp_first, .ref a_lp_src, .ref a_s1, .int lp_choices, .int lp_guesses, .int lp_unaries, .int lp_ranked])), (a_lp_turns, .inl (cI, 24576, .inl lp_turns))] := hD
        refine lv_istore_n (lv' := [(3, .int r_4), (0, .ref a_gu), (1, .int x1), (2, .int x2_1)]) hx hb d_Gues_leadsToMarked_22 rfl hl (by decide) rfl (fun ls hl => ?_)
        refine lv_iload_n hx hb d_Gues_leadsToMarked_23 rfl (lv_at hl 0 rfl) ?_
        refine jn_i (wr := [(a_s1, .inl (cI, 4096, .inl s1)), (a_gu, .inr (3, [.ref a_lp, .ref a_gu_rounds, .ref a_s1, .ref a_s2, .int gu_left])), (a_lp, .inr (4, [.ref a_lp_facts, .ref a_lp_turns, .ref a_lp_first, .ref a_lp_src, .ref a_s1, .int lp_choices, .int lp_guesses, .int lp_unaries, .int lp_ranked])), (a_lp_turns, .inl (cI, 24576, .inl lp_turns))]) (va_runSN (As := [.int r_4]) (rest := []) ⟨hx, hb, hml, hown, hts⟩ (c_LI_isState l dC dI cI cB cZ adK adV _ r_4 _ h) ⟨va_cnB 1 hts (ga_ m_762) rfl rfl rfl (hN _ (List.mem_of_getElem? (i := 6) rfl)) (hts _ (List.mem_cons_of_mem _ m_85)) pn_LI_isState ⟨Nat.le_of_ble_eq_true rfl, Nat.le_of_ble_eq_true rfl⟩, (hts _ (List.mem_cons_of_mem _ m_761)), trivial⟩ ⟨pc_blind, pc_of (hP.sub [] rfl) hK (hD.sub [] (by decide) rfl) hN hT hS hA⟩ rfl rfl hl.1 rfl (lv_room (Nat.le_of_ble_eq_true rfl)) d_Gues_leadsToMarked_24 ⟨Nat.zero_le _, Nat.zero_le _⟩) hP hD hS hA [] [0, 1, 2, 3] rfl rfl (by decide) (by decide) (fun r_5 u_ H locs h hP hD hS => ?_)
        have hP : va_P (dC, dI) vwCl [(a_s1, .inl (cI, 4096, .inl s1)), (a_gu, .inr (3, [.ref a_lp, .ref a_gu_rounds, .ref a_s1, .ref a_s2, .int gu_left])), (a_lp, .inr (4, [.ref a_lp_facts, .ref a_lp_turns, .ref a_lp_first, .ref a_lp_src, .ref a_s1, .int lp_choices, .int lp_guesses, .int lp_unaries, .int lp_ranked])), (a_lp_turns, .inl (cI, 24576, .inl lp_turns))] H := hP
        have hD : va_D A [(a_s1, .inl (cI, 4096, .inl s1)), (a_gu, .inr (3, [.ref a_lp, .ref a_gu_rounds, .ref a_s1, .ref a_s2, .int gu_left])), (a_lp, .inr (4, [.ref a_lp_facts, .ref a_lp_turns, .ref a_lp_first, .ref a_lp_src, .ref a_s1, .int lp_choices, .int lp_guesses, .int lp_unaries, .int lp_ranked])), (a_lp_turns, .inl (cI, 24576, .inl lp_turns))] := hD
        refine lv_if_eq (tgt := 42) hx hb d_Gues_leadsToMarked_27 (by decide) (fun c_27 => ?_) (fun c_27 => ?_)
        · have h := And.left h c_27
          refine lv_iinc (v := x2_1 + 1) (lv' := [(2, .int (x2_1 + 1)), (3, .int r_4), (0, .ref a_gu), (1, .int x1)]) hx hb d_Gues_leadsToMarked_42 hl (k := 3) rfl rfl (by decide) rfl (fun ls hl => ?_)
          refine lv_goto (tgt := 2) hx hb d_Gues_leadsToMarked_45 (by decide) ?_
          exact il _ h _ _ (hP.sub [2, 3, 0, 1] rfl) (hD.sub [2, 3, 0, 1] (by decide) rfl) hS _ (lv_sub hl [2, 3, 0] rfl)
        · have h := And.right h c_27
          refine lv_aload_n hx hb d_Gues_leadsToMarked_30 rfl (lv_at hl 1 rfl) ?_
          refine va_get (D := (dC, dI)) (ci := 3) (v := .ref a_s1) (C := "LoopInduction$Guesses") (T := F_Gues) (N := 5) hx hb hts iC_Gues hown hK hP 1 rfl rfl 2 (by decide) fl_29 (fun _ h9 => h9) rfl d_Gues_leadsToMarked_31 ?_
          refine lv_iload_n hx hb d_Gues_leadsToMarked_34 rfl (lv_at hl 0 rfl) ?_
          obtain ⟨hin_35, h⟩ := h
          refine va_iald hx hb hK hP 0 0 rfl rfl hin_35 d_Gues_leadsToMarked_35 ?_
          refine lv_iconst (v := 1) hx hb d_Gues_leadsToMarked_36 (by decide) ?_
          refine lv_icmp_ne (tgt := 42) hx hb d_Gues_leadsToMarked_37 (by decide) (fun c_37 => ?_) (fun c_37 => ?_)
          · have h := And.left h c_37
            refine lv_iinc (v := x2_1 + 1) (lv' := [(2, .int (x2_1 + 1)), (3, .int r_4), (0, .ref a_gu), (1, .int x1)]) hx hb d_Gues_leadsToMarked_42 hl (k := 3) rfl rfl (by decide) rfl (fun ls hl => ?_)
            refine lv_goto (tgt := 2) hx hb d_Gues_leadsToMarked_45 (by decide) ?_
            exact il _ h _ _ (hP.sub [2, 3, 0, 1] rfl) (hD.sub [2, 3, 0, 1] (by decide) rfl) hS _ (lv_sub hl [2, 3, 0] rfl)
          · have h := And.right h c_37
            exact hk40 h _ _ (hP.sub [2, 3, 0, 1] rfl) (hD.sub [2, 3, 0, 1] (by decide) rfl) hS _ (lv_sub hl [] rfl)
  obtain ⟨n_, h⟩ := h
  refine L2_q_2 _ ?_ _ ?_ n_ _ h _ _ hP hD hS _ (lv_sub hl [1, 2, 0] rfl)
  · intro h
    intro H locs hP hD hS ls hl
    refine lv_iconst (v := 0) hx hb d_Gues_leadsToMarked_48 (by decide) ?_
    rw [← hQ]
    have hP9 := hP
    have hD9 := hD
    exact W.zret (v := 0) hx hb hr rfl (fun t ht hW => ⟨⟨0, (), rfl, h, by rw [ht]; exact hP9, va_K.moved hW.alike hK, hD9⟩, hS.F ht⟩) hS.2.2 d_Gues_leadsToMarked_49
  · intro h
    intro H locs hP hD hS ls hl
    refine lv_iconst (v := 1) hx hb d_Gues_leadsToMarked_40 (by decide) ?_
    rw [← hQ]
    have hP9 := hP
    have hD9 := hD
    exact W.zret (v := 1) hx hb hr rfl (fun t ht hW => ⟨⟨1, (), rfl, h, by rw [ht]; exact hP9, va_K.moved hW.alike hK, hD9⟩, hS.F ht⟩) hS.2.2 d_Gues_leadsToMarked_41
set_option maxHeartbeats 4000000 in
set_option maxRecDepth 100000 in
theorem c_Gues_stepBack (l : Launch) (dC : Nat → ClassId) (dI : Nat → Nat → Nat) (cI cB cZ : ClassId) (adK adV : Nat → Nat) (sz : Nat) (a_lp a_lp_facts a_lp_turns a_lp_first a_lp_src a_s1 a_s2 a_gu a_gu_rounds : Nat) (lp_choices : Int32) (lp_guesses : Int32) (lp_unaries : Int32) (lp_ranked : Int32) (lp_facts : Nat → Int32) (lp_turns : Nat → Int32) (s1 : Nat → Int32) (s2 : Nat → Int32) (gu_left : Int32) (x1 : Int32) (post : Int32 → (Nat → Int32) → (Nat → Int32) → Prop) (h : wp_Gues_stepBack x1 lp_choices lp_facts lp_turns s1 s2 post) : Met l y_Gues_stepBack w_Gues_stepBack ({ frames := 3, cells := 0, slots := 0, locals := 65 }) (pc_ (dC, dI) [(cI, .int), (cB, .byte), (cZ, .boolean)] [(a_lp, .inr (4, [.ref a_lp_facts, .ref a_lp_turns, .ref a_lp_first, .ref a_lp_src, .ref a_s1, .int lp_choices, .int lp_guesses, .int lp_unaries, .int lp_ranked])), (a_lp_facts, .inl (cI, 4096, .inl lp_facts)), (a_lp_turns, .inl (cI, 24576, .inl lp_turns)), (a_s1, .inl (cI, 4096, .inl s1)), (a_s2, .inl (cI, 4096, .inl s2)), (a_gu, .inr (3, [.ref a_lp, .ref a_gu_rounds, .ref a_s1, .ref a_s2, .int gu_left]))] sz adK adV [.ref a_gu, .int x1]) (va_Qi (fun (r : Int32) (u : (Nat → Int32) × (Nat → Int32)) => post r u.1 u.2) (fun (u : (Nat → Int32) × (Nat → Int32)) t => bw_ (dC, dI) [(cI, .int), (cB, .byte), (cZ, .boolean)] (va_A [(a_lp, .inr (4, [.ref a_lp_facts, .ref a_lp_turns, .ref a_lp_first, .ref a_lp_src, .ref a_s1, .int lp_choices, .int lp_guesses, .int lp_unaries, .int lp_ranked])), (a_lp_facts, .inl (cI, 4096, .inl lp_facts)), (a_lp_turns, .inl (cI, 24576, .inl lp_turns)), (a_s1, .inl (cI, 4096, .inl s1)), (a_s2, .inl (cI, 4096, .inl s2)), (a_gu, .inr (3, [.ref a_lp, .ref a_gu_rounds, .ref a_s1, .ref a_s2, .int gu_left]))] sz) [(a_lp, .inr (4, [.ref a_lp_facts, .ref a_lp_turns, .ref a_lp_first, .ref a_lp_src, .ref a_s1, .int lp_choices, .int lp_guesses, .int lp_unaries, .int lp_ranked])), (a_lp_facts, .inl (cI, 4096, .inl lp_facts)), (a_lp_turns, .inl (cI, 24576, .inl lp_turns)), (a_s1, .inl (cI, 4096, .inl u.1)), (a_s2, .inl (cI, 4096, .inl u.2)), (a_gu, .inr (3, [.ref a_lp, .ref a_gu_rounds, .ref a_s1, .ref a_s2, .int gu_left]))] t) (va_A [(a_lp, .inr (4, [.ref a_lp_facts, .ref a_lp_turns, .ref a_lp_first, .ref a_lp_src, .ref a_s1, .int lp_choices, .int lp_guesses, .int lp_unaries, .int lp_ranked])), (a_lp_facts, .inl (cI, 4096, .inl lp_facts)), (a_lp_turns, .inl (cI, 24576, .inl lp_turns)), (a_s1, .inl (cI, 4096, .inl s1)), (a_s2, .inl (cI, 4096, .inl s2)), (a_gu, .inr (3, [.ref a_lp, .ref a_gu_rounds, .ref a_s1, .ref a_s2, .int gu_left]))] sz)) 0 0 (va_A [(a_lp, .inr (4, [.ref a_lp_facts, .ref a_lp_turns, .ref a_lp_first, .ref a_lp_src, .ref a_s1, .int lp_choices, .int lp_guesses, .int lp_unaries, .int lp_ranked])), (a_lp_facts, .inl (cI, 4096, .inl lp_facts)), (a_lp_turns, .inl (cI, 24576, .inl lp_turns)), (a_s1, .inl (cI, 4096, .inl s1)), (a_s2, .inl (cI, 4096, .inl s2)), (a_gu, .inr (3, [.ref a_lp, .ref a_gu_rounds, .ref a_s1, .ref a_s2, .int gu_left]))] sz) := by
  refine Met.ofW (cc := b_Gues_stepBack) (maxL := 4) (ret := (some .boolean)) (by decide) rfl ?_
  intro p e s m args below meth c s₁ B hml hv
  obtain ⟨rfl, hsz, hP, hK, hD0, hN, hT⟩ := hv
  have hx := B.exec
  have hb := B.bytes
  have hr := B.returns
  have hts := atoms_spec (ws := w_Gues_stepBack) B.pre
  have hown : s.vm.findClass "LoopInduction$Guesses" = some m.cls := findClass_of_methodNamed B.named
  have hlocks := B.notSynchronized
  subst hsz
  have hD := hD0.self (sz := s.heap.size)
  generalize hAe : va_A [(a_lp, .inr (4, [.ref a_lp_facts, .ref a_lp_turns, .ref a_lp_first, .ref a_lp_src, .ref a_s1, .int lp_choices, .int lp_guesses, .int lp_unaries, .int lp_ranked])), (a_lp_facts, .inl (cI, 4096, .inl lp_facts)), (a_lp_turns, .inl (cI, 24576, .inl lp_turns)), (a_s1, .inl (cI, 4096, .inl s1)), (a_s2, .inl (cI, 4096, .inl s2)), (a_gu, .inr (3, [.ref a_lp, .ref a_gu_rounds, .ref a_s1, .ref a_s2, .int gu_left]))] s.heap.size = A at hD hT ⊢
  have hA : ∀ q : Nat, s.heap.size ≤ q → A q := fun q h => by rw [← hAe]; exact Or.inr h
  have hS : va_S A s.heap s.heap [] := va_S.rf
  generalize hQ : MQ below _ _ s 0 0 _ = QQ
  have hl := lv_entry ([.ref a_gu, .int x1]) (n := 4) (Nat.le_of_ble_eq_true rfl)
  rw [lg_entry_eq]
  generalize (lg_sl ([.ref a_gu, .int x1]) ++ List.replicate (4 - (lg_sl ([.ref a_gu, .int x1])).length) Slot.unset).toArray = ls at hl ⊢
  have hl : lv_has ls 4 [(0, .ref a_gu), (1, .int x1)] := hl
  have fl_19 := (hts _ (List.mem_cons_of_mem _ m_333))
  have fl_29 := (hts _ (List.mem_cons_of_mem _ m_335))
  have fl_34 := (hts _ (List.mem_cons_of_mem _ m_336))
  refine lv_iconst (v := 0) hx hb d_Gues_stepBack_0 (by decide) ?_
  refine lv_istore_n (lv' := [(2, .int 0), (0, .ref a_gu), (1, .int x1)]) hx hb d_Gues_stepBack_1 rfl hl (by decide) rfl (fun ls hl => ?_)
  refine lv_iconst (v := 0) hx hb d_Gues_stepBack_2 (by decide) ?_
  refine lv_istore_n (lv' := [(3, .int 0), (2, .int 0), (0, .ref a_gu), (1, .int x1)]) hx hb d_Gues_stepBack_3 rfl hl (by decide) rfl (fun ls hl => ?_)
  have L4_q_4 : ∀ (k68 : Int32 → (Nat → Int32) → Prop) (hk68 : ∀ (x2_5 : Int32) (s2_6 : Nat → Int32), k68 x2_5 s2_6 → ∀ (H : Heap) (locs : List Loc), va_P (dC, dI) vwCl [(a_lp, .inr (4, [.ref a_lp_facts, .ref a_lp_turns, .ref a_lp_first, .ref a_lp_src, .ref a_s1, .int lp_choices, .int lp_guesses, .int lp_unaries, .int lp_ranked])), (a_lp_facts, .inl (cI, 4096, .inl lp_facts)), (a_lp_turns, .inl (cI, 24576, .inl lp_turns)), (a_s1, .inl (cI, 4096, .inl s1)), (a_s2, .inl (cI, 4096, .inl s2_6)), (a_gu, .inr (3, [.ref a_lp, .ref a_gu_rounds, .ref a_s1, .ref a_s2, .int gu_left]))] H → va_D A [(a_lp, .inr (4, [.ref a_lp_facts, .ref a_lp_turns, .ref a_lp_first, .ref a_lp_src, .ref a_s1, .int lp_choices, .int lp_guesses, .int lp_unaries, .int lp_ranked])), (a_lp_facts, .inl (cI, 4096, .inl lp_facts)), (a_lp_turns, .inl (cI, 24576, .inl lp_turns)), (a_s1, .inl (cI, 4096, .inl s1)), (a_s2, .inl (cI, 4096, .inl s2_6)), (a_gu, .inr (3, [.ref a_lp, .ref a_gu_rounds, .ref a_s1, .ref a_s2, .int gu_left]))] → va_S A s.heap H locs → ∀ ls : Array Slot, lv_has ls 4 [(0, .ref a_gu), (2, .int x2_5)] → W p l e (headSpec w_Gues_stepBack ({ frames := 3, cells := 0, slots := 0, locals := 65 })).room s m (([.ref a_gu, .int x1] : List Value).toArray) below meth c H locs 0 0 QQ (F0 m 68 ls [])) (n : Nat) (x2_1 : Int32) (x3_2 : Int32) (s2_3 : Nat → Int32), wp_Gues_stepBack_L4 x1 lp_choices lp_facts lp_turns s1 k68 n x2_1 x3_2 s2_3 → ∀ (H : Heap) (locs : List Loc), va_P (dC, dI) vwCl [(a_lp, .inr (4, [.ref a_lp_facts, .ref a_lp_turns, .ref a_lp_first, .ref a_lp_src, .ref a_s1, .int lp_choices, .int lp_guesses, .int lp_unaries, .int lp_ranked])), (a_lp_facts, .inl (cI, 4096, .inl lp_facts)), (a_lp_turns, .inl (cI, 24576, .inl lp_turns)), (a_s1, .inl (cI, 4096, .inl s1)), (a_s2, .inl (cI, 4096, .inl s2_3)), (a_gu, .inr (3, [.ref a_lp, .ref a_gu_rounds, .ref a_s1, .ref a_s2, .int gu_left]))] H → va_D A [(a_lp, .inr (4, [.ref a_lp_facts, .ref a_lp_turns, .ref a_lp_first, .ref a_lp_src, .ref a_s1, .int lp_choices, .int lp_guesses, .int lp_unaries, .int lp_ranked])), (a_lp_facts, .inl (cI, 4096, .inl lp_facts)), (a_lp_turns, .inl (cI, 24576, .inl lp_turns)), (a_s1, .inl (cI, 4096, .inl s1)), (a_s2, .inl (cI, 4096, .inl s2_3)), (a_gu, .inr (3, [.ref a_lp, .ref a_gu_rounds, .ref a_s1, .ref a_s2, .int gu_left]))] → va_S A s.heap H locs → ∀ ls : Array Slot, lv_has ls 4 [(0, .ref a_gu), (1, .int x1), (2, .int x2_1), (3, .int x3_2)] → W p l e (headSpec w_Gues_stepBack ({ frames := 3, cells := 0, slots := 0, locals := 65 })).room s m (([.ref a_gu, .int x1] : List Value).toArray) below meth c H locs 0 0 QQ (F0 m 4 ls []) := by
    intro k68 hk68 n
    induction n with
    | zero => intro x2_1 x3_2 s2_3 h; exact (show False from h).elim
    | succ n il =>
      intro x2_1 x3_2 s2_3 h
      intro H locs hP hD hS ls hl
      refine lv_iload_n hx hb d_Gues_stepBack_4 rfl (lv_at hl 3 rfl) ?_
      refine lv_sipush (v := 4096) hx hb d_Gues_stepBack_5 (by decide) ?_
      refine lv_icmp_ge (tgt := 68) hx hb d_Gues_stepBack_8 (by decide) (fun c_8 => ?_) (fun c_8 => ?_)
      · have h := And.left h c_8
        exact hk68 _ _ h _ _ hP hD hS _ (lv_sub hl [0, 2] rfl)
      · have h := And.right h c_8
        refine lv_aload_n hx hb d_Gues_stepBack_11 rfl (lv_at hl 0 rfl) ?_
        refine va_get (D := (dC, dI)) (ci := 3) (v := .ref a_s2) (C := "LoopInduction$Guesses") (T := F_Gues) (N := 5) hx hb hts iC_Gues hown hK hP 5 rfl rfl 3 (by decide) fl_34 (fun _ h9 => h9) rfl d_Gues_stepBack_12 ?_
        refine lv_iload_n hx hb d_Gues_stepBack_15 rfl (lv_at hl 3 rfl) ?_
        refine lv_aload_n hx hb d_Gues_stepBack_16 rfl (lv_at hl 0 rfl) ?_
        refine va_get (D := (dC, dI)) (ci := 3) (v := .ref a_lp) (C := "LoopInduction$Guesses") (T := F_Gues) (N := 5) hx hb hts iC_Gues hown hK hP 5 rfl rfl 0 (by decide) fl_19 (fun _ h9 => h9) rfl d_Gues_stepBack_17 ?_
        refine lv_iload_n hx hb d_Gues_stepBack_20 rfl (lv_at hl 3 rfl) ?_
        refine lv_iload_n hx hb d_Gues_stepBack_21 rfl (lv_at hl 1 rfl) ?_
        refine jn_i (wr := [(a_lp_turns, .inl (cI, 24576, .inl lp_turns)), (a_s1, .inl (cI, 4096, .inl s1)), (a_s2, .inl (cI, 4096, .inl s2_3)), (a_gu, .inr (3, [.ref a_lp, .ref a_gu_rounds, .ref a_s1, .ref a_s2, .int gu_left]))]) (va_runV (As := [.int x3_2, .int x1]) (rest := [.int x3_2, .ref a_s2]) ⟨hx, hb, hml, hown, hts⟩ (c_Loop_hasAll l dC dI cI cB cZ adK adV _ a_lp a_lp_facts a_lp_turns a_lp_first a_lp_src a_s1 lp_choices lp_guesses lp_unaries lp_ranked lp_facts x3_2 x1 _ h) (cwV 2 hts (gv_ m_863 m_785 m_786 m_92 m_787) rfl rfl rfl pd_Loop_hasAll ⟨Nat.le_of_ble_eq_true rfl, Nat.le_of_ble_eq_true rfl⟩) ⟨pc_blind, va_recv hK hP (ci := 4) (q0 := 0) rfl rfl, pc_of (hP.sub [0, 1] rfl) hK (hD.sub [0, 1] (by decide) rfl) hN hT hS hA⟩ rfl rfl hl.1 rfl (lv_room (Nat.le_of_ble_eq_true rfl)) d_Gues_stepBack_22 ⟨Nat.zero_le _, Nat.zero_le _⟩) hP hD hS hA [0, 1] [2, 3, 4, 5] rfl rfl (by decide) (by decide) (fun r_7 u_ H locs h hP hD hS => ?_)
        have hP : va_P (dC, dI) vwCl [(a_lp_turns, .inl (cI, 24576, .inl lp_turns)), (a_s1, .inl (cI, 4096, .inl s1)), (a_s2, .inl (cI, 4096, .inl s2_3)), (a_gu, .inr (3, [.ref a_lp, .ref a_gu_rounds, .ref a_s1, .ref a_s2, .int gu_left])), (a_lp, .inr (4, [.ref a_lp_facts, .ref a_lp_turns, .ref a_lp_first, .ref a_lp_src, .ref a_s1, .int lp_choices, .int lp_guesses, .int lp_unaries, .int lp_ranked])), (a_lp_facts, .inl (cI, 4096, .inl lp_facts))] H := hP
        have hD : va_D A [(a_lp_turns, .inl (cI, 24576, .inl lp_turns)), (a_s1, .inl (cI, 4096, .inl s1)), (a_s2, .inl (cI, 4096, .inl s2_3)), (a_gu, .inr (3, [.ref a_lp, .ref a_gu_rounds, .ref a_s1, .ref a_s2, .int gu_left])), (a_lp, .inr (4, [.ref a_lp_facts, .ref a_lp_turns, .ref a_lp_first, .ref a_lp_src, .ref a_s1, .int lp_choices, .int lp_guesses, .int lp_unaries, .int lp_ranked])), (a_lp_facts, .inl (cI, 4096, .inl lp_facts))] := hD
        refine lv_if_eq (tgt := 40) hx hb d_Gues_stepBack_25 (by decide) (fun c_25 => ?_) (fun c_25 => ?_)
        · have h := And.left h c_25
          refine lv_iconst (v := 0) hx hb d_Gues_stepBack_40 (by decide) ?_
          obtain ⟨hin_41, h⟩ := h
          refine va_iast hx hb hK hP hD hS 2 0 rfl rfl hin_41 d_Gues_stepBack_41 (fun H locs hP hD hS => ?_)
          have hP : va_P (dC, dI) vwCl [(a_lp_turns, .inl (cI, 24576, .inl lp_turns)), (a_s1, .inl (cI, 4096, .inl s1)), (a_s2, .inl (cI, 4096, .inl (upd s2_3 (x3_2 : Int32).toNatClampNeg 0))), (a_gu, .inr (3, [.ref a_lp, .ref a_gu_rounds, .ref a_s1, .ref a_s2, .int gu_left])), (a_lp, .inr (4, [.ref a_lp_facts, .ref a_lp_turns, .ref a_lp_first, .ref a_lp_src, .ref a_s1, .int lp_choices, .int lp_guesses, .int lp_unaries, .int lp_ranked])), (a_lp_facts, .inl (cI, 4096, .inl lp_facts))] H := hP
          have hD : va_D A [(a_lp_turns, .inl (cI, 24576, .inl lp_turns)), (a_s1, .inl (cI, 4096, .inl s1)), (a_s2, .inl (cI, 4096, .inl (upd s2_3 (x3_2 : Int32).toNatClampNeg 0))), (a_gu, .inr (3, [.ref a_lp, .ref a_gu_rounds, .ref a_s1, .ref a_s2, .int gu_left])), (a_lp, .inr (4, [.ref a_lp_facts, .ref a_lp_turns, .ref a_lp_first, .ref a_lp_src, .ref a_s1, .int lp_choices, .int lp_guesses, .int lp_unaries, .int lp_ranked])), (a_lp_facts, .inl (cI, 4096, .inl lp_facts))] := hD
          refine lv_iload_n hx hb d_Gues_stepBack_42 rfl (lv_at hl 2 rfl) ?_
          refine lv_if_ne (tgt := 56) hx hb d_Gues_stepBack_43 (by decide) (fun c_43 => ?_) (fun c_43 => ?_)
          · have h := And.left h c_43
            refine lv_iconst (v := 1) hx hb d_Gues_stepBack_56 (by decide) ?_
            refine lv_goto (tgt := 61) hx hb d_Gues_stepBack_57 (by decide) ?_
            refine lv_istore_n (lv' := [(2, .int 1), (0, .ref a_gu), (1, .int x1), (3, .int x3_2)]) hx hb d_Gues_stepBack_61 rfl hl (by decide) rfl (fun ls hl => ?_)
            refine lv_iinc (v := x3_2 + 1) (lv' := [(3, .int (x3_2 + 1)), (2, .int 1), (0, .ref a_gu), (1, .int x1)]) hx hb d_Gues_stepBack_62 hl (k := 3) rfl rfl (by decide) rfl (fun ls hl => ?_)
            refine lv_goto (tgt := 4) hx hb d_Gues_stepBack_65 (by decide) ?_
            exact il _ _ _ h _ _ (hP.sub [4, 5, 0, 1, 2, 3] rfl) (hD.sub [4, 5, 0, 1, 2, 3] (by decide) rfl) hS _ (lv_sub hl [2, 3, 1, 0] rfl)
          · have h := And.right h c_43
            refine lv_aload_n hx hb d_Gues_stepBack_46 rfl (lv_at hl 0 rfl) ?_
            refine va_get (D := (dC, dI)) (ci := 3) (v := .ref a_s2) (C := "LoopInduction$Guesses") (T := F_Gues) (N := 5) hx hb hts iC_Gues hown hK hP 3 rfl rfl 3 (by decide) fl_34 (fun _ h9 => h9) rfl d_Gues_stepBack_47 ?_
            refine lv_iload_n hx hb d_Gues_stepBack_50 rfl (lv_at hl 3 rfl) ?_
            obtain ⟨hin_51, h⟩ := h
            refine va_iald hx hb hK hP 2 0 rfl rfl hin_51 d_Gues_stepBack_51 ?_
            refine lv_iconst (v := 1) hx hb d_Gues_stepBack_52 (by decide) ?_
            refine lv_icmp_ne (tgt := 60) hx hb d_Gues_stepBack_53 (by decide) (fun c_53 => ?_) (fun c_53 => ?_)
            · have h := And.left h c_53
              refine lv_iconst (v := 0) hx hb d_Gues_stepBack_60 (by decide) ?_
              refine lv_istore_n (lv' := [(2, .int 0), (0, .ref a_gu), (1, .int x1), (3, .int x3_2)]) hx hb d_Gues_stepBack_61 rfl hl (by decide) rfl (fun ls hl => ?_)
              refine lv_iinc (v := x3_2 + 1) (lv' := [(3, .int (x3_2 + 1)), (2, .int 0), (0, .ref a_gu), (1, .int x1)]) hx hb d_Gues_stepBack_62 hl (k := 3) rfl rfl (by decide) rfl (fun ls hl => ?_)
              refine lv_goto (tgt := 4) hx hb d_Gues_stepBack_65 (by decide) ?_
              exact il _ _ _ h _ _ (hP.sub [4, 5, 0, 1, 2, 3] rfl) (hD.sub [4, 5, 0, 1, 2, 3] (by decide) rfl) hS _ (lv_sub hl [2, 3, 1, 0] rfl)
            · have h := And.right h c_53
              refine lv_iconst (v := 1) hx hb d_Gues_stepBack_56 (by decide) ?_
              refine lv_goto (tgt := 61) hx hb d_Gues_stepBack_57 (by decide) ?_
              refine lv_istore_n (lv' := [(2, .int 1), (0, .ref a_gu), (1, .int x1), (3, .int x3_2)]) hx hb d_Gues_stepBack_61 rfl hl (by decide) rfl (fun ls hl => ?_)
              refine lv_iinc (v := x3_2 + 1) (lv' := [(3, .int (x3_2 + 1)), (2, .int 1), (0, .ref a_gu), (1, .int x1)]) hx hb d_Gues_stepBack_62 hl (k := 3) rfl rfl (by decide) rfl (fun ls hl => ?_)
              refine lv_goto (tgt := 4) hx hb d_Gues_stepBack_65 (by decide) ?_
              exact il _ _ _ h _ _ (hP.sub [4, 5, 0, 1, 2, 3] rfl) (hD.sub [4, 5, 0, 1, 2, 3] (by decide) rfl) hS _ (lv_sub hl [2, 3, 1, 0] rfl)
        · have h := And.right h c_25
          refine lv_aload_n hx hb d_Gues_stepBack_28 rfl (lv_at hl 0 rfl) ?_
          refine lv_iload_n hx hb d_Gues_stepBack_29 rfl (lv_at hl 3 rfl) ?_
          refine jn_i (wr := [(a_s2, .inl (cI, 4096, .inl s2_3)), (a_lp_facts, .inl (cI, 4096, .inl lp_facts))]) (va_runV (As := [.int x3_2]) (rest := [.int x3_2, .ref a_s2]) ⟨hx, hb, hml, hown, hts⟩ (c_Gues_leadsToMarked l dC dI cI cB cZ adK adV _ a_lp a_lp_facts a_lp_turns a_lp_first a_lp_src a_s1 a_gu a_gu_rounds a_s2 lp_choices lp_guesses lp_unaries lp_ranked lp_turns s1 gu_left x3_2 _ h) (cwV 1 hts (gv_ m_978 m_980 m_43 m_94 m_981) rfl rfl rfl pd_Gues_leadsToMarked ⟨Nat.le_of_ble_eq_true rfl, Nat.le_of_ble_eq_true rfl⟩) ⟨pc_blind, va_recv hK hP (ci := 3) (q0 := 3) rfl rfl, pc_of (hP.sub [4, 0, 1, 3] rfl) hK (hD.sub [4, 0, 1, 3] (by decide) rfl) hN hT hS hA⟩ rfl rfl hl.1 rfl (lv_room (Nat.le_of_ble_eq_true rfl)) d_Gues_stepBack_30 ⟨Nat.zero_le _, Nat.zero_le _⟩) hP hD hS hA [4, 0, 1, 3] [2, 5] rfl rfl (by decide) (by decide) (fun r_8 u_ H locs h hP hD hS => ?_)
          have hP : va_P (dC, dI) vwCl [(a_s2, .inl (cI, 4096, .inl s2_3)), (a_lp_facts, .inl (cI, 4096, .inl lp_facts)), (a_lp, .inr (4, [.ref a_lp_facts, .ref a_lp_turns, .ref a_lp_first, .ref a_lp_src, .ref a_s1, .int lp_choices, .int lp_guesses, .int lp_unaries, .int lp_ranked])), (a_lp_turns, .inl (cI, 24576, .inl lp_turns)), (a_s1, .inl (cI, 4096, .inl s1)), (a_gu, .inr (3, [.ref a_lp, .ref a_gu_rounds, .ref a_s1, .ref a_s2, .int gu_left]))] H := hP
          have hD : va_D A [(a_s2, .inl (cI, 4096, .inl s2_3)), (a_lp_facts, .inl (cI, 4096, .inl lp_facts)), (a_lp, .inr (4, [.ref a_lp_facts, .ref a_lp_turns, .ref a_lp_first, .ref a_lp_src, .ref a_s1, .int lp_choices, .int lp_guesses, .int lp_unaries, .int lp_ranked])), (a_lp_turns, .inl (cI, 24576, .inl lp_turns)), (a_s1, .inl (cI, 4096, .inl s1)), (a_gu, .inr (3, [.ref a_lp, .ref a_gu_rounds, .ref a_s1, .ref a_s2, .int gu_left]))] := hD
          refine lv_if_eq (tgt := 40) hx hb d_Gues_stepBack_33 (by decide) (fun c_33 => ?_) (fun c_33 => ?_)
          · have h := And.left h c_33
            refine lv_iconst (v := 0) hx hb d_Gues_stepBack_40 (by decide) ?_
            obtain ⟨hin_41, h⟩ := h
            refine va_iast hx hb hK hP hD hS 0 0 rfl rfl hin_41 d_Gues_stepBack_41 (fun H locs hP hD hS => ?_)
            have hP : va_P (dC, dI) vwCl [(a_s2, .inl (cI, 4096, .inl (upd s2_3 (x3_2 : Int32).toNatClampNeg 0))), (a_lp_facts, .inl (cI, 4096, .inl lp_facts)), (a_lp, .inr (4, [.ref a_lp_facts, .ref a_lp_turns, .ref a_lp_first, .ref a_lp_src, .ref a_s1, .int lp_choices, .int lp_guesses, .int lp_unaries, .int lp_ranked])), (a_lp_turns, .inl (cI, 24576, .inl lp_turns)), (a_s1, .inl (cI, 4096, .inl s1)), (a_gu, .inr (3, [.ref a_lp, .ref a_gu_rounds, .ref a_s1, .ref a_s2, .int gu_left]))] H := hP
            have hD : va_D A [(a_s2, .inl (cI, 4096, .inl (upd s2_3 (x3_2 : Int32).toNatClampNeg 0))), (a_lp_facts, .inl (cI, 4096, .inl lp_facts)), (a_lp, .inr (4, [.ref a_lp_facts, .ref a_lp_turns, .ref a_lp_first, .ref a_lp_src, .ref a_s1, .int lp_choices, .int lp_guesses, .int lp_unaries, .int lp_ranked])), (a_lp_turns, .inl (cI, 24576, .inl lp_turns)), (a_s1, .inl (cI, 4096, .inl s1)), (a_gu, .inr (3, [.ref a_lp, .ref a_gu_rounds, .ref a_s1, .ref a_s2, .int gu_left]))] := hD
            refine lv_iload_n hx hb d_Gues_stepBack_42 rfl (lv_at hl 2 rfl) ?_
            refine lv_if_ne (tgt := 56) hx hb d_Gues_stepBack_43 (by decide) (fun c_43 => ?_) (fun c_43 => ?_)
            · have h := And.left h c_43
              refine lv_iconst (v := 1) hx hb d_Gues_stepBack_56 (by decide) ?_
              refine lv_goto (tgt := 61) hx hb d_Gues_stepBack_57 (by decide) ?_
              refine lv_istore_n (lv' := [(2, .int 1), (0, .ref a_gu), (1, .int x1), (3, .int x3_2)]) hx hb d_Gues_stepBack_61 rfl hl (by decide) rfl (fun ls hl => ?_)
              refine lv_iinc (v := x3_2 + 1) (lv' := [(3, .int (x3_2 + 1)), (2, .int 1), (0, .ref a_gu), (1, .int x1)]) hx hb d_Gues_stepBack_62 hl (k := 3) rfl rfl (by decide) rfl (fun ls hl => ?_)
              refine lv_goto (tgt := 4) hx hb d_Gues_stepBack_65 (by decide) ?_
              exact il _ _ _ h _ _ (hP.sub [2, 1, 3, 4, 0, 5] rfl) (hD.sub [2, 1, 3, 4, 0, 5] (by decide) rfl) hS _ (lv_sub hl [2, 3, 1, 0] rfl)
            · have h := And.right h c_43
              refine lv_aload_n hx hb d_Gues_stepBack_46 rfl (lv_at hl 0 rfl) ?_
              refine va_get (D := (dC, dI)) (ci := 3) (v := .ref a_s2) (C := "LoopInduction$Guesses") (T := F_Gues) (N := 5) hx hb hts iC_Gues hown hK hP 5 rfl rfl 3 (by decide) fl_34 (fun _ h9 => h9) rfl d_Gues_stepBack_47 ?_
              refine lv_iload_n hx hb d_Gues_stepBack_50 rfl (lv_at hl 3 rfl) ?_
              obtain ⟨hin_51, h⟩ := h
              refine va_iald hx hb hK hP 0 0 rfl rfl hin_51 d_Gues_stepBack_51 ?_
              refine lv_iconst (v := 1) hx hb d_Gues_stepBack_52 (by decide) ?_
              refine lv_icmp_ne (tgt := 60) hx hb d_Gues_stepBack_53 (by decide) (fun c_53 => ?_) (fun c_53 => ?_)
              · have h := And.left h c_53
                refine lv_iconst (v := 0) hx hb d_Gues_stepBack_60 (by decide) ?_
                refine lv_istore_n (lv' := [(2, .int 0), (0, .ref a_gu), (1, .int x1), (3, .int x3_2)]) hx hb d_Gues_stepBack_61 rfl hl (by decide) rfl (fun ls hl => ?_)
                refine lv_iinc (v := x3_2 + 1) (lv' := [(3, .int (x3_2 + 1)), (2, .int 0), (0, .ref a_gu), (1, .int x1)]) hx hb d_Gues_stepBack_62 hl (k := 3) rfl rfl (by decide) rfl (fun ls hl => ?_)
                refine lv_goto (tgt := 4) hx hb d_Gues_stepBack_65 (by decide) ?_
                exact il _ _ _ h _ _ (hP.sub [2, 1, 3, 4, 0, 5] rfl) (hD.sub [2, 1, 3, 4, 0, 5] (by decide) rfl) hS _ (lv_sub hl [2, 3, 1, 0] rfl)
              · have h := And.right h c_53
                refine lv_iconst (v := 1) hx hb d_Gues_stepBack_56 (by decide) ?_
                refine lv_goto (tgt := 61) hx hb d_Gues_stepBack_57 (by decide) ?_
                refine lv_istore_n (lv' := [(2, .int 1), (0, .ref a_gu), (1, .int x1), (3, .int x3_2)]) hx hb d_Gues_stepBack_61 rfl hl (by decide) rfl (fun ls hl => ?_)
                refine lv_iinc (v := x3_2 + 1) (lv' := [(3, .int (x3_2 + 1)), (2, .int 1), (0, .ref a_gu), (1, .int x1)]) hx hb d_Gues_stepBack_62 hl (k := 3) rfl rfl (by decide) rfl (fun ls hl => ?_)
                refine lv_goto (tgt := 4) hx hb d_Gues_stepBack_65 (by decide) ?_
                exact il _ _ _ h _ _ (hP.sub [2, 1, 3, 4, 0, 5] rfl) (hD.sub [2, 1, 3, 4, 0, 5] (by decide) rfl) hS _ (lv_sub hl [2, 3, 1, 0] rfl)
          · have h := And.right h c_33
            refine lv_iconst (v := 1) hx hb d_Gues_stepBack_36 (by decide) ?_
            refine lv_goto (tgt := 41) hx hb d_Gues_stepBack_37 (by decide) ?_
            obtain ⟨hin_41, h⟩ := h
            refine va_iast hx hb hK hP hD hS 0 0 rfl rfl hin_41 d_Gues_stepBack_41 (fun H locs hP hD hS => ?_)
            have hP : va_P (dC, dI) vwCl [(a_s2, .inl (cI, 4096, .inl (upd s2_3 (x3_2 : Int32).toNatClampNeg 1))), (a_lp_facts, .inl (cI, 4096, .inl lp_facts)), (a_lp, .inr (4, [.ref a_lp_facts, .ref a_lp_turns, .ref a_lp_first, .ref a_lp_src, .ref a_s1, .int lp_choices, .int lp_guesses, .int lp_unaries, .int lp_ranked])), (a_lp_turns, .inl (cI, 24576, .inl lp_turns)), (a_s1, .inl (cI, 4096, .inl s1)), (a_gu, .inr (3, [.ref a_lp, .ref a_gu_rounds, .ref a_s1, .ref a_s2, .int gu_left]))] H := hP
            have hD : va_D A [(a_s2, .inl (cI, 4096, .inl (upd s2_3 (x3_2 : Int32).toNatClampNeg 1))), (a_lp_facts, .inl (cI, 4096, .inl lp_facts)), (a_lp, .inr (4, [.ref a_lp_facts, .ref a_lp_turns, .ref a_lp_first, .ref a_lp_src, .ref a_s1, .int lp_choices, .int lp_guesses, .int lp_unaries, .int lp_ranked])), (a_lp_turns, .inl (cI, 24576, .inl lp_turns)), (a_s1, .inl (cI, 4096, .inl s1)), (a_gu, .inr (3, [.ref a_lp, .ref a_gu_rounds, .ref a_s1, .ref a_s2, .int gu_left]))] := hD
            refine lv_iload_n hx hb d_Gues_stepBack_42 rfl (lv_at hl 2 rfl) ?_
            refine lv_if_ne (tgt := 56) hx hb d_Gues_stepBack_43 (by decide) (fun c_43 => ?_) (fun c_43 => ?_)
            · have h := And.left h c_43
              refine lv_iconst (v := 1) hx hb d_Gues_stepBack_56 (by decide) ?_
              refine lv_goto (tgt := 61) hx hb d_Gues_stepBack_57 (by decide) ?_
              refine lv_istore_n (lv' := [(2, .int 1), (0, .ref a_gu), (1, .int x1), (3, .int x3_2)]) hx hb d_Gues_stepBack_61 rfl hl (by decide) rfl (fun ls hl => ?_)
              refine lv_iinc (v := x3_2 + 1) (lv' := [(3, .int (x3_2 + 1)), (2, .int 1), (0, .ref a_gu), (1, .int x1)]) hx hb d_Gues_stepBack_62 hl (k := 3) rfl rfl (by decide) rfl (fun ls hl => ?_)
              refine lv_goto (tgt := 4) hx hb d_Gues_stepBack_65 (by decide) ?_
              exact il _ _ _ h _ _ (hP.sub [2, 1, 3, 4, 0, 5] rfl) (hD.sub [2, 1, 3, 4, 0, 5] (by decide) rfl) hS _ (lv_sub hl [2, 3, 1, 0] rfl)
            · have h := And.right h c_43
              refine lv_aload_n hx hb d_Gues_stepBack_46 rfl (lv_at hl 0 rfl) ?_
              refine va_get (D := (dC, dI)) (ci := 3) (v := .ref a_s2) (C := "LoopInduction$Guesses") (T := F_Gues) (N := 5) hx hb hts iC_Gues hown hK hP 5 rfl rfl 3 (by decide) fl_34 (fun _ h9 => h9) rfl d_Gues_stepBack_47 ?_
              refine lv_iload_n hx hb d_Gues_stepBack_50 rfl (lv_at hl 3 rfl) ?_
              obtain ⟨hin_51, h⟩ := h
              refine va_iald hx hb hK hP 0 0 rfl rfl hin_51 d_Gues_stepBack_51 ?_
              refine lv_iconst (v := 1) hx hb d_Gues_stepBack_52 (by decide) ?_
              refine lv_icmp_ne (tgt := 60) hx hb d_Gues_stepBack_53 (by decide) (fun c_53 => ?_) (fun c_53 => ?_)
              · have h := And.left h c_53
                refine lv_iconst (v := 0) hx hb d_Gues_stepBack_60 (by decide) ?_
                refine lv_istore_n (lv' := [(2, .int 0), (0, .ref a_gu), (1, .int x1), (3, .int x3_2)]) hx hb d_Gues_stepBack_61 rfl hl (by decide) rfl (fun ls hl => ?_)
                refine lv_iinc (v := x3_2 + 1) (lv' := [(3, .int (x3_2 + 1)), (2, .int 0), (0, .ref a_gu), (1, .int x1)]) hx hb d_Gues_stepBack_62 hl (k := 3) rfl rfl (by decide) rfl (fun ls hl => ?_)
                refine lv_goto (tgt := 4) hx hb d_Gues_stepBack_65 (by decide) ?_
                exact il _ _ _ h _ _ (hP.sub [2, 1, 3, 4, 0, 5] rfl) (hD.sub [2, 1, 3, 4, 0, 5] (by decide) rfl) hS _ (lv_sub hl [2, 3, 1, 0] rfl)
              · have h := And.right h c_53
                refine lv_iconst (v := 1) hx hb d_Gues_stepBack_56 (by decide) ?_
                refine lv_goto (tgt := 61) hx hb d_Gues_stepBack_57 (by decide) ?_
                refine lv_istore_n (lv' := [(2, .int 1), (0, .ref a_gu), (1, .int x1), (3, .int x3_2)]) hx hb d_Gues_stepBack_61 rfl hl (by decide) rfl (fun ls hl => ?_)
                refine lv_iinc (v := x3_2 + 1) (lv' := [(3, .int (x3_2 + 1)), (2, .int 1), (0, .ref a_gu), (1, .int x1)]) hx hb d_Gues_stepBack_62 hl (k := 3) rfl rfl (by decide) rfl (fun ls hl => ?_)
                refine lv_goto (tgt := 4) hx hb d_Gues_stepBack_65 (by decide) ?_
                exact il _ _ _ h _ _ (hP.sub [2, 1, 3, 4, 0, 5] rfl) (hD.sub [2, 1, 3, 4, 0, 5] (by decide) rfl) hS _ (lv_sub hl [2, 3, 1, 0] rfl)
  obtain ⟨n_, h⟩ := h
  refine L4_q_4 _ ?_ n_ _ _ _ h _ _ hP hD hS _ (lv_sub hl [2, 3, 1, 0] rfl)
  intro x2_9 s2_10 h
  intro H locs hP hD hS ls hl
  refine lv_aload_n hx hb d_Gues_stepBack_68 rfl (lv_at hl 0 rfl) ?_
  refine va_get (D := (dC, dI)) (ci := 3) (v := .ref a_s2) (C := "LoopInduction$Guesses") (T := F_Gues) (N := 5) hx hb hts iC_Gues hown hK hP 5 rfl rfl 3 (by decide) fl_34 (fun _ h9 => h9) rfl d_Gues_stepBack_69 ?_
  refine lv_iconst (v := 0) hx hb d_Gues_stepBack_72 (by decide) ?_
  refine lv_aload_n hx hb d_Gues_stepBack_73 rfl (lv_at hl 0 rfl) ?_
  refine va_get (D := (dC, dI)) (ci := 3) (v := .ref a_s1) (C := "LoopInduction$Guesses") (T := F_Gues) (N := 5) hx hb hts iC_Gues hown hK hP 5 rfl rfl 2 (by decide) fl_29 (fun _ h9 => h9) rfl d_Gues_stepBack_74 ?_
  refine lv_iconst (v := 0) hx hb d_Gues_stepBack_77 (by decide) ?_
  refine lv_sipush (v := 4096) hx hb d_Gues_stepBack_78 (by decide) ?_
  refine va_copyi (ty := .int) hx hb (by rw [hml]; exact hl.1.symm) hown (hts _ (List.mem_cons_of_mem _ m_983)) (hts _ (List.mem_cons_of_mem _ m_985)) (hts _ (List.mem_cons_of_mem _ m_984)) (hts _ (List.mem_cons_of_mem _ m_104)) hK hP hD hS 4 3 0 0 rfl rfl rfl rfl rfl (by decide) (by decide) (by decide) (by decide) (by decide) (fun _ _ => rfl) (Nat.le_of_ble_eq_true rfl) (by decide) d_Gues_stepBack_81 (fun H locs hP hD hS => ?_)
  have hP : va_P (dC, dI) vwCl [(a_lp, .inr (4, [.ref a_lp_facts, .ref a_lp_turns, .ref a_lp_first, .ref a_lp_src, .ref a_s1, .int lp_choices, .int lp_guesses, .int lp_unaries, .int lp_ranked])), (a_lp_facts, .inl (cI, 4096, .inl lp_facts)), (a_lp_turns, .inl (cI, 24576, .inl lp_turns)), (a_s1, .inl (cI, 4096, .inl (va_cpy s2_10 s1 0 0 4096))), (a_s2, .inl (cI, 4096, .inl s2_10)), (a_gu, .inr (3, [.ref a_lp, .ref a_gu_rounds, .ref a_s1, .ref a_s2, .int gu_left]))] H := hP
  have hD : va_D A [(a_lp, .inr (4, [.ref a_lp_facts, .ref a_lp_turns, .ref a_lp_first, .ref a_lp_src, .ref a_s1, .int lp_choices, .int lp_guesses, .int lp_unaries, .int lp_ranked])), (a_lp_facts, .inl (cI, 4096, .inl lp_facts)), (a_lp_turns, .inl (cI, 24576, .inl lp_turns)), (a_s1, .inl (cI, 4096, .inl (va_cpy s2_10 s1 0 0 4096))), (a_s2, .inl (cI, 4096, .inl s2_10)), (a_gu, .inr (3, [.ref a_lp, .ref a_gu_rounds, .ref a_s1, .ref a_s2, .int gu_left]))] := hD
  refine lv_iload_n hx hb d_Gues_stepBack_84 rfl (lv_at hl 1 rfl) ?_
  rw [← hQ]
  have hP9 := hP
  have hD9 := hD
  obtain ⟨hz9, h⟩ := h
  exact W.zret (v := x2_9) hx hb hr (vp_zn hz9) (fun t ht hW => ⟨⟨x2_9, (va_cpy s2_10 s1 0 0 4096, s2_10), rfl, h, by rw [ht]; exact hP9, va_K.moved hW.alike hK, hD9⟩, hS.F ht⟩) hS.2.2 d_Gues_stepBack_85
set_option maxHeartbeats 4000000 in
set_option maxRecDepth 100000 in
theorem c_Gues_leastInduction (l : Launch) (dC : Nat → ClassId) (dI : Nat → Nat → Nat) (cI cB cZ : ClassId) (adK adV : Nat → Nat) (sz : Nat) (a_lp a_lp_facts a_lp_turns a_lp_first a_lp_src a_s1 a_s2 a_gu a_gu_rounds : Nat) (lp_choices : Int32) (lp_guesses : Int32) (lp_unaries : Int32) (lp_ranked : Int32) (lp_facts : Nat → Int32) (lp_turns : Nat → Int32) (s1 : Nat → Int32) (s2 : Nat → Int32) (gu_left : Int32) (x1 : Int32) (x2 : Int32) (post : Int32 → (Nat → Int32) → (Nat → Int32) → Prop) (h : wp_Gues_leastInduction x1 x2 lp_choices lp_facts lp_turns s1 s2 gu_left post) : Met l y_Gues_leastInduction w_Gues_leastInduction ({ frames := 4, cells := 0, slots := 0, locals := 88 }) (pc_ (dC, dI) [(cI, .int), (cB, .byte), (cZ, .boolean)] [(a_lp, .inr (4, [.ref a_lp_facts, .ref a_lp_turns, .ref a_lp_first, .ref a_lp_src, .ref a_s1, .int lp_choices, .int lp_guesses, .int lp_unaries, .int lp_ranked])), (a_lp_facts, .inl (cI, 4096, .inl lp_facts)), (a_lp_turns, .inl (cI, 24576, .inl lp_turns)), (a_s1, .inl (cI, 4096, .inl s1)), (a_s2, .inl (cI, 4096, .inl s2)), (a_gu, .inr (3, [.ref a_lp, .ref a_gu_rounds, .ref a_s1, .ref a_s2, .int gu_left]))] sz adK adV [.ref a_gu, .int x1, .int x2]) (va_Qi (fun (r : Int32) (u : (Nat → Int32) × (Nat → Int32)) => post r u.1 u.2) (fun (u : (Nat → Int32) × (Nat → Int32)) t => bw_ (dC, dI) [(cI, .int), (cB, .byte), (cZ, .boolean)] (va_A [(a_lp, .inr (4, [.ref a_lp_facts, .ref a_lp_turns, .ref a_lp_first, .ref a_lp_src, .ref a_s1, .int lp_choices, .int lp_guesses, .int lp_unaries, .int lp_ranked])), (a_lp_facts, .inl (cI, 4096, .inl lp_facts)), (a_lp_turns, .inl (cI, 24576, .inl lp_turns)), (a_s1, .inl (cI, 4096, .inl s1)), (a_s2, .inl (cI, 4096, .inl s2)), (a_gu, .inr (3, [.ref a_lp, .ref a_gu_rounds, .ref a_s1, .ref a_s2, .int gu_left]))] sz) [(a_lp, .inr (4, [.ref a_lp_facts, .ref a_lp_turns, .ref a_lp_first, .ref a_lp_src, .ref a_s1, .int lp_choices, .int lp_guesses, .int lp_unaries, .int lp_ranked])), (a_lp_facts, .inl (cI, 4096, .inl lp_facts)), (a_lp_turns, .inl (cI, 24576, .inl lp_turns)), (a_s1, .inl (cI, 4096, .inl u.1)), (a_s2, .inl (cI, 4096, .inl u.2)), (a_gu, .inr (3, [.ref a_lp, .ref a_gu_rounds, .ref a_s1, .ref a_s2, .int gu_left]))] t) (va_A [(a_lp, .inr (4, [.ref a_lp_facts, .ref a_lp_turns, .ref a_lp_first, .ref a_lp_src, .ref a_s1, .int lp_choices, .int lp_guesses, .int lp_unaries, .int lp_ranked])), (a_lp_facts, .inl (cI, 4096, .inl lp_facts)), (a_lp_turns, .inl (cI, 24576, .inl lp_turns)), (a_s1, .inl (cI, 4096, .inl s1)), (a_s2, .inl (cI, 4096, .inl s2)), (a_gu, .inr (3, [.ref a_lp, .ref a_gu_rounds, .ref a_s1, .ref a_s2, .int gu_left]))] sz)) 0 0 (va_A [(a_lp, .inr (4, [.ref a_lp_facts, .ref a_lp_turns, .ref a_lp_first, .ref a_lp_src, .ref a_s1, .int lp_choices, .int lp_guesses, .int lp_unaries, .int lp_ranked])), (a_lp_facts, .inl (cI, 4096, .inl lp_facts)), (a_lp_turns, .inl (cI, 24576, .inl lp_turns)), (a_s1, .inl (cI, 4096, .inl s1)), (a_s2, .inl (cI, 4096, .inl s2)), (a_gu, .inr (3, [.ref a_lp, .ref a_gu_rounds, .ref a_s1, .ref a_s2, .int gu_left]))] sz) := by
  refine Met.ofW (cc := b_Gues_leastInduction) (maxL := 5) (ret := (some .int)) (by decide) rfl ?_
  intro p e s m args below meth c s₁ B hml hv
  obtain ⟨rfl, hsz, hP, hK, hD0, hN, hT⟩ := hv
  have hx := B.exec
  have hb := B.bytes
  have hr := B.returns
  have hts := atoms_spec (ws := w_Gues_leastInduction) B.pre
  have hown : s.vm.findClass "LoopInduction$Guesses" = some m.cls := findClass_of_methodNamed B.named
  have hlocks := B.notSynchronized
  subst hsz
  have hD := hD0.self (sz := s.heap.size)
  generalize hAe : va_A [(a_lp, .inr (4, [.ref a_lp_facts, .ref a_lp_turns, .ref a_lp_first, .ref a_lp_src, .ref a_s1, .int lp_choices, .int lp_guesses, .int lp_unaries, .int lp_ranked])), (a_lp_facts, .inl (cI, 4096, .inl lp_facts)), (a_lp_turns, .inl (cI, 24576, .inl lp_turns)), (a_s1, .inl (cI, 4096, .inl s1)), (a_s2, .inl (cI, 4096, .inl s2)), (a_gu, .inr (3, [.ref a_lp, .ref a_gu_rounds, .ref a_s1, .ref a_s2, .int gu_left]))] s.heap.size = A at hD hT ⊢
  have hA : ∀ q : Nat, s.heap.size ≤ q → A q := fun q h => by rw [← hAe]; exact Or.inr h
  have hS : va_S A s.heap s.heap [] := va_S.rf
  generalize hQ : MQ below _ _ s 0 0 _ = QQ
  have hl := lv_entry ([.ref a_gu, .int x1, .int x2]) (n := 5) (Nat.le_of_ble_eq_true rfl)
  rw [lg_entry_eq]
  generalize (lg_sl ([.ref a_gu, .int x1, .int x2]) ++ List.replicate (5 - (lg_sl ([.ref a_gu, .int x1, .int x2])).length) Slot.unset).toArray = ls at hl ⊢
  have hl : lv_has ls 5 [(0, .ref a_gu), (1, .int x1), (2, .int x2)] := hl
  have fl_19 := (hts _ (List.mem_cons_of_mem _ m_333))
  have fl_29 := (hts _ (List.mem_cons_of_mem _ m_335))
  refine lv_iload_n hx hb d_Gues_leastInduction_0 rfl (lv_at hl 1 rfl) ?_
  refine lv_if_eq (tgt := 13) hx hb d_Gues_leastInduction_1 (by decide) (fun c_1 => ?_) (fun c_1 => ?_)
  · have h := And.left h c_1
    refine lv_iconst (v := 2) hx hb d_Gues_leastInduction_13 (by decide) ?_
    refine lv_istore_n (lv' := [(3, .int 2), (0, .ref a_gu), (1, .int x1), (2, .int x2)]) hx hb d_Gues_leastInduction_14 rfl hl (by decide) rfl (fun ls hl => ?_)
    refine lv_iconst (v := 0) hx hb d_Gues_leastInduction_15 (by decide) ?_
    refine lv_istore (lv' := [(4, .int 0), (3, .int 2), (0, .ref a_gu), (1, .int x1), (2, .int x2)]) hx hb d_Gues_leastInduction_16 hl (by decide) rfl (fun ls hl => ?_)
    have L18_q_3 : ∀ (k57 : (Nat → Int32) → Prop) (hk57 : ∀ (s1_4 : Nat → Int32), k57 s1_4 → ∀ (H : Heap) (locs : List Loc), va_P (dC, dI) vwCl [(a_lp, .inr (4, [.ref a_lp_facts, .ref a_lp_turns, .ref a_lp_first, .ref a_lp_src, .ref a_s1, .int lp_choices, .int lp_guesses, .int lp_unaries, .int lp_ranked])), (a_lp_facts, .inl (cI, 4096, .inl lp_facts)), (a_lp_turns, .inl (cI, 24576, .inl lp_turns)), (a_s1, .inl (cI, 4096, .inl s1_4)), (a_s2, .inl (cI, 4096, .inl s2)), (a_gu, .inr (3, [.ref a_lp, .ref a_gu_rounds, .ref a_s1, .ref a_s2, .int gu_left]))] H → va_D A [(a_lp, .inr (4, [.ref a_lp_facts, .ref a_lp_turns, .ref a_lp_first, .ref a_lp_src, .ref a_s1, .int lp_choices, .int lp_guesses, .int lp_unaries, .int lp_ranked])), (a_lp_facts, .inl (cI, 4096, .inl lp_facts)), (a_lp_turns, .inl (cI, 24576, .inl lp_turns)), (a_s1, .inl (cI, 4096, .inl s1_4)), (a_s2, .inl (cI, 4096, .inl s2)), (a_gu, .inr (3, [.ref a_lp, .ref a_gu_rounds, .ref a_s1, .ref a_s2, .int gu_left]))] → va_S A s.heap H locs → ∀ ls : Array Slot, lv_has ls 5 [(0, .ref a_gu), (2, .int x2), (3, .int 2)] → W p l e (headSpec w_Gues_leastInduction ({ frames := 4, cells := 0, slots := 0, locals := 88 })).room s m (([.ref a_gu, .int x1, .int x2] : List Value).toArray) below meth c H locs 0 0 QQ (F0 m 57 ls [])) (n : Nat) (x4_1 : Int32) (s1_2 : Nat → Int32), wp_Gues_leastInduction_L18 x2 2 lp_facts k57 n x4_1 s1_2 → ∀ (H : Heap) (locs : List Loc), va_P (dC, dI) vwCl [(a_lp, .inr (4, [.ref a_lp_facts, .ref a_lp_turns, .ref a_lp_first, .ref a_lp_src, .ref a_s1, .int lp_choices, .int lp_guesses, .int lp_unaries, .int lp_ranked])), (a_lp_facts, .inl (cI, 4096, .inl lp_facts)), (a_lp_turns, .inl (cI, 24576, .inl lp_turns)), (a_s1, .inl (cI, 4096, .inl s1_2)), (a_s2, .inl (cI, 4096, .inl s2)), (a_gu, .inr (3, [.ref a_lp, .ref a_gu_rounds, .ref a_s1, .ref a_s2, .int gu_left]))] H → va_D A [(a_lp, .inr (4, [.ref a_lp_facts, .ref a_lp_turns, .ref a_lp_first, .ref a_lp_src, .ref a_s1, .int lp_choices, .int lp_guesses, .int lp_unaries, .int lp_ranked])), (a_lp_facts, .inl (cI, 4096, .inl lp_facts)), (a_lp_turns, .inl (cI, 24576, .inl lp_turns)), (a_s1, .inl (cI, 4096, .inl s1_2)), (a_s2, .inl (cI, 4096, .inl s2)), (a_gu, .inr (3, [.ref a_lp, .ref a_gu_rounds, .ref a_s1, .ref a_s2, .int gu_left]))] → va_S A s.heap H locs → ∀ ls : Array Slot, lv_has ls 5 [(0, .ref a_gu), (2, .int x2), (3, .int 2), (4, .int x4_1)] → W p l e (headSpec w_Gues_leastInduction ({ frames := 4, cells := 0, slots := 0, locals := 88 })).room s m (([.ref a_gu, .int x1, .int x2] : List Value).toArray) below meth c H locs 0 0 QQ (F0 m 18 ls []) := by
      intro k57 hk57 n
      induction n with
      | zero => intro x4_1 s1_2 h; exact (show False from h).elim
      | succ n il =>
        intro x4_1 s1_2 h
        intro H locs hP hD hS ls hl
        refine lv_iload hx hb d_Gues_leastInduction_18 (lv_at hl 3 rfl) ?_
        refine lv_sipush (v := 4096) hx hb d_Gues_leastInduction_20 (by decide) ?_
        refine lv_icmp_ge (tgt := 57) hx hb d_Gues_leastInduction_23 (by decide) (fun c_23 => ?_) (fun c_23 => ?_)
        · have h := And.left h c_23
          exact hk57 _ h _ _ hP hD hS _ (lv_sub hl [0, 1, 2] rfl)
        · have h := And.right h c_23
          refine lv_aload_n hx hb d_Gues_leastInduction_26 rfl (lv_at hl 0 rfl) ?_
          refine va_get (D := (dC, dI)) (ci := 3) (v := .ref a_s1) (C := "LoopInduction$Guesses") (T := F_Gues) (N := 5) hx hb hts iC_Gues hown hK hP 5 rfl rfl 2 (by decide) fl_29 (fun _ h9 => h9) rfl d_Gues_leastInduction_27 ?_
          refine lv_iload hx hb d_Gues_leastInduction_30 (lv_at hl 3 rfl) ?_
          refine lv_aload_n hx hb d_Gues_leastInduction_32 rfl (lv_at hl 0 rfl) ?_
          refine va_get (D := (dC, dI)) (ci := 3) (v := .ref a_lp) (C := "LoopInduction$Guesses") (T := F_Gues) (N := 5) hx hb hts iC_Gues hown hK hP 5 rfl rfl 0 (by decide) fl_19 (fun _ h9 => h9) rfl d_Gues_leastInduction_33 ?_
          refine lv_iload hx hb d_Gues_leastInduction_36 (lv_at hl 3 rfl) ?_
          refine lv_iconst (v := 2) hx hb d_Gues_leastInduction_38 (by decide) ?_
          refine jn_i (wr := [(a_lp_turns, .inl (cI, 24576, .inl lp_turns)), (a_s1, .inl (cI, 4096, .inl s1_2)), (a_s2, .inl (cI, 4096, .inl s2)), (a_gu, .inr (3, [.ref a_lp, .ref a_gu_rounds, .ref a_s1, .ref a_s2, .int gu_left]))]) (va_runV (As := [.int x4_1, .int 2]) (rest := [.int x4_1, .ref a_s1]) ⟨hx, hb, hml, hown, hts⟩ (c_Loop_hasAll l dC dI cI cB cZ adK adV _ a_lp a_lp_facts a_lp_turns a_lp_first a_lp_src a_s1 lp_choices lp_guesses lp_unaries lp_ranked lp_facts x4_1 2 _ h) (cwV 2 hts (gv_ m_863 m_785 m_786 m_92 m_787) rfl rfl rfl pd_Loop_hasAll ⟨Nat.le_of_ble_eq_true rfl, Nat.le_of_ble_eq_true rfl⟩) ⟨pc_blind, va_recv hK hP (ci := 4) (q0 := 0) rfl rfl, pc_of (hP.sub [0, 1] rfl) hK (hD.sub [0, 1] (by decide) rfl) hN hT hS hA⟩ rfl rfl hl.1 rfl (lv_room (Nat.le_of_ble_eq_true rfl)) d_Gues_leastInduction_39 ⟨Nat.zero_le _, Nat.zero_le _⟩) hP hD hS hA [0, 1] [2, 3, 4, 5] rfl rfl (by decide) (by decide) (fun r_5 u_ H locs h hP hD hS => ?_)
          have hP : va_P (dC, dI) vwCl [(a_lp_turns, .inl (cI, 24576, .inl lp_turns)), (a_s1, .inl (cI, 4096, .inl s1_2)), (a_s2, .inl (cI, 4096, .inl s2)), (a_gu, .inr (3, [.ref a_lp, .ref a_gu_rounds, .ref a_s1, .ref a_s2, .int gu_left])), (a_lp, .inr (4, [.ref a_lp_facts, .ref a_lp_turns, .ref a_lp_first, .ref a_lp_src, .ref a_s1, .int lp_choices, .int lp_guesses, .int lp_unaries, .int lp_ranked])), (a_lp_facts, .inl (cI, 4096, .inl lp_facts))] H := hP
          have hD : va_D A [(a_lp_turns, .inl (cI, 24576, .inl lp_turns)), (a_s1, .inl (cI, 4096, .inl s1_2)), (a_s2, .inl (cI, 4096, .inl s2)), (a_gu, .inr (3, [.ref a_lp, .ref a_gu_rounds, .ref a_s1, .ref a_s2, .int gu_left])), (a_lp, .inr (4, [.ref a_lp_facts, .ref a_lp_turns, .ref a_lp_first, .ref a_lp_src, .ref a_s1, .int lp_choices, .int lp_guesses, .int lp_unaries, .int lp_ranked])), (a_lp_facts, .inl (cI, 4096, .inl lp_facts))] := hD
          refine lv_if_eq (tgt := 49) hx hb d_Gues_leastInduction_42 (by decide) (fun c_42 => ?_) (fun c_42 => ?_)
          · have h := And.left h c_42
            refine lv_iconst (v := 1) hx hb d_Gues_leastInduction_49 (by decide) ?_
            obtain ⟨hin_50, h⟩ := h
            refine va_iast hx hb hK hP hD hS 1 0 rfl rfl hin_50 d_Gues_leastInduction_50 (fun H locs hP hD hS => ?_)
            have hP : va_P (dC, dI) vwCl [(a_lp_turns, .inl (cI, 24576, .inl lp_turns)), (a_s1, .inl (cI, 4096, .inl (upd s1_2 (x4_1 : Int32).toNatClampNeg 1))), (a_s2, .inl (cI, 4096, .inl s2)), (a_gu, .inr (3, [.ref a_lp, .ref a_gu_rounds, .ref a_s1, .ref a_s2, .int gu_left])), (a_lp, .inr (4, [.ref a_lp_facts, .ref a_lp_turns, .ref a_lp_first, .ref a_lp_src, .ref a_s1, .int lp_choices, .int lp_guesses, .int lp_unaries, .int lp_ranked])), (a_lp_facts, .inl (cI, 4096, .inl lp_facts))] H := hP
            have hD : va_D A [(a_lp_turns, .inl (cI, 24576, .inl lp_turns)), (a_s1, .inl (cI, 4096, .inl (upd s1_2 (x4_1 : Int32).toNatClampNeg 1))), (a_s2, .inl (cI, 4096, .inl s2)), (a_gu, .inr (3, [.ref a_lp, .ref a_gu_rounds, .ref a_s1, .ref a_s2, .int gu_left])), (a_lp, .inr (4, [.ref a_lp_facts, .ref a_lp_turns, .ref a_lp_first, .ref a_lp_src, .ref a_s1, .int lp_choices, .int lp_guesses, .int lp_unaries, .int lp_ranked])), (a_lp_facts, .inl (cI, 4096, .inl lp_facts))] := hD
            refine lv_iinc (v := x4_1 + 1) (lv' := [(4, .int (x4_1 + 1)), (0, .ref a_gu), (2, .int x2), (3, .int 2)]) hx hb d_Gues_leastInduction_51 hl (k := 3) rfl rfl (by decide) rfl (fun ls hl => ?_)
            refine lv_goto (tgt := 18) hx hb d_Gues_leastInduction_54 (by decide) ?_
            exact il _ _ h _ _ (hP.sub [4, 5, 0, 1, 2, 3] rfl) (hD.sub [4, 5, 0, 1, 2, 3] (by decide) rfl) hS _ (lv_sub hl [1, 2, 3, 0] rfl)
          · have h := And.right h c_42
            refine lv_iconst (v := 0) hx hb d_Gues_leastInduction_45 (by decide) ?_
            refine lv_goto (tgt := 50) hx hb d_Gues_leastInduction_46 (by decide) ?_
            obtain ⟨hin_50, h⟩ := h
            refine va_iast hx hb hK hP hD hS 1 0 rfl rfl hin_50 d_Gues_leastInduction_50 (fun H locs hP hD hS => ?_)
            have hP : va_P (dC, dI) vwCl [(a_lp_turns, .inl (cI, 24576, .inl lp_turns)), (a_s1, .inl (cI, 4096, .inl (upd s1_2 (x4_1 : Int32).toNatClampNeg 0))), (a_s2, .inl (cI, 4096, .inl s2)), (a_gu, .inr (3, [.ref a_lp, .ref a_gu_rounds, .ref a_s1, .ref a_s2, .int gu_left])), (a_lp, .inr (4, [.ref a_lp_facts, .ref a_lp_turns, .ref a_lp_first, .ref a_lp_src, .ref a_s1, .int lp_choices, .int lp_guesses, .int lp_unaries, .int lp_ranked])), (a_lp_facts, .inl (cI, 4096, .inl lp_facts))] H := hP
            have hD : va_D A [(a_lp_turns, .inl (cI, 24576, .inl lp_turns)), (a_s1, .inl (cI, 4096, .inl (upd s1_2 (x4_1 : Int32).toNatClampNeg 0))), (a_s2, .inl (cI, 4096, .inl s2)), (a_gu, .inr (3, [.ref a_lp, .ref a_gu_rounds, .ref a_s1, .ref a_s2, .int gu_left])), (a_lp, .inr (4, [.ref a_lp_facts, .ref a_lp_turns, .ref a_lp_first, .ref a_lp_src, .ref a_s1, .int lp_choices, .int lp_guesses, .int lp_unaries, .int lp_ranked])), (a_lp_facts, .inl (cI, 4096, .inl lp_facts))] := hD
            refine lv_iinc (v := x4_1 + 1) (lv' := [(4, .int (x4_1 + 1)), (0, .ref a_gu), (2, .int x2), (3, .int 2)]) hx hb d_Gues_leastInduction_51 hl (k := 3) rfl rfl (by decide) rfl (fun ls hl => ?_)
            refine lv_goto (tgt := 18) hx hb d_Gues_leastInduction_54 (by decide) ?_
            exact il _ _ h _ _ (hP.sub [4, 5, 0, 1, 2, 3] rfl) (hD.sub [4, 5, 0, 1, 2, 3] (by decide) rfl) hS _ (lv_sub hl [1, 2, 3, 0] rfl)
    obtain ⟨n_, h⟩ := h
    refine L18_q_3 _ ?_ n_ _ _ h _ _ hP hD hS _ (lv_sub hl [2, 4, 1, 0] rfl)
    intro s1_6 h
    intro H locs hP hD hS ls hl
    refine lv_iconst (v := 1) hx hb d_Gues_leastInduction_57 (by decide) ?_
    refine lv_istore (lv' := [(4, .int 1), (0, .ref a_gu), (2, .int x2), (3, .int 2)]) hx hb d_Gues_leastInduction_58 hl (by decide) rfl (fun ls hl => ?_)
    have L60_q_10 : ∀ (k97 : (Nat → Int32) → (Nat → Int32) → Prop) (hk97 : ∀ (s1_11 : Nat → Int32) (s2_12 : Nat → Int32), k97 s1_11 s2_12 → ∀ (H : Heap) (locs : List Loc), va_P (dC, dI) vwCl [(a_lp, .inr (4, [.ref a_lp_facts, .ref a_lp_turns, .ref a_lp_first, .ref a_lp_src, .ref a_s1, .int lp_choices, .int lp_guesses, .int lp_unaries, .int lp_ranked])), (a_lp_facts, .inl (cI, 4096, .inl lp_facts)), (a_lp_turns, .inl (cI, 24576, .inl lp_turns)), (a_s1, .inl (cI, 4096, .inl s1_11)), (a_s2, .inl (cI, 4096, .inl s2_12)), (a_gu, .inr (3, [.ref a_lp, .ref a_gu_rounds, .ref a_s1, .ref a_s2, .int gu_left]))] H → va_D A [(a_lp, .inr (4, [.ref a_lp_facts, .ref a_lp_turns, .ref a_lp_first, .ref a_lp_src, .ref a_s1, .int lp_choices, .int lp_guesses, .int lp_unaries, .int lp_ranked])), (a_lp_facts, .inl (cI, 4096, .inl lp_facts)), (a_lp_turns, .inl (cI, 24576, .inl lp_turns)), (a_s1, .inl (cI, 4096, .inl s1_11)), (a_s2, .inl (cI, 4096, .inl s2_12)), (a_gu, .inr (3, [.ref a_lp, .ref a_gu_rounds, .ref a_s1, .ref a_s2, .int gu_left]))] → va_S A s.heap H locs → ∀ ls : Array Slot, lv_has ls 5 [] → W p l e (headSpec w_Gues_leastInduction ({ frames := 4, cells := 0, slots := 0, locals := 88 })).room s m (([.ref a_gu, .int x1, .int x2] : List Value).toArray) below meth c H locs 0 0 QQ (F0 m 97 ls [])) (k78 : (Nat → Int32) → (Nat → Int32) → Prop) (hk78 : ∀ (s1_13 : Nat → Int32) (s2_14 : Nat → Int32), k78 s1_13 s2_14 → ∀ (H : Heap) (locs : List Loc), va_P (dC, dI) vwCl [(a_lp, .inr (4, [.ref a_lp_facts, .ref a_lp_turns, .ref a_lp_first, .ref a_lp_src, .ref a_s1, .int lp_choices, .int lp_guesses, .int lp_unaries, .int lp_ranked])), (a_lp_facts, .inl (cI, 4096, .inl lp_facts)), (a_lp_turns, .inl (cI, 24576, .inl lp_turns)), (a_s1, .inl (cI, 4096, .inl s1_13)), (a_s2, .inl (cI, 4096, .inl s2_14)), (a_gu, .inr (3, [.ref a_lp, .ref a_gu_rounds, .ref a_s1, .ref a_s2, .int gu_left]))] H → va_D A [(a_lp, .inr (4, [.ref a_lp_facts, .ref a_lp_turns, .ref a_lp_first, .ref a_lp_src, .ref a_s1, .int lp_choices, .int lp_guesses, .int lp_unaries, .int lp_ranked])), (a_lp_facts, .inl (cI, 4096, .inl lp_facts)), (a_lp_turns, .inl (cI, 24576, .inl lp_turns)), (a_s1, .inl (cI, 4096, .inl s1_13)), (a_s2, .inl (cI, 4096, .inl s2_14)), (a_gu, .inr (3, [.ref a_lp, .ref a_gu_rounds, .ref a_s1, .ref a_s2, .int gu_left]))] → va_S A s.heap H locs → ∀ ls : Array Slot, lv_has ls 5 [] → W p l e (headSpec w_Gues_leastInduction ({ frames := 4, cells := 0, slots := 0, locals := 88 })).room s m (([.ref a_gu, .int x1, .int x2] : List Value).toArray) below meth c H locs 0 0 QQ (F0 m 78 ls [])) (k88 : Int32 → (Nat → Int32) → (Nat → Int32) → Prop) (hk88 : ∀ (x4_15 : Int32) (s1_16 : Nat → Int32) (s2_17 : Nat → Int32), k88 x4_15 s1_16 s2_17 → ∀ (H : Heap) (locs : List Loc), va_P (dC, dI) vwCl [(a_lp, .inr (4, [.ref a_lp_facts, .ref a_lp_turns, .ref a_lp_first, .ref a_lp_src, .ref a_s1, .int lp_choices, .int lp_guesses, .int lp_unaries, .int lp_ranked])), (a_lp_facts, .inl (cI, 4096, .inl lp_facts)), (a_lp_turns, .inl (cI, 24576, .inl lp_turns)), (a_s1, .inl (cI, 4096, .inl s1_16)), (a_s2, .inl (cI, 4096, .inl s2_17)), (a_gu, .inr (3, [.ref a_lp, .ref a_gu_rounds, .ref a_s1, .ref a_s2, .int gu_left]))] H → va_D A [(a_lp, .inr (4, [.ref a_lp_facts, .ref a_lp_turns, .ref a_lp_first, .ref a_lp_src, .ref a_s1, .int lp_choices, .int lp_guesses, .int lp_unaries, .int lp_ranked])), (a_lp_facts, .inl (cI, 4096, .inl lp_facts)), (a_lp_turns, .inl (cI, 24576, .inl lp_turns)), (a_s1, .inl (cI, 4096, .inl s1_16)), (a_s2, .inl (cI, 4096, .inl s2_17)), (a_gu, .inr (3, [.ref a_lp, .ref a_gu_rounds, .ref a_s1, .ref a_s2, .int gu_left]))] → va_S A s.heap H locs → ∀ ls : Array Slot, lv_has ls 5 [(4, .int x4_15)] → W p l e (headSpec w_Gues_leastInduction ({ frames := 4, cells := 0, slots := 0, locals := 88 })).room s m (([.ref a_gu, .int x1, .int x2] : List Value).toArray) below meth c H locs 0 0 QQ (F0 m 88 ls [])) (n : Nat) (x4_7 : Int32) (s1_8 : Nat → Int32) (s2_9 : Nat → Int32), wp_Gues_leastInduction_L60 x2 2 lp_choices lp_facts lp_turns k97 k78 k88 n x4_7 s1_8 s2_9 → ∀ (H : Heap) (locs : List Loc), va_P (dC, dI) vwCl [(a_lp, .inr (4, [.ref a_lp_facts, .ref a_lp_turns, .ref a_lp_first, .ref a_lp_src, .ref a_s1, .int lp_choices, .int lp_guesses, .int lp_unaries, .int lp_ranked])), (a_lp_facts, .inl (cI, 4096, .inl lp_facts)), (a_lp_turns, .inl (cI, 24576, .inl lp_turns)), (a_s1, .inl (cI, 4096, .inl s1_8)), (a_s2, .inl (cI, 4096, .inl s2_9)), (a_gu, .inr (3, [.ref a_lp, .ref a_gu_rounds, .ref a_s1, .ref a_s2, .int gu_left]))] H → va_D A [(a_lp, .inr (4, [.ref a_lp_facts, .ref a_lp_turns, .ref a_lp_first, .ref a_lp_src, .ref a_s1, .int lp_choices, .int lp_guesses, .int lp_unaries, .int lp_ranked])), (a_lp_facts, .inl (cI, 4096, .inl lp_facts)), (a_lp_turns, .inl (cI, 24576, .inl lp_turns)), (a_s1, .inl (cI, 4096, .inl s1_8)), (a_s2, .inl (cI, 4096, .inl s2_9)), (a_gu, .inr (3, [.ref a_lp, .ref a_gu_rounds, .ref a_s1, .ref a_s2, .int gu_left]))] → va_S A s.heap H locs → ∀ ls : Array Slot, lv_has ls 5 [(0, .ref a_gu), (2, .int x2), (3, .int 2), (4, .int x4_7)] → W p l e (headSpec w_Gues_leastInduction ({ frames := 4, cells := 0, slots := 0, locals := 88 })).room s m (([.ref a_gu, .int x1, .int x2] : List Value).toArray) below meth c H locs 0 0 QQ (F0 m 60 ls []) := by
      intro k97 hk97 k78 hk78 k88 hk88 n
      induction n with
      | zero => intro x4_7 s1_8 s2_9 h; exact (show False from h).elim
      | succ n il =>
        intro x4_7 s1_8 s2_9 h
        intro H locs hP hD hS ls hl
        refine lv_iload hx hb d_Gues_leastInduction_60 (lv_at hl 3 rfl) ?_
        refine lv_bipush (v := 16) hx hb d_Gues_leastInduction_62 (by decide) ?_
        refine lv_icmp_gt (tgt := 97) hx hb d_Gues_leastInduction_64 (by decide) (fun c_64 => ?_) (fun c_64 => ?_)
        · have h := And.left h c_64
          exact hk97 _ _ h _ _ hP hD hS _ (lv_sub hl [] rfl)
        · have h := And.right h c_64
          refine lv_iload_n hx hb d_Gues_leastInduction_67 rfl (lv_at hl 1 rfl) ?_
          refine lv_iconst (v := (-1)) hx hb d_Gues_leastInduction_68 (by decide) ?_
          refine lv_icmp_eq (tgt := 80) hx hb d_Gues_leastInduction_69 (by decide) (fun c_69 => ?_) (fun c_69 => ?_)
          · have h := And.left h c_69
            refine lv_aload_n hx hb d_Gues_leastInduction_80 rfl (lv_at hl 0 rfl) ?_
            refine lv_iload_n hx hb d_Gues_leastInduction_81 rfl (lv_at hl 2 rfl) ?_
            refine jn_i (wr := []) (va_runV (As := [.int 2]) (rest := []) ⟨hx, hb, hml, hown, hts⟩ (c_Gues_stepBack l dC dI cI cB cZ adK adV _ a_lp a_lp_facts a_lp_turns a_lp_first a_lp_src a_s1 a_s2 a_gu a_gu_rounds lp_choices lp_guesses lp_unaries lp_ranked lp_facts lp_turns s1_8 s2_9 gu_left 2 _ h) (cwV 1 hts (gv_ m_974 m_976 m_42 m_94 m_977) rfl rfl rfl pd_Gues_stepBack ⟨Nat.le_of_ble_eq_true rfl, Nat.le_of_ble_eq_true rfl⟩) ⟨pc_blind, va_recv hK hP (ci := 3) (q0 := 5) rfl rfl, pc_of (hP.sub [0, 1, 2, 3, 4, 5] rfl) hK (hD.sub [0, 1, 2, 3, 4, 5] (by decide) rfl) hN hT hS hA⟩ rfl rfl hl.1 rfl (lv_room (Nat.le_of_ble_eq_true rfl)) d_Gues_leastInduction_82 ⟨Nat.zero_le _, Nat.zero_le _⟩) hP hD hS hA [0, 1, 2, 3, 4, 5] [] rfl rfl (by decide) (by decide) (fun r_18 u_ H locs h hP hD hS => ?_)
            obtain ⟨s1_19, s2_20⟩ := u_
            have hP : va_P (dC, dI) vwCl [(a_lp, .inr (4, [.ref a_lp_facts, .ref a_lp_turns, .ref a_lp_first, .ref a_lp_src, .ref a_s1, .int lp_choices, .int lp_guesses, .int lp_unaries, .int lp_ranked])), (a_lp_facts, .inl (cI, 4096, .inl lp_facts)), (a_lp_turns, .inl (cI, 24576, .inl lp_turns)), (a_s1, .inl (cI, 4096, .inl s1_19)), (a_s2, .inl (cI, 4096, .inl s2_20)), (a_gu, .inr (3, [.ref a_lp, .ref a_gu_rounds, .ref a_s1, .ref a_s2, .int gu_left]))] H := hP
            have hD : va_D A [(a_lp, .inr (4, [.ref a_lp_facts, .ref a_lp_turns, .ref a_lp_first, .ref a_lp_src, .ref a_s1, .int lp_choices, .int lp_guesses, .int lp_unaries, .int lp_ranked])), (a_lp_facts, .inl (cI, 4096, .inl lp_facts)), (a_lp_turns, .inl (cI, 24576, .inl lp_turns)), (a_s1, .inl (cI, 4096, .inl s1_19)), (a_s2, .inl (cI, 4096, .inl s2_20)), (a_gu, .inr (3, [.ref a_lp, .ref a_gu_rounds, .ref a_s1, .ref a_s2, .int gu_left]))] := hD
            refine lv_if_ne (tgt := 91) hx hb d_Gues_leastInduction_85 (by decide) (fun c_85 => ?_) (fun c_85 => ?_)
            · have h := And.left h c_85
              refine lv_iinc (v := x4_7 + 1) (lv' := [(4, .int (x4_7 + 1)), (0, .ref a_gu), (2, .int x2), (3, .int 2)]) hx hb d_Gues_leastInduction_91 hl (k := 3) rfl rfl (by decide) rfl (fun ls hl => ?_)
              refine lv_goto (tgt := 60) hx hb d_Gues_leastInduction_94 (by decide) ?_
              exact il _ _ _ h _ _ hP hD hS _ (lv_sub hl [1, 2, 3, 0] rfl)
            · have h := And.right h c_85
              exact hk88 _ _ _ h _ _ hP hD hS _ (lv_sub hl [3] rfl)
          · have h := And.right h c_69
            refine lv_iload_n hx hb d_Gues_leastInduction_72 rfl (lv_at hl 1 rfl) ?_
            refine lv_iload hx hb d_Gues_leastInduction_73 (lv_at hl 3 rfl) ?_
            refine lv_icmp_ge (tgt := 80) hx hb d_Gues_leastInduction_75 (by decide) (fun c_75 => ?_) (fun c_75 => ?_)
            · have h := And.left h c_75
              refine lv_aload_n hx hb d_Gues_leastInduction_80 rfl (lv_at hl 0 rfl) ?_
              refine lv_iload_n hx hb d_Gues_leastInduction_81 rfl (lv_at hl 2 rfl) ?_
              refine jn_i (wr := []) (va_runV (As := [.int 2]) (rest := []) ⟨hx, hb, hml, hown, hts⟩ (c_Gues_stepBack l dC dI cI cB cZ adK adV _ a_lp a_lp_facts a_lp_turns a_lp_first a_lp_src a_s1 a_s2 a_gu a_gu_rounds lp_choices lp_guesses lp_unaries lp_ranked lp_facts lp_turns s1_8 s2_9 gu_left 2 _ h) (cwV 1 hts (gv_ m_974 m_976 m_42 m_94 m_977) rfl rfl rfl pd_Gues_stepBack ⟨Nat.le_of_ble_eq_true rfl, Nat.le_of_ble_eq_true rfl⟩) ⟨pc_blind, va_recv hK hP (ci := 3) (q0 := 5) rfl rfl, pc_of (hP.sub [0, 1, 2, 3, 4, 5] rfl) hK (hD.sub [0, 1, 2, 3, 4, 5] (by decide) rfl) hN hT hS hA⟩ rfl rfl hl.1 rfl (lv_room (Nat.le_of_ble_eq_true rfl)) d_Gues_leastInduction_82 ⟨Nat.zero_le _, Nat.zero_le _⟩) hP hD hS hA [0, 1, 2, 3, 4, 5] [] rfl rfl (by decide) (by decide) (fun r_21 u_ H locs h hP hD hS => ?_)
              obtain ⟨s1_22, s2_23⟩ := u_
              have hP : va_P (dC, dI) vwCl [(a_lp, .inr (4, [.ref a_lp_facts, .ref a_lp_turns, .ref a_lp_first, .ref a_lp_src, .ref a_s1, .int lp_choices, .int lp_guesses, .int lp_unaries, .int lp_ranked])), (a_lp_facts, .inl (cI, 4096, .inl lp_facts)), (a_lp_turns, .inl (cI, 24576, .inl lp_turns)), (a_s1, .inl (cI, 4096, .inl s1_22)), (a_s2, .inl (cI, 4096, .inl s2_23)), (a_gu, .inr (3, [.ref a_lp, .ref a_gu_rounds, .ref a_s1, .ref a_s2, .int gu_left]))] H := hP
              have hD : va_D A [(a_lp, .inr (4, [.ref a_lp_facts, .ref a_lp_turns, .ref a_lp_first, .ref a_lp_src, .ref a_s1, .int lp_choices, .int lp_guesses, .int lp_unaries, .int lp_ranked])), (a_lp_facts, .inl (cI, 4096, .inl lp_facts)), (a_lp_turns, .inl (cI, 24576, .inl lp_turns)), (a_s1, .inl (cI, 4096, .inl s1_22)), (a_s2, .inl (cI, 4096, .inl s2_23)), (a_gu, .inr (3, [.ref a_lp, .ref a_gu_rounds, .ref a_s1, .ref a_s2, .int gu_left]))] := hD
              refine lv_if_ne (tgt := 91) hx hb d_Gues_leastInduction_85 (by decide) (fun c_85 => ?_) (fun c_85 => ?_)
              · have h := And.left h c_85
                refine lv_iinc (v := x4_7 + 1) (lv' := [(4, .int (x4_7 + 1)), (0, .ref a_gu), (2, .int x2), (3, .int 2)]) hx hb d_Gues_leastInduction_91 hl (k := 3) rfl rfl (by decide) rfl (fun ls hl => ?_)
                refine lv_goto (tgt := 60) hx hb d_Gues_leastInduction_94 (by decide) ?_
                exact il _ _ _ h _ _ hP hD hS _ (lv_sub hl [1, 2, 3, 0] rfl)
              · have h := And.right h c_85
                exact hk88 _ _ _ h _ _ hP hD hS _ (lv_sub hl [3] rfl)
            · have h := And.right h c_75
              exact hk78 _ _ h _ _ hP hD hS _ (lv_sub hl [] rfl)
    obtain ⟨n_, h⟩ := h
    refine L60_q_10 _ ?_ _ ?_ _ ?_ n_ _ _ _ h _ _ hP hD hS _ (lv_sub hl [1, 2, 3, 0] rfl)
    · intro s1_24 s2_25 h
      intro H locs hP hD hS ls hl
      refine lv_iconst (v := 0) hx hb d_Gues_leastInduction_97 (by decide) ?_
      rw [← hQ]
      have hP9 := hP
      have hD9 := hD
      exact W.iret (v := 0) hx hb hr (fun t ht hW => ⟨⟨0, (s1_24, s2_25), rfl, h, by rw [ht]; exact hP9, va_K.moved hW.alike hK, hD9⟩, hS.F ht⟩) hS.2.2 d_Gues_leastInduction_98
    · intro s1_26 s2_27 h
      intro H locs hP hD hS ls hl
      refine lv_iconst (v := 0) hx hb d_Gues_leastInduction_78 (by decide) ?_
      rw [← hQ]
      have hP9 := hP
      have hD9 := hD
      exact W.iret (v := 0) hx hb hr (fun t ht hW => ⟨⟨0, (s1_26, s2_27), rfl, h, by rw [ht]; exact hP9, va_K.moved hW.alike hK, hD9⟩, hS.F ht⟩) hS.2.2 d_Gues_leastInduction_79
    · intro x4_28 s1_29 s2_30 h
      intro H locs hP hD hS ls hl
      refine lv_iload hx hb d_Gues_leastInduction_88 (lv_at hl 0 rfl) ?_
      rw [← hQ]
      have hP9 := hP
      have hD9 := hD
      exact W.iret (v := x4_28) hx hb hr (fun t ht hW => ⟨⟨x4_28, (s1_29, s2_30), rfl, h, by rw [ht]; exact hP9, va_K.moved hW.alike hK, hD9⟩, hS.F ht⟩) hS.2.2 d_Gues_leastInduction_90
  · have h := And.right h c_1
    refine lv_iconst (v := 2) hx hb d_Gues_leastInduction_4 (by decide) ?_
    refine lv_aload_n hx hb d_Gues_leastInduction_5 rfl (lv_at hl 0 rfl) ?_
    refine jn_i (wr := [(a_lp, .inr (4, [.ref a_lp_facts, .ref a_lp_turns, .ref a_lp_first, .ref a_lp_src, .ref a_s1, .int lp_choices, .int lp_guesses, .int lp_unaries, .int lp_ranked])), (a_lp_facts, .inl (cI, 4096, .inl lp_facts)), (a_lp_turns, .inl (cI, 24576, .inl lp_turns)), (a_s1, .inl (cI, 4096, .inl s1)), (a_s2, .inl (cI, 4096, .inl s2))]) (va_runV (As := []) (rest := [.int 2]) ⟨hx, hb, hml, hown, hts⟩ (c_Gues_keptFacts l dC dI cI cB cZ adK adV _ a_gu a_lp a_gu_rounds a_s1 a_s2 gu_left _ h) (cwV 0 hts (gv_ m_876 m_877 m_878 m_94 m_879) rfl rfl rfl pd_Gues_keptFacts ⟨Nat.le_of_ble_eq_true rfl, Nat.le_of_ble_eq_true rfl⟩) ⟨pc_blind, va_recv hK hP (ci := 3) (q0 := 5) rfl rfl, pc_of (hP.sub [5] rfl) hK (hD.sub [5] (by decide) rfl) hN hT hS hA⟩ rfl rfl hl.1 rfl (lv_room (Nat.le_of_ble_eq_true rfl)) d_Gues_leastInduction_6 ⟨Nat.zero_le _, Nat.zero_le _⟩) hP hD hS hA [5] [0, 1, 2, 3, 4] rfl rfl (by decide) (by decide) (fun r_31 u_ H locs h hP hD hS => ?_)
    have hP : va_P (dC, dI) vwCl [(a_lp, .inr (4, [.ref a_lp_facts, .ref a_lp_turns, .ref a_lp_first, .ref a_lp_src, .ref a_s1, .int lp_choices, .int lp_guesses, .int lp_unaries, .int lp_ranked])), (a_lp_facts, .inl (cI, 4096, .inl lp_facts)), (a_lp_turns, .inl (cI, 24576, .inl lp_turns)), (a_s1, .inl (cI, 4096, .inl s1)), (a_s2, .inl (cI, 4096, .inl s2)), (a_gu, .inr (3, [.ref a_lp, .ref a_gu_rounds, .ref a_s1, .ref a_s2, .int gu_left]))] H := hP
    have hD : va_D A [(a_lp, .inr (4, [.ref a_lp_facts, .ref a_lp_turns, .ref a_lp_first, .ref a_lp_src, .ref a_s1, .int lp_choices, .int lp_guesses, .int lp_unaries, .int lp_ranked])), (a_lp_facts, .inl (cI, 4096, .inl lp_facts)), (a_lp_turns, .inl (cI, 24576, .inl lp_turns)), (a_s1, .inl (cI, 4096, .inl s1)), (a_s2, .inl (cI, 4096, .inl s2)), (a_gu, .inr (3, [.ref a_lp, .ref a_gu_rounds, .ref a_s1, .ref a_s2, .int gu_left]))] := hD
    refine lv_ior hx hb d_Gues_leastInduction_9 ?_
    refine lv_goto (tgt := 14) hx hb d_Gues_leastInduction_10 (by decide) ?_
    refine lv_topi (fun x3_32 ex3_32 => ?_)
    have h := h x3_32 ex3_32
    refine lv_istore_n (lv' := [(3, .int x3_32), (0, .ref a_gu), (1, .int x1), (2, .int x2)]) hx hb d_Gues_leastInduction_14 rfl hl (by decide) rfl (fun ls hl => ?_)
    refine lv_iconst (v := 0) hx hb d_Gues_leastInduction_15 (by decide) ?_
    refine lv_istore (lv' := [(4, .int 0), (3, .int x3_32), (0, .ref a_gu), (1, .int x1), (2, .int x2)]) hx hb d_Gues_leastInduction_16 hl (by decide) rfl (fun ls hl => ?_)
    have L18_q_35 : ∀ (k57 : (Nat → Int32) → Prop) (hk57 : ∀ (s1_36 : Nat → Int32), k57 s1_36 → ∀ (H : Heap) (locs : List Loc), va_P (dC, dI) vwCl [(a_lp, .inr (4, [.ref a_lp_facts, .ref a_lp_turns, .ref a_lp_first, .ref a_lp_src, .ref a_s1, .int lp_choices, .int lp_guesses, .int lp_unaries, .int lp_ranked])), (a_lp_facts, .inl (cI, 4096, .inl lp_facts)), (a_lp_turns, .inl (cI, 24576, .inl lp_turns)), (a_s1, .inl (cI, 4096, .inl s1_36)), (a_s2, .inl (cI, 4096, .inl s2)), (a_gu, .inr (3, [.ref a_lp, .ref a_gu_rounds, .ref a_s1, .ref a_s2, .int gu_left]))] H → va_D A [(a_lp, .inr (4, [.ref a_lp_facts, .ref a_lp_turns, .ref a_lp_first, .ref a_lp_src, .ref a_s1, .int lp_choices, .int lp_guesses, .int lp_unaries, .int lp_ranked])), (a_lp_facts, .inl (cI, 4096, .inl lp_facts)), (a_lp_turns, .inl (cI, 24576, .inl lp_turns)), (a_s1, .inl (cI, 4096, .inl s1_36)), (a_s2, .inl (cI, 4096, .inl s2)), (a_gu, .inr (3, [.ref a_lp, .ref a_gu_rounds, .ref a_s1, .ref a_s2, .int gu_left]))] → va_S A s.heap H locs → ∀ ls : Array Slot, lv_has ls 5 [(0, .ref a_gu), (2, .int x2), (3, .int x3_32)] → W p l e (headSpec w_Gues_leastInduction ({ frames := 4, cells := 0, slots := 0, locals := 88 })).room s m (([.ref a_gu, .int x1, .int x2] : List Value).toArray) below meth c H locs 0 0 QQ (F0 m 57 ls [])) (n : Nat) (x4_33 : Int32) (s1_34 : Nat → Int32), wp_Gues_leastInduction_L18 x2 x3_32 lp_facts k57 n x4_33 s1_34 → ∀ (H : Heap) (locs : List Loc), va_P (dC, dI) vwCl [(a_lp, .inr (4, [.ref a_lp_facts, .ref a_lp_turns, .ref a_lp_first, .ref a_lp_src, .ref a_s1, .int lp_choices, .int lp_guesses, .int lp_unaries, .int lp_ranked])), (a_lp_facts, .inl (cI, 4096, .inl lp_facts)), (a_lp_turns, .inl (cI, 24576, .inl lp_turns)), (a_s1, .inl (cI, 4096, .inl s1_34)), (a_s2, .inl (cI, 4096, .inl s2)), (a_gu, .inr (3, [.ref a_lp, .ref a_gu_rounds, .ref a_s1, .ref a_s2, .int gu_left]))] H → va_D A [(a_lp, .inr (4, [.ref a_lp_facts, .ref a_lp_turns, .ref a_lp_first, .ref a_lp_src, .ref a_s1, .int lp_choices, .int lp_guesses, .int lp_unaries, .int lp_ranked])), (a_lp_facts, .inl (cI, 4096, .inl lp_facts)), (a_lp_turns, .inl (cI, 24576, .inl lp_turns)), (a_s1, .inl (cI, 4096, .inl s1_34)), (a_s2, .inl (cI, 4096, .inl s2)), (a_gu, .inr (3, [.ref a_lp, .ref a_gu_rounds, .ref a_s1, .ref a_s2, .int gu_left]))] → va_S A s.heap H locs → ∀ ls : Array Slot, lv_has ls 5 [(0, .ref a_gu), (2, .int x2), (3, .int x3_32), (4, .int x4_33)] → W p l e (headSpec w_Gues_leastInduction ({ frames := 4, cells := 0, slots := 0, locals := 88 })).room s m (([.ref a_gu, .int x1, .int x2] : List Value).toArray) below meth c H locs 0 0 QQ (F0 m 18 ls []) := by
      intro k57 hk57 n
      induction n with
      | zero => intro x4_33 s1_34 h; exact (show False from h).elim
      | succ n il =>
        intro x4_33 s1_34 h
        intro H locs hP hD hS ls hl
        refine lv_iload hx hb d_Gues_leastInduction_18 (lv_at hl 3 rfl) ?_
        refine lv_sipush (v := 4096) hx hb d_Gues_leastInduction_20 (by decide) ?_
        refine lv_icmp_ge (tgt := 57) hx hb d_Gues_leastInduction_23 (by decide) (fun c_23 => ?_) (fun c_23 => ?_)
        · have h := And.left h c_23
          exact hk57 _ h _ _ hP hD hS _ (lv_sub hl [0, 1, 2] rfl)
        · have h := And.right h c_23
          refine lv_aload_n hx hb d_Gues_leastInduction_26 rfl (lv_at hl 0 rfl) ?_
          refine va_get (D := (dC, dI)) (ci := 3) (v := .ref a_s1) (C := "LoopInduction$Guesses") (T := F_Gues) (N := 5) hx hb hts iC_Gues hown hK hP 5 rfl rfl 2 (by decide) fl_29 (fun _ h9 => h9) rfl d_Gues_leastInduction_27 ?_
          refine lv_iload hx hb d_Gues_leastInduction_30 (lv_at hl 3 rfl) ?_
          refine lv_aload_n hx hb d_Gues_leastInduction_32 rfl (lv_at hl 0 rfl) ?_
          refine va_get (D := (dC, dI)) (ci := 3) (v := .ref a_lp) (C := "LoopInduction$Guesses") (T := F_Gues) (N := 5) hx hb hts iC_Gues hown hK hP 5 rfl rfl 0 (by decide) fl_19 (fun _ h9 => h9) rfl d_Gues_leastInduction_33 ?_
          refine lv_iload hx hb d_Gues_leastInduction_36 (lv_at hl 3 rfl) ?_
          refine lv_iconst (v := 2) hx hb d_Gues_leastInduction_38 (by decide) ?_
          refine jn_i (wr := [(a_lp_turns, .inl (cI, 24576, .inl lp_turns)), (a_s1, .inl (cI, 4096, .inl s1_34)), (a_s2, .inl (cI, 4096, .inl s2)), (a_gu, .inr (3, [.ref a_lp, .ref a_gu_rounds, .ref a_s1, .ref a_s2, .int gu_left]))]) (va_runV (As := [.int x4_33, .int 2]) (rest := [.int x4_33, .ref a_s1]) ⟨hx, hb, hml, hown, hts⟩ (c_Loop_hasAll l dC dI cI cB cZ adK adV _ a_lp a_lp_facts a_lp_turns a_lp_first a_lp_src a_s1 lp_choices lp_guesses lp_unaries lp_ranked lp_facts x4_33 2 _ h) (cwV 2 hts (gv_ m_863 m_785 m_786 m_92 m_787) rfl rfl rfl pd_Loop_hasAll ⟨Nat.le_of_ble_eq_true rfl, Nat.le_of_ble_eq_true rfl⟩) ⟨pc_blind, va_recv hK hP (ci := 4) (q0 := 0) rfl rfl, pc_of (hP.sub [0, 1] rfl) hK (hD.sub [0, 1] (by decide) rfl) hN hT hS hA⟩ rfl rfl hl.1 rfl (lv_room (Nat.le_of_ble_eq_true rfl)) d_Gues_leastInduction_39 ⟨Nat.zero_le _, Nat.zero_le _⟩) hP hD hS hA [0, 1] [2, 3, 4, 5] rfl rfl (by decide) (by decide) (fun r_37 u_ H locs h hP hD hS => ?_)
          have hP : va_P (dC, dI) vwCl [(a_lp_turns, .inl (cI, 24576, .inl lp_turns)), (a_s1, .inl (cI, 4096, .inl s1_34)), (a_s2, .inl (cI, 4096, .inl s2)), (a_gu, .inr (3, [.ref a_lp, .ref a_gu_rounds, .ref a_s1, .ref a_s2, .int gu_left])), (a_lp, .inr (4, [.ref a_lp_facts, .ref a_lp_turns, .ref a_lp_first, .ref a_lp_src, .ref a_s1, .int lp_choices, .int lp_guesses, .int lp_unaries, .int lp_ranked])), (a_lp_facts, .inl (cI, 4096, .inl lp_facts))] H := hP
          have hD : va_D A [(a_lp_turns, .inl (cI, 24576, .inl lp_turns)), (a_s1, .inl (cI, 4096, .inl s1_34)), (a_s2, .inl (cI, 4096, .inl s2)), (a_gu, .inr (3, [.ref a_lp, .ref a_gu_rounds, .ref a_s1, .ref a_s2, .int gu_left])), (a_lp, .inr (4, [.ref a_lp_facts, .ref a_lp_turns, .ref a_lp_first, .ref a_lp_src, .ref a_s1, .int lp_choices, .int lp_guesses, .int lp_unaries, .int lp_ranked])), (a_lp_facts, .inl (cI, 4096, .inl lp_facts))] := hD
          refine lv_if_eq (tgt := 49) hx hb d_Gues_leastInduction_42 (by decide) (fun c_42 => ?_) (fun c_42 => ?_)
          · have h := And.left h c_42
            refine lv_iconst (v := 1) hx hb d_Gues_leastInduction_49 (by decide) ?_
            obtain ⟨hin_50, h⟩ := h
            refine va_iast hx hb hK hP hD hS 1 0 rfl rfl hin_50 d_Gues_leastInduction_50 (fun H locs hP hD hS => ?_)
            have hP : va_P (dC, dI) vwCl [(a_lp_turns, .inl (cI, 24576, .inl lp_turns)), (a_s1, .inl (cI, 4096, .inl (upd s1_34 (x4_33 : Int32).toNatClampNeg 1))), (a_s2, .inl (cI, 4096, .inl s2)), (a_gu, .inr (3, [.ref a_lp, .ref a_gu_rounds, .ref a_s1, .ref a_s2, .int gu_left])), (a_lp, .inr (4, [.ref a_lp_facts, .ref a_lp_turns, .ref a_lp_first, .ref a_lp_src, .ref a_s1, .int lp_choices, .int lp_guesses, .int lp_unaries, .int lp_ranked])), (a_lp_facts, .inl (cI, 4096, .inl lp_facts))] H := hP
            have hD : va_D A [(a_lp_turns, .inl (cI, 24576, .inl lp_turns)), (a_s1, .inl (cI, 4096, .inl (upd s1_34 (x4_33 : Int32).toNatClampNeg 1))), (a_s2, .inl (cI, 4096, .inl s2)), (a_gu, .inr (3, [.ref a_lp, .ref a_gu_rounds, .ref a_s1, .ref a_s2, .int gu_left])), (a_lp, .inr (4, [.ref a_lp_facts, .ref a_lp_turns, .ref a_lp_first, .ref a_lp_src, .ref a_s1, .int lp_choices, .int lp_guesses, .int lp_unaries, .int lp_ranked])), (a_lp_facts, .inl (cI, 4096, .inl lp_facts))] := hD
            refine lv_iinc (v := x4_33 + 1) (lv' := [(4, .int (x4_33 + 1)), (0, .ref a_gu), (2, .int x2), (3, .int x3_32)]) hx hb d_Gues_leastInduction_51 hl (k := 3) rfl rfl (by decide) rfl (fun ls hl => ?_)
            refine lv_goto (tgt := 18) hx hb d_Gues_leastInduction_54 (by decide) ?_
            exact il _ _ h _ _ (hP.sub [4, 5, 0, 1, 2, 3] rfl) (hD.sub [4, 5, 0, 1, 2, 3] (by decide) rfl) hS _ (lv_sub hl [1, 2, 3, 0] rfl)
          · have h := And.right h c_42
            refine lv_iconst (v := 0) hx hb d_Gues_leastInduction_45 (by decide) ?_
            refine lv_goto (tgt := 50) hx hb d_Gues_leastInduction_46 (by decide) ?_
            obtain ⟨hin_50, h⟩ := h
            refine va_iast hx hb hK hP hD hS 1 0 rfl rfl hin_50 d_Gues_leastInduction_50 (fun H locs hP hD hS => ?_)
            have hP : va_P (dC, dI) vwCl [(a_lp_turns, .inl (cI, 24576, .inl lp_turns)), (a_s1, .inl (cI, 4096, .inl (upd s1_34 (x4_33 : Int32).toNatClampNeg 0))), (a_s2, .inl (cI, 4096, .inl s2)), (a_gu, .inr (3, [.ref a_lp, .ref a_gu_rounds, .ref a_s1, .ref a_s2, .int gu_left])), (a_lp, .inr (4, [.ref a_lp_facts, .ref a_lp_turns, .ref a_lp_first, .ref a_lp_src, .ref a_s1, .int lp_choices, .int lp_guesses, .int lp_unaries, .int lp_ranked])), (a_lp_facts, .inl (cI, 4096, .inl lp_facts))] H := hP
            have hD : va_D A [(a_lp_turns, .inl (cI, 24576, .inl lp_turns)), (a_s1, .inl (cI, 4096, .inl (upd s1_34 (x4_33 : Int32).toNatClampNeg 0))), (a_s2, .inl (cI, 4096, .inl s2)), (a_gu, .inr (3, [.ref a_lp, .ref a_gu_rounds, .ref a_s1, .ref a_s2, .int gu_left])), (a_lp, .inr (4, [.ref a_lp_facts, .ref a_lp_turns, .ref a_lp_first, .ref a_lp_src, .ref a_s1, .int lp_choices, .int lp_guesses, .int lp_unaries, .int lp_ranked])), (a_lp_facts, .inl (cI, 4096, .inl lp_facts))] := hD
            refine lv_iinc (v := x4_33 + 1) (lv' := [(4, .int (x4_33 + 1)), (0, .ref a_gu), (2, .int x2), (3, .int x3_32)]) hx hb d_Gues_leastInduction_51 hl (k := 3) rfl rfl (by decide) rfl (fun ls hl => ?_)
            refine lv_goto (tgt := 18) hx hb d_Gues_leastInduction_54 (by decide) ?_
            exact il _ _ h _ _ (hP.sub [4, 5, 0, 1, 2, 3] rfl) (hD.sub [4, 5, 0, 1, 2, 3] (by decide) rfl) hS _ (lv_sub hl [1, 2, 3, 0] rfl)
    obtain ⟨n_, h⟩ := h
    refine L18_q_35 _ ?_ n_ _ _ h _ _ hP hD hS _ (lv_sub hl [2, 4, 1, 0] rfl)
    intro s1_38 h
    intro H locs hP hD hS ls hl
    refine lv_iconst (v := 1) hx hb d_Gues_leastInduction_57 (by decide) ?_
    refine lv_istore (lv' := [(4, .int 1), (0, .ref a_gu), (2, .int x2), (3, .int x3_32)]) hx hb d_Gues_leastInduction_58 hl (by decide) rfl (fun ls hl => ?_)
    have L60_q_42 : ∀ (k97 : (Nat → Int32) → (Nat → Int32) → Prop) (hk97 : ∀ (s1_43 : Nat → Int32) (s2_44 : Nat → Int32), k97 s1_43 s2_44 → ∀ (H : Heap) (locs : List Loc), va_P (dC, dI) vwCl [(a_lp, .inr (4, [.ref a_lp_facts, .ref a_lp_turns, .ref a_lp_first, .ref a_lp_src, .ref a_s1, .int lp_choices, .int lp_guesses, .int lp_unaries, .int lp_ranked])), (a_lp_facts, .inl (cI, 4096, .inl lp_facts)), (a_lp_turns, .inl (cI, 24576, .inl lp_turns)), (a_s1, .inl (cI, 4096, .inl s1_43)), (a_s2, .inl (cI, 4096, .inl s2_44)), (a_gu, .inr (3, [.ref a_lp, .ref a_gu_rounds, .ref a_s1, .ref a_s2, .int gu_left]))] H → va_D A [(a_lp, .inr (4, [.ref a_lp_facts, .ref a_lp_turns, .ref a_lp_first, .ref a_lp_src, .ref a_s1, .int lp_choices, .int lp_guesses, .int lp_unaries, .int lp_ranked])), (a_lp_facts, .inl (cI, 4096, .inl lp_facts)), (a_lp_turns, .inl (cI, 24576, .inl lp_turns)), (a_s1, .inl (cI, 4096, .inl s1_43)), (a_s2, .inl (cI, 4096, .inl s2_44)), (a_gu, .inr (3, [.ref a_lp, .ref a_gu_rounds, .ref a_s1, .ref a_s2, .int gu_left]))] → va_S A s.heap H locs → ∀ ls : Array Slot, lv_has ls 5 [] → W p l e (headSpec w_Gues_leastInduction ({ frames := 4, cells := 0, slots := 0, locals := 88 })).room s m (([.ref a_gu, .int x1, .int x2] : List Value).toArray) below meth c H locs 0 0 QQ (F0 m 97 ls [])) (k78 : (Nat → Int32) → (Nat → Int32) → Prop) (hk78 : ∀ (s1_45 : Nat → Int32) (s2_46 : Nat → Int32), k78 s1_45 s2_46 → ∀ (H : Heap) (locs : List Loc), va_P (dC, dI) vwCl [(a_lp, .inr (4, [.ref a_lp_facts, .ref a_lp_turns, .ref a_lp_first, .ref a_lp_src, .ref a_s1, .int lp_choices, .int lp_guesses, .int lp_unaries, .int lp_ranked])), (a_lp_facts, .inl (cI, 4096, .inl lp_facts)), (a_lp_turns, .inl (cI, 24576, .inl lp_turns)), (a_s1, .inl (cI, 4096, .inl s1_45)), (a_s2, .inl (cI, 4096, .inl s2_46)), (a_gu, .inr (3, [.ref a_lp, .ref a_gu_rounds, .ref a_s1, .ref a_s2, .int gu_left]))] H → va_D A [(a_lp, .inr (4, [.ref a_lp_facts, .ref a_lp_turns, .ref a_lp_first, .ref a_lp_src, .ref a_s1, .int lp_choices, .int lp_guesses, .int lp_unaries, .int lp_ranked])), (a_lp_facts, .inl (cI, 4096, .inl lp_facts)), (a_lp_turns, .inl (cI, 24576, .inl lp_turns)), (a_s1, .inl (cI, 4096, .inl s1_45)), (a_s2, .inl (cI, 4096, .inl s2_46)), (a_gu, .inr (3, [.ref a_lp, .ref a_gu_rounds, .ref a_s1, .ref a_s2, .int gu_left]))] → va_S A s.heap H locs → ∀ ls : Array Slot, lv_has ls 5 [] → W p l e (headSpec w_Gues_leastInduction ({ frames := 4, cells := 0, slots := 0, locals := 88 })).room s m (([.ref a_gu, .int x1, .int x2] : List Value).toArray) below meth c H locs 0 0 QQ (F0 m 78 ls [])) (k88 : Int32 → (Nat → Int32) → (Nat → Int32) → Prop) (hk88 : ∀ (x4_47 : Int32) (s1_48 : Nat → Int32) (s2_49 : Nat → Int32), k88 x4_47 s1_48 s2_49 → ∀ (H : Heap) (locs : List Loc), va_P (dC, dI) vwCl [(a_lp, .inr (4, [.ref a_lp_facts, .ref a_lp_turns, .ref a_lp_first, .ref a_lp_src, .ref a_s1, .int lp_choices, .int lp_guesses, .int lp_unaries, .int lp_ranked])), (a_lp_facts, .inl (cI, 4096, .inl lp_facts)), (a_lp_turns, .inl (cI, 24576, .inl lp_turns)), (a_s1, .inl (cI, 4096, .inl s1_48)), (a_s2, .inl (cI, 4096, .inl s2_49)), (a_gu, .inr (3, [.ref a_lp, .ref a_gu_rounds, .ref a_s1, .ref a_s2, .int gu_left]))] H → va_D A [(a_lp, .inr (4, [.ref a_lp_facts, .ref a_lp_turns, .ref a_lp_first, .ref a_lp_src, .ref a_s1, .int lp_choices, .int lp_guesses, .int lp_unaries, .int lp_ranked])), (a_lp_facts, .inl (cI, 4096, .inl lp_facts)), (a_lp_turns, .inl (cI, 24576, .inl lp_turns)), (a_s1, .inl (cI, 4096, .inl s1_48)), (a_s2, .inl (cI, 4096, .inl s2_49)), (a_gu, .inr (3, [.ref a_lp, .ref a_gu_rounds, .ref a_s1, .ref a_s2, .int gu_left]))] → va_S A s.heap H locs → ∀ ls : Array Slot, lv_has ls 5 [(4, .int x4_47)] → W p l e (headSpec w_Gues_leastInduction ({ frames := 4, cells := 0, slots := 0, locals := 88 })).room s m (([.ref a_gu, .int x1, .int x2] : List Value).toArray) below meth c H locs 0 0 QQ (F0 m 88 ls [])) (n : Nat) (x4_39 : Int32) (s1_40 : Nat → Int32) (s2_41 : Nat → Int32), wp_Gues_leastInduction_L60 x2 x3_32 lp_choices lp_facts lp_turns k97 k78 k88 n x4_39 s1_40 s2_41 → ∀ (H : Heap) (locs : List Loc), va_P (dC, dI) vwCl [(a_lp, .inr (4, [.ref a_lp_facts, .ref a_lp_turns, .ref a_lp_first, .ref a_lp_src, .ref a_s1, .int lp_choices, .int lp_guesses, .int lp_unaries, .int lp_ranked])), (a_lp_facts, .inl (cI, 4096, .inl lp_facts)), (a_lp_turns, .inl (cI, 24576, .inl lp_turns)), (a_s1, .inl (cI, 4096, .inl s1_40)), (a_s2, .inl (cI, 4096, .inl s2_41)), (a_gu, .inr (3, [.ref a_lp, .ref a_gu_rounds, .ref a_s1, .ref a_s2, .int gu_left]))] H → va_D A [(a_lp, .inr (4, [.ref a_lp_facts, .ref a_lp_turns, .ref a_lp_first, .ref a_lp_src, .ref a_s1, .int lp_choices, .int lp_guesses, .int lp_unaries, .int lp_ranked])), (a_lp_facts, .inl (cI, 4096, .inl lp_facts)), (a_lp_turns, .inl (cI, 24576, .inl lp_turns)), (a_s1, .inl (cI, 4096, .inl s1_40)), (a_s2, .inl (cI, 4096, .inl s2_41)), (a_gu, .inr (3, [.ref a_lp, .ref a_gu_rounds, .ref a_s1, .ref a_s2, .int gu_left]))] → va_S A s.heap H locs → ∀ ls : Array Slot, lv_has ls 5 [(0, .ref a_gu), (2, .int x2), (3, .int x3_32), (4, .int x4_39)] → W p l e (headSpec w_Gues_leastInduction ({ frames := 4, cells := 0, slots := 0, locals := 88 })).room s m (([.ref a_gu, .int x1, .int x2] : List Value).toArray) below meth c H locs 0 0 QQ (F0 m 60 ls []) := by
      intro k97 hk97 k78 hk78 k88 hk88 n
      induction n with
      | zero => intro x4_39 s1_40 s2_41 h; exact (show False from h).elim
      | succ n il =>
        intro x4_39 s1_40 s2_41 h
        intro H locs hP hD hS ls hl
        refine lv_iload hx hb d_Gues_leastInduction_60 (lv_at hl 3 rfl) ?_
        refine lv_bipush (v := 16) hx hb d_Gues_leastInduction_62 (by decide) ?_
        refine lv_icmp_gt (tgt := 97) hx hb d_Gues_leastInduction_64 (by decide) (fun c_64 => ?_) (fun c_64 => ?_)
        · have h := And.left h c_64
          exact hk97 _ _ h _ _ hP hD hS _ (lv_sub hl [] rfl)
        · have h := And.right h c_64
          refine lv_iload_n hx hb d_Gues_leastInduction_67 rfl (lv_at hl 1 rfl) ?_
          refine lv_iconst (v := (-1)) hx hb d_Gues_leastInduction_68 (by decide) ?_
          refine lv_icmp_eq (tgt := 80) hx hb d_Gues_leastInduction_69 (by decide) (fun c_69 => ?_) (fun c_69 => ?_)
          · have h := And.left h c_69
            refine lv_aload_n hx hb d_Gues_leastInduction_80 rfl (lv_at hl 0 rfl) ?_
            refine lv_iload_n hx hb d_Gues_leastInduction_81 rfl (lv_at hl 2 rfl) ?_
            refine jn_i (wr := []) (va_runV (As := [.int x3_32]) (rest := []) ⟨hx, hb, hml, hown, hts⟩ (c_Gues_stepBack l dC dI cI cB cZ adK adV _ a_lp a_lp_facts a_lp_turns a_lp_first a_lp_src a_s1 a_s2 a_gu a_gu_rounds lp_choices lp_guesses lp_unaries lp_ranked lp_facts lp_turns s1_40 s2_41 gu_left x3_32 _ h) (cwV 1 hts (gv_ m_974 m_976 m_42 m_94 m_977) rfl rfl rfl pd_Gues_stepBack ⟨Nat.le_of_ble_eq_true rfl, Nat.le_of_ble_eq_true rfl⟩) ⟨pc_blind, va_recv hK hP (ci := 3) (q0 := 5) rfl rfl, pc_of (hP.sub [0, 1, 2, 3, 4, 5] rfl) hK (hD.sub [0, 1, 2, 3, 4, 5] (by decide) rfl) hN hT hS hA⟩ rfl rfl hl.1 rfl (lv_room (Nat.le_of_ble_eq_true rfl)) d_Gues_leastInduction_82 ⟨Nat.zero_le _, Nat.zero_le _⟩) hP hD hS hA [0, 1, 2, 3, 4, 5] [] rfl rfl (by decide) (by decide) (fun r_50 u_ H locs h hP hD hS => ?_)
            obtain ⟨s1_51, s2_52⟩ := u_
            have hP : va_P (dC, dI) vwCl [(a_lp, .inr (4, [.ref a_lp_facts, .ref a_lp_turns, .ref a_lp_first, .ref a_lp_src, .ref a_s1, .int lp_choices, .int lp_guesses, .int lp_unaries, .int lp_ranked])), (a_lp_facts, .inl (cI, 4096, .inl lp_facts)), (a_lp_turns, .inl (cI, 24576, .inl lp_turns)), (a_s1, .inl (cI, 4096, .inl s1_51)), (a_s2, .inl (cI, 4096, .inl s2_52)), (a_gu, .inr (3, [.ref a_lp, .ref a_gu_rounds, .ref a_s1, .ref a_s2, .int gu_left]))] H := hP
            have hD : va_D A [(a_lp, .inr (4, [.ref a_lp_facts, .ref a_lp_turns, .ref a_lp_first, .ref a_lp_src, .ref a_s1, .int lp_choices, .int lp_guesses, .int lp_unaries, .int lp_ranked])), (a_lp_facts, .inl (cI, 4096, .inl lp_facts)), (a_lp_turns, .inl (cI, 24576, .inl lp_turns)), (a_s1, .inl (cI, 4096, .inl s1_51)), (a_s2, .inl (cI, 4096, .inl s2_52)), (a_gu, .inr (3, [.ref a_lp, .ref a_gu_rounds, .ref a_s1, .ref a_s2, .int gu_left]))] := hD
            refine lv_if_ne (tgt := 91) hx hb d_Gues_leastInduction_85 (by decide) (fun c_85 => ?_) (fun c_85 => ?_)
            · have h := And.left h c_85
              refine lv_iinc (v := x4_39 + 1) (lv' := [(4, .int (x4_39 + 1)), (0, .ref a_gu), (2, .int x2), (3, .int x3_32)]) hx hb d_Gues_leastInduction_91 hl (k := 3) rfl rfl (by decide) rfl (fun ls hl => ?_)
              refine lv_goto (tgt := 60) hx hb d_Gues_leastInduction_94 (by decide) ?_
              exact il _ _ _ h _ _ hP hD hS _ (lv_sub hl [1, 2, 3, 0] rfl)
            · have h := And.right h c_85
              exact hk88 _ _ _ h _ _ hP hD hS _ (lv_sub hl [3] rfl)
          · have h := And.right h c_69
            refine lv_iload_n hx hb d_Gues_leastInduction_72 rfl (lv_at hl 1 rfl) ?_
            refine lv_iload hx hb d_Gues_leastInduction_73 (lv_at hl 3 rfl) ?_
            refine lv_icmp_ge (tgt := 80) hx hb d_Gues_leastInduction_75 (by decide) (fun c_75 => ?_) (fun c_75 => ?_)
            · have h := And.left h c_75
              refine lv_aload_n hx hb d_Gues_leastInduction_80 rfl (lv_at hl 0 rfl) ?_
              refine lv_iload_n hx hb d_Gues_leastInduction_81 rfl (lv_at hl 2 rfl) ?_
              refine jn_i (wr := []) (va_runV (As := [.int x3_32]) (rest := []) ⟨hx, hb, hml, hown, hts⟩ (c_Gues_stepBack l dC dI cI cB cZ adK adV _ a_lp a_lp_facts a_lp_turns a_lp_first a_lp_src a_s1 a_s2 a_gu a_gu_rounds lp_choices lp_guesses lp_unaries lp_ranked lp_facts lp_turns s1_40 s2_41 gu_left x3_32 _ h) (cwV 1 hts (gv_ m_974 m_976 m_42 m_94 m_977) rfl rfl rfl pd_Gues_stepBack ⟨Nat.le_of_ble_eq_true rfl, Nat.le_of_ble_eq_true rfl⟩) ⟨pc_blind, va_recv hK hP (ci := 3) (q0 := 5) rfl rfl, pc_of (hP.sub [0, 1, 2, 3, 4, 5] rfl) hK (hD.sub [0, 1, 2, 3, 4, 5] (by decide) rfl) hN hT hS hA⟩ rfl rfl hl.1 rfl (lv_room (Nat.le_of_ble_eq_true rfl)) d_Gues_leastInduction_82 ⟨Nat.zero_le _, Nat.zero_le _⟩) hP hD hS hA [0, 1, 2, 3, 4, 5] [] rfl rfl (by decide) (by decide) (fun r_53 u_ H locs h hP hD hS => ?_)
              obtain ⟨s1_54, s2_55⟩ := u_
              have hP : va_P (dC, dI) vwCl [(a_lp, .inr (4, [.ref a_lp_facts, .ref a_lp_turns, .ref a_lp_first, .ref a_lp_src, .ref a_s1, .int lp_choices, .int lp_guesses, .int lp_unaries, .int lp_ranked])), (a_lp_facts, .inl (cI, 4096, .inl lp_facts)), (a_lp_turns, .inl (cI, 24576, .inl lp_turns)), (a_s1, .inl (cI, 4096, .inl s1_54)), (a_s2, .inl (cI, 4096, .inl s2_55)), (a_gu, .inr (3, [.ref a_lp, .ref a_gu_rounds, .ref a_s1, .ref a_s2, .int gu_left]))] H := hP
              have hD : va_D A [(a_lp, .inr (4, [.ref a_lp_facts, .ref a_lp_turns, .ref a_lp_first, .ref a_lp_src, .ref a_s1, .int lp_choices, .int lp_guesses, .int lp_unaries, .int lp_ranked])), (a_lp_facts, .inl (cI, 4096, .inl lp_facts)), (a_lp_turns, .inl (cI, 24576, .inl lp_turns)), (a_s1, .inl (cI, 4096, .inl s1_54)), (a_s2, .inl (cI, 4096, .inl s2_55)), (a_gu, .inr (3, [.ref a_lp, .ref a_gu_rounds, .ref a_s1, .ref a_s2, .int gu_left]))] := hD
              refine lv_if_ne (tgt := 91) hx hb d_Gues_leastInduction_85 (by decide) (fun c_85 => ?_) (fun c_85 => ?_)
              · have h := And.left h c_85
                refine lv_iinc (v := x4_39 + 1) (lv' := [(4, .int (x4_39 + 1)), (0, .ref a_gu), (2, .int x2), (3, .int x3_32)]) hx hb d_Gues_leastInduction_91 hl (k := 3) rfl rfl (by decide) rfl (fun ls hl => ?_)
                refine lv_goto (tgt := 60) hx hb d_Gues_leastInduction_94 (by decide) ?_
                exact il _ _ _ h _ _ hP hD hS _ (lv_sub hl [1, 2, 3, 0] rfl)
              · have h := And.right h c_85
                exact hk88 _ _ _ h _ _ hP hD hS _ (lv_sub hl [3] rfl)
            · have h := And.right h c_75
              exact hk78 _ _ h _ _ hP hD hS _ (lv_sub hl [] rfl)
    obtain ⟨n_, h⟩ := h
    refine L60_q_42 _ ?_ _ ?_ _ ?_ n_ _ _ _ h _ _ hP hD hS _ (lv_sub hl [1, 2, 3, 0] rfl)
    · intro s1_56 s2_57 h
      intro H locs hP hD hS ls hl
      refine lv_iconst (v := 0) hx hb d_Gues_leastInduction_97 (by decide) ?_
      rw [← hQ]
      have hP9 := hP
      have hD9 := hD
      exact W.iret (v := 0) hx hb hr (fun t ht hW => ⟨⟨0, (s1_56, s2_57), rfl, h, by rw [ht]; exact hP9, va_K.moved hW.alike hK, hD9⟩, hS.F ht⟩) hS.2.2 d_Gues_leastInduction_98
    · intro s1_58 s2_59 h
      intro H locs hP hD hS ls hl
      refine lv_iconst (v := 0) hx hb d_Gues_leastInduction_78 (by decide) ?_
      rw [← hQ]
      have hP9 := hP
      have hD9 := hD
      exact W.iret (v := 0) hx hb hr (fun t ht hW => ⟨⟨0, (s1_58, s2_59), rfl, h, by rw [ht]; exact hP9, va_K.moved hW.alike hK, hD9⟩, hS.F ht⟩) hS.2.2 d_Gues_leastInduction_79
    · intro x4_60 s1_61 s2_62 h
      intro H locs hP hD hS ls hl
      refine lv_iload hx hb d_Gues_leastInduction_88 (lv_at hl 0 rfl) ?_
      rw [← hQ]
      have hP9 := hP
      have hD9 := hD
      exact W.iret (v := x4_60) hx hb hr (fun t ht hW => ⟨⟨x4_60, (s1_61, s2_62), rfl, h, by rw [ht]; exact hP9, va_K.moved hW.alike hK, hD9⟩, hS.F ht⟩) hS.2.2 d_Gues_leastInduction_90
