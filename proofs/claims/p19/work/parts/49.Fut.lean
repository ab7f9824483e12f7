abbrev b_Fut_question : ByteArray := prog_3_method_2_code
abbrev y_Fut_question : MethodName := ⟨"LoopInduction$Futures", "question", "()[I"⟩
abbrev w_Fut_question : List Cond := .code y_Fut_question b_Fut_question 1 (some (.array .int)) :: allW
theorem pn_Fut_question : y_Fut_question.cls ≠ "java/lang/invoke/MethodHandle" ∧ y_Fut_question.cls ≠ "java/lang/invoke/VarHandle" ∧ (parseMethodDescriptor y_Fut_question.desc).map (fun d => d.parameters.length) = some 0 := by decide +kernel
theorem pd_Fut_question : y_Fut_question.cls = "LoopInduction$Futures" ∧ y_Fut_question.cls ≠ "java/lang/invoke/MethodHandle" ∧ y_Fut_question.cls ≠ "java/lang/invoke/VarHandle" ∧ (parseMethodDescriptor y_Fut_question.desc).map (fun d => d.parameters.length) = some 0 := by decide +kernel
abbrev b_Fut_turnMarks : ByteArray := prog_3_method_5_code
abbrev y_Fut_turnMarks : MethodName := ⟨"LoopInduction$Futures", "turnMarks", "()V"⟩
abbrev w_Fut_turnMarks : List Cond := .code y_Fut_turnMarks b_Fut_turnMarks 2 none :: allW
theorem pn_Fut_turnMarks : y_Fut_turnMarks.cls ≠ "java/lang/invoke/MethodHandle" ∧ y_Fut_turnMarks.cls ≠ "java/lang/invoke/VarHandle" ∧ (parseMethodDescriptor y_Fut_turnMarks.desc).map (fun d => d.parameters.length) = some 0 := by decide +kernel
theorem pd_Fut_turnMarks : y_Fut_turnMarks.cls = "LoopInduction$Futures" ∧ y_Fut_turnMarks.cls ≠ "java/lang/invoke/MethodHandle" ∧ y_Fut_turnMarks.cls ≠ "java/lang/invoke/VarHandle" ∧ (parseMethodDescriptor y_Fut_turnMarks.desc).map (fun d => d.parameters.length) = some 0 := by decide +kernel
abbrev b_Fut_markSource : ByteArray := prog_3_method_7_code
abbrev y_Fut_markSource : MethodName := ⟨"LoopInduction$Futures", "markSource", "(IZ)V"⟩
abbrev w_Fut_markSource : List Cond := .code y_Fut_markSource b_Fut_markSource 3 none :: allW
theorem pn_Fut_markSource : y_Fut_markSource.cls ≠ "java/lang/invoke/MethodHandle" ∧ y_Fut_markSource.cls ≠ "java/lang/invoke/VarHandle" ∧ (parseMethodDescriptor y_Fut_markSource.desc).map (fun d => d.parameters.length) = some 2 := by decide +kernel
theorem pd_Fut_markSource : y_Fut_markSource.cls = "LoopInduction$Futures" ∧ y_Fut_markSource.cls ≠ "java/lang/invoke/MethodHandle" ∧ y_Fut_markSource.cls ≠ "java/lang/invoke/VarHandle" ∧ (parseMethodDescriptor y_Fut_markSource.desc).map (fun d => d.parameters.length) = some 2 := by decide +kernel
abbrev b_Fut_countLeading : ByteArray := prog_3_method_6_code
abbrev y_Fut_countLeading : MethodName := ⟨"LoopInduction$Futures", "countLeading", "(Z)I"⟩
abbrev w_Fut_countLeading : List Cond := .code y_Fut_countLeading b_Fut_countLeading 6 (some .int) :: allW
theorem pn_Fut_countLeading : y_Fut_countLeading.cls ≠ "java/lang/invoke/MethodHandle" ∧ y_Fut_countLeading.cls ≠ "java/lang/invoke/VarHandle" ∧ (parseMethodDescriptor y_Fut_countLeading.desc).map (fun d => d.parameters.length) = some 1 := by decide +kernel
theorem pd_Fut_countLeading : y_Fut_countLeading.cls = "LoopInduction$Futures" ∧ y_Fut_countLeading.cls ≠ "java/lang/invoke/MethodHandle" ∧ y_Fut_countLeading.cls ≠ "java/lang/invoke/VarHandle" ∧ (parseMethodDescriptor y_Fut_countLeading.desc).map (fun d => d.parameters.length) = some 1 := by decide +kernel
abbrev b_Fut_countMarked : ByteArray := prog_3_method_4_code
abbrev y_Fut_countMarked : MethodName := ⟨"LoopInduction$Futures", "countMarked", "(I)I"⟩
abbrev w_Fut_countMarked : List Cond := .code y_Fut_countMarked b_Fut_countMarked 4 (some .int) :: allW
theorem pn_Fut_countMarked : y_Fut_countMarked.cls ≠ "java/lang/invoke/MethodHandle" ∧ y_Fut_countMarked.cls ≠ "java/lang/invoke/VarHandle" ∧ (parseMethodDescriptor y_Fut_countMarked.desc).map (fun d => d.parameters.length) = some 1 := by decide +kernel
theorem pd_Fut_countMarked : y_Fut_countMarked.cls = "LoopInduction$Futures" ∧ y_Fut_countMarked.cls ≠ "java/lang/invoke/MethodHandle" ∧ y_Fut_countMarked.cls ≠ "java/lang/invoke/VarHandle" ∧ (parseMethodDescriptor y_Fut_countMarked.desc).map (fun d => d.parameters.length) = some 1 := by decide +kernel
abbrev b_Fut_answer : ByteArray := prog_3_method_3_code
abbrev y_Fut_answer : MethodName := ⟨"LoopInduction$Futures", "answer", "(I)I"⟩
abbrev w_Fut_answer : List Cond := .code y_Fut_answer b_Fut_answer 2 (some .int) :: allW
theorem pn_Fut_answer : y_Fut_answer.cls ≠ "java/lang/invoke/MethodHandle" ∧ y_Fut_answer.cls ≠ "java/lang/invoke/VarHandle" ∧ (parseMethodDescriptor y_Fut_answer.desc).map (fun d => d.parameters.length) = some 1 := by decide +kernel
theorem pd_Fut_answer : y_Fut_answer.cls = "LoopInduction$Futures" ∧ y_Fut_answer.cls ≠ "java/lang/invoke/MethodHandle" ∧ y_Fut_answer.cls ≠ "java/lang/invoke/VarHandle" ∧ (parseMethodDescriptor y_Fut_answer.desc).map (fun d => d.parameters.length) = some 1 := by decide +kernel
theorem d_Fut_question_0 : decode b_Fut_question 0 = .ok (.aload_n 0, 1) := by decide +kernel
theorem d_Fut_question_1 : decode b_Fut_question 1 = .ok (.getfield 21, 3) := by decide +kernel
theorem d_Fut_question_4 : decode b_Fut_question 4 = .ok (.areturn, 1) := by decide +kernel
theorem d_Fut_turnMarks_0 : decode b_Fut_turnMarks 0 = .ok (.iconst 0, 1) := by decide +kernel
theorem d_Fut_turnMarks_1 : decode b_Fut_turnMarks 1 = .ok (.istore_n 1, 1) := by decide +kernel
theorem d_Fut_turnMarks_2 : decode b_Fut_turnMarks 2 = .ok (.iload_n 1, 1) := by decide +kernel
theorem d_Fut_turnMarks_3 : decode b_Fut_turnMarks 3 = .ok (.sipush 4096, 3) := by decide +kernel
theorem d_Fut_turnMarks_6 : decode b_Fut_turnMarks 6 = .ok (.if_icmp .ge 23, 3) := by decide +kernel
theorem d_Fut_turnMarks_9 : decode b_Fut_turnMarks 9 = .ok (.aload_n 0, 1) := by decide +kernel
theorem d_Fut_turnMarks_10 : decode b_Fut_turnMarks 10 = .ok (.getfield 21, 3) := by decide +kernel
theorem d_Fut_turnMarks_13 : decode b_Fut_turnMarks 13 = .ok (.iload_n 1, 1) := by decide +kernel
theorem d_Fut_turnMarks_14 : decode b_Fut_turnMarks 14 = .ok (.iconst 1, 1) := by decide +kernel
theorem d_Fut_turnMarks_15 : decode b_Fut_turnMarks 15 = .ok (.aload_n 0, 1) := by decide +kernel
theorem d_Fut_turnMarks_16 : decode b_Fut_turnMarks 16 = .ok (.getfield 21, 3) := by decide +kernel
theorem d_Fut_turnMarks_19 : decode b_Fut_turnMarks 19 = .ok (.iload_n 1, 1) := by decide +kernel
theorem d_Fut_turnMarks_20 : decode b_Fut_turnMarks 20 = .ok (.iaload, 1) := by decide +kernel
theorem d_Fut_turnMarks_21 : decode b_Fut_turnMarks 21 = .ok (.isub, 1) := by decide +kernel
theorem d_Fut_turnMarks_22 : decode b_Fut_turnMarks 22 = .ok (.iastore, 1) := by decide +kernel
theorem d_Fut_turnMarks_23 : decode b_Fut_turnMarks 23 = .ok (.iinc 1 1, 3) := by decide +kernel
theorem d_Fut_turnMarks_26 : decode b_Fut_turnMarks 26 = .ok (.goto (-24), 3) := by decide +kernel
theorem d_Fut_turnMarks_29 : decode b_Fut_turnMarks 29 = .ok (.return_, 1) := by decide +kernel
theorem d_Fut_markSource_0 : decode b_Fut_markSource 0 = .ok (.iload_n 1, 1) := by decide +kernel
theorem d_Fut_markSource_1 : decode b_Fut_markSource 1 = .ok (.invokestatic 88, 3) := by decide +kernel
theorem d_Fut_markSource_4 : decode b_Fut_markSource 4 = .ok (.ifCond .ne 4, 3) := by decide +kernel
theorem d_Fut_markSource_7 : decode b_Fut_markSource 7 = .ok (.return_, 1) := by decide +kernel
theorem d_Fut_markSource_8 : decode b_Fut_markSource 8 = .ok (.aload_n 0, 1) := by decide +kernel
theorem d_Fut_markSource_9 : decode b_Fut_markSource 9 = .ok (.getfield 28, 3) := by decide +kernel
theorem d_Fut_markSource_12 : decode b_Fut_markSource 12 = .ok (.iload_n 1, 1) := by decide +kernel
theorem d_Fut_markSource_13 : decode b_Fut_markSource 13 = .ok (.dup2, 1) := by decide +kernel
theorem d_Fut_markSource_14 : decode b_Fut_markSource 14 = .ok (.iaload, 1) := by decide +kernel
theorem d_Fut_markSource_15 : decode b_Fut_markSource 15 = .ok (.iconst 1, 1) := by decide +kernel
theorem d_Fut_markSource_16 : decode b_Fut_markSource 16 = .ok (.isub, 1) := by decide +kernel
theorem d_Fut_markSource_17 : decode b_Fut_markSource 17 = .ok (.iastore, 1) := by decide +kernel
theorem d_Fut_markSource_18 : decode b_Fut_markSource 18 = .ok (.aload_n 0, 1) := by decide +kernel
theorem d_Fut_markSource_19 : decode b_Fut_markSource 19 = .ok (.getfield 21, 3) := by decide +kernel
theorem d_Fut_markSource_22 : decode b_Fut_markSource 22 = .ok (.iload_n 1, 1) := by decide +kernel
theorem d_Fut_markSource_23 : decode b_Fut_markSource 23 = .ok (.iaload, 1) := by decide +kernel
theorem d_Fut_markSource_24 : decode b_Fut_markSource 24 = .ok (.ifCond .ne 31, 3) := by decide +kernel
theorem d_Fut_markSource_27 : decode b_Fut_markSource 27 = .ok (.iload_n 2, 1) := by decide +kernel
theorem d_Fut_markSource_28 : decode b_Fut_markSource 28 = .ok (.ifCond .eq 12, 3) := by decide +kernel
theorem d_Fut_markSource_31 : decode b_Fut_markSource 31 = .ok (.aload_n 0, 1) := by decide +kernel
theorem d_Fut_markSource_32 : decode b_Fut_markSource 32 = .ok (.getfield 28, 3) := by decide +kernel
theorem d_Fut_markSource_35 : decode b_Fut_markSource 35 = .ok (.iload_n 1, 1) := by decide +kernel
theorem d_Fut_markSource_36 : decode b_Fut_markSource 36 = .ok (.iaload, 1) := by decide +kernel
theorem d_Fut_markSource_37 : decode b_Fut_markSource 37 = .ok (.ifCond .ne 18, 3) := by decide +kernel
theorem d_Fut_markSource_40 : decode b_Fut_markSource 40 = .ok (.aload_n 0, 1) := by decide +kernel
theorem d_Fut_markSource_41 : decode b_Fut_markSource 41 = .ok (.getfield 21, 3) := by decide +kernel
theorem d_Fut_markSource_44 : decode b_Fut_markSource 44 = .ok (.iload_n 1, 1) := by decide +kernel
theorem d_Fut_markSource_45 : decode b_Fut_markSource 45 = .ok (.iconst 1, 1) := by decide +kernel
theorem d_Fut_markSource_46 : decode b_Fut_markSource 46 = .ok (.iastore, 1) := by decide +kernel
theorem d_Fut_markSource_47 : decode b_Fut_markSource 47 = .ok (.aload_n 0, 1) := by decide +kernel
theorem d_Fut_markSource_48 : decode b_Fut_markSource 48 = .ok (.getfield 35, 3) := by decide +kernel
theorem d_Fut_markSource_51 : decode b_Fut_markSource 51 = .ok (.iload_n 1, 1) := by decide +kernel
theorem d_Fut_markSource_52 : decode b_Fut_markSource 52 = .ok (.invokevirtual 64, 3) := by decide +kernel
theorem d_Fut_markSource_55 : decode b_Fut_markSource 55 = .ok (.return_, 1) := by decide +kernel
theorem d_Fut_countLeading_0 : decode b_Fut_countLeading 0 = .ok (.aload_n 0, 1) := by decide +kernel
theorem d_Fut_countLeading_1 : decode b_Fut_countLeading 1 = .ok (.getfield 9, 3) := by decide +kernel
theorem d_Fut_countLeading_4 : decode b_Fut_countLeading 4 = .ok (.aload_n 0, 1) := by decide +kernel
theorem d_Fut_countLeading_5 : decode b_Fut_countLeading 5 = .ok (.getfield 28, 3) := by decide +kernel
theorem d_Fut_countLeading_8 : decode b_Fut_countLeading 8 = .ok (.invokevirtual 55, 3) := by decide +kernel
theorem d_Fut_countLeading_11 : decode b_Fut_countLeading 11 = .ok (.aload_n 0, 1) := by decide +kernel
theorem d_Fut_countLeading_12 : decode b_Fut_countLeading 12 = .ok (.getfield 35, 3) := by decide +kernel
theorem d_Fut_countLeading_15 : decode b_Fut_countLeading 15 = .ok (.invokevirtual 59, 3) := by decide +kernel
theorem d_Fut_countLeading_18 : decode b_Fut_countLeading 18 = .ok (.iconst 0, 1) := by decide +kernel
theorem d_Fut_countLeading_19 : decode b_Fut_countLeading 19 = .ok (.istore_n 2, 1) := by decide +kernel
theorem d_Fut_countLeading_20 : decode b_Fut_countLeading 20 = .ok (.iload_n 2, 1) := by decide +kernel
theorem d_Fut_countLeading_21 : decode b_Fut_countLeading 21 = .ok (.sipush 4096, 3) := by decide +kernel
theorem d_Fut_countLeading_24 : decode b_Fut_countLeading 24 = .ok (.if_icmp .ge 27, 3) := by decide +kernel
theorem d_Fut_countLeading_27 : decode b_Fut_countLeading 27 = .ok (.aload_n 0, 1) := by decide +kernel
theorem d_Fut_countLeading_28 : decode b_Fut_countLeading 28 = .ok (.getfield 21, 3) := by decide +kernel
theorem d_Fut_countLeading_31 : decode b_Fut_countLeading 31 = .ok (.iload_n 2, 1) := by decide +kernel
theorem d_Fut_countLeading_32 : decode b_Fut_countLeading 32 = .ok (.iaload, 1) := by decide +kernel
theorem d_Fut_countLeading_33 : decode b_Fut_countLeading 33 = .ok (.iconst 1, 1) := by decide +kernel
theorem d_Fut_countLeading_34 : decode b_Fut_countLeading 34 = .ok (.if_icmp .ne 11, 3) := by decide +kernel
theorem d_Fut_countLeading_37 : decode b_Fut_countLeading 37 = .ok (.aload_n 0, 1) := by decide +kernel
theorem d_Fut_countLeading_38 : decode b_Fut_countLeading 38 = .ok (.getfield 35, 3) := by decide +kernel
theorem d_Fut_countLeading_41 : decode b_Fut_countLeading 41 = .ok (.iload_n 2, 1) := by decide +kernel
theorem d_Fut_countLeading_42 : decode b_Fut_countLeading 42 = .ok (.invokevirtual 64, 3) := by decide +kernel
theorem d_Fut_countLeading_45 : decode b_Fut_countLeading 45 = .ok (.iinc 2 1, 3) := by decide +kernel
theorem d_Fut_countLeading_48 : decode b_Fut_countLeading 48 = .ok (.goto (-28), 3) := by decide +kernel
theorem d_Fut_countLeading_51 : decode b_Fut_countLeading 51 = .ok (.iconst 0, 1) := by decide +kernel
theorem d_Fut_countLeading_52 : decode b_Fut_countLeading 52 = .ok (.istore_n 2, 1) := by decide +kernel
theorem d_Fut_countLeading_53 : decode b_Fut_countLeading 53 = .ok (.iload_n 2, 1) := by decide +kernel
theorem d_Fut_countLeading_54 : decode b_Fut_countLeading 54 = .ok (.sipush 4096, 3) := by decide +kernel
theorem d_Fut_countLeading_57 : decode b_Fut_countLeading 57 = .ok (.if_icmp .ge 76, 3) := by decide +kernel
theorem d_Fut_countLeading_60 : decode b_Fut_countLeading 60 = .ok (.iload_n 2, 1) := by decide +kernel
theorem d_Fut_countLeading_61 : decode b_Fut_countLeading 61 = .ok (.aload_n 0, 1) := by decide +kernel
theorem d_Fut_countLeading_62 : decode b_Fut_countLeading 62 = .ok (.getfield 35, 3) := by decide +kernel
theorem d_Fut_countLeading_65 : decode b_Fut_countLeading 65 = .ok (.invokevirtual 68, 3) := by decide +kernel
theorem d_Fut_countLeading_68 : decode b_Fut_countLeading 68 = .ok (.if_icmp .ge 65, 3) := by decide +kernel
theorem d_Fut_countLeading_71 : decode b_Fut_countLeading 71 = .ok (.aload_n 0, 1) := by decide +kernel
theorem d_Fut_countLeading_72 : decode b_Fut_countLeading 72 = .ok (.getfield 35, 3) := by decide +kernel
theorem d_Fut_countLeading_75 : decode b_Fut_countLeading 75 = .ok (.iload_n 2, 1) := by decide +kernel
theorem d_Fut_countLeading_76 : decode b_Fut_countLeading 76 = .ok (.invokevirtual 72, 3) := by decide +kernel
theorem d_Fut_countLeading_79 : decode b_Fut_countLeading 79 = .ok (.istore_n 3, 1) := by decide +kernel
theorem d_Fut_countLeading_80 : decode b_Fut_countLeading 80 = .ok (.aload_n 0, 1) := by decide +kernel
theorem d_Fut_countLeading_81 : decode b_Fut_countLeading 81 = .ok (.getfield 9, 3) := by decide +kernel
theorem d_Fut_countLeading_84 : decode b_Fut_countLeading 84 = .ok (.iload_n 3, 1) := by decide +kernel
theorem d_Fut_countLeading_85 : decode b_Fut_countLeading 85 = .ok (.invokevirtual 75, 3) := by decide +kernel
theorem d_Fut_countLeading_88 : decode b_Fut_countLeading 88 = .ok (.istore 4, 2) := by decide +kernel
theorem d_Fut_countLeading_90 : decode b_Fut_countLeading 90 = .ok (.aload_n 0, 1) := by decide +kernel
theorem d_Fut_countLeading_91 : decode b_Fut_countLeading 91 = .ok (.getfield 9, 3) := by decide +kernel
theorem d_Fut_countLeading_94 : decode b_Fut_countLeading 94 = .ok (.iload_n 3, 1) := by decide +kernel
theorem d_Fut_countLeading_95 : decode b_Fut_countLeading 95 = .ok (.invokevirtual 78, 3) := by decide +kernel
theorem d_Fut_countLeading_98 : decode b_Fut_countLeading 98 = .ok (.istore 5, 2) := by decide +kernel
theorem d_Fut_countLeading_100 : decode b_Fut_countLeading 100 = .ok (.iload 5, 2) := by decide +kernel
theorem d_Fut_countLeading_102 : decode b_Fut_countLeading 102 = .ok (.iload 4, 2) := by decide +kernel
theorem d_Fut_countLeading_104 : decode b_Fut_countLeading 104 = .ok (.if_icmp .gt 23, 3) := by decide +kernel
theorem d_Fut_countLeading_107 : decode b_Fut_countLeading 107 = .ok (.aload_n 0, 1) := by decide +kernel
theorem d_Fut_countLeading_108 : decode b_Fut_countLeading 108 = .ok (.aload_n 0, 1) := by decide +kernel
theorem d_Fut_countLeading_109 : decode b_Fut_countLeading 109 = .ok (.getfield 9, 3) := by decide +kernel
theorem d_Fut_countLeading_112 : decode b_Fut_countLeading 112 = .ok (.iload 5, 2) := by decide +kernel
theorem d_Fut_countLeading_114 : decode b_Fut_countLeading 114 = .ok (.invokevirtual 81, 3) := by decide +kernel
theorem d_Fut_countLeading_117 : decode b_Fut_countLeading 117 = .ok (.iload_n 1, 1) := by decide +kernel
theorem d_Fut_countLeading_118 : decode b_Fut_countLeading 118 = .ok (.invokevirtual 84, 3) := by decide +kernel
theorem d_Fut_countLeading_121 : decode b_Fut_countLeading 121 = .ok (.iinc 5 1, 3) := by decide +kernel
theorem d_Fut_countLeading_124 : decode b_Fut_countLeading 124 = .ok (.goto (-24), 3) := by decide +kernel
theorem d_Fut_countLeading_127 : decode b_Fut_countLeading 127 = .ok (.iinc 2 1, 3) := by decide +kernel
theorem d_Fut_countLeading_130 : decode b_Fut_countLeading 130 = .ok (.goto (-77), 3) := by decide +kernel
theorem d_Fut_countLeading_133 : decode b_Fut_countLeading 133 = .ok (.aload_n 0, 1) := by decide +kernel
theorem d_Fut_countLeading_134 : decode b_Fut_countLeading 134 = .ok (.getfield 35, 3) := by decide +kernel
theorem d_Fut_countLeading_137 : decode b_Fut_countLeading 137 = .ok (.invokevirtual 68, 3) := by decide +kernel
theorem d_Fut_countLeading_140 : decode b_Fut_countLeading 140 = .ok (.ireturn, 1) := by decide +kernel
theorem d_Fut_countMarked_0 : decode b_Fut_countMarked 0 = .ok (.iconst 0, 1) := by decide +kernel
theorem d_Fut_countMarked_1 : decode b_Fut_countMarked 1 = .ok (.istore_n 2, 1) := by decide +kernel
theorem d_Fut_countMarked_2 : decode b_Fut_countMarked 2 = .ok (.iconst 0, 1) := by decide +kernel
theorem d_Fut_countMarked_3 : decode b_Fut_countMarked 3 = .ok (.istore_n 3, 1) := by decide +kernel
theorem d_Fut_countMarked_4 : decode b_Fut_countMarked 4 = .ok (.iload_n 3, 1) := by decide +kernel
theorem d_Fut_countMarked_5 : decode b_Fut_countMarked 5 = .ok (.sipush 4096, 3) := by decide +kernel
theorem d_Fut_countMarked_8 : decode b_Fut_countMarked 8 = .ok (.if_icmp .ge 34, 3) := by decide +kernel
theorem d_Fut_countMarked_11 : decode b_Fut_countMarked 11 = .ok (.aload_n 0, 1) := by decide +kernel
theorem d_Fut_countMarked_12 : decode b_Fut_countMarked 12 = .ok (.getfield 21, 3) := by decide +kernel
theorem d_Fut_countMarked_15 : decode b_Fut_countMarked 15 = .ok (.iload_n 3, 1) := by decide +kernel
theorem d_Fut_countMarked_16 : decode b_Fut_countMarked 16 = .ok (.iaload, 1) := by decide +kernel
theorem d_Fut_countMarked_17 : decode b_Fut_countMarked 17 = .ok (.iconst 1, 1) := by decide +kernel
theorem d_Fut_countMarked_18 : decode b_Fut_countMarked 18 = .ok (.if_icmp .ne 18, 3) := by decide +kernel
theorem d_Fut_countMarked_21 : decode b_Fut_countMarked 21 = .ok (.aload_n 0, 1) := by decide +kernel
theorem d_Fut_countMarked_22 : decode b_Fut_countMarked 22 = .ok (.getfield 9, 3) := by decide +kernel
theorem d_Fut_countMarked_25 : decode b_Fut_countMarked 25 = .ok (.iload_n 3, 1) := by decide +kernel
theorem d_Fut_countMarked_26 : decode b_Fut_countMarked 26 = .ok (.iload_n 1, 1) := by decide +kernel
theorem d_Fut_countMarked_27 : decode b_Fut_countMarked 27 = .ok (.invokevirtual 51, 3) := by decide +kernel
theorem d_Fut_countMarked_30 : decode b_Fut_countMarked 30 = .ok (.ifCond .eq 6, 3) := by decide +kernel
theorem d_Fut_countMarked_33 : decode b_Fut_countMarked 33 = .ok (.iinc 2 1, 3) := by decide +kernel
theorem d_Fut_countMarked_36 : decode b_Fut_countMarked 36 = .ok (.iinc 3 1, 3) := by decide +kernel
theorem d_Fut_countMarked_39 : decode b_Fut_countMarked 39 = .ok (.goto (-35), 3) := by decide +kernel
theorem d_Fut_countMarked_42 : decode b_Fut_countMarked 42 = .ok (.iload_n 2, 1) := by decide +kernel
theorem d_Fut_countMarked_43 : decode b_Fut_countMarked 43 = .ok (.ireturn, 1) := by decide +kernel
theorem d_Fut_answer_0 : decode b_Fut_answer 0 = .ok (.iload_n 1, 1) := by decide +kernel
theorem d_Fut_answer_1 : decode b_Fut_answer 1 = .ok (.tableswitch 73 0 4 #[35, 41, 47, 53, 59], 35) := by decide +kernel
theorem d_Fut_answer_36 : decode b_Fut_answer 36 = .ok (.aload_n 0, 1) := by decide +kernel
theorem d_Fut_answer_37 : decode b_Fut_answer 37 = .ok (.iconst 0, 1) := by decide +kernel
theorem d_Fut_answer_38 : decode b_Fut_answer 38 = .ok (.invokevirtual 38, 3) := by decide +kernel
theorem d_Fut_answer_41 : decode b_Fut_answer 41 = .ok (.ireturn, 1) := by decide +kernel
theorem d_Fut_answer_42 : decode b_Fut_answer 42 = .ok (.aload_n 0, 1) := by decide +kernel
theorem d_Fut_answer_43 : decode b_Fut_answer 43 = .ok (.iconst 4, 1) := by decide +kernel
theorem d_Fut_answer_44 : decode b_Fut_answer 44 = .ok (.invokevirtual 38, 3) := by decide +kernel
theorem d_Fut_answer_47 : decode b_Fut_answer 47 = .ok (.ireturn, 1) := by decide +kernel
theorem d_Fut_answer_48 : decode b_Fut_answer 48 = .ok (.aload_n 0, 1) := by decide +kernel
theorem d_Fut_answer_49 : decode b_Fut_answer 49 = .ok (.iconst 0, 1) := by decide +kernel
theorem d_Fut_answer_50 : decode b_Fut_answer 50 = .ok (.invokevirtual 44, 3) := by decide +kernel
theorem d_Fut_answer_53 : decode b_Fut_answer 53 = .ok (.ireturn, 1) := by decide +kernel
theorem d_Fut_answer_54 : decode b_Fut_answer 54 = .ok (.aload_n 0, 1) := by decide +kernel
theorem d_Fut_answer_55 : decode b_Fut_answer 55 = .ok (.iconst 1, 1) := by decide +kernel
theorem d_Fut_answer_56 : decode b_Fut_answer 56 = .ok (.invokevirtual 44, 3) := by decide +kernel
theorem d_Fut_answer_59 : decode b_Fut_answer 59 = .ok (.ireturn, 1) := by decide +kernel
theorem d_Fut_answer_60 : decode b_Fut_answer 60 = .ok (.aload_n 0, 1) := by decide +kernel
theorem d_Fut_answer_61 : decode b_Fut_answer 61 = .ok (.invokevirtual 48, 3) := by decide +kernel
theorem d_Fut_answer_64 : decode b_Fut_answer 64 = .ok (.sipush 4096, 3) := by decide +kernel
theorem d_Fut_answer_67 : decode b_Fut_answer 67 = .ok (.aload_n 0, 1) := by decide +kernel
theorem d_Fut_answer_68 : decode b_Fut_answer 68 = .ok (.iconst 0, 1) := by decide +kernel
theorem d_Fut_answer_69 : decode b_Fut_answer 69 = .ok (.invokevirtual 44, 3) := by decide +kernel
theorem d_Fut_answer_72 : decode b_Fut_answer 72 = .ok (.isub, 1) := by decide +kernel
theorem d_Fut_answer_73 : decode b_Fut_answer 73 = .ok (.ireturn, 1) := by decide +kernel
theorem d_Fut_answer_74 : decode b_Fut_answer 74 = .ok (.iconst (-1), 1) := by decide +kernel
theorem d_Fut_answer_75 : decode b_Fut_answer 75 = .ok (.ireturn, 1) := by decide +kernel
set_option maxHeartbeats 4000000 in
set_option maxRecDepth 100000 in
theorem c_Fut_question (l : Launch) (dC : Nat → ClassId) (dI : Nat → Nat → Nat) (cI cB cZ : ClassId) (adK adV : Nat → Nat) (sz : Nat) (a_fu a_lp a_s1 a_s2 a_wk : Nat) (post : Prop) (h : wp_Fut_question post) : Met l y_Fut_question w_Fut_question ({ frames := 0, cells := 0, slots := 0, locals := 0 }) (pc_ (dC, dI) [(cI, .int), (cB, .byte), (cZ, .boolean)] [(a_fu, .inr (2, [.ref a_lp, .ref a_s1, .ref a_s2, .ref a_wk]))] sz adK adV [.ref a_fu]) (va_Qr (fun (u : Unit) => post ) (fun (u : Unit) a t => a = a_s1 ∧ bw_ (dC, dI) [(cI, .int), (cB, .byte), (cZ, .boolean)] (va_A [(a_fu, .inr (2, [.ref a_lp, .ref a_s1, .ref a_s2, .ref a_wk]))] sz) [(a_fu, .inr (2, [.ref a_lp, .ref a_s1, .ref a_s2, .ref a_wk]))] t) (va_A [(a_fu, .inr (2, [.ref a_lp, .ref a_s1, .ref a_s2, .ref a_wk]))] sz)) 0 0 (va_A [(a_fu, .inr (2, [.ref a_lp, .ref a_s1, .ref a_s2, .ref a_wk]))] sz) := by
  refine Met.ofW (cc := b_Fut_question) (maxL := 1) (ret := (some (.array .int))) (by decide) rfl ?_
  intro p e s m args below meth c s₁ B hml hv
  obtain ⟨rfl, hsz, hP, hK, hD0, hN, hT⟩ := hv
  have hx := B.exec
  have hb := B.bytes
  have hr := B.returns
  have hts := atoms_spec (ws := w_Fut_question) B.pre
  have hown : s.vm.findClass "LoopInduction$Futures" = some m.cls := findClass_of_methodNamed B.named
  have hlocks := B.notSynchronized
  subst hsz
  have hD := hD0.self (sz := s.heap.size)
  generalize hAe : va_A [(a_fu, .inr (2, [.ref a_lp, .ref a_s1, .ref a_s2, .ref a_wk]))] s.heap.size = A at hD hT ⊢
  have hA : ∀ q : Nat, s.heap.size ≤ q → A q := fun q h => by rw [← hAe]; exact Or.inr h
  have hS : va_S A s.heap s.heap [] := va_S.rf
  generalize hQ : MQ below _ _ s 0 0 _ = QQ
  have hl := lv_entry ([.ref a_fu]) (n := 1) (Nat.le_of_ble_eq_true rfl)
  rw [lg_entry_eq]
  generalize (lg_sl ([.ref a_fu]) ++ List.replicate (1 - (lg_sl ([.ref a_fu])).length) Slot.unset).toArray = ls at hl ⊢
  have hl : lv_has ls 1 [(0, .ref a_fu)] := hl
  have fl_21 := (hts _ (List.mem_cons_of_mem _ m_359))
  refine lv_aload_n hx hb d_Fut_question_0 rfl (lv_at hl 0 rfl) ?_
  refine va_get (D := (dC, dI)) (ci := 2) (v := .ref a_s1) (C := "LoopInduction$Futures") (T := F_Fut) (N := 4) hx hb hts iC_Fut hown hK hP 0 rfl rfl 1 (by decide) fl_21 (fun _ h9 => h9) rfl d_Fut_question_1 ?_
  rw [← hQ]
  have hP9 := hP
  have hD9 := hD
  exact W.aret (v := .ref a_s1) hx hb hr (Or.inr ⟨_, rfl⟩) (Or.inr ⟨_, rfl⟩) (fun t ht hW => ⟨⟨(), a_s1, rfl, h, rfl, by rw [ht]; exact hP9, va_K.moved hW.alike hK, hD9⟩, hS.F ht⟩) hS.2.2 d_Fut_question_4
set_option maxHeartbeats 4000000 in
set_option maxRecDepth 100000 in
theorem c_Fut_turnMarks (l : Launch) (dC : Nat → ClassId) (dI : Nat → Nat → Nat) (cI cB cZ : ClassId) (adK adV : Nat → Nat) (sz : Nat) (a_s1 a_fu a_lp a_s2 a_wk : Nat) (s1 : Nat → Int32) (post : (Nat → Int32) → Prop) (h : wp_Fut_turnMarks s1 post) : Met l y_Fut_turnMarks w_Fut_turnMarks ({ frames := 0, cells := 0, slots := 0, locals := 0 }) (pc_ (dC, dI) [(cI, .int), (cB, .byte), (cZ, .boolean)] [(a_s1, .inl (cI, 4096, .inl s1)), (a_fu, .inr (2, [.ref a_lp, .ref a_s1, .ref a_s2, .ref a_wk]))] sz adK adV [.ref a_fu]) (va_Qv (fun (u : (Nat → Int32)) => post u) (fun (u : (Nat → Int32)) t => bw_ (dC, dI) [(cI, .int), (cB, .byte), (cZ, .boolean)] (va_A [(a_s1, .inl (cI, 4096, .inl s1)), (a_fu, .inr (2, [.ref a_lp, .ref a_s1, .ref a_s2, .ref a_wk]))] sz) [(a_s1, .inl (cI, 4096, .inl u)), (a_fu, .inr (2, [.ref a_lp, .ref a_s1, .ref a_s2, .ref a_wk]))] t) (va_A [(a_s1, .inl (cI, 4096, .inl s1)), (a_fu, .inr (2, [.ref a_lp, .ref a_s1, .ref a_s2, .ref a_wk]))] sz)) 0 0 (va_A [(a_s1, .inl (cI, 4096, .inl s1)), (a_fu, .inr (2, [.ref a_lp, .ref a_s1, .ref a_s2, .ref a_wk]))] sz) := by
  refine Met.ofW (cc := b_Fut_turnMarks) (maxL := 2) (ret := none) (by decide) rfl ?_
  intro p e s m args below meth c s₁ B hml hv
  obtain ⟨rfl, hsz, hP, hK, hD0, hN, hT⟩ := hv
  have hx := B.exec
  have hb := B.bytes
  have hr := B.returns
  have hts := atoms_spec (ws := w_Fut_turnMarks) B.pre
  have hown : s.vm.findClass "LoopInduction$Futures" = some m.cls := findClass_of_methodNamed B.named
  have hlocks := B.notSynchronized
  subst hsz
  have hD := hD0.self (sz := s.heap.size)
  generalize hAe : va_A [(a_s1, .inl (cI, 4096, .inl s1)), (a_fu, .inr (2, [.ref a_lp, .ref a_s1, .ref a_s2, .ref a_wk]))] s.heap.size = A at hD hT ⊢
  have hA : ∀ q : Nat, s.heap.size ≤ q → A q := fun q h => by rw [← hAe]; exact Or.inr h
  have hS : va_S A s.heap s.heap [] := va_S.rf
  generalize hQ : MQ below _ _ s 0 0 _ = QQ
  have hl := lv_entry ([.ref a_fu]) (n := 2) (Nat.le_of_ble_eq_true rfl)
  rw [lg_entry_eq]
  generalize (lg_sl ([.ref a_fu]) ++ List.replicate (2 - (lg_sl ([.ref a_fu])).length) Slot.unset).toArray = ls at hl ⊢
  have hl : lv_has ls 2 [(0, .ref a_fu)] := hl
  have fl_21 := (hts _ (List.mem_cons_of_mem _ m_359))
  refine lv_iconst (v := 0) hx hb d_Fut_turnMarks_0 (by decide) ?_
  refine lv_istore_n (lv' := [(1, .int 0), (0, .ref a_fu)]) hx hb d_Fut_turnMarks_1 rfl hl (by decide) rfl (fun ls hl => ?_)
  have L2_q_3 : ∀ (k29 : (Nat → Int32) → Prop) (hk29 : ∀ (s1_4 : Nat → Int32), k29 s1_4 → ∀ (H : Heap) (locs : List Loc), va_P (dC, dI) vwCl [(a_s1, .inl (cI, 4096, .inl s1_4)), (a_fu, .inr (2, [.ref a_lp, .ref a_s1, .ref a_s2, .ref a_wk]))] H → va_D A [(a_s1, .inl (cI, 4096, .inl s1_4)), (a_fu, .inr (2, [.ref a_lp, .ref a_s1, .ref a_s2, .ref a_wk]))] → va_S A s.heap H locs → ∀ ls : Array Slot, lv_has ls 2 [] → W p l e (headSpec w_Fut_turnMarks ({ frames := 0, cells := 0, slots := 0, locals := 0 })).room s m (([.ref a_fu] : List Value).toArray) below meth c H locs 0 0 QQ (F0 m 29 ls [])) (n : Nat) (x1_1 : Int32) (s1_2 : Nat → Int32), wp_Fut_turnMarks_L2 k29 n x1_1 s1_2 → ∀ (H : Heap) (locs : List Loc), va_P (dC, dI) vwCl [(a_s1, .inl (cI, 4096, .inl s1_2)), (a_fu, .inr (2, [.ref a_lp, .ref a_s1, .ref a_s2, .ref a_wk]))] H → va_D A [(a_s1, .inl (cI, 4096, .inl s1_2)), (a_fu, .inr (2, [.ref a_lp, .ref a_s1, .ref a_s2, .ref a_wk]))] → va_S A s.heap H locs → ∀ ls : Array Slot, lv_has ls 2 [(0, .ref a_fu), (1, .int x1_1)] → W p l e (headSpec w_Fut_turnMarks ({ frames := 0, cells := 0, slots := 0, locals := 0 })).room s m (([.ref a_fu] : List Value).toArray) below meth c H locs 0 0 QQ (F0 m 2 ls []) := by
    intro k29 hk29 n
    induction n with
    | zero => intro x1_1 s1_2 h; exact (show False from h).elim
    | succ n il =>
      intro x1_1 s1_2 h
      intro H locs hP hD hS ls hl
      refine lv_iload_n hx hb d_Fut_turnMarks_2 rfl (lv_at hl 1 rfl) ?_
      refine lv_sipush (v := 4096) hx hb d_Fut_turnMarks_3 (by decide) ?_
      refine lv_icmp_ge (tgt := 29) hx hb d_Fut_turnMarks_6 (by decide) (fun c_6 => ?_) (fun c_6 => ?_)
      · have h := And.left h c_6
        exact hk29 _ h _ _ hP hD hS _ (lv_sub hl [] rfl)
      · have h := And.right h c_6
        refine lv_aload_n hx hb d_Fut_turnMarks_9 rfl (lv_at hl 0 rfl) ?_
        refine va_get (D := (dC, dI)) (ci := 2) (v := .ref a_s1) (C := "LoopInduction$Futures") (T := F_Fut) (N := 4) hx hb hts iC_Fut hown hK hP 1 rfl rfl 1 (by decide) fl_21 (fun _ h9 => h9) rfl d_Fut_turnMarks_10 ?_
        refine lv_iload_n hx hb d_Fut_turnMarks_13 rfl (lv_at hl 1 rfl) ?_
        refine lv_iconst (v := 1) hx hb d_Fut_turnMarks_14 (by decide) ?_
        refine lv_aload_n hx hb d_Fut_turnMarks_15 rfl (lv_at hl 0 rfl) ?_
        refine va_get (D := (dC, dI)) (ci := 2) (v := .ref a_s1) (C := "LoopInduction$Futures") (T := F_Fut) (N := 4) hx hb hts iC_Fut hown hK hP 1 rfl rfl 1 (by decide) fl_21 (fun _ h9 => h9) rfl d_Fut_turnMarks_16 ?_
        refine lv_iload_n hx hb d_Fut_turnMarks_19 rfl (lv_at hl 1 rfl) ?_
        obtain ⟨hin_20, h⟩ := h
        refine va_iald hx hb hK hP 0 0 rfl rfl hin_20 d_Fut_turnMarks_20 ?_
        refine lv_isub hx hb d_Fut_turnMarks_21 ?_
        obtain ⟨hin_22, h⟩ := h
        refine va_iast hx hb hK hP hD hS 0 0 rfl rfl hin_22 d_Fut_turnMarks_22 (fun H locs hP hD hS => ?_)
        have hP : va_P (dC, dI) vwCl [(a_s1, .inl (cI, 4096, .inl (upd s1_2 (x1_1 : Int32).toNatClampNeg (1 - (s1_2 (x1_1 : Int32).toNatClampNeg))))), (a_fu, .inr (2, [.ref a_lp, .ref a_s1, .ref a_s2, .ref a_wk]))] H := hP
        have hD : va_D A [(a_s1, .inl (cI, 4096, .inl (upd s1_2 (x1_1 : Int32).toNatClampNeg (1 - (s1_2 (x1_1 : Int32).toNatClampNeg))))), (a_fu, .inr (2, [.ref a_lp, .ref a_s1, .ref a_s2, .ref a_wk]))] := hD
        refine lv_iinc (v := x1_1 + 1) (lv' := [(1, .int (x1_1 + 1)), (0, .ref a_fu)]) hx hb d_Fut_turnMarks_23 hl (k := 1) rfl rfl (by decide) rfl (fun ls hl => ?_)
        refine lv_goto (tgt := 2) hx hb d_Fut_turnMarks_26 (by decide) ?_
        exact il _ _ h _ _ hP hD hS _ (lv_sub hl [1, 0] rfl)
  obtain ⟨n_, h⟩ := h
  refine L2_q_3 _ ?_ n_ _ _ h _ _ hP hD hS _ (lv_sub hl [1, 0] rfl)
  intro s1_5 h
  intro H locs hP hD hS ls hl
  rw [← hQ]
  have hP9 := hP
  have hD9 := hD
  exact W.vret hx hb hr (fun t ht hW => ⟨⟨(s1_5), rfl, h, by rw [ht]; exact hP9, va_K.moved hW.alike hK, hD9⟩, hS.F ht⟩) hS.2.2 d_Fut_turnMarks_29
set_option maxHeartbeats 4000000 in
set_option maxRecDepth 100000 in
theorem c_Fut_markSource (l : Launch) (dC : Nat → ClassId) (dI : Nat → Nat → Nat) (cI cB cZ : ClassId) (adK adV : Nat → Nat) (sz : Nat) (a_s1 a_s2 a_wk a_wk_items a_fu a_lp : Nat) (s1 : Nat → Int32) (s2 : Nat → Int32) (wk_size : Int32) (wk_items : Nat → Int32) (x1 : Int32) (x2 : Int32) (post : (Nat → Int32) → (Nat → Int32) → Int32 → (Nat → Int32) → Prop) (h : wp_Fut_markSource x1 x2 s1 s2 wk_size wk_items post) : Met l y_Fut_markSource w_Fut_markSource ({ frames := 1, cells := 0, slots := 0, locals := 21 }) (pc_ (dC, dI) [(cI, .int), (cB, .byte), (cZ, .boolean)] [(a_s1, .inl (cI, 4096, .inl s1)), (a_s2, .inl (cI, 4096, .inl s2)), (a_wk, .inr (10, [.ref a_wk_items, .int wk_size])), (a_wk_items, .inl (cI, 4096, .inl wk_items)), (a_fu, .inr (2, [.ref a_lp, .ref a_s1, .ref a_s2, .ref a_wk]))] sz adK adV [.ref a_fu, .int x1, .int x2]) (va_Qv (fun (u : (Nat → Int32) × (Nat → Int32) × Int32 × (Nat → Int32)) => post u.1 u.2.1 u.2.2.1 u.2.2.2) (fun (u : (Nat → Int32) × (Nat → Int32) × Int32 × (Nat → Int32)) t => bw_ (dC, dI) [(cI, .int), (cB, .byte), (cZ, .boolean)] (va_A [(a_s1, .inl (cI, 4096, .inl s1)), (a_s2, .inl (cI, 4096, .inl s2)), (a_wk, .inr (10, [.ref a_wk_items, .int wk_size])), (a_wk_items, .inl (cI, 4096, .inl wk_items)), (a_fu, .inr (2, [.ref a_lp, .ref a_s1, .ref a_s2, .ref a_wk]))] sz) [(a_s1, .inl (cI, 4096, .inl u.1)), (a_s2, .inl (cI, 4096, .inl u.2.1)), (a_wk, .inr (10, [.ref a_wk_items, .int u.2.2.1])), (a_wk_items, .inl (cI, 4096, .inl u.2.2.2)), (a_fu, .inr (2, [.ref a_lp, .ref a_s1, .ref a_s2, .ref a_wk]))] t) (va_A [(a_s1, .inl (cI, 4096, .inl s1)), (a_s2, .inl (cI, 4096, .inl s2)), (a_wk, .inr (10, [.ref a_wk_items, .int wk_size])), (a_wk_items, .inl (cI, 4096, .inl wk_items)), (a_fu, .inr (2, [.ref a_lp, .ref a_s1, .ref a_s2, .ref a_wk]))] sz)) 0 0 (va_A [(a_s1, .inl (cI, 4096, .inl s1)), (a_s2, .inl (cI, 4096, .inl s2)), (a_wk, .inr (10, [.ref a_wk_items, .int wk_size])), (a_wk_items, .inl (cI, 4096, .inl wk_items)), (a_fu, .inr (2, [.ref a_lp, .ref a_s1, .ref a_s2, .ref a_wk]))] sz) := by
  refine Met.ofW (cc := b_Fut_markSource) (maxL := 3) (ret := none) (by decide) rfl ?_
  intro p e s m args below meth c s₁ B hml hv
  obtain ⟨rfl, hsz, hP, hK, hD0, hN, hT⟩ := hv
  have hx := B.exec
  have hb := B.bytes
  have hr := B.returns
  have hts := atoms_spec (ws := w_Fut_markSource) B.pre
  have hown : s.vm.findClass "LoopInduction$Futures" = some m.cls := findClass_of_methodNamed B.named
  have hlocks := B.notSynchronized
  subst hsz
  have hD := hD0.self (sz := s.heap.size)
  generalize hAe : va_A [(a_s1, .inl (cI, 4096, .inl s1)), (a_s2, .inl (cI, 4096, .inl s2)), (a_wk, .inr (10, [.ref a_wk_items, .int wk_size])), (a_wk_items, .inl (cI, 4096, .inl wk_items)), (a_fu, .inr (2, [.ref a_lp, .ref a_s1, .ref a_s2, .ref a_wk]))] s.heap.size = A at hD hT ⊢
  have hA : ∀ q : Nat, s.heap.size ≤ q → A q := fun q h => by rw [← hAe]; exact Or.inr h
  have hS : va_S A s.heap s.heap [] := va_S.rf
  generalize hQ : MQ below _ _ s 0 0 _ = QQ
  have hl := lv_entry ([.ref a_fu, .int x1, .int x2]) (n := 3) (Nat.le_of_ble_eq_true rfl)
  rw [lg_entry_eq]
  generalize (lg_sl ([.ref a_fu, .int x1, .int x2]) ++ List.replicate (3 - (lg_sl ([.ref a_fu, .int x1, .int x2])).length) Slot.unset).toArray = ls at hl ⊢
  have hl : lv_has ls 3 [(0, .ref a_fu), (1, .int x1), (2, .int x2)] := hl
  have fl_21 := (hts _ (List.mem_cons_of_mem _ m_359))
  have fl_28 := (hts _ (List.mem_cons_of_mem _ m_360))
  have fl_35 := (hts _ (List.mem_cons_of_mem _ m_361))
  refine lv_iload_n hx hb d_Fut_markSource_0 rfl (lv_at hl 1 rfl) ?_
  refine jn_i (wr := [(a_s1, .inl (cI, 4096, .inl s1)), (a_s2, .inl (cI, 4096, .inl s2)), (a_wk, .inr (10, [.ref a_wk_items, .int wk_size])), (a_wk_items, .inl (cI, 4096, .inl wk_items)), (a_fu, .inr (2, [.ref a_lp, .ref a_s1, .ref a_s2, .ref a_wk]))]) (va_runSN (As := [.int x1]) (rest := []) ⟨hx, hb, hml, hown, hts⟩ (c_LI_isState l dC dI cI cB cZ adK adV _ x1 _ h) ⟨va_cnB 1 hts (ga_ m_762) rfl rfl rfl (hN _ (List.mem_of_getElem? (i := 7) rfl)) (hts _ (List.mem_cons_of_mem _ m_85)) pn_LI_isState ⟨Nat.le_of_ble_eq_true rfl, Nat.le_of_ble_eq_true rfl⟩, (hts _ (List.mem_cons_of_mem _ m_761)), trivial⟩ ⟨pc_blind, pc_of (hP.sub [] rfl) hK (hD.sub [] (by decide) rfl) hN hT hS hA⟩ rfl rfl hl.1 rfl (lv_room (Nat.le_of_ble_eq_true rfl)) d_Fut_markSource_1 ⟨Nat.zero_le _, Nat.zero_le _⟩) hP hD hS hA [] [0, 1, 2, 3, 4] rfl rfl (by decide) (by decide) (fun r_1 u_ H locs h hP hD hS => ?_)
  have hP : va_P (dC, dI) vwCl [(a_s1, .inl (cI, 4096, .inl s1)), (a_s2, .inl (cI, 4096, .inl s2)), (a_wk, .inr (10, [.ref a_wk_items, .int wk_size])), (a_wk_items, .inl (cI, 4096, .inl wk_items)), (a_fu, .inr (2, [.ref a_lp, .ref a_s1, .ref a_s2, .ref a_wk]))] H := hP
  have hD : va_D A [(a_s1, .inl (cI, 4096, .inl s1)), (a_s2, .inl (cI, 4096, .inl s2)), (a_wk, .inr (10, [.ref a_wk_items, .int wk_size])), (a_wk_items, .inl (cI, 4096, .inl wk_items)), (a_fu, .inr (2, [.ref a_lp, .ref a_s1, .ref a_s2, .ref a_wk]))] := hD
  refine lv_if_ne (tgt := 8) hx hb d_Fut_markSource_4 (by decide) (fun c_4 => ?_) (fun c_4 => ?_)
  · have h := And.left h c_4
    refine lv_aload_n hx hb d_Fut_markSource_8 rfl (lv_at hl 0 rfl) ?_
    refine va_get (D := (dC, dI)) (ci := 2) (v := .ref a_s2) (C := "LoopInduction$Futures") (T := F_Fut) (N := 4) hx hb hts iC_Fut hown hK hP 4 rfl rfl 2 (by decide) fl_28 (fun _ h9 => h9) rfl d_Fut_markSource_9 ?_
    refine lv_iload_n hx hb d_Fut_markSource_12 rfl (lv_at hl 1 rfl) ?_
    refine lv_dup2_11 hx hb d_Fut_markSource_13 rfl rfl ?_
    obtain ⟨hin_14, h⟩ := h
    refine va_iald hx hb hK hP 1 0 rfl rfl hin_14 d_Fut_markSource_14 ?_
    refine lv_iconst (v := 1) hx hb d_Fut_markSource_15 (by decide) ?_
    refine lv_isub hx hb d_Fut_markSource_16 ?_
    obtain ⟨hin_17, h⟩ := h
    refine va_iast hx hb hK hP hD hS 1 0 rfl rfl hin_17 d_Fut_markSource_17 (fun H locs hP hD hS => ?_)
    have hP : va_P (dC, dI) vwCl [(a_s1, .inl (cI, 4096, .inl s1)), (a_s2, .inl (cI, 4096, .inl (upd s2 (x1 : Int32).toNatClampNeg ((s2 (x1 : Int32).toNatClampNeg) - 1)))), (a_wk, .inr (10, [.ref a_wk_items, .int wk_size])), (a_wk_items, .inl (cI, 4096, .inl wk_items)), (a_fu, .inr (2, [.ref a_lp, .ref a_s1, .ref a_s2, .ref a_wk]))] H := hP
    have hD : va_D A [(a_s1, .inl (cI, 4096, .inl s1)), (a_s2, .inl (cI, 4096, .inl (upd s2 (x1 : Int32).toNatClampNeg ((s2 (x1 : Int32).toNatClampNeg) - 1)))), (a_wk, .inr (10, [.ref a_wk_items, .int wk_size])), (a_wk_items, .inl (cI, 4096, .inl wk_items)), (a_fu, .inr (2, [.ref a_lp, .ref a_s1, .ref a_s2, .ref a_wk]))] := hD
    refine lv_aload_n hx hb d_Fut_markSource_18 rfl (lv_at hl 0 rfl) ?_
    refine va_get (D := (dC, dI)) (ci := 2) (v := .ref a_s1) (C := "LoopInduction$Futures") (T := F_Fut) (N := 4) hx hb hts iC_Fut hown hK hP 4 rfl rfl 1 (by decide) fl_21 (fun _ h9 => h9) rfl d_Fut_markSource_19 ?_
    refine lv_iload_n hx hb d_Fut_markSource_22 rfl (lv_at hl 1 rfl) ?_
    obtain ⟨hin_23, h⟩ := h
    refine va_iald hx hb hK hP 0 0 rfl rfl hin_23 d_Fut_markSource_23 ?_
    refine lv_if_ne (tgt := 55) hx hb d_Fut_markSource_24 (by decide) (fun c_24 => ?_) (fun c_24 => ?_)
    · have h := And.left h c_24
      rw [← hQ]
      have hP9 := hP
      have hD9 := hD
      exact W.vret hx hb hr (fun t ht hW => ⟨⟨(s1, upd s2 (x1 : Int32).toNatClampNeg ((s2 (x1 : Int32).toNatClampNeg) - 1), wk_size, wk_items), rfl, h, by rw [ht]; exact hP9, va_K.moved hW.alike hK, hD9⟩, hS.F ht⟩) hS.2.2 d_Fut_markSource_55
    · have h := And.right h c_24
      refine lv_iload_n hx hb d_Fut_markSource_27 rfl (lv_at hl 2 rfl) ?_
      refine lv_if_eq (tgt := 40) hx hb d_Fut_markSource_28 (by decide) (fun c_28 => ?_) (fun c_28 => ?_)
      · have h := And.left h c_28
        refine lv_aload_n hx hb d_Fut_markSource_40 rfl (lv_at hl 0 rfl) ?_
        refine va_get (D := (dC, dI)) (ci := 2) (v := .ref a_s1) (C := "LoopInduction$Futures") (T := F_Fut) (N := 4) hx hb hts iC_Fut hown hK hP 4 rfl rfl 1 (by decide) fl_21 (fun _ h9 => h9) rfl d_Fut_markSource_41 ?_
        refine lv_iload_n hx hb d_Fut_markSource_44 rfl (lv_at hl 1 rfl) ?_
        refine lv_iconst (v := 1) hx hb d_Fut_markSource_45 (by decide) ?_
        obtain ⟨hin_46, h⟩ := h
        refine va_iast hx hb hK hP hD hS 0 0 rfl rfl hin_46 d_Fut_markSource_46 (fun H locs hP hD hS => ?_)
        have hP : va_P (dC, dI) vwCl [(a_s1, .inl (cI, 4096, .inl (upd s1 (x1 : Int32).toNatClampNeg 1))), (a_s2, .inl (cI, 4096, .inl (upd s2 (x1 : Int32).toNatClampNeg ((s2 (x1 : Int32).toNatClampNeg) - 1)))), (a_wk, .inr (10, [.ref a_wk_items, .int wk_size])), (a_wk_items, .inl (cI, 4096, .inl wk_items)), (a_fu, .inr (2, [.ref a_lp, .ref a_s1, .ref a_s2, .ref a_wk]))] H := hP
        have hD : va_D A [(a_s1, .inl (cI, 4096, .inl (upd s1 (x1 : Int32).toNatClampNeg 1))), (a_s2, .inl (cI, 4096, .inl (upd s2 (x1 : Int32).toNatClampNeg ((s2 (x1 : Int32).toNatClampNeg) - 1)))), (a_wk, .inr (10, [.ref a_wk_items, .int wk_size])), (a_wk_items, .inl (cI, 4096, .inl wk_items)), (a_fu, .inr (2, [.ref a_lp, .ref a_s1, .ref a_s2, .ref a_wk]))] := hD
        refine lv_aload_n hx hb d_Fut_markSource_47 rfl (lv_at hl 0 rfl) ?_
        refine va_get (D := (dC, dI)) (ci := 2) (v := .ref a_wk) (C := "LoopInduction$Futures") (T := F_Fut) (N := 4) hx hb hts iC_Fut hown hK hP 4 rfl rfl 3 (by decide) fl_35 (fun _ h9 => h9) rfl d_Fut_markSource_48 ?_
        refine lv_iload_n hx hb d_Fut_markSource_51 rfl (lv_at hl 1 rfl) ?_
        refine jn_v (wr := [(a_s1, .inl (cI, 4096, .inl (upd s1 (x1 : Int32).toNatClampNeg 1))), (a_s2, .inl (cI, 4096, .inl (upd s2 (x1 : Int32).toNatClampNeg ((s2 (x1 : Int32).toNatClampNeg) - 1)))), (a_fu, .inr (2, [.ref a_lp, .ref a_s1, .ref a_s2, .ref a_wk]))]) (va_runV (As := [.int x1]) (rest := []) ⟨hx, hb, hml, hown, hts⟩ (c_Work_put l dC dI cI cB cZ adK adV _ a_wk a_wk_items wk_size wk_items x1 _ h) (cwV 1 hts (gv_ m_1069 m_798 m_799 m_91 m_800) rfl rfl rfl pd_Work_put ⟨Nat.le_of_ble_eq_true rfl, Nat.le_of_ble_eq_true rfl⟩) ⟨pc_blind, va_recv hK hP (ci := 10) (q0 := 2) rfl rfl, pc_of (hP.sub [2, 3] rfl) hK (hD.sub [2, 3] (by decide) rfl) hN hT hS hA⟩ rfl rfl hl.1 rfl (lv_room (Nat.le_of_ble_eq_true rfl)) d_Fut_markSource_52 ⟨Nat.zero_le _, Nat.zero_le _⟩) hP hD hS hA [2, 3] [0, 1, 4] rfl rfl (by decide) (by decide) (fun u_ H locs h hP hD hS => ?_)
        obtain ⟨wk_size_2, wk_items_3⟩ := u_
        have hP : va_P (dC, dI) vwCl [(a_s1, .inl (cI, 4096, .inl (upd s1 (x1 : Int32).toNatClampNeg 1))), (a_s2, .inl (cI, 4096, .inl (upd s2 (x1 : Int32).toNatClampNeg ((s2 (x1 : Int32).toNatClampNeg) - 1)))), (a_fu, .inr (2, [.ref a_lp, .ref a_s1, .ref a_s2, .ref a_wk])), (a_wk, .inr (10, [.ref a_wk_items, .int wk_size_2])), (a_wk_items, .inl (cI, 4096, .inl wk_items_3))] H := hP
        have hD : va_D A [(a_s1, .inl (cI, 4096, .inl (upd s1 (x1 : Int32).toNatClampNeg 1))), (a_s2, .inl (cI, 4096, .inl (upd s2 (x1 : Int32).toNatClampNeg ((s2 (x1 : Int32).toNatClampNeg) - 1)))), (a_fu, .inr (2, [.ref a_lp, .ref a_s1, .ref a_s2, .ref a_wk])), (a_wk, .inr (10, [.ref a_wk_items, .int wk_size_2])), (a_wk_items, .inl (cI, 4096, .inl wk_items_3))] := hD
        rw [← hQ]
        have hP9 := hP.sub (ws' := [(a_s1, .inl (cI, 4096, .inl (upd s1 (x1 : Int32).toNatClampNeg 1))), (a_s2, .inl (cI, 4096, .inl (upd s2 (x1 : Int32).toNatClampNeg ((s2 (x1 : Int32).toNatClampNeg) - 1)))), (a_wk, .inr (10, [.ref a_wk_items, .int wk_size_2])), (a_wk_items, .inl (cI, 4096, .inl wk_items_3)), (a_fu, .inr (2, [.ref a_lp, .ref a_s1, .ref a_s2, .ref a_wk]))]) [0, 1, 3, 4, 2] rfl
        have hD9 := hD.sub (ws' := [(a_s1, .inl (cI, 4096, .inl (upd s1 (x1 : Int32).toNatClampNeg 1))), (a_s2, .inl (cI, 4096, .inl (upd s2 (x1 : Int32).toNatClampNeg ((s2 (x1 : Int32).toNatClampNeg) - 1)))), (a_wk, .inr (10, [.ref a_wk_items, .int wk_size_2])), (a_wk_items, .inl (cI, 4096, .inl wk_items_3)), (a_fu, .inr (2, [.ref a_lp, .ref a_s1, .ref a_s2, .ref a_wk]))]) [0, 1, 3, 4, 2] (by decide) rfl
        exact W.vret hx hb hr (fun t ht hW => ⟨⟨(upd s1 (x1 : Int32).toNatClampNeg 1, upd s2 (x1 : Int32).toNatClampNeg ((s2 (x1 : Int32).toNatClampNeg) - 1), wk_size_2, wk_items_3), rfl, h, by rw [ht]; exact hP9, va_K.moved hW.alike hK, hD9⟩, hS.F ht⟩) hS.2.2 d_Fut_markSource_55
      · have h := And.right h c_28
        refine lv_aload_n hx hb d_Fut_markSource_31 rfl (lv_at hl 0 rfl) ?_
        refine va_get (D := (dC, dI)) (ci := 2) (v := .ref a_s2) (C := "LoopInduction$Futures") (T := F_Fut) (N := 4) hx hb hts iC_Fut hown hK hP 4 rfl rfl 2 (by decide) fl_28 (fun _ h9 => h9) rfl d_Fut_markSource_32 ?_
        refine lv_iload_n hx hb d_Fut_markSource_35 rfl (lv_at hl 1 rfl) ?_
        obtain ⟨hin_36, h⟩ := h
        refine va_iald hx hb hK hP 1 0 rfl rfl hin_36 d_Fut_markSource_36 ?_
        refine lv_if_ne (tgt := 55) hx hb d_Fut_markSource_37 (by decide) (fun c_37 => ?_) (fun c_37 => ?_)
        · have h := And.left h c_37
          rw [← hQ]
          have hP9 := hP
          have hD9 := hD
          exact W.vret hx hb hr (fun t ht hW => ⟨⟨(s1, upd s2 (x1 : Int32).toNatClampNeg ((s2 (x1 : Int32).toNatClampNeg) - 1), wk_size, wk_items), rfl, h, by rw [ht]; exact hP9, va_K.moved hW.alike hK, hD9⟩, hS.F ht⟩) hS.2.2 d_Fut_markSource_55
        · have h := And.right h c_37
          refine lv_aload_n hx hb d_Fut_markSource_40 rfl (lv_at hl 0 rfl) ?_
          refine va_get (D := (dC, dI)) (ci := 2) (v := .ref a_s1) (C := "LoopInduction$Futures") (T := F_Fut) (N := 4) hx hb hts iC_Fut hown hK hP 4 rfl rfl 1 (by decide) fl_21 (fun _ h9 => h9) rfl d_Fut_markSource_41 ?_
          refine lv_iload_n hx hb d_Fut_markSource_44 rfl (lv_at hl 1 rfl) ?_
          refine lv_iconst (v := 1) hx hb d_Fut_markSource_45 (by decide) ?_
          obtain ⟨hin_46, h⟩ := h
          refine va_iast hx hb hK hP hD hS 0 0 rfl rfl hin_46 d_Fut_markSource_46 (fun H locs hP hD hS => ?_)
          have hP : va_P (dC, dI) vwCl [(a_s1, .inl (cI, 4096, .inl (upd s1 (x1 : Int32).toNatClampNeg 1))), (a_s2, .inl (cI, 4096, .inl (upd s2 (x1 : Int32).toNatClampNeg ((s2 (x1 : Int32).toNatClampNeg) - 1)))), (a_wk, .inr (10, [.ref a_wk_items, .int wk_size])), (a_wk_items, .inl (cI, 4096, .inl wk_items)), (a_fu, .inr (2, [.ref a_lp, .ref a_s1, .ref a_s2, .ref a_wk]))] H := hP
          have hD : va_D A [(a_s1, .inl (cI, 4096, .inl (upd s1 (x1 : Int32).toNatClampNeg 1))), (a_s2, .inl (cI, 4096, .inl (upd s2 (x1 : Int32).toNatClampNeg ((s2 (x1 : Int32).toNatClampNeg) - 1)))), (a_wk, .inr (10, [.ref a_wk_items, .int wk_size])), (a_wk_items, .inl (cI, 4096, .inl wk_items)), (a_fu, .inr (2, [.ref a_lp, .ref a_s1, .ref a_s2, .ref a_wk]))] := hD
          refine lv_aload_n hx hb d_Fut_markSource_47 rfl (lv_at hl 0 rfl) ?_
          refine va_get (D := (dC, dI)) (ci := 2) (v := .ref a_wk) (C := "LoopInduction$Futures") (T := F_Fut) (N := 4) hx hb hts iC_Fut hown hK hP 4 rfl rfl 3 (by decide) fl_35 (fun _ h9 => h9) rfl d_Fut_markSource_48 ?_
          refine lv_iload_n hx hb d_Fut_markSource_51 rfl (lv_at hl 1 rfl) ?_
          refine jn_v (wr := [(a_s1, .inl (cI, 4096, .inl (upd s1 (x1 : Int32).toNatClampNeg 1))), (a_s2, .inl (cI, 4096, .inl (upd s2 (x1 : Int32).toNatClampNeg ((s2 (x1 : Int32).toNatClampNeg) - 1)))), (a_fu, .inr (2, [.ref a_lp, .ref a_s1, .ref a_s2, .ref a_wk]))]) (va_runV (As := [.int x1]) (rest := []) ⟨hx, hb, hml, hown, hts⟩ (c_Work_put l dC dI cI cB cZ adK adV _ a_wk a_wk_items wk_size wk_items x1 _ h) (cwV 1 hts (gv_ m_1069 m_798 m_799 m_91 m_800) rfl rfl rfl pd_Work_put ⟨Nat.le_of_ble_eq_true rfl, Nat.le_of_ble_eq_true rfl⟩) ⟨pc_blind, va_recv hK hP (ci := 10) (q0 := 2) rfl rfl, pc_of (hP.sub [2, 3] rfl) hK (hD.sub [2, 3] (by decide) rfl) hN hT hS hA⟩ rfl rfl hl.1 rfl (lv_room (Nat.le_of_ble_eq_true rfl)) d_Fut_markSource_52 ⟨Nat.zero_le _, Nat.zero_le _⟩) hP hD hS hA [2, 3] [0, 1, 4] rfl rfl (by decide) (by decide) (fun u_ H locs h hP hD hS => ?_)
          obtain ⟨wk_size_4, wk_items_5⟩ := u_
          have hP : va_P (dC, dI) vwCl [(a_s1, .inl (cI, 4096, .inl (upd s1 (x1 : Int32).toNatClampNeg 1))), (a_s2, .inl (cI, 4096, .inl (upd s2 (x1 : Int32).toNatClampNeg ((s2 (x1 : Int32).toNatClampNeg) - 1)))), (a_fu, .inr (2, [.ref a_lp, .ref a_s1, .ref a_s2, .ref a_wk])), (a_wk, .inr (10, [.ref a_wk_items, .int wk_size_4])), (a_wk_items, .inl (cI, 4096, .inl wk_items_5))] H := hP
          have hD : va_D A [(a_s1, .inl (cI, 4096, .inl (upd s1 (x1 : Int32).toNatClampNeg 1))), (a_s2, .inl (cI, 4096, .inl (upd s2 (x1 : Int32).toNatClampNeg ((s2 (x1 : Int32).toNatClampNeg) - 1)))), (a_fu, .inr (2, [.ref a_lp, .ref a_s1, .ref a_s2, .ref a_wk])), (a_wk, .inr (10, [.ref a_wk_items, .int wk_size_4])), (a_wk_items, .inl (cI, 4096, .inl wk_items_5))] := hD
          rw [← hQ]
          have hP9 := hP.sub (ws' := [(a_s1, .inl (cI, 4096, .inl (upd s1 (x1 : Int32).toNatClampNeg 1))), (a_s2, .inl (cI, 4096, .inl (upd s2 (x1 : Int32).toNatClampNeg ((s2 (x1 : Int32).toNatClampNeg) - 1)))), (a_wk, .inr (10, [.ref a_wk_items, .int wk_size_4])), (a_wk_items, .inl (cI, 4096, .inl wk_items_5)), (a_fu, .inr (2, [.ref a_lp, .ref a_s1, .ref a_s2, .ref a_wk]))]) [0, 1, 3, 4, 2] rfl
          have hD9 := hD.sub (ws' := [(a_s1, .inl (cI, 4096, .inl (upd s1 (x1 : Int32).toNatClampNeg 1))), (a_s2, .inl (cI, 4096, .inl (upd s2 (x1 : Int32).toNatClampNeg ((s2 (x1 : Int32).toNatClampNeg) - 1)))), (a_wk, .inr (10, [.ref a_wk_items, .int wk_size_4])), (a_wk_items, .inl (cI, 4096, .inl wk_items_5)), (a_fu, .inr (2, [.ref a_lp, .ref a_s1, .ref a_s2, .ref a_wk]))]) [0, 1, 3, 4, 2] (by decide) rfl
          exact W.vret hx hb hr (fun t ht hW => ⟨⟨(upd s1 (x1 : Int32).toNatClampNeg 1, upd s2 (x1 : Int32).toNatClampNeg ((s2 (x1 : Int32).toNatClampNeg) - 1), wk_size_4, wk_items_5), rfl, h, by rw [ht]; exact hP9, va_K.moved hW.alike hK, hD9⟩, hS.F ht⟩) hS.2.2 d_Fut_markSource_55
  · have h := And.right h c_4
    rw [← hQ]
    have hP9 := hP
    have hD9 := hD
    exact W.vret hx hb hr (fun t ht hW => ⟨⟨(s1, s2, wk_size, wk_items), rfl, h, by rw [ht]; exact hP9, va_K.moved hW.alike hK, hD9⟩, hS.F ht⟩) hS.2.2 d_Fut_markSource_7
set_option maxHeartbeats 4000000 in
set_option maxRecDepth 100000 in
theorem c_Fut_countLeading (l : Launch) (dC : Nat → ClassId) (dI : Nat → Nat → Nat) (cI cB cZ : ClassId) (adK adV : Nat → Nat) (sz : Nat) (a_lp a_lp_facts a_lp_turns a_lp_first a_lp_src a_s1 a_s2 a_wk a_wk_items a_fu : Nat) (lp_choices : Int32) (lp_guesses : Int32) (lp_unaries : Int32) (lp_ranked : Int32) (lp_turns : Nat → Int32) (lp_first : Nat → Int32) (lp_src : Nat → Int32) (s1 : Nat → Int32) (s2 : Nat → Int32) (wk_size : Int32) (wk_items : Nat → Int32) (x1 : Int32) (post : Int32 → (Nat → Int32) → (Nat → Int32) → Int32 → (Nat → Int32) → Prop) (h : wp_Fut_countLeading x1 lp_choices lp_turns lp_first lp_src s1 s2 wk_size wk_items post) : Met l y_Fut_countLeading w_Fut_countLeading ({ frames := 3, cells := 0, slots := 0, locals := 65 }) (pc_ (dC, dI) [(cI, .int), (cB, .byte), (cZ, .boolean)] [(a_lp, .inr (4, [.ref a_lp_facts, .ref a_lp_turns, .ref a_lp_first, .ref a_lp_src, .ref a_s1, .int lp_choices, .int lp_guesses, .int lp_unaries, .int lp_ranked])), (a_lp_turns, .inl (cI, 24576, .inl lp_turns)), (a_lp_first, .inl (cI, 4097, .inl lp_first)), (a_lp_src, .inl (cI, 24576, .inl lp_src)), (a_s1, .inl (cI, 4096, .inl s1)), (a_s2, .inl (cI, 4096, .inl s2)), (a_wk, .inr (10, [.ref a_wk_items, .int wk_size])), (a_wk_items, .inl (cI, 4096, .inl wk_items)), (a_fu, .inr (2, [.ref a_lp, .ref a_s1, .ref a_s2, .ref a_wk]))] sz adK adV [.ref a_fu, .int x1]) (va_Qi (fun (r : Int32) (u : (Nat → Int32) × (Nat → Int32) × Int32 × (Nat → Int32)) => post r u.1 u.2.1 u.2.2.1 u.2.2.2) (fun (u : (Nat → Int32) × (Nat → Int32) × Int32 × (Nat → Int32)) t => bw_ (dC, dI) [(cI, .int), (cB, .byte), (cZ, .boolean)] (va_A [(a_lp, .inr (4, [.ref a_lp_facts, .ref a_lp_turns, .ref a_lp_first, .ref a_lp_src, .ref a_s1, .int lp_choices, .int lp_guesses, .int lp_unaries, .int lp_ranked])), (a_lp_turns, .inl (cI, 24576, .inl lp_turns)), (a_lp_first, .inl (cI, 4097, .inl lp_first)), (a_lp_src, .inl (cI, 24576, .inl lp_src)), (a_s1, .inl (cI, 4096, .inl s1)), (a_s2, .inl (cI, 4096, .inl s2)), (a_wk, .inr (10, [.ref a_wk_items, .int wk_size])), (a_wk_items, .inl (cI, 4096, .inl wk_items)), (a_fu, .inr (2, [.ref a_lp, .ref a_s1, .ref a_s2, .ref a_wk]))] sz) [(a_lp, .inr (4, [.ref a_lp_facts, .ref a_lp_turns, .ref a_lp_first, .ref a_lp_src, .ref a_s1, .int lp_choices, .int lp_guesses, .int lp_unaries, .int lp_ranked])), (a_lp_turns, .inl (cI, 24576, .inl lp_turns)), (a_lp_first, .inl (cI, 4097, .inl lp_first)), (a_lp_src, .inl (cI, 24576, .inl lp_src)), (a_s1, .inl (cI, 4096, .inl u.1)), (a_s2, .inl (cI, 4096, .inl u.2.1)), (a_wk, .inr (10, [.ref a_wk_items, .int u.2.2.1])), (a_wk_items, .inl (cI, 4096, .inl u.2.2.2)), (a_fu, .inr (2, [.ref a_lp, .ref a_s1, .ref a_s2, .ref a_wk]))] t) (va_A [(a_lp, .inr (4, [.ref a_lp_facts, .ref a_lp_turns, .ref a_lp_first, .ref a_lp_src, .ref a_s1, .int lp_choices, .int lp_guesses, .int lp_unaries, .int lp_ranked])), (a_lp_turns, .inl (cI, 24576, .inl lp_turns)), (a_lp_first, .inl (cI, 4097, .inl lp_first)), (a_lp_src, .inl (cI, 24576, .inl lp_src)), (a_s1, .inl (cI, 4096, .inl s1)), (a_s2, .inl (cI, 4096, .inl s2)), (a_wk, .inr (10, [.ref a_wk_items, .int wk_size])), (a_wk_items, .inl (cI, 4096, .inl wk_items)), (a_fu, .inr (2, [.ref a_lp, .ref a_s1, .ref a_s2, .ref a_wk]))] sz)) 0 0 (va_A [(a_lp, .inr (4, [.ref a_lp_facts, .ref a_lp_turns, .ref a_lp_first, .ref a_lp_src, .ref a_s1, .int lp_choices, .int lp_guesses, .int lp_unaries, .int lp_ranked])), (a_lp_turns, .inl (cI, 24576, .inl lp_turns)), (a_lp_first, .inl (cI, 4097, .inl lp_first)), (a_lp_src, .inl (cI, 24576, .inl lp_src)), (a_s1, .inl (cI, 4096, .inl s1)), (a_s2, .inl (cI, 4096, .inl s2)), (a_wk, .inr (10, [.ref a_wk_items, .int wk_size])), (a_wk_items, .inl (cI, 4096, .inl wk_items)), (a_fu, .inr (2, [.ref a_lp, .ref a_s1, .ref a_s2, .ref a_wk]))] sz) := by
  refine Met.ofW (cc := b_Fut_countLeading) (maxL := 6) (ret := (some .int)) (by decide) rfl ?_
  intro p e s m args below meth c s₁ B hml hv
  obtain ⟨rfl, hsz, hP, hK, hD0, hN, hT⟩ := hv
  have hx := B.exec
  have hb := B.bytes
  have hr := B.returns
  have hts := atoms_spec (ws := w_Fut_countLeading) B.pre
  have hown : s.vm.findClass "LoopInduction$Futures" = some m.cls := findClass_of_methodNamed B.named
  have hlocks := B.notSynchronized
  subst hsz
  have hD := hD0.self (sz := s.heap.size)
  generalize hAe : va_A [(a_lp, .inr (4, [.ref a_lp_facts, .ref a_lp_turns, .ref a_lp_first, .ref a_lp_src, .ref a_s1, .int lp_choices, .int lp_guesses, .int lp_unaries, .int lp_ranked])), (a_lp_turns, .inl (cI, 24576, .inl lp_turns)), (a_lp_first, .inl (cI, 4097, .inl lp_first)), (a_lp_src, .inl (cI, 24576, .inl lp_src)), (a_s1, .inl (cI, 4096, .inl s1)), (a_s2, .inl (cI, 4096, .inl s2)), (a_wk, .inr (10, [.ref a_wk_items, .int wk_size])), (a_wk_items, .inl (cI, 4096, .inl wk_items)), (a_fu, .inr (2, [.ref a_lp, .ref a_s1, .ref a_s2, .ref a_wk]))] s.heap.size = A at hD hT ⊢
  have hA : ∀ q : Nat, s.heap.size ≤ q → A q := fun q h => by rw [← hAe]; exact Or.inr h
  have hS : va_S A s.heap s.heap [] := va_S.rf
  generalize hQ : MQ below _ _ s 0 0 _ = QQ
  have hl := lv_entry ([.ref a_fu, .int x1]) (n := 6) (Nat.le_of_ble_eq_true rfl)
  rw [lg_entry_eq]
  generalize (lg_sl ([.ref a_fu, .int x1]) ++ List.replicate (6 - (lg_sl ([.ref a_fu, .int x1])).length) Slot.unset).toArray = ls at hl ⊢
  have hl : lv_has ls 6 [(0, .ref a_fu), (1, .int x1)] := hl
  have fl_9 := (hts _ (List.mem_cons_of_mem _ m_358))
  have fl_21 := (hts _ (List.mem_cons_of_mem _ m_359))
  have fl_28 := (hts _ (List.mem_cons_of_mem _ m_360))
  have fl_35 := (hts _ (List.mem_cons_of_mem _ m_361))
  refine lv_aload_n hx hb d_Fut_countLeading_0 rfl (lv_at hl 0 rfl) ?_
  refine va_get (D := (dC, dI)) (ci := 2) (v := .ref a_lp) (C := "LoopInduction$Futures") (T := F_Fut) (N := 4) hx hb hts iC_Fut hown hK hP 8 rfl rfl 0 (by decide) fl_9 (fun _ h9 => h9) rfl d_Fut_countLeading_1 ?_
  refine lv_aload_n hx hb d_Fut_countLeading_4 rfl (lv_at hl 0 rfl) ?_
  refine va_get (D := (dC, dI)) (ci := 2) (v := .ref a_s2) (C := "LoopInduction$Futures") (T := F_Fut) (N := 4) hx hb hts iC_Fut hown hK hP 8 rfl rfl 2 (by decide) fl_28 (fun _ h9 => h9) rfl d_Fut_countLeading_5 ?_
  refine jn_v (wr := [(a_lp_first, .inl (cI, 4097, .inl lp_first)), (a_lp_src, .inl (cI, 24576, .inl lp_src)), (a_s1, .inl (cI, 4096, .inl s1)), (a_wk, .inr (10, [.ref a_wk_items, .int wk_size])), (a_wk_items, .inl (cI, 4096, .inl wk_items)), (a_fu, .inr (2, [.ref a_lp, .ref a_s1, .ref a_s2, .ref a_wk]))]) (va_runV (As := [.ref a_s2]) (rest := []) ⟨hx, hb, hml, hown, hts⟩ (c_Loop_countTurns l dC dI cI cB cZ adK adV _ a_lp a_lp_facts a_lp_turns a_lp_first a_lp_src a_s1 a_s2 lp_choices lp_guesses lp_unaries lp_ranked lp_turns s2 _ h) (cwV 1 hts (gv_ m_1067 m_753 m_754 m_92 m_755) rfl rfl rfl pd_Loop_countTurns ⟨Nat.le_of_ble_eq_true rfl, Nat.le_of_ble_eq_true rfl⟩) ⟨pc_blind, va_recv hK hP (ci := 4) (q0 := 0) rfl rfl, pc_of (hP.sub [0, 1, 5] rfl) hK (hD.sub [0, 1, 5] (by decide) rfl) hN hT hS hA⟩ rfl rfl hl.1 rfl (lv_room (Nat.le_of_ble_eq_true rfl)) d_Fut_countLeading_8 ⟨Nat.zero_le _, Nat.zero_le _⟩) hP hD hS hA [0, 1, 5] [2, 3, 4, 6, 7, 8] rfl rfl (by decide) (by decide) (fun s2_1 H locs h hP hD hS => ?_)
  have hP : va_P (dC, dI) vwCl [(a_lp_first, .inl (cI, 4097, .inl lp_first)), (a_lp_src, .inl (cI, 24576, .inl lp_src)), (a_s1, .inl (cI, 4096, .inl s1)), (a_wk, .inr (10, [.ref a_wk_items, .int wk_size])), (a_wk_items, .inl (cI, 4096, .inl wk_items)), (a_fu, .inr (2, [.ref a_lp, .ref a_s1, .ref a_s2, .ref a_wk])), (a_lp, .inr (4, [.ref a_lp_facts, .ref a_lp_turns, .ref a_lp_first, .ref a_lp_src, .ref a_s1, .int lp_choices, .int lp_guesses, .int lp_unaries, .int lp_ranked])), (a_lp_turns, .inl (cI, 24576, .inl lp_turns)), (a_s2, .inl (cI, 4096, .inl s2_1))] H := hP
  have hD : va_D A [(a_lp_first, .inl (cI, 4097, .inl lp_first)), (a_lp_src, .inl (cI, 24576, .inl lp_src)), (a_s1, .inl (cI, 4096, .inl s1)), (a_wk, .inr (10, [.ref a_wk_items, .int wk_size])), (a_wk_items, .inl (cI, 4096, .inl wk_items)), (a_fu, .inr (2, [.ref a_lp, .ref a_s1, .ref a_s2, .ref a_wk])), (a_lp, .inr (4, [.ref a_lp_facts, .ref a_lp_turns, .ref a_lp_first, .ref a_lp_src, .ref a_s1, .int lp_choices, .int lp_guesses, .int lp_unaries, .int lp_ranked])), (a_lp_turns, .inl (cI, 24576, .inl lp_turns)), (a_s2, .inl (cI, 4096, .inl s2_1))] := hD
  refine lv_aload_n hx hb d_Fut_countLeading_11 rfl (lv_at hl 0 rfl) ?_
  refine va_get (D := (dC, dI)) (ci := 2) (v := .ref a_wk) (C := "LoopInduction$Futures") (T := F_Fut) (N := 4) hx hb hts iC_Fut hown hK hP 5 rfl rfl 3 (by decide) fl_35 (fun _ h9 => h9) rfl d_Fut_countLeading_12 ?_
  refine jn_v (wr := [(a_lp_first, .inl (cI, 4097, .inl lp_first)), (a_lp_src, .inl (cI, 24576, .inl lp_src)), (a_s1, .inl (cI, 4096, .inl s1)), (a_wk_items, .inl (cI, 4096, .inl wk_items)), (a_fu, .inr (2, [.ref a_lp, .ref a_s1, .ref a_s2, .ref a_wk])), (a_lp, .inr (4, [.ref a_lp_facts, .ref a_lp_turns, .ref a_lp_first, .ref a_lp_src, .ref a_s1, .int lp_choices, .int lp_guesses, .int lp_unaries, .int lp_ranked])), (a_lp_turns, .inl (cI, 24576, .inl lp_turns)), (a_s2, .inl (cI, 4096, .inl s2_1))]) (va_runV (As := []) (rest := []) ⟨hx, hb, hml, hown, hts⟩ (c_Work_clear l dC dI cI cB cZ adK adV _ a_wk a_wk_items wk_size _ h) (cwV 0 hts (gv_ m_1068 m_781 m_782 m_91 m_783) rfl rfl rfl pd_Work_clear ⟨Nat.le_of_ble_eq_true rfl, Nat.le_of_ble_eq_true rfl⟩) ⟨pc_blind, va_recv hK hP (ci := 10) (q0 := 3) rfl rfl, pc_of (hP.sub [3] rfl) hK (hD.sub [3] (by decide) rfl) hN hT hS hA⟩ rfl rfl hl.1 rfl (lv_room (Nat.le_of_ble_eq_true rfl)) d_Fut_countLeading_15 ⟨Nat.zero_le _, Nat.zero_le _⟩) hP hD hS hA [3] [0, 1, 2, 4, 5, 6, 7, 8] rfl rfl (by decide) (by decide) (fun wk_size_2 H locs h hP hD hS => ?_)
  have hP : va_P (dC, dI) vwCl [(a_lp_first, .inl (cI, 4097, .inl lp_first)), (a_lp_src, .inl (cI, 24576, .inl lp_src)), (a_s1, .inl (cI, 4096, .inl s1)), (a_wk_items, .inl (cI, 4096, .inl wk_items)), (a_fu, .inr (2, [.ref a_lp, .ref a_s1, .ref a_s2, .ref a_wk])), (a_lp, .inr (4, [.ref a_lp_facts, .ref a_lp_turns, .ref a_lp_first, .ref a_lp_src, .ref a_s1, .int lp_choices, .int lp_guesses, .int lp_unaries, .int lp_ranked])), (a_lp_turns, .inl (cI, 24576, .inl lp_turns)), (a_s2, .inl (cI, 4096, .inl s2_1)), (a_wk, .inr (10, [.ref a_wk_items, .int wk_size_2]))] H := hP
  have hD : va_D A [(a_lp_first, .inl (cI, 4097, .inl lp_first)), (a_lp_src, .inl (cI, 24576, .inl lp_src)), (a_s1, .inl (cI, 4096, .inl s1)), (a_wk_items, .inl (cI, 4096, .inl wk_items)), (a_fu, .inr (2, [.ref a_lp, .ref a_s1, .ref a_s2, .ref a_wk])), (a_lp, .inr (4, [.ref a_lp_facts, .ref a_lp_turns, .ref a_lp_first, .ref a_lp_src, .ref a_s1, .int lp_choices, .int lp_guesses, .int lp_unaries, .int lp_ranked])), (a_lp_turns, .inl (cI, 24576, .inl lp_turns)), (a_s2, .inl (cI, 4096, .inl s2_1)), (a_wk, .inr (10, [.ref a_wk_items, .int wk_size_2]))] := hD
  refine lv_iconst (v := 0) hx hb d_Fut_countLeading_18 (by decide) ?_
  refine lv_istore_n (lv' := [(2, .int 0), (0, .ref a_fu), (1, .int x1)]) hx hb d_Fut_countLeading_19 rfl hl (by decide) rfl (fun ls hl => ?_)
  have L20_q_6 : ∀ (k51 : (Int32) → (Nat → Int32) → Prop) (hk51 : ∀ (wk_size_7 : Int32) (wk_items_8 : Nat → Int32), k51 wk_size_7 wk_items_8 → ∀ (H : Heap) (locs : List Loc), va_P (dC, dI) vwCl [(a_lp_first, .inl (cI, 4097, .inl lp_first)), (a_lp_src, .inl (cI, 24576, .inl lp_src)), (a_s1, .inl (cI, 4096, .inl s1)), (a_wk_items, .inl (cI, 4096, .inl wk_items_8)), (a_fu, .inr (2, [.ref a_lp, .ref a_s1, .ref a_s2, .ref a_wk])), (a_lp, .inr (4, [.ref a_lp_facts, .ref a_lp_turns, .ref a_lp_first, .ref a_lp_src, .ref a_s1, .int lp_choices, .int lp_guesses, .int lp_unaries, .int lp_ranked])), (a_lp_turns, .inl (cI, 24576, .inl lp_turns)), (a_s2, .inl (cI, 4096, .inl s2_1)), (a_wk, .inr (10, [.ref a_wk_items, .int wk_size_7]))] H → va_D A [(a_lp_first, .inl (cI, 4097, .inl lp_first)), (a_lp_src, .inl (cI, 24576, .inl lp_src)), (a_s1, .inl (cI, 4096, .inl s1)), (a_wk_items, .inl (cI, 4096, .inl wk_items_8)), (a_fu, .inr (2, [.ref a_lp, .ref a_s1, .ref a_s2, .ref a_wk])), (a_lp, .inr (4, [.ref a_lp_facts, .ref a_lp_turns, .ref a_lp_first, .ref a_lp_src, .ref a_s1, .int lp_choices, .int lp_guesses, .int lp_unaries, .int lp_ranked])), (a_lp_turns, .inl (cI, 24576, .inl lp_turns)), (a_s2, .inl (cI, 4096, .inl s2_1)), (a_wk, .inr (10, [.ref a_wk_items, .int wk_size_7]))] → va_S A s.heap H locs → ∀ ls : Array Slot, lv_has ls 6 [(0, .ref a_fu), (1, .int x1)] → W p l e (headSpec w_Fut_countLeading ({ frames := 3, cells := 0, slots := 0, locals := 65 })).room s m (([.ref a_fu, .int x1] : List Value).toArray) below meth c H locs 0 0 QQ (F0 m 51 ls [])) (n : Nat) (x2_3 : Int32) (wk_size_4 : Int32) (wk_items_5 : Nat → Int32), wp_Fut_countLeading_L20 x1 s1 k51 n x2_3 wk_size_4 wk_items_5 → ∀ (H : Heap) (locs : List Loc), va_P (dC, dI) vwCl [(a_lp_first, .inl (cI, 4097, .inl lp_first)), (a_lp_src, .inl (cI, 24576, .inl lp_src)), (a_s1, .inl (cI, 4096, .inl s1)), (a_wk_items, .inl (cI, 4096, .inl wk_items_5)), (a_fu, .inr (2, [.ref a_lp, .ref a_s1, .ref a_s2, .ref a_wk])), (a_lp, .inr (4, [.ref a_lp_facts, .ref a_lp_turns, .ref a_lp_first, .ref a_lp_src, .ref a_s1, .int lp_choices, .int lp_guesses, .int lp_unaries, .int lp_ranked])), (a_lp_turns, .inl (cI, 24576, .inl lp_turns)), (a_s2, .inl (cI, 4096, .inl s2_1)), (a_wk, .inr (10, [.ref a_wk_items, .int wk_size_4]))] H → va_D A [(a_lp_first, .inl (cI, 4097, .inl lp_first)), (a_lp_src, .inl (cI, 24576, .inl lp_src)), (a_s1, .inl (cI, 4096, .inl s1)), (a_wk_items, .inl (cI, 4096, .inl wk_items_5)), (a_fu, .inr (2, [.ref a_lp, .ref a_s1, .ref a_s2, .ref a_wk])), (a_lp, .inr (4, [.ref a_lp_facts, .ref a_lp_turns, .ref a_lp_first, .ref a_lp_src, .ref a_s1, .int lp_choices, .int lp_guesses, .int lp_unaries, .int lp_ranked])), (a_lp_turns, .inl (cI, 24576, .inl lp_turns)), (a_s2, .inl (cI, 4096, .inl s2_1)), (a_wk, .inr (10, [.ref a_wk_items, .int wk_size_4]))] → va_S A s.heap H locs → ∀ ls : Array Slot, lv_has ls 6 [(0, .ref a_fu), (1, .int x1), (2, .int x2_3)] → W p l e (headSpec w_Fut_countLeading ({ frames := 3, cells := 0, slots := 0, locals := 65 })).room s m (([.ref a_fu, .int x1] : List Value).toArray) below meth c H locs 0 0 QQ (F0 m 20 ls []) := by
    intro k51 hk51 n
    induction n with
    | zero => intro x2_3 wk_size_4 wk_items_5 h; exact (show False from h).elim
    | succ n il =>
      intro x2_3 wk_size_4 wk_items_5 h
      intro H locs hP hD hS ls hl
      refine lv_iload_n hx hb d_Fut_countLeading_20 rfl (lv_at hl 2 rfl) ?_
      refine lv_sipush (v := 4096) hx hb d_Fut_countLeading_21 (by decide) ?_
      refine lv_icmp_ge (tgt := 51) hx hb d_Fut_countLeading_24 (by decide) (fun c_24 => ?_) (fun c_24 => ?_)
      · have h := And.left h c_24
        exact hk51 _ _ h _ _ hP hD hS _ (lv_sub hl [0, 1] rfl)
      · have h := And.right h c_24
        refine lv_aload_n hx hb d_Fut_countLeading_27 rfl (lv_at hl 0 rfl) ?_
        refine va_get (D := (dC, dI)) (ci := 2) (v := .ref a_s1) (C := "LoopInduction$Futures") (T := F_Fut) (N := 4) hx hb hts iC_Fut hown hK hP 4 rfl rfl 1 (by decide) fl_21 (fun _ h9 => h9) rfl d_Fut_countLeading_28 ?_
        refine lv_iload_n hx hb d_Fut_countLeading_31 rfl (lv_at hl 2 rfl) ?_
        obtain ⟨hin_32, h⟩ := h
        refine va_iald hx hb hK hP 2 0 rfl rfl hin_32 d_Fut_countLeading_32 ?_
        refine lv_iconst (v := 1) hx hb d_Fut_countLeading_33 (by decide) ?_
        refine lv_icmp_ne (tgt := 45) hx hb d_Fut_countLeading_34 (by decide) (fun c_34 => ?_) (fun c_34 => ?_)
        · have h := And.left h c_34
          refine lv_iinc (v := x2_3 + 1) (lv' := [(2, .int (x2_3 + 1)), (0, .ref a_fu), (1, .int x1)]) hx hb d_Fut_countLeading_45 hl (k := 2) rfl rfl (by decide) rfl (fun ls hl => ?_)
          refine lv_goto (tgt := 20) hx hb d_Fut_countLeading_48 (by decide) ?_
          exact il _ _ _ h _ _ hP hD hS _ (lv_sub hl [1, 2, 0] rfl)
        · have h := And.right h c_34
          refine lv_aload_n hx hb d_Fut_countLeading_37 rfl (lv_at hl 0 rfl) ?_
          refine va_get (D := (dC, dI)) (ci := 2) (v := .ref a_wk) (C := "LoopInduction$Futures") (T := F_Fut) (N := 4) hx hb hts iC_Fut hown hK hP 4 rfl rfl 3 (by decide) fl_35 (fun _ h9 => h9) rfl d_Fut_countLeading_38 ?_
          refine lv_iload_n hx hb d_Fut_countLeading_41 rfl (lv_at hl 2 rfl) ?_
          refine jn_v (wr := [(a_lp_first, .inl (cI, 4097, .inl lp_first)), (a_lp_src, .inl (cI, 24576, .inl lp_src)), (a_s1, .inl (cI, 4096, .inl s1)), (a_fu, .inr (2, [.ref a_lp, .ref a_s1, .ref a_s2, .ref a_wk])), (a_lp, .inr (4, [.ref a_lp_facts, .ref a_lp_turns, .ref a_lp_first, .ref a_lp_src, .ref a_s1, .int lp_choices, .int lp_guesses, .int lp_unaries, .int lp_ranked])), (a_lp_turns, .inl (cI, 24576, .inl lp_turns)), (a_s2, .inl (cI, 4096, .inl s2_1))]) (va_runV (As := [.int x2_3]) (rest := []) ⟨hx, hb, hml, hown, hts⟩ (c_Work_put l dC dI cI cB cZ adK adV _ a_wk a_wk_items wk_size_4 wk_items_5 x2_3 _ h) (cwV 1 hts (gv_ m_1069 m_798 m_799 m_91 m_800) rfl rfl rfl pd_Work_put ⟨Nat.le_of_ble_eq_true rfl, Nat.le_of_ble_eq_true rfl⟩) ⟨pc_blind, va_recv hK hP (ci := 10) (q0 := 8) rfl rfl, pc_of (hP.sub [8, 3] rfl) hK (hD.sub [8, 3] (by decide) rfl) hN hT hS hA⟩ rfl rfl hl.1 rfl (lv_room (Nat.le_of_ble_eq_true rfl)) d_Fut_countLeading_42 ⟨Nat.zero_le _, Nat.zero_le _⟩) hP hD hS hA [8, 3] [0, 1, 2, 4, 5, 6, 7] rfl rfl (by decide) (by decide) (fun u_ H locs h hP hD hS => ?_)
          obtain ⟨wk_size_9, wk_items_10⟩ := u_
          have hP : va_P (dC, dI) vwCl [(a_lp_first, .inl (cI, 4097, .inl lp_first)), (a_lp_src, .inl (cI, 24576, .inl lp_src)), (a_s1, .inl (cI, 4096, .inl s1)), (a_fu, .inr (2, [.ref a_lp, .ref a_s1, .ref a_s2, .ref a_wk])), (a_lp, .inr (4, [.ref a_lp_facts, .ref a_lp_turns, .ref a_lp_first, .ref a_lp_src, .ref a_s1, .int lp_choices, .int lp_guesses, .int lp_unaries, .int lp_ranked])), (a_lp_turns, .inl (cI, 24576, .inl lp_turns)), (a_s2, .inl (cI, 4096, .inl s2_1)), (a_wk, .inr (10, [.ref a_wk_items, .int wk_size_9])), (a_wk_items, .inl (cI, 4096, .inl wk_items_10))] H := hP
          have hD : va_D A [(a_lp_first, .inl (cI, 4097, .inl lp_first)), (a_lp_src, .inl (cI, 24576, .inl lp_src)), (a_s1, .inl (cI, 4096, .inl s1)), (a_fu, .inr (2, [.ref a_lp, .ref a_s1, .ref a_s2, .ref a_wk])), (a_lp, .inr (4, [.ref a_lp_facts, .ref a_lp_turns, .ref a_lp_first, .ref a_lp_src, .ref a_s1, .int lp_choices, .int lp_guesses, .int lp_unaries, .int lp_ranked])), (a_lp_turns, .inl (cI, 24576, .inl lp_turns)), (a_s2, .inl (cI, 4096, .inl s2_1)), (a_wk, .inr (10, [.ref a_wk_items, .int wk_size_9])), (a_wk_items, .inl (cI, 4096, .inl wk_items_10))] := hD
          refine lv_iinc (v := x2_3 + 1) (lv' := [(2, .int (x2_3 + 1)), (0, .ref a_fu), (1, .int x1)]) hx hb d_Fut_countLeading_45 hl (k := 2) rfl rfl (by decide) rfl (fun ls hl => ?_)
          refine lv_goto (tgt := 20) hx hb d_Fut_countLeading_48 (by decide) ?_
          exact il _ _ _ h _ _ (hP.sub [0, 1, 2, 8, 3, 4, 5, 6, 7] rfl) (hD.sub [0, 1, 2, 8, 3, 4, 5, 6, 7] (by decide) rfl) hS _ (lv_sub hl [1, 2, 0] rfl)
  obtain ⟨n_, h⟩ := h
  refine L20_q_6 _ ?_ n_ _ _ _ h _ _ hP hD hS _ (lv_sub hl [1, 2, 0] rfl)
  intro wk_size_11 wk_items_12 h
  intro H locs hP hD hS ls hl
  refine lv_iconst (v := 0) hx hb d_Fut_countLeading_51 (by decide) ?_
  refine lv_istore_n (lv' := [(2, .int 0), (0, .ref a_fu), (1, .int x1)]) hx hb d_Fut_countLeading_52 rfl hl (by decide) rfl (fun ls hl => ?_)
  have L53_q_18 : ∀ (k133 : (Nat → Int32) → (Nat → Int32) → (Int32) → (Nat → Int32) → Prop) (hk133 : ∀ (s1_19 : Nat → Int32) (s2_20 : Nat → Int32) (wk_size_21 : Int32) (wk_items_22 : Nat → Int32), k133 s1_19 s2_20 wk_size_21 wk_items_22 → ∀ (H : Heap) (locs : List Loc), va_P (dC, dI) vwCl [(a_lp_first, .inl (cI, 4097, .inl lp_first)), (a_lp_src, .inl (cI, 24576, .inl lp_src)), (a_s1, .inl (cI, 4096, .inl s1_19)), (a_wk_items, .inl (cI, 4096, .inl wk_items_22)), (a_fu, .inr (2, [.ref a_lp, .ref a_s1, .ref a_s2, .ref a_wk])), (a_lp, .inr (4, [.ref a_lp_facts, .ref a_lp_turns, .ref a_lp_first, .ref a_lp_src, .ref a_s1, .int lp_choices, .int lp_guesses, .int lp_unaries, .int lp_ranked])), (a_lp_turns, .inl (cI, 24576, .inl lp_turns)), (a_s2, .inl (cI, 4096, .inl s2_20)), (a_wk, .inr (10, [.ref a_wk_items, .int wk_size_21]))] H → va_D A [(a_lp_first, .inl (cI, 4097, .inl lp_first)), (a_lp_src, .inl (cI, 24576, .inl lp_src)), (a_s1, .inl (cI, 4096, .inl s1_19)), (a_wk_items, .inl (cI, 4096, .inl wk_items_22)), (a_fu, .inr (2, [.ref a_lp, .ref a_s1, .ref a_s2, .ref a_wk])), (a_lp, .inr (4, [.ref a_lp_facts, .ref a_lp_turns, .ref a_lp_first, .ref a_lp_src, .ref a_s1, .int lp_choices, .int lp_guesses, .int lp_unaries, .int lp_ranked])), (a_lp_turns, .inl (cI, 24576, .inl lp_turns)), (a_s2, .inl (cI, 4096, .inl s2_20)), (a_wk, .inr (10, [.ref a_wk_items, .int wk_size_21]))] → va_S A s.heap H locs → ∀ ls : Array Slot, lv_has ls 6 [(0, .ref a_fu)] → W p l e (headSpec w_Fut_countLeading ({ frames := 3, cells := 0, slots := 0, locals := 65 })).room s m (([.ref a_fu, .int x1] : List Value).toArray) below meth c H locs 0 0 QQ (F0 m 133 ls [])) (n : Nat) (x2_13 : Int32) (s1_14 : Nat → Int32) (s2_15 : Nat → Int32) (wk_size_16 : Int32) (wk_items_17 : Nat → Int32), wp_Fut_countLeading_L53 x1 lp_first lp_src k133 n x2_13 s1_14 s2_15 wk_size_16 wk_items_17 → ∀ (H : Heap) (locs : List Loc), va_P (dC, dI) vwCl [(a_lp_first, .inl (cI, 4097, .inl lp_first)), (a_lp_src, .inl (cI, 24576, .inl lp_src)), (a_s1, .inl (cI, 4096, .inl s1_14)), (a_wk_items, .inl (cI, 4096, .inl wk_items_17)), (a_fu, .inr (2, [.ref a_lp, .ref a_s1, .ref a_s2, .ref a_wk])), (a_lp, .inr (4, [.ref a_lp_facts, .ref a_lp_turns, .ref a_lp_first, .ref a_lp_src, .ref a_s1, .int lp_choices, .int lp_guesses, .int lp_unaries, .int lp_ranked])), (a_lp_turns, .inl (cI, 24576, .inl lp_turns)), (a_s2, .inl (cI, 4096, .inl s2_15)), (a_wk, .inr (10, [.ref a_wk_items, .int wk_size_16]))] H → va_D A [(a_lp_first, .inl (cI, 4097, .inl lp_first)), (a_lp_src, .inl (cI, 24576, .inl lp_src)), (a_s1, .inl (cI, 4096, .inl s1_14)), (a_wk_items, .inl (cI, 4096, .inl wk_items_17)), (a_fu, .inr (2, [.ref a_lp, .ref a_s1, .ref a_s2, .ref a_wk])), (a_lp, .inr (4, [.ref a_lp_facts, .ref a_lp_turns, .ref a_lp_first, .ref a_lp_src, .ref a_s1, .int lp_choices, .int lp_guesses, .int lp_unaries, .int lp_ranked])), (a_lp_turns, .inl (cI, 24576, .inl lp_turns)), (a_s2, .inl (cI, 4096, .inl s2_15)), (a_wk, .inr (10, [.ref a_wk_items, .int wk_size_16]))] → va_S A s.heap H locs → ∀ ls : Array Slot, lv_has ls 6 [(0, .ref a_fu), (1, .int x1), (2, .int x2_13)] → W p l e (headSpec w_Fut_countLeading ({ frames := 3, cells := 0, slots := 0, locals := 65 })).room s m (([.ref a_fu, .int x1] : List Value).toArray) below meth c H locs 0 0 QQ (F0 m 53 ls []) := by
    intro k133 hk133 n
    induction n with
    | zero => intro x2_13 s1_14 s2_15 wk_size_16 wk_items_17 h; exact (show False from h).elim
    | succ n il =>
      intro x2_13 s1_14 s2_15 wk_size_16 wk_items_17 h
      intro H locs hP hD hS ls hl
      refine lv_iload_n hx hb d_Fut_countLeading_53 rfl (lv_at hl 2 rfl) ?_
      refine lv_sipush (v := 4096) hx hb d_Fut_countLeading_54 (by decide) ?_
      refine lv_icmp_ge (tgt := 133) hx hb d_Fut_countLeading_57 (by decide) (fun c_57 => ?_) (fun c_57 => ?_)
      · have h := And.left h c_57
        exact hk133 _ _ _ _ h _ _ hP hD hS _ (lv_sub hl [0] rfl)
      · have h := And.right h c_57
        refine lv_iload_n hx hb d_Fut_countLeading_60 rfl (lv_at hl 2 rfl) ?_
        refine lv_aload_n hx hb d_Fut_countLeading_61 rfl (lv_at hl 0 rfl) ?_
        refine va_get (D := (dC, dI)) (ci := 2) (v := .ref a_wk) (C := "LoopInduction$Futures") (T := F_Fut) (N := 4) hx hb hts iC_Fut hown hK hP 4 rfl rfl 3 (by decide) fl_35 (fun _ h9 => h9) rfl d_Fut_countLeading_62 ?_
        refine jn_i (wr := [(a_lp_first, .inl (cI, 4097, .inl lp_first)), (a_lp_src, .inl (cI, 24576, .inl lp_src)), (a_s1, .inl (cI, 4096, .inl s1_14)), (a_wk_items, .inl (cI, 4096, .inl wk_items_17)), (a_fu, .inr (2, [.ref a_lp, .ref a_s1, .ref a_s2, .ref a_wk])), (a_lp, .inr (4, [.ref a_lp_facts, .ref a_lp_turns, .ref a_lp_first, .ref a_lp_src, .ref a_s1, .int lp_choices, .int lp_guesses, .int lp_unaries, .int lp_ranked])), (a_lp_turns, .inl (cI, 24576, .inl lp_turns)), (a_s2, .inl (cI, 4096, .inl s2_15))]) (va_runV (As := []) (rest := [.int x2_13]) ⟨hx, hb, hml, hown, hts⟩ (c_Work_size l dC dI cI cB cZ adK adV _ a_wk a_wk_items wk_size_16 _ h) (cwV 0 hts (gv_ m_1070 m_802 m_803 m_91 m_804) rfl rfl rfl pd_Work_size ⟨Nat.le_of_ble_eq_true rfl, Nat.le_of_ble_eq_true rfl⟩) ⟨pc_blind, va_recv hK hP (ci := 10) (q0 := 8) rfl rfl, pc_of (hP.sub [8] rfl) hK (hD.sub [8] (by decide) rfl) hN hT hS hA⟩ rfl rfl hl.1 rfl (lv_room (Nat.le_of_ble_eq_true rfl)) d_Fut_countLeading_65 ⟨Nat.zero_le _, Nat.zero_le _⟩) hP hD hS hA [8] [0, 1, 2, 3, 4, 5, 6, 7] rfl rfl (by decide) (by decide) (fun r_23 u_ H locs h hP hD hS => ?_)
        have hP : va_P (dC, dI) vwCl [(a_lp_first, .inl (cI, 4097, .inl lp_first)), (a_lp_src, .inl (cI, 24576, .inl lp_src)), (a_s1, .inl (cI, 4096, .inl s1_14)), (a_wk_items, .inl (cI, 4096, .inl wk_items_17)), (a_fu, .inr (2, [.ref a_lp, .ref a_s1, .ref a_s2, .ref a_wk])), (a_lp, .inr (4, [.ref a_lp_facts, .ref a_lp_turns, .ref a_lp_first, .ref a_lp_src, .ref a_s1, .int lp_choices, .int lp_guesses, .int lp_unaries, .int lp_ranked])), (a_lp_turns, .inl (cI, 24576, .inl lp_turns)), (a_s2, .inl (cI, 4096, .inl s2_15)), (a_wk, .inr (10, [.ref a_wk_items, .int wk_size_16]))] H := hP
        have hD : va_D A [(a_lp_first, .inl (cI, 4097, .inl lp_first)), (a_lp_src, .inl (cI, 24576, .inl lp_src)), (a_s1, .inl (cI, 4096, .inl s1_14)), (a_wk_items, .inl (cI, 4096, .inl wk_items_17)), (a_fu, .inr (2, [.ref a_lp, .ref a_s1, .ref a_s2, .ref a_wk])), (a_lp, .inr (4, [.ref a_lp_facts, .ref a_lp_turns, .ref a_lp_first, .ref a_lp_src, .ref a_s1, .int lp_choices, .int lp_guesses, .int lp_unaries, .int lp_ranked])), (a_lp_turns, .inl (cI, 24576, .inl lp_turns)), (a_s2, .inl (cI, 4096, .inl s2_15)), (a_wk, .inr (10, [.ref a_wk_items, .int wk_size_16]))] := hD
        refine lv_icmp_ge (tgt := 133) hx hb d_Fut_countLeading_68 (by decide) (fun c_68 => ?_) (fun c_68 => ?_)
        · have h := And.left h c_68
          exact hk133 _ _ _ _ h _ _ hP hD hS _ (lv_sub hl [0] rfl)
        · have h := And.right h c_68
          refine lv_aload_n hx hb d_Fut_countLeading_71 rfl (lv_at hl 0 rfl) ?_
          refine va_get (D := (dC, dI)) (ci := 2) (v := .ref a_wk) (C := "LoopInduction$Futures") (T := F_Fut) (N := 4) hx hb hts iC_Fut hown hK hP 4 rfl rfl 3 (by decide) fl_35 (fun _ h9 => h9) rfl d_Fut_countLeading_72 ?_
          refine lv_iload_n hx hb d_Fut_countLeading_75 rfl (lv_at hl 2 rfl) ?_
          refine jn_i (wr := [(a_lp_first, .inl (cI, 4097, .inl lp_first)), (a_lp_src, .inl (cI, 24576, .inl lp_src)), (a_s1, .inl (cI, 4096, .inl s1_14)), (a_fu, .inr (2, [.ref a_lp, .ref a_s1, .ref a_s2, .ref a_wk])), (a_lp, .inr (4, [.ref a_lp_facts, .ref a_lp_turns, .ref a_lp_first, .ref a_lp_src, .ref a_s1, .int lp_choices, .int lp_guesses, .int lp_unaries, .int lp_ranked])), (a_lp_turns, .inl (cI, 24576, .inl lp_turns)), (a_s2, .inl (cI, 4096, .inl s2_15))]) (va_runV (As := [.int x2_13]) (rest := []) ⟨hx, hb, hml, hown, hts⟩ (c_Work_item l dC dI cI cB cZ adK adV _ a_wk a_wk_items wk_size_16 wk_items_17 x2_13 _ h) (cwV 1 hts (gv_ m_1071 m_806 m_807 m_91 m_808) rfl rfl rfl pd_Work_item ⟨Nat.le_of_ble_eq_true rfl, Nat.le_of_ble_eq_true rfl⟩) ⟨pc_blind, va_recv hK hP (ci := 10) (q0 := 8) rfl rfl, pc_of (hP.sub [8, 3] rfl) hK (hD.sub [8, 3] (by decide) rfl) hN hT hS hA⟩ rfl rfl hl.1 rfl (lv_room (Nat.le_of_ble_eq_true rfl)) d_Fut_countLeading_76 ⟨Nat.zero_le _, Nat.zero_le _⟩) hP hD hS hA [8, 3] [0, 1, 2, 4, 5, 6, 7] rfl rfl (by decide) (by decide) (fun r_24 u_ H locs h hP hD hS => ?_)
          have hP : va_P (dC, dI) vwCl [(a_lp_first, .inl (cI, 4097, .inl lp_first)), (a_lp_src, .inl (cI, 24576, .inl lp_src)), (a_s1, .inl (cI, 4096, .inl s1_14)), (a_fu, .inr (2, [.ref a_lp, .ref a_s1, .ref a_s2, .ref a_wk])), (a_lp, .inr (4, [.ref a_lp_facts, .ref a_lp_turns, .ref a_lp_first, .ref a_lp_src, .ref a_s1, .int lp_choices, .int lp_guesses, .int lp_unaries, .int lp_ranked])), (a_lp_turns, .inl (cI, 24576, .inl lp_turns)), (a_s2, .inl (cI, 4096, .inl s2_15)), (a_wk, .inr (10, [.ref a_wk_items, .int wk_size_16])), (a_wk_items, .inl (cI, 4096, .inl wk_items_17))] H := hP
          have hD : va_D A [(a_lp_first, .inl (cI, 4097, .inl lp_first)), (a_lp_src, .inl (cI, 24576, .inl lp_src)), (a_s1, .inl (cI, 4096, .inl s1_14)), (a_fu, .inr (2, [.ref a_lp, .ref a_s1, .ref a_s2, .ref a_wk])), (a_lp, .inr (4, [.ref a_lp_facts, .ref a_lp_turns, .ref a_lp_first, .ref a_lp_src, .ref a_s1, .int lp_choices, .int lp_guesses, .int lp_unaries, .int lp_ranked])), (a_lp_turns, .inl (cI, 24576, .inl lp_turns)), (a_s2, .inl (cI, 4096, .inl s2_15)), (a_wk, .inr (10, [.ref a_wk_items, .int wk_size_16])), (a_wk_items, .inl (cI, 4096, .inl wk_items_17))] := hD
          refine lv_istore_n (lv' := [(3, .int r_24), (0, .ref a_fu), (1, .int x1), (2, .int x2_13)]) hx hb d_Fut_countLeading_79 rfl hl (by decide) rfl (fun ls hl => ?_)
          refine lv_aload_n hx hb d_Fut_countLeading_80 rfl (lv_at hl 1 rfl) ?_
          refine va_get (D := (dC, dI)) (ci := 2) (v := .ref a_lp) (C := "LoopInduction$Futures") (T := F_Fut) (N := 4) hx hb hts iC_Fut hown hK hP 3 rfl rfl 0 (by decide) fl_9 (fun _ h9 => h9) rfl d_Fut_countLeading_81 ?_
          refine lv_iload_n hx hb d_Fut_countLeading_84 rfl (lv_at hl 0 rfl) ?_
          refine jn_i (wr := [(a_lp_src, .inl (cI, 24576, .inl lp_src)), (a_s1, .inl (cI, 4096, .inl s1_14)), (a_fu, .inr (2, [.ref a_lp, .ref a_s1, .ref a_s2, .ref a_wk])), (a_lp_turns, .inl (cI, 24576, .inl lp_turns)), (a_s2, .inl (cI, 4096, .inl s2_15)), (a_wk, .inr (10, [.ref a_wk_items, .int wk_size_16])), (a_wk_items, .inl (cI, 4096, .inl wk_items_17))]) (va_runV (As := [.int r_24]) (rest := []) ⟨hx, hb, hml, hown, hts⟩ (c_Loop_lastSource l dC dI cI cB cZ adK adV _ a_lp a_lp_facts a_lp_turns a_lp_first a_lp_src a_s1 lp_choices lp_guesses lp_unaries lp_ranked lp_first r_24 _ h) (cwV 1 hts (gv_ m_1072 m_823 m_824 m_92 m_825) rfl rfl rfl pd_Loop_lastSource ⟨Nat.le_of_ble_eq_true rfl, Nat.le_of_ble_eq_true rfl⟩) ⟨pc_blind, va_recv hK hP (ci := 4) (q0 := 4) rfl rfl, pc_of (hP.sub [4, 0] rfl) hK (hD.sub [4, 0] (by decide) rfl) hN hT hS hA⟩ rfl rfl hl.1 rfl (lv_room (Nat.le_of_ble_eq_true rfl)) d_Fut_countLeading_85 ⟨Nat.zero_le _, Nat.zero_le _⟩) hP hD hS hA [4, 0] [1, 2, 3, 5, 6, 7, 8] rfl rfl (by decide) (by decide) (fun r_25 u_ H locs h hP hD hS => ?_)
          have hP : va_P (dC, dI) vwCl [(a_lp_src, .inl (cI, 24576, .inl lp_src)), (a_s1, .inl (cI, 4096, .inl s1_14)), (a_fu, .inr (2, [.ref a_lp, .ref a_s1, .ref a_s2, .ref a_wk])), (a_lp_turns, .inl (cI, 24576, .inl lp_turns)), (a_s2, .inl (cI, 4096, .inl s2_15)), (a_wk, .inr (10, [.ref a_wk_items, .int wk_size_16])), (a_wk_items, .inl (cI, 4096, .inl wk_items_17)), (a_lp, .inr (4, [.ref a_lp_facts, .ref a_lp_turns, .ref a_lp_first, .ref a_lp_src, .ref a_s1, .int lp_choices, .int lp_guesses, .int lp_unaries, .int lp_ranked])), (a_lp_first, .inl (cI, 4097, .inl lp_first))] H := hP
          have hD : va_D A [(a_lp_src, .inl (cI, 24576, .inl lp_src)), (a_s1, .inl (cI, 4096, .inl s1_14)), (a_fu, .inr (2, [.ref a_lp, .ref a_s1, .ref a_s2, .ref a_wk])), (a_lp_turns, .inl (cI, 24576, .inl lp_turns)), (a_s2, .inl (cI, 4096, .inl s2_15)), (a_wk, .inr (10, [.ref a_wk_items, .int wk_size_16])), (a_wk_items, .inl (cI, 4096, .inl wk_items_17)), (a_lp, .inr (4, [.ref a_lp_facts, .ref a_lp_turns, .ref a_lp_first, .ref a_lp_src, .ref a_s1, .int lp_choices, .int lp_guesses, .int lp_unaries, .int lp_ranked])), (a_lp_first, .inl (cI, 4097, .inl lp_first))] := hD
          refine lv_istore (lv' := [(4, .int r_25), (3, .int r_24), (0, .ref a_fu), (1, .int x1), (2, .int x2_13)]) hx hb d_Fut_countLeading_88 hl (by decide) rfl (fun ls hl => ?_)
          refine lv_aload_n hx hb d_Fut_countLeading_90 rfl (lv_at hl 2 rfl) ?_
          refine va_get (D := (dC, dI)) (ci := 2) (v := .ref a_lp) (C := "LoopInduction$Futures") (T := F_Fut) (N := 4) hx hb hts iC_Fut hown hK hP 2 rfl rfl 0 (by decide) fl_9 (fun _ h9 => h9) rfl d_Fut_countLeading_91 ?_
          refine lv_iload_n hx hb d_Fut_countLeading_94 rfl (lv_at hl 1 rfl) ?_
          refine jn_i (wr := [(a_lp_src, .inl (cI, 24576, .inl lp_src)), (a_s1, .inl (cI, 4096, .inl s1_14)), (a_fu, .inr (2, [.ref a_lp, .ref a_s1, .ref a_s2, .ref a_wk])), (a_lp_turns, .inl (cI, 24576, .inl lp_turns)), (a_s2, .inl (cI, 4096, .inl s2_15)), (a_wk, .inr (10, [.ref a_wk_items, .int wk_size_16])), (a_wk_items, .inl (cI, 4096, .inl wk_items_17))]) (va_runV (As := [.int r_24]) (rest := []) ⟨hx, hb, hml, hown, hts⟩ (c_Loop_firstSource l dC dI cI cB cZ adK adV _ a_lp a_lp_facts a_lp_turns a_lp_first a_lp_src a_s1 lp_choices lp_guesses lp_unaries lp_ranked lp_first r_24 _ h) (cwV 1 hts (gv_ m_1073 m_827 m_828 m_92 m_829) rfl rfl rfl pd_Loop_firstSource ⟨Nat.le_of_ble_eq_true rfl, Nat.le_of_ble_eq_true rfl⟩) ⟨pc_blind, va_recv hK hP (ci := 4) (q0 := 7) rfl rfl, pc_of (hP.sub [7, 8] rfl) hK (hD.sub [7, 8] (by decide) rfl) hN hT hS hA⟩ rfl rfl hl.1 rfl (lv_room (Nat.le_of_ble_eq_true rfl)) d_Fut_countLeading_95 ⟨Nat.zero_le _, Nat.zero_le _⟩) hP hD hS hA [7, 8] [0, 1, 2, 3, 4, 5, 6] rfl rfl (by decide) (by decide) (fun r_26 u_ H locs h hP hD hS => ?_)
          have hP : va_P (dC, dI) vwCl [(a_lp_src, .inl (cI, 24576, .inl lp_src)), (a_s1, .inl (cI, 4096, .inl s1_14)), (a_fu, .inr (2, [.ref a_lp, .ref a_s1, .ref a_s2, .ref a_wk])), (a_lp_turns, .inl (cI, 24576, .inl lp_turns)), (a_s2, .inl (cI, 4096, .inl s2_15)), (a_wk, .inr (10, [.ref a_wk_items, .int wk_size_16])), (a_wk_items, .inl (cI, 4096, .inl wk_items_17)), (a_lp, .inr (4, [.ref a_lp_facts, .ref a_lp_turns, .ref a_lp_first, .ref a_lp_src, .ref a_s1, .int lp_choices, .int lp_guesses, .int lp_unaries, .int lp_ranked])), (a_lp_first, .inl (cI, 4097, .inl lp_first))] H := hP
          have hD : va_D A [(a_lp_src, .inl (cI, 24576, .inl lp_src)), (a_s1, .inl (cI, 4096, .inl s1_14)), (a_fu, .inr (2, [.ref a_lp, .ref a_s1, .ref a_s2, .ref a_wk])), (a_lp_turns, .inl (cI, 24576, .inl lp_turns)), (a_s2, .inl (cI, 4096, .inl s2_15)), (a_wk, .inr (10, [.ref a_wk_items, .int wk_size_16])), (a_wk_items, .inl (cI, 4096, .inl wk_items_17)), (a_lp, .inr (4, [.ref a_lp_facts, .ref a_lp_turns, .ref a_lp_first, .ref a_lp_src, .ref a_s1, .int lp_choices, .int lp_guesses, .int lp_unaries, .int lp_ranked])), (a_lp_first, .inl (cI, 4097, .inl lp_first))] := hD
          refine lv_istore (lv' := [(5, .int r_26), (4, .int r_25), (3, .int r_24), (0, .ref a_fu), (1, .int x1), (2, .int x2_13)]) hx hb d_Fut_countLeading_98 hl (by decide) rfl (fun ls hl => ?_)
          have L100_q_32 : ∀ (k127 : (Nat → Int32) → (Nat → Int32) → (Int32) → (Nat → Int32) → Prop) (hk127 : ∀ (s1_33 : Nat → Int32) (s2_34 : Nat → Int32) (wk_size_35 : Int32) (wk_items_36 : Nat → Int32), k127 s1_33 s2_34 wk_size_35 wk_items_36 → ∀ (H : Heap) (locs : List Loc), va_P (dC, dI) vwCl [(a_lp_src, .inl (cI, 24576, .inl lp_src)), (a_s1, .inl (cI, 4096, .inl s1_33)), (a_fu, .inr (2, [.ref a_lp, .ref a_s1, .ref a_s2, .ref a_wk])), (a_lp_turns, .inl (cI, 24576, .inl lp_turns)), (a_s2, .inl (cI, 4096, .inl s2_34)), (a_wk, .inr (10, [.ref a_wk_items, .int wk_size_35])), (a_wk_items, .inl (cI, 4096, .inl wk_items_36)), (a_lp, .inr (4, [.ref a_lp_facts, .ref a_lp_turns, .ref a_lp_first, .ref a_lp_src, .ref a_s1, .int lp_choices, .int lp_guesses, .int lp_unaries, .int lp_ranked])), (a_lp_first, .inl (cI, 4097, .inl lp_first))] H → va_D A [(a_lp_src, .inl (cI, 24576, .inl lp_src)), (a_s1, .inl (cI, 4096, .inl s1_33)), (a_fu, .inr (2, [.ref a_lp, .ref a_s1, .ref a_s2, .ref a_wk])), (a_lp_turns, .inl (cI, 24576, .inl lp_turns)), (a_s2, .inl (cI, 4096, .inl s2_34)), (a_wk, .inr (10, [.ref a_wk_items, .int wk_size_35])), (a_wk_items, .inl (cI, 4096, .inl wk_items_36)), (a_lp, .inr (4, [.ref a_lp_facts, .ref a_lp_turns, .ref a_lp_first, .ref a_lp_src, .ref a_s1, .int lp_choices, .int lp_guesses, .int lp_unaries, .int lp_ranked])), (a_lp_first, .inl (cI, 4097, .inl lp_first))] → va_S A s.heap H locs → ∀ ls : Array Slot, lv_has ls 6 [(0, .ref a_fu), (1, .int x1), (2, .int x2_13)] → W p l e (headSpec w_Fut_countLeading ({ frames := 3, cells := 0, slots := 0, locals := 65 })).room s m (([.ref a_fu, .int x1] : List Value).toArray) below meth c H locs 0 0 QQ (F0 m 127 ls [])) (n : Nat) (x5_27 : Int32) (s1_28 : Nat → Int32) (s2_29 : Nat → Int32) (wk_size_30 : Int32) (wk_items_31 : Nat → Int32), wp_Fut_countLeading_L100 x1 x2_13 r_25 lp_src k127 n x5_27 s1_28 s2_29 wk_size_30 wk_items_31 → ∀ (H : Heap) (locs : List Loc), va_P (dC, dI) vwCl [(a_lp_src, .inl (cI, 24576, .inl lp_src)), (a_s1, .inl (cI, 4096, .inl s1_28)), (a_fu, .inr (2, [.ref a_lp, .ref a_s1, .ref a_s2, .ref a_wk])), (a_lp_turns, .inl (cI, 24576, .inl lp_turns)), (a_s2, .inl (cI, 4096, .inl s2_29)), (a_wk, .inr (10, [.ref a_wk_items, .int wk_size_30])), (a_wk_items, .inl (cI, 4096, .inl wk_items_31)), (a_lp, .inr (4, [.ref a_lp_facts, .ref a_lp_turns, .ref a_lp_first, .ref a_lp_src, .ref a_s1, .int lp_choices, .int lp_guesses, .int lp_unaries, .int lp_ranked])), (a_lp_first, .inl (cI, 4097, .inl lp_first))] H → va_D A [(a_lp_src, .inl (cI, 24576, .inl lp_src)), (a_s1, .inl (cI, 4096, .inl s1_28)), (a_fu, .inr (2, [.ref a_lp, .ref a_s1, .ref a_s2, .ref a_wk])), (a_lp_turns, .inl (cI, 24576, .inl lp_turns)), (a_s2, .inl (cI, 4096, .inl s2_29)), (a_wk, .inr (10, [.ref a_wk_items, .int wk_size_30])), (a_wk_items, .inl (cI, 4096, .inl wk_items_31)), (a_lp, .inr (4, [.ref a_lp_facts, .ref a_lp_turns, .ref a_lp_first, .ref a_lp_src, .ref a_s1, .int lp_choices, .int lp_guesses, .int lp_unaries, .int lp_ranked])), (a_lp_first, .inl (cI, 4097, .inl lp_first))] → va_S A s.heap H locs → ∀ ls : Array Slot, lv_has ls 6 [(0, .ref a_fu), (1, .int x1), (2, .int x2_13), (4, .int r_25), (5, .int x5_27)] → W p l e (headSpec w_Fut_countLeading ({ frames := 3, cells := 0, slots := 0, locals := 65 })).room s m (([.ref a_fu, .int x1] : List Value).toArray) below meth c H locs 0 0 QQ (F0 m 100 ls []) := by
            intro k127 hk127 n
            induction n with
            | zero => intro x5_27 s1_28 s2_29 wk_size_30 wk_items_31 h; exact (show False from h).elim
            | succ n il =>
              intro x5_27 s1_28 s2_29 wk_size_30 wk_items_31 h
              intro H locs hP hD hS ls hl
              refine lv_iload hx hb d_Fut_countLeading_100 (lv_at hl 4 rfl) ?_
              refine lv_iload hx hb d_Fut_countLeading_102 (lv_at hl 3 rfl) ?_
              refine lv_icmp_gt (tgt := 127) hx hb d_Fut_countLeading_104 (by decide) (fun c_104 => ?_) (fun c_104 => ?_)
              · have h := And.left h c_104
                exact hk127 _ _ _ _ h _ _ hP hD hS _ (lv_sub hl [0, 1, 2] rfl)
              · have h := And.right h c_104
                refine lv_aload_n hx hb d_Fut_countLeading_107 rfl (lv_at hl 0 rfl) ?_
                refine lv_aload_n hx hb d_Fut_countLeading_108 rfl (lv_at hl 0 rfl) ?_
                refine va_get (D := (dC, dI)) (ci := 2) (v := .ref a_lp) (C := "LoopInduction$Futures") (T := F_Fut) (N := 4) hx hb hts iC_Fut hown hK hP 2 rfl rfl 0 (by decide) fl_9 (fun _ h9 => h9) rfl d_Fut_countLeading_109 ?_
                refine lv_iload hx hb d_Fut_countLeading_112 (lv_at hl 4 rfl) ?_
                refine jn_i (wr := [(a_s1, .inl (cI, 4096, .inl s1_28)), (a_fu, .inr (2, [.ref a_lp, .ref a_s1, .ref a_s2, .ref a_wk])), (a_lp_turns, .inl (cI, 24576, .inl lp_turns)), (a_s2, .inl (cI, 4096, .inl s2_29)), (a_wk, .inr (10, [.ref a_wk_items, .int wk_size_30])), (a_wk_items, .inl (cI, 4096, .inl wk_items_31)), (a_lp_first, .inl (cI, 4097, .inl lp_first))]) (va_runV (As := [.int x5_27]) (rest := [.ref a_fu]) ⟨hx, hb, hml, hown, hts⟩ (c_Loop_sourceAt l dC dI cI cB cZ adK adV _ a_lp a_lp_facts a_lp_turns a_lp_first a_lp_src a_s1 lp_choices lp_guesses lp_unaries lp_ranked lp_src x5_27 _ h) (cwV 1 hts (gv_ m_1074 m_831 m_832 m_92 m_833) rfl rfl rfl pd_Loop_sourceAt ⟨Nat.le_of_ble_eq_true rfl, Nat.le_of_ble_eq_true rfl⟩) ⟨pc_blind, va_recv hK hP (ci := 4) (q0 := 7) rfl rfl, pc_of (hP.sub [7, 0] rfl) hK (hD.sub [7, 0] (by decide) rfl) hN hT hS hA⟩ rfl rfl hl.1 rfl (lv_room (Nat.le_of_ble_eq_true rfl)) d_Fut_countLeading_114 ⟨Nat.zero_le _, Nat.zero_le _⟩) hP hD hS hA [7, 0] [1, 2, 3, 4, 5, 6, 8] rfl rfl (by decide) (by decide) (fun r_37 u_ H locs h hP hD hS => ?_)
                have hP : va_P (dC, dI) vwCl [(a_s1, .inl (cI, 4096, .inl s1_28)), (a_fu, .inr (2, [.ref a_lp, .ref a_s1, .ref a_s2, .ref a_wk])), (a_lp_turns, .inl (cI, 24576, .inl lp_turns)), (a_s2, .inl (cI, 4096, .inl s2_29)), (a_wk, .inr (10, [.ref a_wk_items, .int wk_size_30])), (a_wk_items, .inl (cI, 4096, .inl wk_items_31)), (a_lp_first, .inl (cI, 4097, .inl lp_first)), (a_lp, .inr (4, [.ref a_lp_facts, .ref a_lp_turns, .ref a_lp_first, .ref a_lp_src, .ref a_s1, .int lp_choices, .int lp_guesses, .int lp_unaries, .int lp_ranked])), (a_lp_src, .inl (cI, 24576, .inl lp_src))] H := hP
                have hD : va_D A [(a_s1, .inl (cI, 4096, .inl s1_28)), (a_fu, .inr (2, [.ref a_lp, .ref a_s1, .ref a_s2, .ref a_wk])), (a_lp_turns, .inl (cI, 24576, .inl lp_turns)), (a_s2, .inl (cI, 4096, .inl s2_29)), (a_wk, .inr (10, [.ref a_wk_items, .int wk_size_30])), (a_wk_items, .inl (cI, 4096, .inl wk_items_31)), (a_lp_first, .inl (cI, 4097, .inl lp_first)), (a_lp, .inr (4, [.ref a_lp_facts, .ref a_lp_turns, .ref a_lp_first, .ref a_lp_src, .ref a_s1, .int lp_choices, .int lp_guesses, .int lp_unaries, .int lp_ranked])), (a_lp_src, .inl (cI, 24576, .inl lp_src))] := hD
                refine lv_iload_n hx hb d_Fut_countLeading_117 rfl (lv_at hl 1 rfl) ?_
                refine jn_v (wr := [(a_lp_turns, .inl (cI, 24576, .inl lp_turns)), (a_lp_first, .inl (cI, 4097, .inl lp_first)), (a_lp, .inr (4, [.ref a_lp_facts, .ref a_lp_turns, .ref a_lp_first, .ref a_lp_src, .ref a_s1, .int lp_choices, .int lp_guesses, .int lp_unaries, .int lp_ranked])), (a_lp_src, .inl (cI, 24576, .inl lp_src))]) (va_runV (As := [.int r_37, .int x1]) (rest := []) ⟨hx, hb, hml, hown, hts⟩ (c_Fut_markSource l dC dI cI cB cZ adK adV _ a_s1 a_s2 a_wk a_wk_items a_fu a_lp s1_28 s2_29 wk_size_30 wk_items_31 r_37 x1 _ h) (cwV 2 hts (gv_ m_1075 m_1077 m_49 m_95 m_1078) rfl rfl rfl pd_Fut_markSource ⟨Nat.le_of_ble_eq_true rfl, Nat.le_of_ble_eq_true rfl⟩) ⟨pc_blind, va_recv hK hP (ci := 2) (q0 := 1) rfl rfl, pc_of (hP.sub [0, 3, 4, 5, 1] rfl) hK (hD.sub [0, 3, 4, 5, 1] (by decide) rfl) hN hT hS hA⟩ rfl rfl hl.1 rfl (lv_room (Nat.le_of_ble_eq_true rfl)) d_Fut_countLeading_118 ⟨Nat.zero_le _, Nat.zero_le _⟩) hP hD hS hA [0, 3, 4, 5, 1] [2, 6, 7, 8] rfl rfl (by decide) (by decide) (fun u_ H locs h hP hD hS => ?_)
                obtain ⟨s1_38, s2_39, wk_size_40, wk_items_41⟩ := u_
                have hP : va_P (dC, dI) vwCl [(a_lp_turns, .inl (cI, 24576, .inl lp_turns)), (a_lp_first, .inl (cI, 4097, .inl lp_first)), (a_lp, .inr (4, [.ref a_lp_facts, .ref a_lp_turns, .ref a_lp_first, .ref a_lp_src, .ref a_s1, .int lp_choices, .int lp_guesses, .int lp_unaries, .int lp_ranked])), (a_lp_src, .inl (cI, 24576, .inl lp_src)), (a_s1, .inl (cI, 4096, .inl s1_38)), (a_s2, .inl (cI, 4096, .inl s2_39)), (a_wk, .inr (10, [.ref a_wk_items, .int wk_size_40])), (a_wk_items, .inl (cI, 4096, .inl wk_items_41)), (a_fu, .inr (2, [.ref a_lp, .ref a_s1, .ref a_s2, .ref a_wk]))] H := hP
                have hD : va_D A [(a_lp_turns, .inl (cI, 24576, .inl lp_turns)), (a_lp_first, .inl (cI, 4097, .inl lp_first)), (a_lp, .inr (4, [.ref a_lp_facts, .ref a_lp_turns, .ref a_lp_first, .ref a_lp_src, .ref a_s1, .int lp_choices, .int lp_guesses, .int lp_unaries, .int lp_ranked])), (a_lp_src, .inl (cI, 24576, .inl lp_src)), (a_s1, .inl (cI, 4096, .inl s1_38)), (a_s2, .inl (cI, 4096, .inl s2_39)), (a_wk, .inr (10, [.ref a_wk_items, .int wk_size_40])), (a_wk_items, .inl (cI, 4096, .inl wk_items_41)), (a_fu, .inr (2, [.ref a_lp, .ref a_s1, .ref a_s2, .ref a_wk]))] := hD
                refine lv_iinc (v := x5_27 + 1) (lv' := [(5, .int (x5_27 + 1)), (0, .ref a_fu), (1, .int x1), (2, .int x2_13), (4, .int r_25)]) hx hb d_Fut_countLeading_121 hl (k := 4) rfl rfl (by decide) rfl (fun ls hl => ?_)
                refine lv_goto (tgt := 100) hx hb d_Fut_countLeading_124 (by decide) ?_
                exact il _ _ _ _ _ h _ _ (hP.sub [3, 4, 8, 0, 5, 6, 7, 2, 1] rfl) (hD.sub [3, 4, 8, 0, 5, 6, 7, 2, 1] (by decide) rfl) hS _ (lv_sub hl [1, 2, 3, 4, 0] rfl)
          obtain ⟨n_, h⟩ := h
          refine L100_q_32 _ ?_ n_ _ _ _ _ _ h _ _ hP hD hS _ (lv_sub hl [3, 4, 5, 1, 0] rfl)
          intro s1_42 s2_43 wk_size_44 wk_items_45 h
          intro H locs hP hD hS ls hl
          refine lv_iinc (v := x2_13 + 1) (lv' := [(2, .int (x2_13 + 1)), (0, .ref a_fu), (1, .int x1)]) hx hb d_Fut_countLeading_127 hl (k := 2) rfl rfl (by decide) rfl (fun ls hl => ?_)
          refine lv_goto (tgt := 53) hx hb d_Fut_countLeading_130 (by decide) ?_
          exact il _ _ _ _ _ h _ _ (hP.sub [8, 0, 1, 6, 2, 7, 3, 4, 5] rfl) (hD.sub [8, 0, 1, 6, 2, 7, 3, 4, 5] (by decide) rfl) hS _ (lv_sub hl [1, 2, 0] rfl)
  obtain ⟨n_, h⟩ := h
  refine L53_q_18 _ ?_ n_ _ _ _ _ _ h _ _ hP hD hS _ (lv_sub hl [1, 2, 0] rfl)
  intro s1_46 s2_47 wk_size_48 wk_items_49 h
  intro H locs hP hD hS ls hl
  refine lv_aload_n hx hb d_Fut_countLeading_133 rfl (lv_at hl 0 rfl) ?_
  refine va_get (D := (dC, dI)) (ci := 2) (v := .ref a_wk) (C := "LoopInduction$Futures") (T := F_Fut) (N := 4) hx hb hts iC_Fut hown hK hP 4 rfl rfl 3 (by decide) fl_35 (fun _ h9 => h9) rfl d_Fut_countLeading_134 ?_
  refine jn_i (wr := [(a_lp_first, .inl (cI, 4097, .inl lp_first)), (a_lp_src, .inl (cI, 24576, .inl lp_src)), (a_s1, .inl (cI, 4096, .inl s1_46)), (a_wk_items, .inl (cI, 4096, .inl wk_items_49)), (a_fu, .inr (2, [.ref a_lp, .ref a_s1, .ref a_s2, .ref a_wk])), (a_lp, .inr (4, [.ref a_lp_facts, .ref a_lp_turns, .ref a_lp_first, .ref a_lp_src, .ref a_s1, .int lp_choices, .int lp_guesses, .int lp_unaries, .int lp_ranked])), (a_lp_turns, .inl (cI, 24576, .inl lp_turns)), (a_s2, .inl (cI, 4096, .inl s2_47))]) (va_runV (As := []) (rest := []) ⟨hx, hb, hml, hown, hts⟩ (c_Work_size l dC dI cI cB cZ adK adV _ a_wk a_wk_items wk_size_48 _ h) (cwV 0 hts (gv_ m_1070 m_802 m_803 m_91 m_804) rfl rfl rfl pd_Work_size ⟨Nat.le_of_ble_eq_true rfl, Nat.le_of_ble_eq_true rfl⟩) ⟨pc_blind, va_recv hK hP (ci := 10) (q0 := 8) rfl rfl, pc_of (hP.sub [8] rfl) hK (hD.sub [8] (by decide) rfl) hN hT hS hA⟩ rfl rfl hl.1 rfl (lv_room (Nat.le_of_ble_eq_true rfl)) d_Fut_countLeading_137 ⟨Nat.zero_le _, Nat.zero_le _⟩) hP hD hS hA [8] [0, 1, 2, 3, 4, 5, 6, 7] rfl rfl (by decide) (by decide) (fun r_50 u_ H locs h hP hD hS => ?_)
  have hP : va_P (dC, dI) vwCl [(a_lp_first, .inl (cI, 4097, .inl lp_first)), (a_lp_src, .inl (cI, 24576, .inl lp_src)), (a_s1, .inl (cI, 4096, .inl s1_46)), (a_wk_items, .inl (cI, 4096, .inl wk_items_49)), (a_fu, .inr (2, [.ref a_lp, .ref a_s1, .ref a_s2, .ref a_wk])), (a_lp, .inr (4, [.ref a_lp_facts, .ref a_lp_turns, .ref a_lp_first, .ref a_lp_src, .ref a_s1, .int lp_choices, .int lp_guesses, .int lp_unaries, .int lp_ranked])), (a_lp_turns, .inl (cI, 24576, .inl lp_turns)), (a_s2, .inl (cI, 4096, .inl s2_47)), (a_wk, .inr (10, [.ref a_wk_items, .int wk_size_48]))] H := hP
  have hD : va_D A [(a_lp_first, .inl (cI, 4097, .inl lp_first)), (a_lp_src, .inl (cI, 24576, .inl lp_src)), (a_s1, .inl (cI, 4096, .inl s1_46)), (a_wk_items, .inl (cI, 4096, .inl wk_items_49)), (a_fu, .inr (2, [.ref a_lp, .ref a_s1, .ref a_s2, .ref a_wk])), (a_lp, .inr (4, [.ref a_lp_facts, .ref a_lp_turns, .ref a_lp_first, .ref a_lp_src, .ref a_s1, .int lp_choices, .int lp_guesses, .int lp_unaries, .int lp_ranked])), (a_lp_turns, .inl (cI, 24576, .inl lp_turns)), (a_s2, .inl (cI, 4096, .inl s2_47)), (a_wk, .inr (10, [.ref a_wk_items, .int wk_size_48]))] := hD
  rw [← hQ]
  have hP9 := hP.sub (ws' := [(a_lp, .inr (4, [.ref a_lp_facts, .ref a_lp_turns, .ref a_lp_first, .ref a_lp_src, .ref a_s1, .int lp_choices, .int lp_guesses, .int lp_unaries, .int lp_ranked])), (a_lp_turns, .inl (cI, 24576, .inl lp_turns)), (a_lp_first, .inl (cI, 4097, .inl lp_first)), (a_lp_src, .inl (cI, 24576, .inl lp_src)), (a_s1, .inl (cI, 4096, .inl s1_46)), (a_s2, .inl (cI, 4096, .inl s2_47)), (a_wk, .inr (10, [.ref a_wk_items, .int wk_size_48])), (a_wk_items, .inl (cI, 4096, .inl wk_items_49)), (a_fu, .inr (2, [.ref a_lp, .ref a_s1, .ref a_s2, .ref a_wk]))]) [5, 6, 0, 1, 2, 7, 8, 3, 4] rfl
  have hD9 := hD.sub (ws' := [(a_lp, .inr (4, [.ref a_lp_facts, .ref a_lp_turns, .ref a_lp_first, .ref a_lp_src, .ref a_s1, .int lp_choices, .int lp_guesses, .int lp_unaries, .int lp_ranked])), (a_lp_turns, .inl (cI, 24576, .inl lp_turns)), (a_lp_first, .inl (cI, 4097, .inl lp_first)), (a_lp_src, .inl (cI, 24576, .inl lp_src)), (a_s1, .inl (cI, 4096, .inl s1_46)), (a_s2, .inl (cI, 4096, .inl s2_47)), (a_wk, .inr (10, [.ref a_wk_items, .int wk_size_48])), (a_wk_items, .inl (cI, 4096, .inl wk_items_49)), (a_fu, .inr (2, [.ref a_lp, .ref a_s1, .ref a_s2, .ref a_wk]))]) [5, 6, 0, 1, 2, 7, 8, 3, 4] (by decide) rfl
  exact W.iret (v := r_50) hx hb hr (fun t ht hW => ⟨⟨r_50, (s1_46, s2_47, wk_size_48, wk_items_49), rfl, h, by rw [ht]; exact hP9, va_K.moved hW.alike hK, hD9⟩, hS.F ht⟩) hS.2.2 d_Fut_countLeading_140
set_option maxHeartbeats 4000000 in
set_option maxRecDepth 100000 in
theorem c_Fut_countMarked (l : Launch) (dC : Nat → ClassId) (dI : Nat → Nat → Nat) (cI cB cZ : ClassId) (adK adV : Nat → Nat) (sz : Nat) (a_lp a_lp_facts a_lp_turns a_lp_first a_lp_src a_s1 a_fu a_s2 a_wk : Nat) (lp_choices : Int32) (lp_guesses : Int32) (lp_unaries : Int32) (lp_ranked : Int32) (lp_facts : Nat → Int32) (s1 : Nat → Int32) (x1 : Int32) (post : Int32 → Prop) (h : wp_Fut_countMarked x1 lp_facts s1 post) : Met l y_Fut_countMarked w_Fut_countMarked ({ frames := 2, cells := 0, slots := 0, locals := 42 }) (pc_ (dC, dI) [(cI, .int), (cB, .byte), (cZ, .boolean)] [(a_lp, .inr (4, [.ref a_lp_facts, .ref a_lp_turns, .ref a_lp_first, .ref a_lp_src, .ref a_s1, .int lp_choices, .int lp_guesses, .int lp_unaries, .int lp_ranked])), (a_lp_facts, .inl (cI, 4096, .inl lp_facts)), (a_s1, .inl (cI, 4096, .inl s1)), (a_fu, .inr (2, [.ref a_lp, .ref a_s1, .ref a_s2, .ref a_wk]))] sz adK adV [.ref a_fu, .int x1]) (va_Qi (fun (r : Int32) (u : Unit) => post r ) (fun (u : Unit) t => bw_ (dC, dI) [(cI, .int), (cB, .byte), (cZ, .boolean)] (va_A [(a_lp, .inr (4, [.ref a_lp_facts, .ref a_lp_turns, .ref a_lp_first, .ref a_lp_src, .ref a_s1, .int lp_choices, .int lp_guesses, .int lp_unaries, .int lp_ranked])), (a_lp_facts, .inl (cI, 4096, .inl lp_facts)), (a_s1, .inl (cI, 4096, .inl s1)), (a_fu, .inr (2, [.ref a_lp, .ref a_s1, .ref a_s2, .ref a_wk]))] sz) [(a_lp, .inr (4, [.ref a_lp_facts, .ref a_lp_turns, .ref a_lp_first, .ref a_lp_src, .ref a_s1, .int lp_choices, .int lp_guesses, .int lp_unaries, .int lp_ranked])), (a_lp_facts, .inl (cI, 4096, .inl lp_facts)), (a_s1, .inl (cI, 4096, .inl s1)), (a_fu, .inr (2, [.ref a_lp, .ref a_s1, .ref a_s2, .ref a_wk]))] t) (va_A [(a_lp, .inr (4, [.ref a_lp_facts, .ref a_lp_turns, .ref a_lp_first, .ref a_lp_src, .ref a_s1, .int lp_choices, .int lp_guesses, .int lp_unaries, .int lp_ranked])), (a_lp_facts, .inl (cI, 4096, .inl lp_facts)), (a_s1, .inl (cI, 4096, .inl s1)), (a_fu, .inr (2, [.ref a_lp, .ref a_s1, .ref a_s2, .ref a_wk]))] sz)) 0 0 (va_A [(a_lp, .inr (4, [.ref a_lp_facts, .ref a_lp_turns, .ref a_lp_first, .ref a_lp_src, .ref a_s1, .int lp_choices, .int lp_guesses, .int lp_unaries, .int lp_ranked])), (a_lp_facts, .inl (cI, 4096, .inl lp_facts)), (a_s1, .inl (cI, 4096, .inl s1)), (a_fu, .inr (2, [.ref a_lp, .ref a_s1, .ref a_s2, .ref a_wk]))] sz) := by
  refine Met.ofW (cc := b_Fut_countMarked) (maxL := 4) (ret := (some .int)) (by decide) rfl ?_
  intro p e s m args below meth c s₁ B hml hv
  obtain ⟨rfl, hsz, hP, hK, hD0, hN, hT⟩ := hv
  have hx := B.exec
  have hb := B.bytes
  have hr := B.returns
  have hts := atoms_spec (ws := w_Fut_countMarked) B.pre
  have hown : s.vm.findClass "LoopInduction$Futures" = some m.cls := findClass_of_methodNamed B.named
  have hlocks := B.notSynchronized
  subst hsz
  have hD := hD0.self (sz := s.heap.size)
  generalize hAe : va_A [(a_lp, .inr (4, [.ref a_lp_facts, .ref a_lp_turns, .ref a_lp_first, .ref a_lp_src, .ref a_s1, .int lp_choices, .int lp_guesses, .int lp_unaries, .int lp_ranked])), (a_lp_facts, .inl (cI, 4096, .inl lp_facts)), (a_s1, .inl (cI, 4096, .inl s1)), (a_fu, .inr (2, [.ref a_lp, .ref a_s1, .ref a_s2, .ref a_wk]))] s.heap.size = A at hD hT ⊢
  have hA : ∀ q : Nat, s.heap.size ≤ q → A q := fun q h => by rw [← hAe]; exact Or.inr h
  have hS : va_S A s.heap s.heap [] := va_S.rf
  generalize hQ : MQ below _ _ s 0 0 _ = QQ
  have hl := lv_entry ([.ref a_fu, .int x1]) (n := 4) (Nat.le_of_ble_eq_true rfl)
  rw [lg_entry_eq]
  generalize (lg_sl ([.ref a_fu, .int x1]) ++ List.replicate (4 - (lg_sl ([.ref a_fu, .int x1])).length) Slot.unset).toArray = ls at hl ⊢
  have hl : lv_has ls 4 [(0, .ref a_fu), (1, .int x1)] := hl
  have fl_9 := (hts _ (List.mem_cons_of_mem _ m_358))
  have fl_21 := (hts _ (List.mem_cons_of_mem _ m_359))
  refine lv_iconst (v := 0) hx hb d_Fut_countMarked_0 (by decide) ?_
  refine lv_istore_n (lv' := [(2, .int 0), (0, .ref a_fu), (1, .int x1)]) hx hb d_Fut_countMarked_1 rfl hl (by decide) rfl (fun ls hl => ?_)
  refine lv_iconst (v := 0) hx hb d_Fut_countMarked_2 (by decide) ?_
  refine lv_istore_n (lv' := [(3, .int 0), (2, .int 0), (0, .ref a_fu), (1, .int x1)]) hx hb d_Fut_countMarked_3 rfl hl (by decide) rfl (fun ls hl => ?_)
  have L4_q_3 : ∀ (k42 : Int32 → Prop) (hk42 : ∀ (x2_4 : Int32), k42 x2_4 → ∀ (H : Heap) (locs : List Loc), va_P (dC, dI) vwCl [(a_lp, .inr (4, [.ref a_lp_facts, .ref a_lp_turns, .ref a_lp_first, .ref a_lp_src, .ref a_s1, .int lp_choices, .int lp_guesses, .int lp_unaries, .int lp_ranked])), (a_lp_facts, .inl (cI, 4096, .inl lp_facts)), (a_s1, .inl (cI, 4096, .inl s1)), (a_fu, .inr (2, [.ref a_lp, .ref a_s1, .ref a_s2, .ref a_wk]))] H → va_D A [(a_lp, .inr (4, [.ref a_lp_facts, .ref a_lp_turns, .ref a_lp_first, .ref a_lp_src, .ref a_s1, .int lp_choices, .int lp_guesses, .int lp_unaries, .int lp_ranked])), (a_lp_facts, .inl (cI, 4096, .inl lp_facts)), (a_s1, .inl (cI, 4096, .inl s1)), (a_fu, .inr (2, [.ref a_lp, .ref a_s1, .ref a_s2, .ref a_wk]))] → va_S A s.heap H locs → ∀ ls : Array Slot, lv_has ls 4 [(2, .int x2_4)] → W p l e (headSpec w_Fut_countMarked ({ frames := 2, cells := 0, slots := 0, locals := 42 })).room s m (([.ref a_fu, .int x1] : List Value).toArray) below meth c H locs 0 0 QQ (F0 m 42 ls [])) (n : Nat) (x2_1 : Int32) (x3_2 : Int32), wp_Fut_countMarked_L4 x1 lp_facts s1 k42 n x2_1 x3_2 → ∀ (H : Heap) (locs : List Loc), va_P (dC, dI) vwCl [(a_lp, .inr (4, [.ref a_lp_facts, .ref a_lp_turns, .ref a_lp_first, .ref a_lp_src, .ref a_s1, .int lp_choices, .int lp_guesses, .int lp_unaries, .int lp_ranked])), (a_lp_facts, .inl (cI, 4096, .inl lp_facts)), (a_s1, .inl (cI, 4096, .inl s1)), (a_fu, .inr (2, [.ref a_lp, .ref a_s1, .ref a_s2, .ref a_wk]))] H → va_D A [(a_lp, .inr (4, [.ref a_lp_facts, .ref a_lp_turns, .ref a_lp_first, .ref a_lp_src, .ref a_s1, .int lp_choices, .int lp_guesses, .int lp_unaries, .int lp_ranked])), (a_lp_facts, .inl (cI, 4096, .inl lp_facts)), (a_s1, .inl (cI, 4096, .inl s1)), (a_fu, .inr (2, [.ref a_lp, .ref a_s1, .ref a_s2, .ref a_wk]))] → va_S A s.heap H locs → ∀ ls : Array Slot, lv_has ls 4 [(0, .ref a_fu), (1, .int x1), (2, .int x2_1), (3, .int x3_2)] → W p l e (headSpec w_Fut_countMarked ({ frames := 2, cells := 0, slots := 0, locals := 42 })).room s m (([.ref a_fu, .int x1] : List Value).toArray) below meth c H locs 0 0 QQ (F0 m 4 ls []) := by
    intro k42 hk42 n
    induction n with
    | zero => intro x2_1 x3_2 h; exact (show False from h).elim
    | succ n il =>
      intro x2_1 x3_2 h
      intro H locs hP hD hS ls hl
      refine lv_iload_n hx hb d_Fut_countMarked_4 rfl (lv_at hl 3 rfl) ?_
      refine lv_sipush (v := 4096) hx hb d_Fut_countMarked_5 (by decide) ?_
      refine lv_icmp_ge (tgt := 42) hx hb d_Fut_countMarked_8 (by decide) (fun c_8 => ?_) (fun c_8 => ?_)
      · have h := And.left h c_8
        exact hk42 _ h _ _ hP hD hS _ (lv_sub hl [2] rfl)
      · have h := And.right h c_8
        refine lv_aload_n hx hb d_Fut_countMarked_11 rfl (lv_at hl 0 rfl) ?_
        refine va_get (D := (dC, dI)) (ci := 2) (v := .ref a_s1) (C := "LoopInduction$Futures") (T := F_Fut) (N := 4) hx hb hts iC_Fut hown hK hP 3 rfl rfl 1 (by decide) fl_21 (fun _ h9 => h9) rfl d_Fut_countMarked_12 ?_
        refine lv_iload_n hx hb d_Fut_countMarked_15 rfl (lv_at hl 3 rfl) ?_
        obtain ⟨hin_16, h⟩ := h
        refine va_iald hx hb hK hP 2 0 rfl rfl hin_16 d_Fut_countMarked_16 ?_
        refine lv_iconst (v := 1) hx hb d_Fut_countMarked_17 (by decide) ?_
        refine lv_icmp_ne (tgt := 36) hx hb d_Fut_countMarked_18 (by decide) (fun c_18 => ?_) (fun c_18 => ?_)
        · have h := And.left h c_18
          refine lv_iinc (v := x3_2 + 1) (lv' := [(3, .int (x3_2 + 1)), (0, .ref a_fu), (1, .int x1), (2, .int x2_1)]) hx hb d_Fut_countMarked_36 hl (k := 3) rfl rfl (by decide) rfl (fun ls hl => ?_)
          refine lv_goto (tgt := 4) hx hb d_Fut_countMarked_39 (by decide) ?_
          exact il _ _ h _ _ hP hD hS _ (lv_sub hl [1, 2, 3, 0] rfl)
        · have h := And.right h c_18
          refine lv_aload_n hx hb d_Fut_countMarked_21 rfl (lv_at hl 0 rfl) ?_
          refine va_get (D := (dC, dI)) (ci := 2) (v := .ref a_lp) (C := "LoopInduction$Futures") (T := F_Fut) (N := 4) hx hb hts iC_Fut hown hK hP 3 rfl rfl 0 (by decide) fl_9 (fun _ h9 => h9) rfl d_Fut_countMarked_22 ?_
          refine lv_iload_n hx hb d_Fut_countMarked_25 rfl (lv_at hl 3 rfl) ?_
          refine lv_iload_n hx hb d_Fut_countMarked_26 rfl (lv_at hl 1 rfl) ?_
          refine jn_i (wr := [(a_s1, .inl (cI, 4096, .inl s1)), (a_fu, .inr (2, [.ref a_lp, .ref a_s1, .ref a_s2, .ref a_wk]))]) (va_runV (As := [.int x3_2, .int x1]) (rest := []) ⟨hx, hb, hml, hown, hts⟩ (c_Loop_hasAll l dC dI cI cB cZ adK adV _ a_lp a_lp_facts a_lp_turns a_lp_first a_lp_src a_s1 lp_choices lp_guesses lp_unaries lp_ranked lp_facts x3_2 x1 _ h) (cwV 2 hts (gv_ m_1062 m_785 m_786 m_92 m_787) rfl rfl rfl pd_Loop_hasAll ⟨Nat.le_of_ble_eq_true rfl, Nat.le_of_ble_eq_true rfl⟩) ⟨pc_blind, va_recv hK hP (ci := 4) (q0 := 0) rfl rfl, pc_of (hP.sub [0, 1] rfl) hK (hD.sub [0, 1] (by decide) rfl) hN hT hS hA⟩ rfl rfl hl.1 rfl (lv_room (Nat.le_of_ble_eq_true rfl)) d_Fut_countMarked_27 ⟨Nat.zero_le _, Nat.zero_le _⟩) hP hD hS hA [0, 1] [2, 3] rfl rfl (by decide) (by decide) (fun r_5 u_ H locs h hP hD hS => ?_)
          have hP : va_P (dC, dI) vwCl [(a_s1, .inl (cI, 4096, .inl s1)), (a_fu, .inr (2, [.ref a_lp, .ref a_s1, .ref a_s2, .ref a_wk])), (a_lp, .inr (4, [.ref a_lp_facts, .ref a_lp_turns, .ref a_lp_first, .ref a_lp_src, .ref a_s1, .int lp_choices, .int lp_guesses, .int lp_unaries, .int lp_ranked])), (a_lp_facts, .inl (cI, 4096, .inl lp_facts))] H := hP
          have hD : va_D A [(a_s1, .inl (cI, 4096, .inl s1)), (a_fu, .inr (2, [.ref a_lp, .ref a_s1, .ref a_s2, .ref a_wk])), (a_lp, .inr (4, [.ref a_lp_facts, .ref a_lp_turns, .ref a_lp_first, .ref a_lp_src, .ref a_s1, .int lp_choices, .int lp_guesses, .int lp_unaries, .int lp_ranked])), (a_lp_facts, .inl (cI, 4096, .inl lp_facts))] := hD
          refine lv_if_eq (tgt := 36) hx hb d_Fut_countMarked_30 (by decide) (fun c_30 => ?_) (fun c_30 => ?_)
          · have h := And.left h c_30
            refine lv_iinc (v := x3_2 + 1) (lv' := [(3, .int (x3_2 + 1)), (0, .ref a_fu), (1, .int x1), (2, .int x2_1)]) hx hb d_Fut_countMarked_36 hl (k := 3) rfl rfl (by decide) rfl (fun ls hl => ?_)
            refine lv_goto (tgt := 4) hx hb d_Fut_countMarked_39 (by decide) ?_
            exact il _ _ h _ _ (hP.sub [2, 3, 0, 1] rfl) (hD.sub [2, 3, 0, 1] (by decide) rfl) hS _ (lv_sub hl [1, 2, 3, 0] rfl)
          · have h := And.right h c_30
            refine lv_iinc (v := x2_1 + 1) (lv' := [(2, .int (x2_1 + 1)), (0, .ref a_fu), (1, .int x1), (3, .int x3_2)]) hx hb d_Fut_countMarked_33 hl (k := 2) rfl rfl (by decide) rfl (fun ls hl => ?_)
            refine lv_iinc (v := x3_2 + 1) (lv' := [(3, .int (x3_2 + 1)), (2, .int (x2_1 + 1)), (0, .ref a_fu), (1, .int x1)]) hx hb d_Fut_countMarked_36 hl (k := 3) rfl rfl (by decide) rfl (fun ls hl => ?_)
            refine lv_goto (tgt := 4) hx hb d_Fut_countMarked_39 (by decide) ?_
            exact il _ _ h _ _ (hP.sub [2, 3, 0, 1] rfl) (hD.sub [2, 3, 0, 1] (by decide) rfl) hS _ (lv_sub hl [2, 3, 1, 0] rfl)
  obtain ⟨n_, h⟩ := h
  refine L4_q_3 _ ?_ n_ _ _ h _ _ hP hD hS _ (lv_sub hl [2, 3, 1, 0] rfl)
  intro x2_6 h
  intro H locs hP hD hS ls hl
  refine lv_iload_n hx hb d_Fut_countMarked_42 rfl (lv_at hl 0 rfl) ?_
  rw [← hQ]
  have hP9 := hP
  have hD9 := hD
  exact W.iret (v := x2_6) hx hb hr (fun t ht hW => ⟨⟨x2_6, (), rfl, h, by rw [ht]; exact hP9, va_K.moved hW.alike hK, hD9⟩, hS.F ht⟩) hS.2.2 d_Fut_countMarked_43
set_option maxHeartbeats 4000000 in
set_option maxRecDepth 100000 in
theorem c_Fut_answer (l : Launch) (dC : Nat → ClassId) (dI : Nat → Nat → Nat) (cI cB cZ : ClassId) (adK adV : Nat → Nat) (sz : Nat) (a_lp a_lp_facts a_lp_turns a_lp_first a_lp_src a_s1 a_s2 a_wk a_wk_items a_fu : Nat) (lp_choices : Int32) (lp_guesses : Int32) (lp_unaries : Int32) (lp_ranked : Int32) (lp_facts : Nat → Int32) (lp_turns : Nat → Int32) (lp_first : Nat → Int32) (lp_src : Nat → Int32) (s1 : Nat → Int32) (s2 : Nat → Int32) (wk_size : Int32) (wk_items : Nat → Int32) (x1 : Int32) (post : Int32 → (Nat → Int32) → (Nat → Int32) → Int32 → (Nat → Int32) → Prop) (h : wp_Fut_answer x1 lp_choices lp_facts lp_turns lp_first lp_src s1 s2 wk_size wk_items post) : Met l y_Fut_answer w_Fut_answer ({ frames := 4, cells := 0, slots := 0, locals := 90 }) (pc_ (dC, dI) [(cI, .int), (cB, .byte), (cZ, .boolean)] [(a_lp, .inr (4, [.ref a_lp_facts, .ref a_lp_turns, .ref a_lp_first, .ref a_lp_src, .ref a_s1, .int lp_choices, .int lp_guesses, .int lp_unaries, .int lp_ranked])), (a_lp_facts, .inl (cI, 4096, .inl lp_facts)), (a_lp_turns, .inl (cI, 24576, .inl lp_turns)), (a_lp_first, .inl (cI, 4097, .inl lp_first)), (a_lp_src, .inl (cI, 24576, .inl lp_src)), (a_s1, .inl (cI, 4096, .inl s1)), (a_s2, .inl (cI, 4096, .inl s2)), (a_wk, .inr (10, [.ref a_wk_items, .int wk_size])), (a_wk_items, .inl (cI, 4096, .inl wk_items)), (a_fu, .inr (2, [.ref a_lp, .ref a_s1, .ref a_s2, .ref a_wk]))] sz adK adV [.ref a_fu, .int x1]) (va_Qi (fun (r : Int32) (u : (Nat → Int32) × (Nat → Int32) × Int32 × (Nat → Int32)) => post r u.1 u.2.1 u.2.2.1 u.2.2.2) (fun (u : (Nat → Int32) × (Nat → Int32) × Int32 × (Nat → Int32)) t => bw_ (dC, dI) [(cI, .int), (cB, .byte), (cZ, .boolean)] (va_A [(a_lp, .inr (4, [.ref a_lp_facts, .ref a_lp_turns, .ref a_lp_first, .ref a_lp_src, .ref a_s1, .int lp_choices, .int lp_guesses, .int lp_unaries, .int lp_ranked])), (a_lp_facts, .inl (cI, 4096, .inl lp_facts)), (a_lp_turns, .inl (cI, 24576, .inl lp_turns)), (a_lp_first, .inl (cI, 4097, .inl lp_first)), (a_lp_src, .inl (cI, 24576, .inl lp_src)), (a_s1, .inl (cI, 4096, .inl s1)), (a_s2, .inl (cI, 4096, .inl s2)), (a_wk, .inr (10, [.ref a_wk_items, .int wk_size])), (a_wk_items, .inl (cI, 4096, .inl wk_items)), (a_fu, .inr (2, [.ref a_lp, .ref a_s1, .ref a_s2, .ref a_wk]))] sz) [(a_lp, .inr (4, [.ref a_lp_facts, .ref a_lp_turns, .ref a_lp_first, .ref a_lp_src, .ref a_s1, .int lp_choices, .int lp_guesses, .int lp_unaries, .int lp_ranked])), (a_lp_facts, .inl (cI, 4096, .inl lp_facts)), (a_lp_turns, .inl (cI, 24576, .inl lp_turns)), (a_lp_first, .inl (cI, 4097, .inl lp_first)), (a_lp_src, .inl (cI, 24576, .inl lp_src)), (a_s1, .inl (cI, 4096, .inl u.1)), (a_s2, .inl (cI, 4096, .inl u.2.1)), (a_wk, .inr (10, [.ref a_wk_items, .int u.2.2.1])), (a_wk_items, .inl (cI, 4096, .inl u.2.2.2)), (a_fu, .inr (2, [.ref a_lp, .ref a_s1, .ref a_s2, .ref a_wk]))] t) (va_A [(a_lp, .inr (4, [.ref a_lp_facts, .ref a_lp_turns, .ref a_lp_first, .ref a_lp_src, .ref a_s1, .int lp_choices, .int lp_guesses, .int lp_unaries, .int lp_ranked])), (a_lp_facts, .inl (cI, 4096, .inl lp_facts)), (a_lp_turns, .inl (cI, 24576, .inl lp_turns)), (a_lp_first, .inl (cI, 4097, .inl lp_first)), (a_lp_src, .inl (cI, 24576, .inl lp_src)), (a_s1, .inl (cI, 4096, .inl s1)), (a_s2, .inl (cI, 4096, .inl s2)), (a_wk, .inr (10, [.ref a_wk_items, .int wk_size])), (a_wk_items, .inl (cI, 4096, .inl wk_items)), (a_fu, .inr (2, [.ref a_lp, .ref a_s1, .ref a_s2, .ref a_wk]))] sz)) 0 0 (va_A [(a_lp, .inr (4, [.ref a_lp_facts, .ref a_lp_turns, .ref a_lp_first, .ref a_lp_src, .ref a_s1, .int lp_choices, .int lp_guesses, .int lp_unaries, .int lp_ranked])), (a_lp_facts, .inl (cI, 4096, .inl lp_facts)), (a_lp_turns, .inl (cI, 24576, .inl lp_turns)), (a_lp_first, .inl (cI, 4097, .inl lp_first)), (a_lp_src, .inl (cI, 24576, .inl lp_src)), (a_s1, .inl (cI, 4096, .inl s1)), (a_s2, .inl (cI, 4096, .inl s2)), (a_wk, .inr (10, [.ref a_wk_items, .int wk_size])), (a_wk_items, .inl (cI, 4096, .inl wk_items)), (a_fu, .inr (2, [.ref a_lp, .ref a_s1, .ref a_s2, .ref a_wk]))] sz) := by
  refine Met.ofW (cc := b_Fut_answer) (maxL := 2) (ret := (some .int)) (by decide) rfl ?_
  intro p e s m args below meth c s₁ B hml hv
  obtain ⟨rfl, hsz, hP, hK, hD0, hN, hT⟩ := hv
  have hx := B.exec
  have hb := B.bytes
  have hr := B.returns
  have hts := atoms_spec (ws := w_Fut_answer) B.pre
  have hown : s.vm.findClass "LoopInduction$Futures" = some m.cls := findClass_of_methodNamed B.named
  have hlocks := B.notSynchronized
  subst hsz
  have hD := hD0.self (sz := s.heap.size)
  generalize hAe : va_A [(a_lp, .inr (4, [.ref a_lp_facts, .ref a_lp_turns, .ref a_lp_first, .ref a_lp_src, .ref a_s1, .int lp_choices, .int lp_guesses, .int lp_unaries, .int lp_ranked])), (a_lp_facts, .inl (cI, 4096, .inl lp_facts)), (a_lp_turns, .inl (cI, 24576, .inl lp_turns)), (a_lp_first, .inl (cI, 4097, .inl lp_first)), (a_lp_src, .inl (cI, 24576, .inl lp_src)), (a_s1, .inl (cI, 4096, .inl s1)), (a_s2, .inl (cI, 4096, .inl s2)), (a_wk, .inr (10, [.ref a_wk_items, .int wk_size])), (a_wk_items, .inl (cI, 4096, .inl wk_items)), (a_fu, .inr (2, [.ref a_lp, .ref a_s1, .ref a_s2, .ref a_wk]))] s.heap.size = A at hD hT ⊢
  have hA : ∀ q : Nat, s.heap.size ≤ q → A q := fun q h => by rw [← hAe]; exact Or.inr h
  have hS : va_S A s.heap s.heap [] := va_S.rf
  generalize hQ : MQ below _ _ s 0 0 _ = QQ
  have hl := lv_entry ([.ref a_fu, .int x1]) (n := 2) (Nat.le_of_ble_eq_true rfl)
  rw [lg_entry_eq]
  generalize (lg_sl ([.ref a_fu, .int x1]) ++ List.replicate (2 - (lg_sl ([.ref a_fu, .int x1])).length) Slot.unset).toArray = ls at hl ⊢
  have hl : lv_has ls 2 [(0, .ref a_fu), (1, .int x1)] := hl
  refine lv_iload_n hx hb d_Fut_answer_0 rfl (lv_at hl 1 rfl) ?_
  rcases Classical.em ((x1 : Int32) = 0) with e_1_0 | e_1_0
  · have h := h.1 e_1_0
    refine lv_tableIn (off := 35) (tgt := 36) hx hb d_Fut_answer_1 (by rw [e_1_0]; decide) (by rw [e_1_0]; decide) (by rw [e_1_0]; rfl) (by decide) ?_
    refine lv_aload_n hx hb d_Fut_answer_36 rfl (lv_at hl 0 rfl) ?_
    refine lv_iconst (v := 0) hx hb d_Fut_answer_37 (by decide) ?_
    refine jn_i (wr := [(a_lp_turns, .inl (cI, 24576, .inl lp_turns)), (a_lp_first, .inl (cI, 4097, .inl lp_first)), (a_lp_src, .inl (cI, 24576, .inl lp_src)), (a_s2, .inl (cI, 4096, .inl s2)), (a_wk, .inr (10, [.ref a_wk_items, .int wk_size])), (a_wk_items, .inl (cI, 4096, .inl wk_items))]) (va_runV (As := [.int 0]) (rest := []) ⟨hx, hb, hml, hown, hts⟩ (c_Fut_countMarked l dC dI cI cB cZ adK adV _ a_lp a_lp_facts a_lp_turns a_lp_first a_lp_src a_s1 a_fu a_s2 a_wk lp_choices lp_guesses lp_unaries lp_ranked lp_facts s1 0 _ h) (cwV 1 hts (gv_ m_1058 m_1060 m_47 m_95 m_1061) rfl rfl rfl pd_Fut_countMarked ⟨Nat.le_of_ble_eq_true rfl, Nat.le_of_ble_eq_true rfl⟩) ⟨pc_blind, va_recv hK hP (ci := 2) (q0 := 9) rfl rfl, pc_of (hP.sub [0, 1, 5, 9] rfl) hK (hD.sub [0, 1, 5, 9] (by decide) rfl) hN hT hS hA⟩ rfl rfl hl.1 rfl (lv_room (Nat.le_of_ble_eq_true rfl)) d_Fut_answer_38 ⟨Nat.zero_le _, Nat.zero_le _⟩) hP hD hS hA [0, 1, 5, 9] [2, 3, 4, 6, 7, 8] rfl rfl (by decide) (by decide) (fun r_1 u_ H locs h hP hD hS => ?_)
    have hP : va_P (dC, dI) vwCl [(a_lp_turns, .inl (cI, 24576, .inl lp_turns)), (a_lp_first, .inl (cI, 4097, .inl lp_first)), (a_lp_src, .inl (cI, 24576, .inl lp_src)), (a_s2, .inl (cI, 4096, .inl s2)), (a_wk, .inr (10, [.ref a_wk_items, .int wk_size])), (a_wk_items, .inl (cI, 4096, .inl wk_items)), (a_lp, .inr (4, [.ref a_lp_facts, .ref a_lp_turns, .ref a_lp_first, .ref a_lp_src, .ref a_s1, .int lp_choices, .int lp_guesses, .int lp_unaries, .int lp_ranked])), (a_lp_facts, .inl (cI, 4096, .inl lp_facts)), (a_s1, .inl (cI, 4096, .inl s1)), (a_fu, .inr (2, [.ref a_lp, .ref a_s1, .ref a_s2, .ref a_wk]))] H := hP
    have hD : va_D A [(a_lp_turns, .inl (cI, 24576, .inl lp_turns)), (a_lp_first, .inl (cI, 4097, .inl lp_first)), (a_lp_src, .inl (cI, 24576, .inl lp_src)), (a_s2, .inl (cI, 4096, .inl s2)), (a_wk, .inr (10, [.ref a_wk_items, .int wk_size])), (a_wk_items, .inl (cI, 4096, .inl wk_items)), (a_lp, .inr (4, [.ref a_lp_facts, .ref a_lp_turns, .ref a_lp_first, .ref a_lp_src, .ref a_s1, .int lp_choices, .int lp_guesses, .int lp_unaries, .int lp_ranked])), (a_lp_facts, .inl (cI, 4096, .inl lp_facts)), (a_s1, .inl (cI, 4096, .inl s1)), (a_fu, .inr (2, [.ref a_lp, .ref a_s1, .ref a_s2, .ref a_wk]))] := hD
    rw [← hQ]
    have hP9 := hP.sub (ws' := [(a_lp, .inr (4, [.ref a_lp_facts, .ref a_lp_turns, .ref a_lp_first, .ref a_lp_src, .ref a_s1, .int lp_choices, .int lp_guesses, .int lp_unaries, .int lp_ranked])), (a_lp_facts, .inl (cI, 4096, .inl lp_facts)), (a_lp_turns, .inl (cI, 24576, .inl lp_turns)), (a_lp_first, .inl (cI, 4097, .inl lp_first)), (a_lp_src, .inl (cI, 24576, .inl lp_src)), (a_s1, .inl (cI, 4096, .inl s1)), (a_s2, .inl (cI, 4096, .inl s2)), (a_wk, .inr (10, [.ref a_wk_items, .int wk_size])), (a_wk_items, .inl (cI, 4096, .inl wk_items)), (a_fu, .inr (2, [.ref a_lp, .ref a_s1, .ref a_s2, .ref a_wk]))]) [6, 7, 0, 1, 2, 8, 3, 4, 5, 9] rfl
    have hD9 := hD.sub (ws' := [(a_lp, .inr (4, [.ref a_lp_facts, .ref a_lp_turns, .ref a_lp_first, .ref a_lp_src, .ref a_s1, .int lp_choices, .int lp_guesses, .int lp_unaries, .int lp_ranked])), (a_lp_facts, .inl (cI, 4096, .inl lp_facts)), (a_lp_turns, .inl (cI, 24576, .inl lp_turns)), (a_lp_first, .inl (cI, 4097, .inl lp_first)), (a_lp_src, .inl (cI, 24576, .inl lp_src)), (a_s1, .inl (cI, 4096, .inl s1)), (a_s2, .inl (cI, 4096, .inl s2)), (a_wk, .inr (10, [.ref a_wk_items, .int wk_size])), (a_wk_items, .inl (cI, 4096, .inl wk_items)), (a_fu, .inr (2, [.ref a_lp, .ref a_s1, .ref a_s2, .ref a_wk]))]) [6, 7, 0, 1, 2, 8, 3, 4, 5, 9] (by decide) rfl
    exact W.iret (v := r_1) hx hb hr (fun t ht hW => ⟨⟨r_1, (s1, s2, wk_size, wk_items), rfl, h, by rw [ht]; exact hP9, va_K.moved hW.alike hK, hD9⟩, hS.F ht⟩) hS.2.2 d_Fut_answer_41
  rcases Classical.em ((x1 : Int32) = 1) with e_1_1 | e_1_1
  · have h := h.2.1 e_1_1
    refine lv_tableIn (off := 41) (tgt := 42) hx hb d_Fut_answer_1 (by rw [e_1_1]; decide) (by rw [e_1_1]; decide) (by rw [e_1_1]; rfl) (by decide) ?_
    refine lv_aload_n hx hb d_Fut_answer_42 rfl (lv_at hl 0 rfl) ?_
    refine lv_iconst (v := 4) hx hb d_Fut_answer_43 (by decide) ?_
    refine jn_i (wr := [(a_lp_turns, .inl (cI, 24576, .inl lp_turns)), (a_lp_first, .inl (cI, 4097, .inl lp_first)), (a_lp_src, .inl (cI, 24576, .inl lp_src)), (a_s2, .inl (cI, 4096, .inl s2)), (a_wk, .inr (10, [.ref a_wk_items, .int wk_size])), (a_wk_items, .inl (cI, 4096, .inl wk_items))]) (va_runV (As := [.int 4]) (rest := []) ⟨hx, hb, hml, hown, hts⟩ (c_Fut_countMarked l dC dI cI cB cZ adK adV _ a_lp a_lp_facts a_lp_turns a_lp_first a_lp_src a_s1 a_fu a_s2 a_wk lp_choices lp_guesses lp_unaries lp_ranked lp_facts s1 4 _ h) (cwV 1 hts (gv_ m_1058 m_1060 m_47 m_95 m_1061) rfl rfl rfl pd_Fut_countMarked ⟨Nat.le_of_ble_eq_true rfl, Nat.le_of_ble_eq_true rfl⟩) ⟨pc_blind, va_recv hK hP (ci := 2) (q0 := 9) rfl rfl, pc_of (hP.sub [0, 1, 5, 9] rfl) hK (hD.sub [0, 1, 5, 9] (by decide) rfl) hN hT hS hA⟩ rfl rfl hl.1 rfl (lv_room (Nat.le_of_ble_eq_true rfl)) d_Fut_answer_44 ⟨Nat.zero_le _, Nat.zero_le _⟩) hP hD hS hA [0, 1, 5, 9] [2, 3, 4, 6, 7, 8] rfl rfl (by decide) (by decide) (fun r_2 u_ H locs h hP hD hS => ?_)
    have hP : va_P (dC, dI) vwCl [(a_lp_turns, .inl (cI, 24576, .inl lp_turns)), (a_lp_first, .inl (cI, 4097, .inl lp_first)), (a_lp_src, .inl (cI, 24576, .inl lp_src)), (a_s2, .inl (cI, 4096, .inl s2)), (a_wk, .inr (10, [.ref a_wk_items, .int wk_size])), (a_wk_items, .inl (cI, 4096, .inl wk_items)), (a_lp, .inr (4, [.ref a_lp_facts, .ref a_lp_turns, .ref a_lp_first, .ref a_lp_src, .ref a_s1, .int lp_choices, .int lp_guesses, .int lp_unaries, .int lp_ranked])), (a_lp_facts, .inl (cI, 4096, .inl lp_facts)), (a_s1, .inl (cI, 4096, .inl s1)), (a_fu, .inr (2, [.ref a_lp, .ref a_s1, .ref a_s2, .ref a_wk]))] H := hP
    have hD : va_D A [(a_lp_turns, .inl (cI, 24576, .inl lp_turns)), (a_lp_first, .inl (cI, 4097, .inl lp_first)), (a_lp_src, .inl (cI, 24576, .inl lp_src)), (a_s2, .inl (cI, 4096, .inl s2)), (a_wk, .inr (10, [.ref a_wk_items, .int wk_size])), (a_wk_items, .inl (cI, 4096, .inl wk_items)), (a_lp, .inr (4, [.ref a_lp_facts, .ref a_lp_turns, .ref a_lp_first, .ref a_lp_src, .ref a_s1, .int lp_choices, .int lp_guesses, .int lp_unaries, .int lp_ranked])), (a_lp_facts, .inl (cI, 4096, .inl lp_facts)), (a_s1, .inl (cI, 4096, .inl s1)), (a_fu, .inr (2, [.ref a_lp, .ref a_s1, .ref a_s2, .ref a_wk]))] := hD
    rw [← hQ]
    have hP9 := hP.sub (ws' := [(a_lp, .inr (4, [.ref a_lp_facts, .ref a_lp_turns, .ref a_lp_first, .ref a_lp_src, .ref a_s1, .int lp_choices, .int lp_guesses, .int lp_unaries, .int lp_ranked])), (a_lp_facts, .inl (cI, 4096, .inl lp_facts)), (a_lp_turns, .inl (cI, 24576, .inl lp_turns)), (a_lp_first, .inl (cI, 4097, .inl lp_first)), (a_lp_src, .inl (cI, 24576, .inl lp_src)), (a_s1, .inl (cI, 4096, .inl s1)), (a_s2, .inl (cI, 4096, .inl s2)), (a_wk, .inr (10, [.ref a_wk_items, .int wk_size])), (a_wk_items, .inl (cI, 4096, .inl wk_items)), (a_fu, .inr (2, [.ref a_lp, .ref a_s1, .ref a_s2, .ref a_wk]))]) [6, 7, 0, 1, 2, 8, 3, 4, 5, 9] rfl
    have hD9 := hD.sub (ws' := [(a_lp, .inr (4, [.ref a_lp_facts, .ref a_lp_turns, .ref a_lp_first, .ref a_lp_src, .ref a_s1, .int lp_choices, .int lp_guesses, .int lp_unaries, .int lp_ranked])), (a_lp_facts, .inl (cI, 4096, .inl lp_facts)), (a_lp_turns, .inl (cI, 24576, .inl lp_turns)), (a_lp_first, .inl (cI, 4097, .inl lp_first)), (a_lp_src, .inl (cI, 24576, .inl lp_src)), (a_s1, .inl (cI, 4096, .inl s1)), (a_s2, .inl (cI, 4096, .inl s2)), (a_wk, .inr (10, [.ref a_wk_items, .int wk_size])), (a_wk_items, .inl (cI, 4096, .inl wk_items)), (a_fu, .inr (2, [.ref a_lp, .ref a_s1, .ref a_s2, .ref a_wk]))]) [6, 7, 0, 1, 2, 8, 3, 4, 5, 9] (by decide) rfl
    exact W.iret (v := r_2) hx hb hr (fun t ht hW => ⟨⟨r_2, (s1, s2, wk_size, wk_items), rfl, h, by rw [ht]; exact hP9, va_K.moved hW.alike hK, hD9⟩, hS.F ht⟩) hS.2.2 d_Fut_answer_47
  rcases Classical.em ((x1 : Int32) = 2) with e_1_2 | e_1_2
  · have h := h.2.2.1 e_1_2
    refine lv_tableIn (off := 47) (tgt := 48) hx hb d_Fut_answer_1 (by rw [e_1_2]; decide) (by rw [e_1_2]; decide) (by rw [e_1_2]; rfl) (by decide) ?_
    refine lv_aload_n hx hb d_Fut_answer_48 rfl (lv_at hl 0 rfl) ?_
    refine lv_iconst (v := 0) hx hb d_Fut_answer_49 (by decide) ?_
    refine jn_i (wr := [(a_lp_facts, .inl (cI, 4096, .inl lp_facts))]) (va_runV (As := [.int 0]) (rest := []) ⟨hx, hb, hml, hown, hts⟩ (c_Fut_countLeading l dC dI cI cB cZ adK adV _ a_lp a_lp_facts a_lp_turns a_lp_first a_lp_src a_s1 a_s2 a_wk a_wk_items a_fu lp_choices lp_guesses lp_unaries lp_ranked lp_turns lp_first lp_src s1 s2 wk_size wk_items 0 _ h) (cwV 1 hts (gv_ m_1063 m_1065 m_48 m_95 m_1066) rfl rfl rfl pd_Fut_countLeading ⟨Nat.le_of_ble_eq_true rfl, Nat.le_of_ble_eq_true rfl⟩) ⟨pc_blind, va_recv hK hP (ci := 2) (q0 := 9) rfl rfl, pc_of (hP.sub [0, 2, 3, 4, 5, 6, 7, 8, 9] rfl) hK (hD.sub [0, 2, 3, 4, 5, 6, 7, 8, 9] (by decide) rfl) hN hT hS hA⟩ rfl rfl hl.1 rfl (lv_room (Nat.le_of_ble_eq_true rfl)) d_Fut_answer_50 ⟨Nat.zero_le _, Nat.zero_le _⟩) hP hD hS hA [0, 2, 3, 4, 5, 6, 7, 8, 9] [1] rfl rfl (by decide) (by decide) (fun r_3 u_ H locs h hP hD hS => ?_)
    obtain ⟨s1_4, s2_5, wk_size_6, wk_items_7⟩ := u_
    have hP : va_P (dC, dI) vwCl [(a_lp_facts, .inl (cI, 4096, .inl lp_facts)), (a_lp, .inr (4, [.ref a_lp_facts, .ref a_lp_turns, .ref a_lp_first, .ref a_lp_src, .ref a_s1, .int lp_choices, .int lp_guesses, .int lp_unaries, .int lp_ranked])), (a_lp_turns, .inl (cI, 24576, .inl lp_turns)), (a_lp_first, .inl (cI, 4097, .inl lp_first)), (a_lp_src, .inl (cI, 24576, .inl lp_src)), (a_s1, .inl (cI, 4096, .inl s1_4)), (a_s2, .inl (cI, 4096, .inl s2_5)), (a_wk, .inr (10, [.ref a_wk_items, .int wk_size_6])), (a_wk_items, .inl (cI, 4096, .inl wk_items_7)), (a_fu, .inr (2, [.ref a_lp, .ref a_s1, .ref a_s2, .ref a_wk]))] H := hP
    have hD : va_D A [(a_lp_facts, .inl (cI, 4096, .inl lp_facts)), (a_lp, .inr (4, [.ref a_lp_facts, .ref a_lp_turns, .ref a_lp_first, .ref a_lp_src, .ref a_s1, .int lp_choices, .int lp_guesses, .int lp_unaries, .int lp_ranked])), (a_lp_turns, .inl (cI, 24576, .inl lp_turns)), (a_lp_first, .inl (cI, 4097, .inl lp_first)), (a_lp_src, .inl (cI, 24576, .inl lp_src)), (a_s1, .inl (cI, 4096, .inl s1_4)), (a_s2, .inl (cI, 4096, .inl s2_5)), (a_wk, .inr (10, [.ref a_wk_items, .int wk_size_6])), (a_wk_items, .inl (cI, 4096, .inl wk_items_7)), (a_fu, .inr (2, [.ref a_lp, .ref a_s1, .ref a_s2, .ref a_wk]))] := hD
    rw [← hQ]
    have hP9 := hP.sub (ws' := [(a_lp, .inr (4, [.ref a_lp_facts, .ref a_lp_turns, .ref a_lp_first, .ref a_lp_src, .ref a_s1, .int lp_choices, .int lp_guesses, .int lp_unaries, .int lp_ranked])), (a_lp_facts, .inl (cI, 4096, .inl lp_facts)), (a_lp_turns, .inl (cI, 24576, .inl lp_turns)), (a_lp_first, .inl (cI, 4097, .inl lp_first)), (a_lp_src, .inl (cI, 24576, .inl lp_src)), (a_s1, .inl (cI, 4096, .inl s1_4)), (a_s2, .inl (cI, 4096, .inl s2_5)), (a_wk, .inr (10, [.ref a_wk_items, .int wk_size_6])), (a_wk_items, .inl (cI, 4096, .inl wk_items_7)), (a_fu, .inr (2, [.ref a_lp, .ref a_s1, .ref a_s2, .ref a_wk]))]) [1, 0, 2, 3, 4, 5, 6, 7, 8, 9] rfl
    have hD9 := hD.sub (ws' := [(a_lp, .inr (4, [.ref a_lp_facts, .ref a_lp_turns, .ref a_lp_first, .ref a_lp_src, .ref a_s1, .int lp_choices, .int lp_guesses, .int lp_unaries, .int lp_ranked])), (a_lp_facts, .inl (cI, 4096, .inl lp_facts)), (a_lp_turns, .inl (cI, 24576, .inl lp_turns)), (a_lp_first, .inl (cI, 4097, .inl lp_first)), (a_lp_src, .inl (cI, 24576, .inl lp_src)), (a_s1, .inl (cI, 4096, .inl s1_4)), (a_s2, .inl (cI, 4096, .inl s2_5)), (a_wk, .inr (10, [.ref a_wk_items, .int wk_size_6])), (a_wk_items, .inl (cI, 4096, .inl wk_items_7)), (a_fu, .inr (2, [.ref a_lp, .ref a_s1, .ref a_s2, .ref a_wk]))]) [1, 0, 2, 3, 4, 5, 6, 7, 8, 9] (by decide) rfl
    exact W.iret (v := r_3) hx hb hr (fun t ht hW => ⟨⟨r_3, (s1_4, s2_5, wk_size_6, wk_items_7), rfl, h, by rw [ht]; exact hP9, va_K.moved hW.alike hK, hD9⟩, hS.F ht⟩) hS.2.2 d_Fut_answer_53
  rcases Classical.em ((x1 : Int32) = 3) with e_1_3 | e_1_3
  · have h := h.2.2.2.1 e_1_3
    refine lv_tableIn (off := 53) (tgt := 54) hx hb d_Fut_answer_1 (by rw [e_1_3]; decide) (by rw [e_1_3]; decide) (by rw [e_1_3]; rfl) (by decide) ?_
    refine lv_aload_n hx hb d_Fut_answer_54 rfl (lv_at hl 0 rfl) ?_
    refine lv_iconst (v := 1) hx hb d_Fut_answer_55 (by decide) ?_
    refine jn_i (wr := [(a_lp_facts, .inl (cI, 4096, .inl lp_facts))]) (va_runV (As := [.int 1]) (rest := []) ⟨hx, hb, hml, hown, hts⟩ (c_Fut_countLeading l dC dI cI cB cZ adK adV _ a_lp a_lp_facts a_lp_turns a_lp_first a_lp_src a_s1 a_s2 a_wk a_wk_items a_fu lp_choices lp_guesses lp_unaries lp_ranked lp_turns lp_first lp_src s1 s2 wk_size wk_items 1 _ h) (cwV 1 hts (gv_ m_1063 m_1065 m_48 m_95 m_1066) rfl rfl rfl pd_Fut_countLeading ⟨Nat.le_of_ble_eq_true rfl, Nat.le_of_ble_eq_true rfl⟩) ⟨pc_blind, va_recv hK hP (ci := 2) (q0 := 9) rfl rfl, pc_of (hP.sub [0, 2, 3, 4, 5, 6, 7, 8, 9] rfl) hK (hD.sub [0, 2, 3, 4, 5, 6, 7, 8, 9] (by decide) rfl) hN hT hS hA⟩ rfl rfl hl.1 rfl (lv_room (Nat.le_of_ble_eq_true rfl)) d_Fut_answer_56 ⟨Nat.zero_le _, Nat.zero_le _⟩) hP hD hS hA [0, 2, 3, 4, 5, 6, 7, 8, 9] [1] rfl rfl (by decide) (by decide) (fun r_8 u_ H locs h hP hD hS => ?_)
    obtain ⟨s1_9, s2_10, wk_size_11, wk_items_12⟩ := u_
    have hP : va_P (dC, dI) vwCl [(a_lp_facts, .inl (cI, 4096, .inl lp_facts)), (a_lp, .inr (4, [.ref a_lp_facts, .ref a_lp_turns, .ref a_lp_first, .ref a_lp_src, .ref a_s1, .int lp_choices, .int lp_guesses, .int lp_unaries, .int lp_ranked])), (a_lp_turns, .inl (cI, 24576, .inl lp_turns)), (a_lp_first, .inl (cI, 4097, .inl lp_first)), (a_lp_src, .inl (cI, 24576, .inl lp_src)), (a_s1, .inl (cI, 4096, .inl s1_9)), (a_s2, .inl (cI, 4096, .inl s2_10)), (a_wk, .inr (10, [.ref a_wk_items, .int wk_size_11])), (a_wk_items, .inl (cI, 4096, .inl wk_items_12)), (a_fu, .inr (2, [.ref a_lp, .ref a_s1, .ref a_s2, .ref a_wk]))] H := hP
    have hD : va_D A [(a_lp_facts, .inl (cI, 4096, .inl lp_facts)), (a_lp, .inr (4, [.ref a_lp_facts, .ref a_lp_turns, .ref a_lp_first, .ref a_lp_src, .ref a_s1, .int lp_choices, .int lp_guesses, .int lp_unaries, .int lp_ranked])), (a_lp_turns, .inl (cI, 24576, .inl lp_turns)), (a_lp_first, .inl (cI, 4097, .inl lp_first)), (a_lp_src, .inl (cI, 24576, .inl lp_src)), (a_s1, .inl (cI, 4096, .inl s1_9)), (a_s2, .inl (cI, 4096, .inl s2_10)), (a_wk, .inr (10, [.ref a_wk_items, .int wk_size_11])), (a_wk_items, .inl (cI, 4096, .inl wk_items_12)), (a_fu, .inr (2, [.ref a_lp, .ref a_s1, .ref a_s2, .ref a_wk]))] := hD
    rw [← hQ]
    have hP9 := hP.sub (ws' := [(a_lp, .inr (4, [.ref a_lp_facts, .ref a_lp_turns, .ref a_lp_first, .ref a_lp_src, .ref a_s1, .int lp_choices, .int lp_guesses, .int lp_unaries, .int lp_ranked])), (a_lp_facts, .inl (cI, 4096, .inl lp_facts)), (a_lp_turns, .inl (cI, 24576, .inl lp_turns)), (a_lp_first, .inl (cI, 4097, .inl lp_first)), (a_lp_src, .inl (cI, 24576, .inl lp_src)), (a_s1, .inl (cI, 4096, .inl s1_9)), (a_s2, .inl (cI, 4096, .inl s2_10)), (a_wk, .inr (10, [.ref a_wk_items, .int wk_size_11])), (a_wk_items, .inl (cI, 4096, .inl wk_items_12)), (a_fu, .inr (2, [.ref a_lp, .ref a_s1, .ref a_s2, .ref a_wk]))]) [1, 0, 2, 3, 4, 5, 6, 7, 8, 9] rfl
    have hD9 := hD.sub (ws' := [(a_lp, .inr (4, [.ref a_lp_facts, .ref a_lp_turns, .ref a_lp_first, .ref a_lp_src, .ref a_s1, .int lp_choices, .int lp_guesses, .int lp_unaries, .int lp_ranked])), (a_lp_facts, .inl (cI, 4096, .inl lp_facts)), (a_lp_turns, .inl (cI, 24576, .inl lp_turns)), (a_lp_first, .inl (cI, 4097, .inl lp_first)), (a_lp_src, .inl (cI, 24576, .inl lp_src)), (a_s1, .inl (cI, 4096, .inl s1_9)), (a_s2, .inl (cI, 4096, .inl s2_10)), (a_wk, .inr (10, [.ref a_wk_items, .int wk_size_11])), (a_wk_items, .inl (cI, 4096, .inl wk_items_12)), (a_fu, .inr (2, [.ref a_lp, .ref a_s1, .ref a_s2, .ref a_wk]))]) [1, 0, 2, 3, 4, 5, 6, 7, 8, 9] (by decide) rfl
    exact W.iret (v := r_8) hx hb hr (fun t ht hW => ⟨⟨r_8, (s1_9, s2_10, wk_size_11, wk_items_12), rfl, h, by rw [ht]; exact hP9, va_K.moved hW.alike hK, hD9⟩, hS.F ht⟩) hS.2.2 d_Fut_answer_59
  rcases Classical.em ((x1 : Int32) = 4) with e_1_4 | e_1_4
  · have h := h.2.2.2.2.1 e_1_4
    refine lv_tableIn (off := 59) (tgt := 60) hx hb d_Fut_answer_1 (by rw [e_1_4]; decide) (by rw [e_1_4]; decide) (by rw [e_1_4]; rfl) (by decide) ?_
    refine lv_aload_n hx hb d_Fut_answer_60 rfl (lv_at hl 0 rfl) ?_
    refine jn_v (wr := [(a_lp, .inr (4, [.ref a_lp_facts, .ref a_lp_turns, .ref a_lp_first, .ref a_lp_src, .ref a_s1, .int lp_choices, .int lp_guesses, .int lp_unaries, .int lp_ranked])), (a_lp_facts, .inl (cI, 4096, .inl lp_facts)), (a_lp_turns, .inl (cI, 24576, .inl lp_turns)), (a_lp_first, .inl (cI, 4097, .inl lp_first)), (a_lp_src, .inl (cI, 24576, .inl lp_src)), (a_s2, .inl (cI, 4096, .inl s2)), (a_wk, .inr (10, [.ref a_wk_items, .int wk_size])), (a_wk_items, .inl (cI, 4096, .inl wk_items))]) (va_runV (As := []) (rest := []) ⟨hx, hb, hml, hown, hts⟩ (c_Fut_turnMarks l dC dI cI cB cZ adK adV _ a_s1 a_fu a_lp a_s2 a_wk s1 _ h) (cwV 0 hts (gv_ m_1080 m_1082 m_50 m_95 m_1083) rfl rfl rfl pd_Fut_turnMarks ⟨Nat.le_of_ble_eq_true rfl, Nat.le_of_ble_eq_true rfl⟩) ⟨pc_blind, va_recv hK hP (ci := 2) (q0 := 9) rfl rfl, pc_of (hP.sub [5, 9] rfl) hK (hD.sub [5, 9] (by decide) rfl) hN hT hS hA⟩ rfl rfl hl.1 rfl (lv_room (Nat.le_of_ble_eq_true rfl)) d_Fut_answer_61 ⟨Nat.zero_le _, Nat.zero_le _⟩) hP hD hS hA [5, 9] [0, 1, 2, 3, 4, 6, 7, 8] rfl rfl (by decide) (by decide) (fun s1_13 H locs h hP hD hS => ?_)
    have hP : va_P (dC, dI) vwCl [(a_lp, .inr (4, [.ref a_lp_facts, .ref a_lp_turns, .ref a_lp_first, .ref a_lp_src, .ref a_s1, .int lp_choices, .int lp_guesses, .int lp_unaries, .int lp_ranked])), (a_lp_facts, .inl (cI, 4096, .inl lp_facts)), (a_lp_turns, .inl (cI, 24576, .inl lp_turns)), (a_lp_first, .inl (cI, 4097, .inl lp_first)), (a_lp_src, .inl (cI, 24576, .inl lp_src)), (a_s2, .inl (cI, 4096, .inl s2)), (a_wk, .inr (10, [.ref a_wk_items, .int wk_size])), (a_wk_items, .inl (cI, 4096, .inl wk_items)), (a_s1, .inl (cI, 4096, .inl s1_13)), (a_fu, .inr (2, [.ref a_lp, .ref a_s1, .ref a_s2, .ref a_wk]))] H := hP
    have hD : va_D A [(a_lp, .inr (4, [.ref a_lp_facts, .ref a_lp_turns, .ref a_lp_first, .ref a_lp_src, .ref a_s1, .int lp_choices, .int lp_guesses, .int lp_unaries, .int lp_ranked])), (a_lp_facts, .inl (cI, 4096, .inl lp_facts)), (a_lp_turns, .inl (cI, 24576, .inl lp_turns)), (a_lp_first, .inl (cI, 4097, .inl lp_first)), (a_lp_src, .inl (cI, 24576, .inl lp_src)), (a_s2, .inl (cI, 4096, .inl s2)), (a_wk, .inr (10, [.ref a_wk_items, .int wk_size])), (a_wk_items, .inl (cI, 4096, .inl wk_items)), (a_s1, .inl (cI, 4096, .inl s1_13)), (a_fu, .inr (2, [.ref a_lp, .ref a_s1, .ref a_s2, .ref a_wk]))] := hD
    refine lv_sipush (v := 4096) hx hb d_Fut_answer_64 (by decide) ?_
    refine lv_aload_n hx hb d_Fut_answer_67 rfl (lv_at hl 0 rfl) ?_
    refine lv_iconst (v := 0) hx hb d_Fut_answer_68 (by decide) ?_
    refine jn_i (wr := [(a_lp_facts, .inl (cI, 4096, .inl lp_facts))]) (va_runV (As := [.int 0]) (rest := [.int 4096]) ⟨hx, hb, hml, hown, hts⟩ (c_Fut_countLeading l dC dI cI cB cZ adK adV _ a_lp a_lp_facts a_lp_turns a_lp_first a_lp_src a_s1 a_s2 a_wk a_wk_items a_fu lp_choices lp_guesses lp_unaries lp_ranked lp_turns lp_first lp_src s1_13 s2 wk_size wk_items 0 _ h) (cwV 1 hts (gv_ m_1063 m_1065 m_48 m_95 m_1066) rfl rfl rfl pd_Fut_countLeading ⟨Nat.le_of_ble_eq_true rfl, Nat.le_of_ble_eq_true rfl⟩) ⟨pc_blind, va_recv hK hP (ci := 2) (q0 := 9) rfl rfl, pc_of (hP.sub [0, 2, 3, 4, 8, 5, 6, 7, 9] rfl) hK (hD.sub [0, 2, 3, 4, 8, 5, 6, 7, 9] (by decide) rfl) hN hT hS hA⟩ rfl rfl hl.1 rfl (lv_room (Nat.le_of_ble_eq_true rfl)) d_Fut_answer_69 ⟨Nat.zero_le _, Nat.zero_le _⟩) hP hD hS hA [0, 2, 3, 4, 8, 5, 6, 7, 9] [1] rfl rfl (by decide) (by decide) (fun r_14 u_ H locs h hP hD hS => ?_)
    obtain ⟨s1_15, s2_16, wk_size_17, wk_items_18⟩ := u_
    have hP : va_P (dC, dI) vwCl [(a_lp_facts, .inl (cI, 4096, .inl lp_facts)), (a_lp, .inr (4, [.ref a_lp_facts, .ref a_lp_turns, .ref a_lp_first, .ref a_lp_src, .ref a_s1, .int lp_choices, .int lp_guesses, .int lp_unaries, .int lp_ranked])), (a_lp_turns, .inl (cI, 24576, .inl lp_turns)), (a_lp_first, .inl (cI, 4097, .inl lp_first)), (a_lp_src, .inl (cI, 24576, .inl lp_src)), (a_s1, .inl (cI, 4096, .inl s1_15)), (a_s2, .inl (cI, 4096, .inl s2_16)), (a_wk, .inr (10, [.ref a_wk_items, .int wk_size_17])), (a_wk_items, .inl (cI, 4096, .inl wk_items_18)), (a_fu, .inr (2, [.ref a_lp, .ref a_s1, .ref a_s2, .ref a_wk]))] H := hP
    have hD : va_D A [(a_lp_facts, .inl (cI, 4096, .inl lp_facts)), (a_lp, .inr (4, [.ref a_lp_facts, .ref a_lp_turns, .ref a_lp_first, .ref a_lp_src, .ref a_s1, .int lp_choices, .int lp_guesses, .int lp_unaries, .int lp_ranked])), (a_lp_turns, .inl (cI, 24576, .inl lp_turns)), (a_lp_first, .inl (cI, 4097, .inl lp_first)), (a_lp_src, .inl (cI, 24576, .inl lp_src)), (a_s1, .inl (cI, 4096, .inl s1_15)), (a_s2, .inl (cI, 4096, .inl s2_16)), (a_wk, .inr (10, [.ref a_wk_items, .int wk_size_17])), (a_wk_items, .inl (cI, 4096, .inl wk_items_18)), (a_fu, .inr (2, [.ref a_lp, .ref a_s1, .ref a_s2, .ref a_wk]))] := hD
    refine lv_isub hx hb d_Fut_answer_72 ?_
    rw [← hQ]
    have hP9 := hP.sub (ws' := [(a_lp, .inr (4, [.ref a_lp_facts, .ref a_lp_turns, .ref a_lp_first, .ref a_lp_src, .ref a_s1, .int lp_choices, .int lp_guesses, .int lp_unaries, .int lp_ranked])), (a_lp_facts, .inl (cI, 4096, .inl lp_facts)), (a_lp_turns, .inl (cI, 24576, .inl lp_turns)), (a_lp_first, .inl (cI, 4097, .inl lp_first)), (a_lp_src, .inl (cI, 24576, .inl lp_src)), (a_s1, .inl (cI, 4096, .inl s1_15)), (a_s2, .inl (cI, 4096, .inl s2_16)), (a_wk, .inr (10, [.ref a_wk_items, .int wk_size_17])), (a_wk_items, .inl (cI, 4096, .inl wk_items_18)), (a_fu, .inr (2, [.ref a_lp, .ref a_s1, .ref a_s2, .ref a_wk]))]) [1, 0, 2, 3, 4, 5, 6, 7, 8, 9] rfl
    have hD9 := hD.sub (ws' := [(a_lp, .inr (4, [.ref a_lp_facts, .ref a_lp_turns, .ref a_lp_first, .ref a_lp_src, .ref a_s1, .int lp_choices, .int lp_guesses, .int lp_unaries, .int lp_ranked])), (a_lp_facts, .inl (cI, 4096, .inl lp_facts)), (a_lp_turns, .inl (cI, 24576, .inl lp_turns)), (a_lp_first, .inl (cI, 4097, .inl lp_first)), (a_lp_src, .inl (cI, 24576, .inl lp_src)), (a_s1, .inl (cI, 4096, .inl s1_15)), (a_s2, .inl (cI, 4096, .inl s2_16)), (a_wk, .inr (10, [.ref a_wk_items, .int wk_size_17])), (a_wk_items, .inl (cI, 4096, .inl wk_items_18)), (a_fu, .inr (2, [.ref a_lp, .ref a_s1, .ref a_s2, .ref a_wk]))]) [1, 0, 2, 3, 4, 5, 6, 7, 8, 9] (by decide) rfl
    exact W.iret (v := 4096 - r_14) hx hb hr (fun t ht hW => ⟨⟨(4096 - r_14), (s1_15, s2_16, wk_size_17, wk_items_18), rfl, h, by rw [ht]; exact hP9, va_K.moved hW.alike hK, hD9⟩, hS.F ht⟩) hS.2.2 d_Fut_answer_73
  have h := h.2.2.2.2.2 e_1_0 e_1_1 e_1_2 e_1_3 e_1_4
  refine lv_tableOut (tgt := 74) hx hb d_Fut_answer_1 (by have := lv_neT e_1_0 (a := 0) (by decide); have := lv_neT e_1_1 (a := 1) (by decide); have := lv_neT e_1_2 (a := 2) (by decide); have := lv_neT e_1_3 (a := 3) (by decide); have := lv_neT e_1_4 (a := 4) (by decide); omega) (by decide) ?_
  refine lv_iconst (v := (-1)) hx hb d_Fut_answer_74 (by decide) ?_
  rw [← hQ]
  have hP9 := hP
  have hD9 := hD
  exact W.iret (v := (-1)) hx hb hr (fun t ht hW => ⟨⟨(-1), (s1, s2, wk_size, wk_items), rfl, h, by rw [ht]; exact hP9, va_K.moved hW.alike hK, hD9⟩, hS.F ht⟩) hS.2.2 d_Fut_answer_75
