abbrev b_Md_readLoop : ByteArray := prog_13_method_26_code
abbrev y_Md_readLoop : MethodName := ⟨"LoopInductionModel", "readLoop", "(I)V"⟩
abbrev w_Md_readLoop : List Cond := .code y_Md_readLoop b_Md_readLoop 2 none :: allW
theorem pn_Md_readLoop : y_Md_readLoop.cls ≠ "java/lang/invoke/MethodHandle" ∧ y_Md_readLoop.cls ≠ "java/lang/invoke/VarHandle" ∧ (parseMethodDescriptor y_Md_readLoop.desc).map (fun d => d.parameters.length) = some 1 := by decide +kernel
theorem pd_Md_readLoop : y_Md_readLoop.cls = "LoopInductionModel" ∧ y_Md_readLoop.cls ≠ "java/lang/invoke/MethodHandle" ∧ y_Md_readLoop.cls ≠ "java/lang/invoke/VarHandle" ∧ (parseMethodDescriptor y_Md_readLoop.desc).map (fun d => d.parameters.length) = some 1 := by decide +kernel
theorem d_Md_readLoop_0 : decode b_Md_readLoop 0 = .ok (.aload_n 0, 1) := by decide +kernel
theorem d_Md_readLoop_1 : decode b_Md_readLoop 1 = .ok (.getfield 42, 3) := by decide +kernel
theorem d_Md_readLoop_4 : decode b_Md_readLoop 4 = .ok (.iload_n 1, 1) := by decide +kernel
theorem d_Md_readLoop_5 : decode b_Md_readLoop 5 = .ok (.iconst 0, 1) := by decide +kernel
theorem d_Md_readLoop_6 : decode b_Md_readLoop 6 = .ok (.iastore, 1) := by decide +kernel
theorem d_Md_readLoop_7 : decode b_Md_readLoop 7 = .ok (.aload_n 0, 1) := by decide +kernel
theorem d_Md_readLoop_8 : decode b_Md_readLoop 8 = .ok (.getfield 51, 3) := by decide +kernel
theorem d_Md_readLoop_11 : decode b_Md_readLoop 11 = .ok (.iload_n 1, 1) := by decide +kernel
theorem d_Md_readLoop_12 : decode b_Md_readLoop 12 = .ok (.iconst 0, 1) := by decide +kernel
theorem d_Md_readLoop_13 : decode b_Md_readLoop 13 = .ok (.iastore, 1) := by decide +kernel
theorem d_Md_readLoop_14 : decode b_Md_readLoop 14 = .ok (.aload_n 0, 1) := by decide +kernel
theorem d_Md_readLoop_15 : decode b_Md_readLoop 15 = .ok (.getfield 39, 3) := by decide +kernel
theorem d_Md_readLoop_18 : decode b_Md_readLoop 18 = .ok (.iload_n 1, 1) := by decide +kernel
theorem d_Md_readLoop_19 : decode b_Md_readLoop 19 = .ok (.iconst (-1), 1) := by decide +kernel
theorem d_Md_readLoop_20 : decode b_Md_readLoop 20 = .ok (.iastore, 1) := by decide +kernel
theorem d_Md_readLoop_21 : decode b_Md_readLoop 21 = .ok (.aload_n 0, 1) := by decide +kernel
theorem d_Md_readLoop_22 : decode b_Md_readLoop 22 = .ok (.invokevirtual 167, 3) := by decide +kernel
theorem d_Md_readLoop_25 : decode b_Md_readLoop 25 = .ok (.aload_n 0, 1) := by decide +kernel
theorem d_Md_readLoop_26 : decode b_Md_readLoop 26 = .ok (.iconst 0, 1) := by decide +kernel
theorem d_Md_readLoop_27 : decode b_Md_readLoop 27 = .ok (.invokevirtual 222, 3) := by decide +kernel
theorem d_Md_readLoop_30 : decode b_Md_readLoop 30 = .ok (.aload_n 0, 1) := by decide +kernel
theorem d_Md_readLoop_31 : decode b_Md_readLoop 31 = .ok (.getfield 154, 3) := by decide +kernel
theorem d_Md_readLoop_34 : decode b_Md_readLoop 34 = .ok (.ifCond .ne 13, 3) := by decide +kernel
theorem d_Md_readLoop_37 : decode b_Md_readLoop 37 = .ok (.aload_n 0, 1) := by decide +kernel
theorem d_Md_readLoop_38 : decode b_Md_readLoop 38 = .ok (.getfield 33, 3) := by decide +kernel
theorem d_Md_readLoop_41 : decode b_Md_readLoop 41 = .ok (.iload_n 1, 1) := by decide +kernel
theorem d_Md_readLoop_42 : decode b_Md_readLoop 42 = .ok (.aload_n 0, 1) := by decide +kernel
theorem d_Md_readLoop_43 : decode b_Md_readLoop 43 = .ok (.invokevirtual 225, 3) := by decide +kernel
theorem d_Md_readLoop_46 : decode b_Md_readLoop 46 = .ok (.iastore, 1) := by decide +kernel
theorem d_Md_readLoop_47 : decode b_Md_readLoop 47 = .ok (.aload_n 0, 1) := by decide +kernel
theorem d_Md_readLoop_48 : decode b_Md_readLoop 48 = .ok (.bipush 59, 2) := by decide +kernel
theorem d_Md_readLoop_50 : decode b_Md_readLoop 50 = .ok (.invokevirtual 229, 3) := by decide +kernel
theorem d_Md_readLoop_53 : decode b_Md_readLoop 53 = .ok (.aload_n 0, 1) := by decide +kernel
theorem d_Md_readLoop_54 : decode b_Md_readLoop 54 = .ok (.getfield 154, 3) := by decide +kernel
theorem d_Md_readLoop_57 : decode b_Md_readLoop 57 = .ok (.ifCond .ne 15, 3) := by decide +kernel
theorem d_Md_readLoop_60 : decode b_Md_readLoop 60 = .ok (.aload_n 0, 1) := by decide +kernel
theorem d_Md_readLoop_61 : decode b_Md_readLoop 61 = .ok (.iconst 1, 1) := by decide +kernel
theorem d_Md_readLoop_62 : decode b_Md_readLoop 62 = .ok (.invokevirtual 170, 3) := by decide +kernel
theorem d_Md_readLoop_65 : decode b_Md_readLoop 65 = .ok (.ifCond .ne 7, 3) := by decide +kernel
theorem d_Md_readLoop_68 : decode b_Md_readLoop 68 = .ok (.aload_n 0, 1) := by decide +kernel
theorem d_Md_readLoop_69 : decode b_Md_readLoop 69 = .ok (.invokevirtual 164, 3) := by decide +kernel
theorem d_Md_readLoop_72 : decode b_Md_readLoop 72 = .ok (.aload_n 0, 1) := by decide +kernel
theorem d_Md_readLoop_73 : decode b_Md_readLoop 73 = .ok (.getfield 154, 3) := by decide +kernel
theorem d_Md_readLoop_76 : decode b_Md_readLoop 76 = .ok (.ifCond .ne 19, 3) := by decide +kernel
theorem d_Md_readLoop_79 : decode b_Md_readLoop 79 = .ok (.aload_n 0, 1) := by decide +kernel
theorem d_Md_readLoop_80 : decode b_Md_readLoop 80 = .ok (.iconst 1, 1) := by decide +kernel
theorem d_Md_readLoop_81 : decode b_Md_readLoop 81 = .ok (.invokevirtual 170, 3) := by decide +kernel
theorem d_Md_readLoop_84 : decode b_Md_readLoop 84 = .ok (.ifCond .eq 11, 3) := by decide +kernel
theorem d_Md_readLoop_87 : decode b_Md_readLoop 87 = .ok (.aload_n 0, 1) := by decide +kernel
theorem d_Md_readLoop_88 : decode b_Md_readLoop 88 = .ok (.iload_n 1, 1) := by decide +kernel
theorem d_Md_readLoop_89 : decode b_Md_readLoop 89 = .ok (.invokevirtual 232, 3) := by decide +kernel
theorem d_Md_readLoop_92 : decode b_Md_readLoop 92 = .ok (.goto (-20), 3) := by decide +kernel
theorem d_Md_readLoop_95 : decode b_Md_readLoop 95 = .ok (.aload_n 0, 1) := by decide +kernel
theorem d_Md_readLoop_96 : decode b_Md_readLoop 96 = .ok (.iconst 3, 1) := by decide +kernel
theorem d_Md_readLoop_97 : decode b_Md_readLoop 97 = .ok (.invokevirtual 222, 3) := by decide +kernel
theorem d_Md_readLoop_100 : decode b_Md_readLoop 100 = .ok (.aload_n 0, 1) := by decide +kernel
theorem d_Md_readLoop_101 : decode b_Md_readLoop 101 = .ok (.getfield 154, 3) := by decide +kernel
theorem d_Md_readLoop_104 : decode b_Md_readLoop 104 = .ok (.ifCond .ne 13, 3) := by decide +kernel
theorem d_Md_readLoop_107 : decode b_Md_readLoop 107 = .ok (.aload_n 0, 1) := by decide +kernel
theorem d_Md_readLoop_108 : decode b_Md_readLoop 108 = .ok (.getfield 36, 3) := by decide +kernel
theorem d_Md_readLoop_111 : decode b_Md_readLoop 111 = .ok (.iload_n 1, 1) := by decide +kernel
theorem d_Md_readLoop_112 : decode b_Md_readLoop 112 = .ok (.aload_n 0, 1) := by decide +kernel
theorem d_Md_readLoop_113 : decode b_Md_readLoop 113 = .ok (.invokevirtual 225, 3) := by decide +kernel
theorem d_Md_readLoop_116 : decode b_Md_readLoop 116 = .ok (.iastore, 1) := by decide +kernel
theorem d_Md_readLoop_117 : decode b_Md_readLoop 117 = .ok (.aload_n 0, 1) := by decide +kernel
theorem d_Md_readLoop_118 : decode b_Md_readLoop 118 = .ok (.bipush 59, 2) := by decide +kernel
theorem d_Md_readLoop_120 : decode b_Md_readLoop 120 = .ok (.invokevirtual 229, 3) := by decide +kernel
theorem d_Md_readLoop_123 : decode b_Md_readLoop 123 = .ok (.aload_n 0, 1) := by decide +kernel
theorem d_Md_readLoop_124 : decode b_Md_readLoop 124 = .ok (.getfield 154, 3) := by decide +kernel
theorem d_Md_readLoop_127 : decode b_Md_readLoop 127 = .ok (.ifCond .ne 72, 3) := by decide +kernel
