abbrev b_Md_ask : ByteArray := prog_13_method_59_code
abbrev y_Md_ask : MethodName := ⟨"LoopInductionModel", "ask", "(I)I"⟩
abbrev w_Md_ask : List Cond := .code y_Md_ask b_Md_ask 5 (some .int) :: allW
theorem pn_Md_ask : y_Md_ask.cls ≠ "java/lang/invoke/MethodHandle" ∧ y_Md_ask.cls ≠ "java/lang/invoke/VarHandle" ∧ (parseMethodDescriptor y_Md_ask.desc).map (fun d => d.parameters.length) = some 1 := by decide +kernel
theorem pd_Md_ask : y_Md_ask.cls = "LoopInductionModel" ∧ y_Md_ask.cls ≠ "java/lang/invoke/MethodHandle" ∧ y_Md_ask.cls ≠ "java/lang/invoke/VarHandle" ∧ (parseMethodDescriptor y_Md_ask.desc).map (fun d => d.parameters.length) = some 1 := by decide +kernel
theorem d_Md_ask_0 : decode b_Md_ask 0 = .ok (.aload_n 0, 1) := by decide +kernel
theorem d_Md_ask_1 : decode b_Md_ask 1 = .ok (.getfield 30, 3) := by decide +kernel
theorem d_Md_ask_4 : decode b_Md_ask 4 = .ok (.ifCond .lt 12, 3) := by decide +kernel
theorem d_Md_ask_7 : decode b_Md_ask 7 = .ok (.iload_n 1, 1) := by decide +kernel
theorem d_Md_ask_8 : decode b_Md_ask 8 = .ok (.ifCond .lt 8, 3) := by decide +kernel
theorem d_Md_ask_11 : decode b_Md_ask 11 = .ok (.iload_n 1, 1) := by decide +kernel
theorem d_Md_ask_12 : decode b_Md_ask 12 = .ok (.iconst 4, 1) := by decide +kernel
theorem d_Md_ask_13 : decode b_Md_ask 13 = .ok (.if_icmp .le 5, 3) := by decide +kernel
theorem d_Md_ask_16 : decode b_Md_ask 16 = .ok (.iconst (-1), 1) := by decide +kernel
theorem d_Md_ask_17 : decode b_Md_ask 17 = .ok (.ireturn, 1) := by decide +kernel
theorem d_Md_ask_18 : decode b_Md_ask 18 = .ok (.aload_n 0, 1) := by decide +kernel
theorem d_Md_ask_19 : decode b_Md_ask 19 = .ok (.iconst 2, 1) := by decide +kernel
theorem d_Md_ask_20 : decode b_Md_ask 20 = .ok (.putfield 173, 3) := by decide +kernel
theorem d_Md_ask_23 : decode b_Md_ask 23 = .ok (.aload_n 0, 1) := by decide +kernel
theorem d_Md_ask_24 : decode b_Md_ask 24 = .ok (.getfield 24, 3) := by decide +kernel
theorem d_Md_ask_27 : decode b_Md_ask 27 = .ok (.iconst 2, 1) := by decide +kernel
theorem d_Md_ask_28 : decode b_Md_ask 28 = .ok (.iconst 0, 1) := by decide +kernel
theorem d_Md_ask_29 : decode b_Md_ask 29 = .ok (.iastore, 1) := by decide +kernel
theorem d_Md_ask_30 : decode b_Md_ask 30 = .ok (.aload_n 0, 1) := by decide +kernel
theorem d_Md_ask_31 : decode b_Md_ask 31 = .ok (.iconst 0, 1) := by decide +kernel
theorem d_Md_ask_32 : decode b_Md_ask 32 = .ok (.putfield 186, 3) := by decide +kernel
theorem d_Md_ask_35 : decode b_Md_ask 35 = .ok (.aload_n 0, 1) := by decide +kernel
theorem d_Md_ask_36 : decode b_Md_ask 36 = .ok (.iconst 0, 1) := by decide +kernel
theorem d_Md_ask_37 : decode b_Md_ask 37 = .ok (.putfield 121, 3) := by decide +kernel
theorem d_Md_ask_40 : decode b_Md_ask 40 = .ok (.aload_n 0, 1) := by decide +kernel
theorem d_Md_ask_41 : decode b_Md_ask 41 = .ok (.iconst 0, 1) := by decide +kernel
theorem d_Md_ask_42 : decode b_Md_ask 42 = .ok (.putfield 154, 3) := by decide +kernel
theorem d_Md_ask_45 : decode b_Md_ask 45 = .ok (.aload_n 0, 1) := by decide +kernel
theorem d_Md_ask_46 : decode b_Md_ask 46 = .ok (.invokevirtual 167, 3) := by decide +kernel
theorem d_Md_ask_49 : decode b_Md_ask 49 = .ok (.aload_n 0, 1) := by decide +kernel
theorem d_Md_ask_50 : decode b_Md_ask 50 = .ok (.invokevirtual 225, 3) := by decide +kernel
theorem d_Md_ask_53 : decode b_Md_ask 53 = .ok (.istore_n 2, 1) := by decide +kernel
theorem d_Md_ask_54 : decode b_Md_ask 54 = .ok (.aload_n 0, 1) := by decide +kernel
theorem d_Md_ask_55 : decode b_Md_ask 55 = .ok (.getfield 131, 3) := by decide +kernel
theorem d_Md_ask_58 : decode b_Md_ask 58 = .ok (.ifCond .eq 7, 3) := by decide +kernel
theorem d_Md_ask_61 : decode b_Md_ask 61 = .ok (.aload_n 0, 1) := by decide +kernel
theorem d_Md_ask_62 : decode b_Md_ask 62 = .ok (.invokevirtual 164, 3) := by decide +kernel
theorem d_Md_ask_65 : decode b_Md_ask 65 = .ok (.aload_n 0, 1) := by decide +kernel
theorem d_Md_ask_66 : decode b_Md_ask 66 = .ok (.iconst 0, 1) := by decide +kernel
theorem d_Md_ask_67 : decode b_Md_ask 67 = .ok (.putfield 94, 3) := by decide +kernel
theorem d_Md_ask_70 : decode b_Md_ask 70 = .ok (.aload_n 0, 1) := by decide +kernel
theorem d_Md_ask_71 : decode b_Md_ask 71 = .ok (.getfield 154, 3) := by decide +kernel
theorem d_Md_ask_74 : decode b_Md_ask 74 = .ok (.ifCond .eq 6, 3) := by decide +kernel
theorem d_Md_ask_77 : decode b_Md_ask 77 = .ok (.bipush (-2), 2) := by decide +kernel
theorem d_Md_ask_79 : decode b_Md_ask 79 = .ok (.ireturn, 1) := by decide +kernel
theorem d_Md_ask_80 : decode b_Md_ask 80 = .ok (.iconst 0, 1) := by decide +kernel
theorem d_Md_ask_81 : decode b_Md_ask 81 = .ok (.istore_n 3, 1) := by decide +kernel
theorem d_Md_ask_82 : decode b_Md_ask 82 = .ok (.iload_n 3, 1) := by decide +kernel
theorem d_Md_ask_83 : decode b_Md_ask 83 = .ok (.sipush 4096, 3) := by decide +kernel
theorem d_Md_ask_86 : decode b_Md_ask 86 = .ok (.if_icmp .ge 79, 3) := by decide +kernel
theorem d_Md_ask_89 : decode b_Md_ask 89 = .ok (.aload_n 0, 1) := by decide +kernel
theorem d_Md_ask_90 : decode b_Md_ask 90 = .ok (.iload_n 2, 1) := by decide +kernel
theorem d_Md_ask_91 : decode b_Md_ask 91 = .ok (.iload_n 3, 1) := by decide +kernel
theorem d_Md_ask_92 : decode b_Md_ask 92 = .ok (.invokevirtual 252, 3) := by decide +kernel
theorem d_Md_ask_95 : decode b_Md_ask 95 = .ok (.iconst 1, 1) := by decide +kernel
theorem d_Md_ask_96 : decode b_Md_ask 96 = .ok (.if_icmp .ne 7, 3) := by decide +kernel
theorem d_Md_ask_99 : decode b_Md_ask 99 = .ok (.iconst 1, 1) := by decide +kernel
theorem d_Md_ask_100 : decode b_Md_ask 100 = .ok (.goto 4, 3) := by decide +kernel
theorem d_Md_ask_103 : decode b_Md_ask 103 = .ok (.iconst 0, 1) := by decide +kernel
theorem d_Md_ask_104 : decode b_Md_ask 104 = .ok (.istore 4, 2) := by decide +kernel
theorem d_Md_ask_106 : decode b_Md_ask 106 = .ok (.aload_n 0, 1) := by decide +kernel
theorem d_Md_ask_107 : decode b_Md_ask 107 = .ok (.getfield 85, 3) := by decide +kernel
theorem d_Md_ask_110 : decode b_Md_ask 110 = .ok (.iload_n 3, 1) := by decide +kernel
theorem d_Md_ask_111 : decode b_Md_ask 111 = .ok (.iload_n 1, 1) := by decide +kernel
theorem d_Md_ask_112 : decode b_Md_ask 112 = .ok (.iconst 1, 1) := by decide +kernel
theorem d_Md_ask_113 : decode b_Md_ask 113 = .ok (.if_icmp .ne 25, 3) := by decide +kernel
theorem d_Md_ask_116 : decode b_Md_ask 116 = .ok (.iload 4, 2) := by decide +kernel
theorem d_Md_ask_118 : decode b_Md_ask 118 = .ok (.ifCond .eq 16, 3) := by decide +kernel
theorem d_Md_ask_121 : decode b_Md_ask 121 = .ok (.aload_n 0, 1) := by decide +kernel
theorem d_Md_ask_122 : decode b_Md_ask 122 = .ok (.getfield 73, 3) := by decide +kernel
