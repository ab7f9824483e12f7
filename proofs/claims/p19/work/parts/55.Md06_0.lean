abbrev b_Md_readCond : ByteArray := prog_13_method_21_code
abbrev y_Md_readCond : MethodName := ⟨"LoopInductionModel", "readCond", "()I"⟩
abbrev w_Md_readCond : List Cond := .code y_Md_readCond b_Md_readCond 5 (some .int) :: allW
theorem pn_Md_readCond : y_Md_readCond.cls ≠ "java/lang/invoke/MethodHandle" ∧ y_Md_readCond.cls ≠ "java/lang/invoke/VarHandle" ∧ (parseMethodDescriptor y_Md_readCond.desc).map (fun d => d.parameters.length) = some 0 := by decide +kernel
theorem pd_Md_readCond : y_Md_readCond.cls = "LoopInductionModel" ∧ y_Md_readCond.cls ≠ "java/lang/invoke/MethodHandle" ∧ y_Md_readCond.cls ≠ "java/lang/invoke/VarHandle" ∧ (parseMethodDescriptor y_Md_readCond.desc).map (fun d => d.parameters.length) = some 0 := by decide +kernel
theorem d_Md_readCond_0 : decode b_Md_readCond 0 = .ok (.sipush 1000, 3) := by decide +kernel
theorem d_Md_readCond_3 : decode b_Md_readCond 3 = .ok (.aload_n 0, 1) := by decide +kernel
theorem d_Md_readCond_4 : decode b_Md_readCond 4 = .ok (.getfield 173, 3) := by decide +kernel
theorem d_Md_readCond_7 : decode b_Md_readCond 7 = .ok (.imul, 1) := by decide +kernel
theorem d_Md_readCond_8 : decode b_Md_readCond 8 = .ok (.aload_n 0, 1) := by decide +kernel
theorem d_Md_readCond_9 : decode b_Md_readCond 9 = .ok (.getfield 24, 3) := by decide +kernel
theorem d_Md_readCond_12 : decode b_Md_readCond 12 = .ok (.aload_n 0, 1) := by decide +kernel
theorem d_Md_readCond_13 : decode b_Md_readCond 13 = .ok (.getfield 173, 3) := by decide +kernel
theorem d_Md_readCond_16 : decode b_Md_readCond 16 = .ok (.iaload, 1) := by decide +kernel
theorem d_Md_readCond_17 : decode b_Md_readCond 17 = .ok (.iadd, 1) := by decide +kernel
theorem d_Md_readCond_18 : decode b_Md_readCond 18 = .ok (.istore_n 1, 1) := by decide +kernel
theorem d_Md_readCond_19 : decode b_Md_readCond 19 = .ok (.aload_n 0, 1) := by decide +kernel
theorem d_Md_readCond_20 : decode b_Md_readCond 20 = .ok (.iconst 0, 1) := by decide +kernel
theorem d_Md_readCond_21 : decode b_Md_readCond 21 = .ok (.putfield 176, 3) := by decide +kernel
theorem d_Md_readCond_24 : decode b_Md_readCond 24 = .ok (.aload_n 0, 1) := by decide +kernel
theorem d_Md_readCond_25 : decode b_Md_readCond 25 = .ok (.iconst 0, 1) := by decide +kernel
theorem d_Md_readCond_26 : decode b_Md_readCond 26 = .ok (.putfield 179, 3) := by decide +kernel
theorem d_Md_readCond_29 : decode b_Md_readCond 29 = .ok (.iconst 1, 1) := by decide +kernel
theorem d_Md_readCond_30 : decode b_Md_readCond 30 = .ok (.istore_n 2, 1) := by decide +kernel
theorem d_Md_readCond_31 : decode b_Md_readCond 31 = .ok (.iconst 1, 1) := by decide +kernel
theorem d_Md_readCond_32 : decode b_Md_readCond 32 = .ok (.istore_n 3, 1) := by decide +kernel
theorem d_Md_readCond_33 : decode b_Md_readCond 33 = .ok (.iload_n 3, 1) := by decide +kernel
theorem d_Md_readCond_34 : decode b_Md_readCond 34 = .ok (.ifCond .eq 262, 3) := by decide +kernel
theorem d_Md_readCond_37 : decode b_Md_readCond 37 = .ok (.aload_n 0, 1) := by decide +kernel
theorem d_Md_readCond_38 : decode b_Md_readCond 38 = .ok (.getfield 154, 3) := by decide +kernel
theorem d_Md_readCond_41 : decode b_Md_readCond 41 = .ok (.ifCond .ne 255, 3) := by decide +kernel
theorem d_Md_readCond_44 : decode b_Md_readCond 44 = .ok (.iload_n 2, 1) := by decide +kernel
theorem d_Md_readCond_45 : decode b_Md_readCond 45 = .ok (.ifCond .eq 57, 3) := by decide +kernel
theorem d_Md_readCond_48 : decode b_Md_readCond 48 = .ok (.aload_n 0, 1) := by decide +kernel
theorem d_Md_readCond_49 : decode b_Md_readCond 49 = .ok (.bipush 8, 2) := by decide +kernel
theorem d_Md_readCond_51 : decode b_Md_readCond 51 = .ok (.invokevirtual 170, 3) := by decide +kernel
theorem d_Md_readCond_54 : decode b_Md_readCond 54 = .ok (.ifCond .ne 12, 3) := by decide +kernel
theorem d_Md_readCond_57 : decode b_Md_readCond 57 = .ok (.aload_n 0, 1) := by decide +kernel
theorem d_Md_readCond_58 : decode b_Md_readCond 58 = .ok (.bipush 91, 2) := by decide +kernel
theorem d_Md_readCond_60 : decode b_Md_readCond 60 = .ok (.invokevirtual 161, 3) := by decide +kernel
theorem d_Md_readCond_63 : decode b_Md_readCond 63 = .ok (.ifCond .eq 39, 3) := by decide +kernel
theorem d_Md_readCond_66 : decode b_Md_readCond 66 = .ok (.aload_n 0, 1) := by decide +kernel
theorem d_Md_readCond_67 : decode b_Md_readCond 67 = .ok (.invokevirtual 189, 3) := by decide +kernel
theorem d_Md_readCond_70 : decode b_Md_readCond 70 = .ok (.ifCond .eq (-37), 3) := by decide +kernel
theorem d_Md_readCond_73 : decode b_Md_readCond 73 = .ok (.aload_n 0, 1) := by decide +kernel
theorem d_Md_readCond_74 : decode b_Md_readCond 74 = .ok (.aload_n 0, 1) := by decide +kernel
theorem d_Md_readCond_75 : decode b_Md_readCond 75 = .ok (.bipush 91, 2) := by decide +kernel
theorem d_Md_readCond_77 : decode b_Md_readCond 77 = .ok (.invokevirtual 161, 3) := by decide +kernel
theorem d_Md_readCond_80 : decode b_Md_readCond 80 = .ok (.ifCond .eq 9, 3) := by decide +kernel
theorem d_Md_readCond_83 : decode b_Md_readCond 83 = .ok (.sipush 1002, 3) := by decide +kernel
theorem d_Md_readCond_86 : decode b_Md_readCond 86 = .ok (.goto 6, 3) := by decide +kernel
theorem d_Md_readCond_89 : decode b_Md_readCond 89 = .ok (.sipush 1001, 3) := by decide +kernel
theorem d_Md_readCond_92 : decode b_Md_readCond 92 = .ok (.invokevirtual 193, 3) := by decide +kernel
theorem d_Md_readCond_95 : decode b_Md_readCond 95 = .ok (.aload_n 0, 1) := by decide +kernel
theorem d_Md_readCond_96 : decode b_Md_readCond 96 = .ok (.invokevirtual 167, 3) := by decide +kernel
theorem d_Md_readCond_99 : decode b_Md_readCond 99 = .ok (.goto (-66), 3) := by decide +kernel
theorem d_Md_readCond_102 : decode b_Md_readCond 102 = .ok (.iload_n 2, 1) := by decide +kernel
theorem d_Md_readCond_103 : decode b_Md_readCond 103 = .ok (.ifCond .eq 77, 3) := by decide +kernel
theorem d_Md_readCond_106 : decode b_Md_readCond 106 = .ok (.aload_n 0, 1) := by decide +kernel
theorem d_Md_readCond_107 : decode b_Md_readCond 107 = .ok (.invokevirtual 209, 3) := by decide +kernel
theorem d_Md_readCond_110 : decode b_Md_readCond 110 = .ok (.aload_n 0, 1) := by decide +kernel
theorem d_Md_readCond_111 : decode b_Md_readCond 111 = .ok (.getfield 148, 3) := by decide +kernel
theorem d_Md_readCond_114 : decode b_Md_readCond 114 = .ok (.istore 4, 2) := by decide +kernel
theorem d_Md_readCond_116 : decode b_Md_readCond 116 = .ok (.aload_n 0, 1) := by decide +kernel
theorem d_Md_readCond_117 : decode b_Md_readCond 117 = .ok (.getfield 131, 3) := by decide +kernel
theorem d_Md_readCond_120 : decode b_Md_readCond 120 = .ok (.iconst 3, 1) := by decide +kernel
theorem d_Md_readCond_121 : decode b_Md_readCond 121 = .ok (.if_icmp .ne 24, 3) := by decide +kernel
theorem d_Md_readCond_124 : decode b_Md_readCond 124 = .ok (.iload 4, 2) := by decide +kernel
theorem d_Md_readCond_126 : decode b_Md_readCond 126 = .ok (.bipush 60, 2) := by decide +kernel
theorem d_Md_readCond_128 : decode b_Md_readCond 128 = .ok (.if_icmp .eq 21, 3) := by decide +kernel
theorem d_Md_readCond_131 : decode b_Md_readCond 131 = .ok (.iload 4, 2) := by decide +kernel
theorem d_Md_readCond_133 : decode b_Md_readCond 133 = .ok (.bipush 61, 2) := by decide +kernel
theorem d_Md_readCond_135 : decode b_Md_readCond 135 = .ok (.if_icmp .eq 14, 3) := by decide +kernel
theorem d_Md_readCond_138 : decode b_Md_readCond 138 = .ok (.iload 4, 2) := by decide +kernel
theorem d_Md_readCond_140 : decode b_Md_readCond 140 = .ok (.bipush 35, 2) := by decide +kernel
