abbrev b_Md_readExp : ByteArray := prog_13_method_18_code
abbrev y_Md_readExp : MethodName := ⟨"LoopInductionModel", "readExp", "()V"⟩
abbrev w_Md_readExp : List Cond := .code y_Md_readExp b_Md_readExp 7 none :: allW
theorem pn_Md_readExp : y_Md_readExp.cls ≠ "java/lang/invoke/MethodHandle" ∧ y_Md_readExp.cls ≠ "java/lang/invoke/VarHandle" ∧ (parseMethodDescriptor y_Md_readExp.desc).map (fun d => d.parameters.length) = some 0 := by decide +kernel
theorem pd_Md_readExp : y_Md_readExp.cls = "LoopInductionModel" ∧ y_Md_readExp.cls ≠ "java/lang/invoke/MethodHandle" ∧ y_Md_readExp.cls ≠ "java/lang/invoke/VarHandle" ∧ (parseMethodDescriptor y_Md_readExp.desc).map (fun d => d.parameters.length) = some 0 := by decide +kernel
theorem d_Md_readExp_0 : decode b_Md_readExp 0 = .ok (.aload_n 0, 1) := by decide +kernel
theorem d_Md_readExp_1 : decode b_Md_readExp 1 = .ok (.getfield 176, 3) := by decide +kernel
theorem d_Md_readExp_4 : decode b_Md_readExp 4 = .ok (.istore_n 1, 1) := by decide +kernel
theorem d_Md_readExp_5 : decode b_Md_readExp 5 = .ok (.iconst 0, 1) := by decide +kernel
theorem d_Md_readExp_6 : decode b_Md_readExp 6 = .ok (.istore_n 2, 1) := by decide +kernel
theorem d_Md_readExp_7 : decode b_Md_readExp 7 = .ok (.iconst 1, 1) := by decide +kernel
theorem d_Md_readExp_8 : decode b_Md_readExp 8 = .ok (.istore_n 3, 1) := by decide +kernel
theorem d_Md_readExp_9 : decode b_Md_readExp 9 = .ok (.iconst 1, 1) := by decide +kernel
theorem d_Md_readExp_10 : decode b_Md_readExp 10 = .ok (.istore 4, 2) := by decide +kernel
theorem d_Md_readExp_12 : decode b_Md_readExp 12 = .ok (.iload 4, 2) := by decide +kernel
theorem d_Md_readExp_14 : decode b_Md_readExp 14 = .ok (.ifCond .eq 340, 3) := by decide +kernel
theorem d_Md_readExp_17 : decode b_Md_readExp 17 = .ok (.aload_n 0, 1) := by decide +kernel
theorem d_Md_readExp_18 : decode b_Md_readExp 18 = .ok (.getfield 154, 3) := by decide +kernel
theorem d_Md_readExp_21 : decode b_Md_readExp 21 = .ok (.ifCond .ne 333, 3) := by decide +kernel
theorem d_Md_readExp_24 : decode b_Md_readExp 24 = .ok (.iload_n 3, 1) := by decide +kernel
theorem d_Md_readExp_25 : decode b_Md_readExp 25 = .ok (.ifCond .eq 223, 3) := by decide +kernel
theorem d_Md_readExp_28 : decode b_Md_readExp 28 = .ok (.aload_n 0, 1) := by decide +kernel
theorem d_Md_readExp_29 : decode b_Md_readExp 29 = .ok (.bipush 45, 2) := by decide +kernel
theorem d_Md_readExp_31 : decode b_Md_readExp 31 = .ok (.invokevirtual 161, 3) := by decide +kernel
theorem d_Md_readExp_34 : decode b_Md_readExp 34 = .ok (.ifCond .ne 12, 3) := by decide +kernel
theorem d_Md_readExp_37 : decode b_Md_readExp 37 = .ok (.aload_n 0, 1) := by decide +kernel
theorem d_Md_readExp_38 : decode b_Md_readExp 38 = .ok (.bipush 40, 2) := by decide +kernel
theorem d_Md_readExp_40 : decode b_Md_readExp 40 = .ok (.invokevirtual 161, 3) := by decide +kernel
theorem d_Md_readExp_43 : decode b_Md_readExp 43 = .ok (.ifCond .eq 7, 3) := by decide +kernel
theorem d_Md_readExp_46 : decode b_Md_readExp 46 = .ok (.iconst 1, 1) := by decide +kernel
theorem d_Md_readExp_47 : decode b_Md_readExp 47 = .ok (.goto 4, 3) := by decide +kernel
theorem d_Md_readExp_50 : decode b_Md_readExp 50 = .ok (.iconst 0, 1) := by decide +kernel
theorem d_Md_readExp_51 : decode b_Md_readExp 51 = .ok (.istore 5, 2) := by decide +kernel
theorem d_Md_readExp_53 : decode b_Md_readExp 53 = .ok (.aload_n 0, 1) := by decide +kernel
theorem d_Md_readExp_54 : decode b_Md_readExp 54 = .ok (.bipush 9, 2) := by decide +kernel
theorem d_Md_readExp_56 : decode b_Md_readExp 56 = .ok (.invokevirtual 170, 3) := by decide +kernel
theorem d_Md_readExp_59 : decode b_Md_readExp 59 = .ok (.ifCond .ne 21, 3) := by decide +kernel
theorem d_Md_readExp_62 : decode b_Md_readExp 62 = .ok (.aload_n 0, 1) := by decide +kernel
theorem d_Md_readExp_63 : decode b_Md_readExp 63 = .ok (.bipush 10, 2) := by decide +kernel
theorem d_Md_readExp_65 : decode b_Md_readExp 65 = .ok (.invokevirtual 170, 3) := by decide +kernel
theorem d_Md_readExp_68 : decode b_Md_readExp 68 = .ok (.ifCond .ne 12, 3) := by decide +kernel
theorem d_Md_readExp_71 : decode b_Md_readExp 71 = .ok (.aload_n 0, 1) := by decide +kernel
theorem d_Md_readExp_72 : decode b_Md_readExp 72 = .ok (.bipush 11, 2) := by decide +kernel
theorem d_Md_readExp_74 : decode b_Md_readExp 74 = .ok (.invokevirtual 170, 3) := by decide +kernel
theorem d_Md_readExp_77 : decode b_Md_readExp 77 = .ok (.ifCond .eq 7, 3) := by decide +kernel
theorem d_Md_readExp_80 : decode b_Md_readExp 80 = .ok (.iconst 1, 1) := by decide +kernel
theorem d_Md_readExp_81 : decode b_Md_readExp 81 = .ok (.goto 4, 3) := by decide +kernel
theorem d_Md_readExp_84 : decode b_Md_readExp 84 = .ok (.iconst 0, 1) := by decide +kernel
theorem d_Md_readExp_85 : decode b_Md_readExp 85 = .ok (.istore 6, 2) := by decide +kernel
theorem d_Md_readExp_87 : decode b_Md_readExp 87 = .ok (.iload 5, 2) := by decide +kernel
theorem d_Md_readExp_89 : decode b_Md_readExp 89 = .ok (.ifCond .ne 16, 3) := by decide +kernel
theorem d_Md_readExp_92 : decode b_Md_readExp 92 = .ok (.iload 6, 2) := by decide +kernel
theorem d_Md_readExp_94 : decode b_Md_readExp 94 = .ok (.ifCond .ne 11, 3) := by decide +kernel
theorem d_Md_readExp_97 : decode b_Md_readExp 97 = .ok (.aload_n 0, 1) := by decide +kernel
theorem d_Md_readExp_98 : decode b_Md_readExp 98 = .ok (.getfield 131, 3) := by decide +kernel
theorem d_Md_readExp_101 : decode b_Md_readExp 101 = .ok (.iconst 2, 1) := by decide +kernel
theorem d_Md_readExp_102 : decode b_Md_readExp 102 = .ok (.if_icmp .ne 12, 3) := by decide +kernel
theorem d_Md_readExp_105 : decode b_Md_readExp 105 = .ok (.aload_n 0, 1) := by decide +kernel
theorem d_Md_readExp_106 : decode b_Md_readExp 106 = .ok (.getfield 186, 3) := by decide +kernel
theorem d_Md_readExp_109 : decode b_Md_readExp 109 = .ok (.bipush 100, 2) := by decide +kernel
theorem d_Md_readExp_111 : decode b_Md_readExp 111 = .ok (.if_icmp .ne 10, 3) := by decide +kernel
theorem d_Md_readExp_114 : decode b_Md_readExp 114 = .ok (.aload_n 0, 1) := by decide +kernel
theorem d_Md_readExp_115 : decode b_Md_readExp 115 = .ok (.invokevirtual 164, 3) := by decide +kernel
theorem d_Md_readExp_118 : decode b_Md_readExp 118 = .ok (.goto 127, 3) := by decide +kernel
theorem d_Md_readExp_121 : decode b_Md_readExp 121 = .ok (.iload 5, 2) := by decide +kernel
theorem d_Md_readExp_123 : decode b_Md_readExp 123 = .ok (.ifCond .eq 65, 3) := by decide +kernel
theorem d_Md_readExp_126 : decode b_Md_readExp 126 = .ok (.aload_n 0, 1) := by decide +kernel
theorem d_Md_readExp_127 : decode b_Md_readExp 127 = .ok (.invokevirtual 189, 3) := by decide +kernel
theorem d_Md_readExp_130 : decode b_Md_readExp 130 = .ok (.ifCond .eq 115, 3) := by decide +kernel
theorem d_Md_readExp_133 : decode b_Md_readExp 133 = .ok (.aload_n 0, 1) := by decide +kernel
theorem d_Md_readExp_134 : decode b_Md_readExp 134 = .ok (.dup, 1) := by decide +kernel
theorem d_Md_readExp_135 : decode b_Md_readExp 135 = .ok (.getfield 186, 3) := by decide +kernel
theorem d_Md_readExp_138 : decode b_Md_readExp 138 = .ok (.iconst 1, 1) := by decide +kernel
theorem d_Md_readExp_139 : decode b_Md_readExp 139 = .ok (.iadd, 1) := by decide +kernel
theorem d_Md_readExp_140 : decode b_Md_readExp 140 = .ok (.putfield 186, 3) := by decide +kernel
