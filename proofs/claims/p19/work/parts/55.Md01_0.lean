abbrev b_Md_nextToken : ByteArray := prog_13_method_7_code
abbrev y_Md_nextToken : MethodName := ⟨"LoopInductionModel", "nextToken", "()V"⟩
abbrev w_Md_nextToken : List Cond := .code y_Md_nextToken b_Md_nextToken 6 none :: allW
theorem pn_Md_nextToken : y_Md_nextToken.cls ≠ "java/lang/invoke/MethodHandle" ∧ y_Md_nextToken.cls ≠ "java/lang/invoke/VarHandle" ∧ (parseMethodDescriptor y_Md_nextToken.desc).map (fun d => d.parameters.length) = some 0 := by decide +kernel
theorem pd_Md_nextToken : y_Md_nextToken.cls = "LoopInductionModel" ∧ y_Md_nextToken.cls ≠ "java/lang/invoke/MethodHandle" ∧ y_Md_nextToken.cls ≠ "java/lang/invoke/VarHandle" ∧ (parseMethodDescriptor y_Md_nextToken.desc).map (fun d => d.parameters.length) = some 0 := by decide +kernel
theorem d_Md_nextToken_0 : decode b_Md_nextToken 0 = .ok (.aload_n 0, 1) := by decide +kernel
theorem d_Md_nextToken_1 : decode b_Md_nextToken 1 = .ok (.aload_n 0, 1) := by decide +kernel
theorem d_Md_nextToken_2 : decode b_Md_nextToken 2 = .ok (.getfield 121, 3) := by decide +kernel
theorem d_Md_nextToken_5 : decode b_Md_nextToken 5 = .ok (.invokevirtual 124, 3) := by decide +kernel
theorem d_Md_nextToken_8 : decode b_Md_nextToken 8 = .ok (.bipush 32, 2) := by decide +kernel
theorem d_Md_nextToken_10 : decode b_Md_nextToken 10 = .ok (.if_icmp .eq 16, 3) := by decide +kernel
theorem d_Md_nextToken_13 : decode b_Md_nextToken 13 = .ok (.aload_n 0, 1) := by decide +kernel
theorem d_Md_nextToken_14 : decode b_Md_nextToken 14 = .ok (.aload_n 0, 1) := by decide +kernel
theorem d_Md_nextToken_15 : decode b_Md_nextToken 15 = .ok (.getfield 121, 3) := by decide +kernel
theorem d_Md_nextToken_18 : decode b_Md_nextToken 18 = .ok (.invokevirtual 124, 3) := by decide +kernel
theorem d_Md_nextToken_21 : decode b_Md_nextToken 21 = .ok (.bipush 10, 2) := by decide +kernel
theorem d_Md_nextToken_23 : decode b_Md_nextToken 23 = .ok (.if_icmp .ne 16, 3) := by decide +kernel
theorem d_Md_nextToken_26 : decode b_Md_nextToken 26 = .ok (.aload_n 0, 1) := by decide +kernel
theorem d_Md_nextToken_27 : decode b_Md_nextToken 27 = .ok (.dup, 1) := by decide +kernel
theorem d_Md_nextToken_28 : decode b_Md_nextToken 28 = .ok (.getfield 121, 3) := by decide +kernel
theorem d_Md_nextToken_31 : decode b_Md_nextToken 31 = .ok (.iconst 1, 1) := by decide +kernel
theorem d_Md_nextToken_32 : decode b_Md_nextToken 32 = .ok (.iadd, 1) := by decide +kernel
theorem d_Md_nextToken_33 : decode b_Md_nextToken 33 = .ok (.putfield 121, 3) := by decide +kernel
theorem d_Md_nextToken_36 : decode b_Md_nextToken 36 = .ok (.goto (-36), 3) := by decide +kernel
theorem d_Md_nextToken_39 : decode b_Md_nextToken 39 = .ok (.aload_n 0, 1) := by decide +kernel
theorem d_Md_nextToken_40 : decode b_Md_nextToken 40 = .ok (.aload_n 0, 1) := by decide +kernel
theorem d_Md_nextToken_41 : decode b_Md_nextToken 41 = .ok (.getfield 121, 3) := by decide +kernel
theorem d_Md_nextToken_44 : decode b_Md_nextToken 44 = .ok (.putfield 128, 3) := by decide +kernel
theorem d_Md_nextToken_47 : decode b_Md_nextToken 47 = .ok (.aload_n 0, 1) := by decide +kernel
theorem d_Md_nextToken_48 : decode b_Md_nextToken 48 = .ok (.aload_n 0, 1) := by decide +kernel
theorem d_Md_nextToken_49 : decode b_Md_nextToken 49 = .ok (.getfield 121, 3) := by decide +kernel
theorem d_Md_nextToken_52 : decode b_Md_nextToken 52 = .ok (.invokevirtual 124, 3) := by decide +kernel
theorem d_Md_nextToken_55 : decode b_Md_nextToken 55 = .ok (.istore_n 1, 1) := by decide +kernel
theorem d_Md_nextToken_56 : decode b_Md_nextToken 56 = .ok (.iload_n 1, 1) := by decide +kernel
theorem d_Md_nextToken_57 : decode b_Md_nextToken 57 = .ok (.ifCond .ge 11, 3) := by decide +kernel
theorem d_Md_nextToken_60 : decode b_Md_nextToken 60 = .ok (.aload_n 0, 1) := by decide +kernel
theorem d_Md_nextToken_61 : decode b_Md_nextToken 61 = .ok (.iconst 0, 1) := by decide +kernel
theorem d_Md_nextToken_62 : decode b_Md_nextToken 62 = .ok (.putfield 131, 3) := by decide +kernel
theorem d_Md_nextToken_65 : decode b_Md_nextToken 65 = .ok (.goto 247, 3) := by decide +kernel
theorem d_Md_nextToken_68 : decode b_Md_nextToken 68 = .ok (.iload_n 1, 1) := by decide +kernel
theorem d_Md_nextToken_69 : decode b_Md_nextToken 69 = .ok (.invokestatic 134, 3) := by decide +kernel
theorem d_Md_nextToken_72 : decode b_Md_nextToken 72 = .ok (.ifCond .eq 99, 3) := by decide +kernel
theorem d_Md_nextToken_75 : decode b_Md_nextToken 75 = .ok (.iconst 0, 1) := by decide +kernel
theorem d_Md_nextToken_76 : decode b_Md_nextToken 76 = .ok (.istore_n 2, 1) := by decide +kernel
theorem d_Md_nextToken_77 : decode b_Md_nextToken 77 = .ok (.lconst 0, 1) := by decide +kernel
theorem d_Md_nextToken_78 : decode b_Md_nextToken 78 = .ok (.lstore_n 3, 1) := by decide +kernel
theorem d_Md_nextToken_79 : decode b_Md_nextToken 79 = .ok (.aload_n 0, 1) := by decide +kernel
theorem d_Md_nextToken_80 : decode b_Md_nextToken 80 = .ok (.aload_n 0, 1) := by decide +kernel
theorem d_Md_nextToken_81 : decode b_Md_nextToken 81 = .ok (.getfield 121, 3) := by decide +kernel
theorem d_Md_nextToken_84 : decode b_Md_nextToken 84 = .ok (.invokevirtual 124, 3) := by decide +kernel
theorem d_Md_nextToken_87 : decode b_Md_nextToken 87 = .ok (.invokestatic 134, 3) := by decide +kernel
theorem d_Md_nextToken_90 : decode b_Md_nextToken 90 = .ok (.ifCond .eq 44, 3) := by decide +kernel
theorem d_Md_nextToken_93 : decode b_Md_nextToken 93 = .ok (.iload_n 2, 1) := by decide +kernel
theorem d_Md_nextToken_94 : decode b_Md_nextToken 94 = .ok (.bipush 7, 2) := by decide +kernel
theorem d_Md_nextToken_96 : decode b_Md_nextToken 96 = .ok (.if_icmp .ge 20, 3) := by decide +kernel
theorem d_Md_nextToken_99 : decode b_Md_nextToken 99 = .ok (.lload_n 3, 1) := by decide +kernel
theorem d_Md_nextToken_100 : decode b_Md_nextToken 100 = .ok (.bipush 8, 2) := by decide +kernel
theorem d_Md_nextToken_102 : decode b_Md_nextToken 102 = .ok (.lshl, 1) := by decide +kernel
theorem d_Md_nextToken_103 : decode b_Md_nextToken 103 = .ok (.aload_n 0, 1) := by decide +kernel
theorem d_Md_nextToken_104 : decode b_Md_nextToken 104 = .ok (.aload_n 0, 1) := by decide +kernel
theorem d_Md_nextToken_105 : decode b_Md_nextToken 105 = .ok (.getfield 121, 3) := by decide +kernel
theorem d_Md_nextToken_108 : decode b_Md_nextToken 108 = .ok (.invokevirtual 124, 3) := by decide +kernel
theorem d_Md_nextToken_111 : decode b_Md_nextToken 111 = .ok (.i2l, 1) := by decide +kernel
theorem d_Md_nextToken_112 : decode b_Md_nextToken 112 = .ok (.lor, 1) := by decide +kernel
theorem d_Md_nextToken_113 : decode b_Md_nextToken 113 = .ok (.goto 4, 3) := by decide +kernel
theorem d_Md_nextToken_116 : decode b_Md_nextToken 116 = .ok (.lload_n 3, 1) := by decide +kernel
theorem d_Md_nextToken_117 : decode b_Md_nextToken 117 = .ok (.lstore_n 3, 1) := by decide +kernel
theorem d_Md_nextToken_118 : decode b_Md_nextToken 118 = .ok (.iinc 2 1, 3) := by decide +kernel
theorem d_Md_nextToken_121 : decode b_Md_nextToken 121 = .ok (.aload_n 0, 1) := by decide +kernel
theorem d_Md_nextToken_122 : decode b_Md_nextToken 122 = .ok (.dup, 1) := by decide +kernel
theorem d_Md_nextToken_123 : decode b_Md_nextToken 123 = .ok (.getfield 121, 3) := by decide +kernel
theorem d_Md_nextToken_126 : decode b_Md_nextToken 126 = .ok (.iconst 1, 1) := by decide +kernel
theorem d_Md_nextToken_127 : decode b_Md_nextToken 127 = .ok (.iadd, 1) := by decide +kernel
theorem d_Md_nextToken_128 : decode b_Md_nextToken 128 = .ok (.putfield 121, 3) := by decide +kernel
theorem d_Md_nextToken_131 : decode b_Md_nextToken 131 = .ok (.goto (-52), 3) := by decide +kernel
