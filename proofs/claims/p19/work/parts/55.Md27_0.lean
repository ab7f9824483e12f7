abbrev b_Md_longest : ByteArray := prog_13_method_56_code
abbrev y_Md_longest : MethodName := ⟨"LoopInductionModel", "longest", "()I"⟩
abbrev w_Md_longest : List Cond := .code y_Md_longest b_Md_longest 7 (some .int) :: allW
theorem pn_Md_longest : y_Md_longest.cls ≠ "java/lang/invoke/MethodHandle" ∧ y_Md_longest.cls ≠ "java/lang/invoke/VarHandle" ∧ (parseMethodDescriptor y_Md_longest.desc).map (fun d => d.parameters.length) = some 0 := by decide +kernel
theorem pd_Md_longest : y_Md_longest.cls = "LoopInductionModel" ∧ y_Md_longest.cls ≠ "java/lang/invoke/MethodHandle" ∧ y_Md_longest.cls ≠ "java/lang/invoke/VarHandle" ∧ (parseMethodDescriptor y_Md_longest.desc).map (fun d => d.parameters.length) = some 0 := by decide +kernel
theorem d_Md_longest_0 : decode b_Md_longest 0 = .ok (.aload_n 0, 1) := by decide +kernel
theorem d_Md_longest_1 : decode b_Md_longest 1 = .ok (.getfield 30, 3) := by decide +kernel
theorem d_Md_longest_4 : decode b_Md_longest 4 = .ok (.ifCond .lt 11, 3) := by decide +kernel
theorem d_Md_longest_7 : decode b_Md_longest 7 = .ok (.aload_n 0, 1) := by decide +kernel
theorem d_Md_longest_8 : decode b_Md_longest 8 = .ok (.iconst 0, 1) := by decide +kernel
theorem d_Md_longest_9 : decode b_Md_longest 9 = .ok (.invokevirtual 282, 3) := by decide +kernel
theorem d_Md_longest_12 : decode b_Md_longest 12 = .ok (.ifCond .ne 5, 3) := by decide +kernel
theorem d_Md_longest_15 : decode b_Md_longest 15 = .ok (.iconst (-1), 1) := by decide +kernel
theorem d_Md_longest_16 : decode b_Md_longest 16 = .ok (.ireturn, 1) := by decide +kernel
theorem d_Md_longest_17 : decode b_Md_longest 17 = .ok (.iconst 0, 1) := by decide +kernel
theorem d_Md_longest_18 : decode b_Md_longest 18 = .ok (.istore_n 1, 1) := by decide +kernel
theorem d_Md_longest_19 : decode b_Md_longest 19 = .ok (.iload_n 1, 1) := by decide +kernel
theorem d_Md_longest_20 : decode b_Md_longest 20 = .ok (.sipush 4096, 3) := by decide +kernel
theorem d_Md_longest_23 : decode b_Md_longest 23 = .ok (.if_icmp .ge 16, 3) := by decide +kernel
theorem d_Md_longest_26 : decode b_Md_longest 26 = .ok (.aload_n 0, 1) := by decide +kernel
theorem d_Md_longest_27 : decode b_Md_longest 27 = .ok (.getfield 91, 3) := by decide +kernel
theorem d_Md_longest_30 : decode b_Md_longest 30 = .ok (.iload_n 1, 1) := by decide +kernel
theorem d_Md_longest_31 : decode b_Md_longest 31 = .ok (.iconst (-1), 1) := by decide +kernel
theorem d_Md_longest_32 : decode b_Md_longest 32 = .ok (.iastore, 1) := by decide +kernel
theorem d_Md_longest_33 : decode b_Md_longest 33 = .ok (.iinc 1 1, 3) := by decide +kernel
theorem d_Md_longest_36 : decode b_Md_longest 36 = .ok (.goto (-17), 3) := by decide +kernel
theorem d_Md_longest_39 : decode b_Md_longest 39 = .ok (.iconst 1, 1) := by decide +kernel
theorem d_Md_longest_40 : decode b_Md_longest 40 = .ok (.istore_n 1, 1) := by decide +kernel
theorem d_Md_longest_41 : decode b_Md_longest 41 = .ok (.iload_n 1, 1) := by decide +kernel
theorem d_Md_longest_42 : decode b_Md_longest 42 = .ok (.ifCond .eq 158, 3) := by decide +kernel
theorem d_Md_longest_45 : decode b_Md_longest 45 = .ok (.iconst 0, 1) := by decide +kernel
theorem d_Md_longest_46 : decode b_Md_longest 46 = .ok (.istore_n 1, 1) := by decide +kernel
theorem d_Md_longest_47 : decode b_Md_longest 47 = .ok (.iconst 0, 1) := by decide +kernel
theorem d_Md_longest_48 : decode b_Md_longest 48 = .ok (.istore_n 2, 1) := by decide +kernel
theorem d_Md_longest_49 : decode b_Md_longest 49 = .ok (.iload_n 2, 1) := by decide +kernel
theorem d_Md_longest_50 : decode b_Md_longest 50 = .ok (.sipush 4096, 3) := by decide +kernel
theorem d_Md_longest_53 : decode b_Md_longest 53 = .ok (.if_icmp .ge 144, 3) := by decide +kernel
theorem d_Md_longest_56 : decode b_Md_longest 56 = .ok (.iload_n 2, 1) := by decide +kernel
theorem d_Md_longest_57 : decode b_Md_longest 57 = .ok (.istore_n 3, 1) := by decide +kernel
theorem d_Md_longest_58 : decode b_Md_longest 58 = .ok (.aload_n 0, 1) := by decide +kernel
theorem d_Md_longest_59 : decode b_Md_longest 59 = .ok (.getfield 73, 3) := by decide +kernel
theorem d_Md_longest_62 : decode b_Md_longest 62 = .ok (.iload_n 3, 1) := by decide +kernel
theorem d_Md_longest_63 : decode b_Md_longest 63 = .ok (.iaload, 1) := by decide +kernel
theorem d_Md_longest_64 : decode b_Md_longest 64 = .ok (.ifCond .lt 127, 3) := by decide +kernel
theorem d_Md_longest_67 : decode b_Md_longest 67 = .ok (.aload_n 0, 1) := by decide +kernel
theorem d_Md_longest_68 : decode b_Md_longest 68 = .ok (.getfield 91, 3) := by decide +kernel
theorem d_Md_longest_71 : decode b_Md_longest 71 = .ok (.iload_n 3, 1) := by decide +kernel
theorem d_Md_longest_72 : decode b_Md_longest 72 = .ok (.iaload, 1) := by decide +kernel
theorem d_Md_longest_73 : decode b_Md_longest 73 = .ok (.ifCond .ge 118, 3) := by decide +kernel
theorem d_Md_longest_76 : decode b_Md_longest 76 = .ok (.iconst 0, 1) := by decide +kernel
theorem d_Md_longest_77 : decode b_Md_longest 77 = .ok (.istore 4, 2) := by decide +kernel
theorem d_Md_longest_79 : decode b_Md_longest 79 = .ok (.iconst 0, 1) := by decide +kernel
theorem d_Md_longest_80 : decode b_Md_longest 80 = .ok (.istore 5, 2) := by decide +kernel
theorem d_Md_longest_82 : decode b_Md_longest 82 = .ok (.iload 5, 2) := by decide +kernel
theorem d_Md_longest_84 : decode b_Md_longest 84 = .ok (.bipush 6, 2) := by decide +kernel
theorem d_Md_longest_86 : decode b_Md_longest 86 = .ok (.if_icmp .ge 82, 3) := by decide +kernel
theorem d_Md_longest_89 : decode b_Md_longest 89 = .ok (.iload 4, 2) := by decide +kernel
theorem d_Md_longest_91 : decode b_Md_longest 91 = .ok (.ifCond .lt 77, 3) := by decide +kernel
theorem d_Md_longest_94 : decode b_Md_longest 94 = .ok (.aload_n 0, 1) := by decide +kernel
theorem d_Md_longest_95 : decode b_Md_longest 95 = .ok (.getfield 63, 3) := by decide +kernel
theorem d_Md_longest_98 : decode b_Md_longest 98 = .ok (.bipush 6, 2) := by decide +kernel
theorem d_Md_longest_100 : decode b_Md_longest 100 = .ok (.iload_n 3, 1) := by decide +kernel
theorem d_Md_longest_101 : decode b_Md_longest 101 = .ok (.imul, 1) := by decide +kernel
theorem d_Md_longest_102 : decode b_Md_longest 102 = .ok (.iload 5, 2) := by decide +kernel
theorem d_Md_longest_104 : decode b_Md_longest 104 = .ok (.iadd, 1) := by decide +kernel
theorem d_Md_longest_105 : decode b_Md_longest 105 = .ok (.iaload, 1) := by decide +kernel
theorem d_Md_longest_106 : decode b_Md_longest 106 = .ok (.istore 6, 2) := by decide +kernel
theorem d_Md_longest_108 : decode b_Md_longest 108 = .ok (.iload 6, 2) := by decide +kernel
theorem d_Md_longest_110 : decode b_Md_longest 110 = .ok (.ifCond .ge 8, 3) := by decide +kernel
theorem d_Md_longest_113 : decode b_Md_longest 113 = .ok (.iload 4, 2) := by decide +kernel
theorem d_Md_longest_115 : decode b_Md_longest 115 = .ok (.goto 45, 3) := by decide +kernel
theorem d_Md_longest_118 : decode b_Md_longest 118 = .ok (.aload_n 0, 1) := by decide +kernel
theorem d_Md_longest_119 : decode b_Md_longest 119 = .ok (.getfield 91, 3) := by decide +kernel
theorem d_Md_longest_122 : decode b_Md_longest 122 = .ok (.iload 6, 2) := by decide +kernel
theorem d_Md_longest_124 : decode b_Md_longest 124 = .ok (.iaload, 1) := by decide +kernel
