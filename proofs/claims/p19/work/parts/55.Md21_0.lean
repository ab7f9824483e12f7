abbrev b_Md_markRuns : ByteArray := prog_13_method_48_code
abbrev y_Md_markRuns : MethodName := ⟨"LoopInductionModel", "markRuns", "()I"⟩
abbrev w_Md_markRuns : List Cond := .code y_Md_markRuns b_Md_markRuns 6 (some .int) :: allW
theorem pn_Md_markRuns : y_Md_markRuns.cls ≠ "java/lang/invoke/MethodHandle" ∧ y_Md_markRuns.cls ≠ "java/lang/invoke/VarHandle" ∧ (parseMethodDescriptor y_Md_markRuns.desc).map (fun d => d.parameters.length) = some 0 := by decide +kernel
theorem pd_Md_markRuns : y_Md_markRuns.cls = "LoopInductionModel" ∧ y_Md_markRuns.cls ≠ "java/lang/invoke/MethodHandle" ∧ y_Md_markRuns.cls ≠ "java/lang/invoke/VarHandle" ∧ (parseMethodDescriptor y_Md_markRuns.desc).map (fun d => d.parameters.length) = some 0 := by decide +kernel
theorem d_Md_markRuns_0 : decode b_Md_markRuns 0 = .ok (.iconst (-1), 1) := by decide +kernel
theorem d_Md_markRuns_1 : decode b_Md_markRuns 1 = .ok (.istore_n 1, 1) := by decide +kernel
theorem d_Md_markRuns_2 : decode b_Md_markRuns 2 = .ok (.iconst 0, 1) := by decide +kernel
theorem d_Md_markRuns_3 : decode b_Md_markRuns 3 = .ok (.istore_n 2, 1) := by decide +kernel
theorem d_Md_markRuns_4 : decode b_Md_markRuns 4 = .ok (.iload_n 2, 1) := by decide +kernel
theorem d_Md_markRuns_5 : decode b_Md_markRuns 5 = .ok (.sipush 4096, 3) := by decide +kernel
theorem d_Md_markRuns_8 : decode b_Md_markRuns 8 = .ok (.if_icmp .ge 52, 3) := by decide +kernel
theorem d_Md_markRuns_11 : decode b_Md_markRuns 11 = .ok (.aload_n 0, 1) := by decide +kernel
theorem d_Md_markRuns_12 : decode b_Md_markRuns 12 = .ok (.getfield 73, 3) := by decide +kernel
theorem d_Md_markRuns_15 : decode b_Md_markRuns 15 = .ok (.iload_n 2, 1) := by decide +kernel
theorem d_Md_markRuns_16 : decode b_Md_markRuns 16 = .ok (.iaload, 1) := by decide +kernel
theorem d_Md_markRuns_17 : decode b_Md_markRuns 17 = .ok (.ifCond .lt 35, 3) := by decide +kernel
theorem d_Md_markRuns_20 : decode b_Md_markRuns 20 = .ok (.aload_n 0, 1) := by decide +kernel
theorem d_Md_markRuns_21 : decode b_Md_markRuns 21 = .ok (.getfield 70, 3) := by decide +kernel
theorem d_Md_markRuns_24 : decode b_Md_markRuns 24 = .ok (.iload_n 2, 1) := by decide +kernel
theorem d_Md_markRuns_25 : decode b_Md_markRuns 25 = .ok (.baload, 1) := by decide +kernel
theorem d_Md_markRuns_26 : decode b_Md_markRuns 26 = .ok (.ifCond .ne 26, 3) := by decide +kernel
theorem d_Md_markRuns_29 : decode b_Md_markRuns 29 = .ok (.iload_n 1, 1) := by decide +kernel
theorem d_Md_markRuns_30 : decode b_Md_markRuns 30 = .ok (.ifCond .lt 13, 3) := by decide +kernel
theorem d_Md_markRuns_33 : decode b_Md_markRuns 33 = .ok (.aload_n 0, 1) := by decide +kernel
theorem d_Md_markRuns_34 : decode b_Md_markRuns 34 = .ok (.getfield 73, 3) := by decide +kernel
theorem d_Md_markRuns_37 : decode b_Md_markRuns 37 = .ok (.iload_n 2, 1) := by decide +kernel
theorem d_Md_markRuns_38 : decode b_Md_markRuns 38 = .ok (.iaload, 1) := by decide +kernel
theorem d_Md_markRuns_39 : decode b_Md_markRuns 39 = .ok (.iload_n 1, 1) := by decide +kernel
theorem d_Md_markRuns_40 : decode b_Md_markRuns 40 = .ok (.if_icmp .ge 12, 3) := by decide +kernel
theorem d_Md_markRuns_43 : decode b_Md_markRuns 43 = .ok (.aload_n 0, 1) := by decide +kernel
theorem d_Md_markRuns_44 : decode b_Md_markRuns 44 = .ok (.getfield 73, 3) := by decide +kernel
theorem d_Md_markRuns_47 : decode b_Md_markRuns 47 = .ok (.iload_n 2, 1) := by decide +kernel
theorem d_Md_markRuns_48 : decode b_Md_markRuns 48 = .ok (.iaload, 1) := by decide +kernel
theorem d_Md_markRuns_49 : decode b_Md_markRuns 49 = .ok (.goto 4, 3) := by decide +kernel
theorem d_Md_markRuns_52 : decode b_Md_markRuns 52 = .ok (.iload_n 1, 1) := by decide +kernel
theorem d_Md_markRuns_53 : decode b_Md_markRuns 53 = .ok (.istore_n 1, 1) := by decide +kernel
theorem d_Md_markRuns_54 : decode b_Md_markRuns 54 = .ok (.iinc 2 1, 3) := by decide +kernel
theorem d_Md_markRuns_57 : decode b_Md_markRuns 57 = .ok (.goto (-53), 3) := by decide +kernel
theorem d_Md_markRuns_60 : decode b_Md_markRuns 60 = .ok (.iconst 0, 1) := by decide +kernel
theorem d_Md_markRuns_61 : decode b_Md_markRuns 61 = .ok (.istore_n 2, 1) := by decide +kernel
theorem d_Md_markRuns_62 : decode b_Md_markRuns 62 = .ok (.iload_n 2, 1) := by decide +kernel
theorem d_Md_markRuns_63 : decode b_Md_markRuns 63 = .ok (.sipush 4096, 3) := by decide +kernel
theorem d_Md_markRuns_66 : decode b_Md_markRuns 66 = .ok (.if_icmp .ge 43, 3) := by decide +kernel
theorem d_Md_markRuns_69 : decode b_Md_markRuns 69 = .ok (.aload_n 0, 1) := by decide +kernel
theorem d_Md_markRuns_70 : decode b_Md_markRuns 70 = .ok (.getfield 85, 3) := by decide +kernel
theorem d_Md_markRuns_73 : decode b_Md_markRuns 73 = .ok (.iload_n 2, 1) := by decide +kernel
theorem d_Md_markRuns_74 : decode b_Md_markRuns 74 = .ok (.iload_n 1, 1) := by decide +kernel
theorem d_Md_markRuns_75 : decode b_Md_markRuns 75 = .ok (.ifCond .lt 26, 3) := by decide +kernel
theorem d_Md_markRuns_78 : decode b_Md_markRuns 78 = .ok (.aload_n 0, 1) := by decide +kernel
theorem d_Md_markRuns_79 : decode b_Md_markRuns 79 = .ok (.getfield 73, 3) := by decide +kernel
theorem d_Md_markRuns_82 : decode b_Md_markRuns 82 = .ok (.iload_n 2, 1) := by decide +kernel
theorem d_Md_markRuns_83 : decode b_Md_markRuns 83 = .ok (.iaload, 1) := by decide +kernel
theorem d_Md_markRuns_84 : decode b_Md_markRuns 84 = .ok (.iload_n 1, 1) := by decide +kernel
theorem d_Md_markRuns_85 : decode b_Md_markRuns 85 = .ok (.if_icmp .ne 16, 3) := by decide +kernel
theorem d_Md_markRuns_88 : decode b_Md_markRuns 88 = .ok (.aload_n 0, 1) := by decide +kernel
theorem d_Md_markRuns_89 : decode b_Md_markRuns 89 = .ok (.getfield 70, 3) := by decide +kernel
theorem d_Md_markRuns_92 : decode b_Md_markRuns 92 = .ok (.iload_n 2, 1) := by decide +kernel
theorem d_Md_markRuns_93 : decode b_Md_markRuns 93 = .ok (.baload, 1) := by decide +kernel
theorem d_Md_markRuns_94 : decode b_Md_markRuns 94 = .ok (.ifCond .ne 7, 3) := by decide +kernel
theorem d_Md_markRuns_97 : decode b_Md_markRuns 97 = .ok (.iconst 1, 1) := by decide +kernel
theorem d_Md_markRuns_98 : decode b_Md_markRuns 98 = .ok (.goto 4, 3) := by decide +kernel
theorem d_Md_markRuns_101 : decode b_Md_markRuns 101 = .ok (.iconst 0, 1) := by decide +kernel
theorem d_Md_markRuns_102 : decode b_Md_markRuns 102 = .ok (.bastore, 1) := by decide +kernel
theorem d_Md_markRuns_103 : decode b_Md_markRuns 103 = .ok (.iinc 2 1, 3) := by decide +kernel
theorem d_Md_markRuns_106 : decode b_Md_markRuns 106 = .ok (.goto (-44), 3) := by decide +kernel
theorem d_Md_markRuns_109 : decode b_Md_markRuns 109 = .ok (.iload_n 1, 1) := by decide +kernel
theorem d_Md_markRuns_110 : decode b_Md_markRuns 110 = .ok (.iconst 1, 1) := by decide +kernel
theorem d_Md_markRuns_111 : decode b_Md_markRuns 111 = .ok (.isub, 1) := by decide +kernel
theorem d_Md_markRuns_112 : decode b_Md_markRuns 112 = .ok (.istore_n 2, 1) := by decide +kernel
theorem d_Md_markRuns_113 : decode b_Md_markRuns 113 = .ok (.iload_n 2, 1) := by decide +kernel
theorem d_Md_markRuns_114 : decode b_Md_markRuns 114 = .ok (.ifCond .lt 112, 3) := by decide +kernel
theorem d_Md_markRuns_117 : decode b_Md_markRuns 117 = .ok (.iconst 0, 1) := by decide +kernel
theorem d_Md_markRuns_118 : decode b_Md_markRuns 118 = .ok (.istore_n 3, 1) := by decide +kernel
theorem d_Md_markRuns_119 : decode b_Md_markRuns 119 = .ok (.iload_n 3, 1) := by decide +kernel
