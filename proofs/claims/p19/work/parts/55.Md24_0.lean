abbrev b_Md_induction : ByteArray := prog_13_method_50_code
abbrev y_Md_induction : MethodName := ⟨"LoopInductionModel", "induction", "(I)I"⟩
abbrev w_Md_induction : List Cond := .code y_Md_induction b_Md_induction 8 (some .int) :: allW
theorem pn_Md_induction : y_Md_induction.cls ≠ "java/lang/invoke/MethodHandle" ∧ y_Md_induction.cls ≠ "java/lang/invoke/VarHandle" ∧ (parseMethodDescriptor y_Md_induction.desc).map (fun d => d.parameters.length) = some 1 := by decide +kernel
theorem pd_Md_induction : y_Md_induction.cls = "LoopInductionModel" ∧ y_Md_induction.cls ≠ "java/lang/invoke/MethodHandle" ∧ y_Md_induction.cls ≠ "java/lang/invoke/VarHandle" ∧ (parseMethodDescriptor y_Md_induction.desc).map (fun d => d.parameters.length) = some 1 := by decide +kernel
theorem d_Md_induction_0 : decode b_Md_induction 0 = .ok (.aload_n 0, 1) := by decide +kernel
theorem d_Md_induction_1 : decode b_Md_induction 1 = .ok (.getfield 30, 3) := by decide +kernel
theorem d_Md_induction_4 : decode b_Md_induction 4 = .ok (.ifCond .lt 12, 3) := by decide +kernel
theorem d_Md_induction_7 : decode b_Md_induction 7 = .ok (.iload_n 1, 1) := by decide +kernel
theorem d_Md_induction_8 : decode b_Md_induction 8 = .ok (.ifCond .lt 8, 3) := by decide +kernel
theorem d_Md_induction_11 : decode b_Md_induction 11 = .ok (.iload_n 1, 1) := by decide +kernel
theorem d_Md_induction_12 : decode b_Md_induction 12 = .ok (.iconst 1, 1) := by decide +kernel
theorem d_Md_induction_13 : decode b_Md_induction 13 = .ok (.if_icmp .le 5, 3) := by decide +kernel
theorem d_Md_induction_16 : decode b_Md_induction 16 = .ok (.iconst (-1), 1) := by decide +kernel
theorem d_Md_induction_17 : decode b_Md_induction 17 = .ok (.ireturn, 1) := by decide +kernel
theorem d_Md_induction_18 : decode b_Md_induction 18 = .ok (.iload_n 1, 1) := by decide +kernel
theorem d_Md_induction_19 : decode b_Md_induction 19 = .ok (.iconst 1, 1) := by decide +kernel
theorem d_Md_induction_20 : decode b_Md_induction 20 = .ok (.if_icmp .ne 10, 3) := by decide +kernel
theorem d_Md_induction_23 : decode b_Md_induction 23 = .ok (.aload_n 0, 1) := by decide +kernel
theorem d_Md_induction_24 : decode b_Md_induction 24 = .ok (.getfield 264, 3) := by decide +kernel
theorem d_Md_induction_27 : decode b_Md_induction 27 = .ok (.goto 4, 3) := by decide +kernel
theorem d_Md_induction_30 : decode b_Md_induction 30 = .ok (.iconst 0, 1) := by decide +kernel
theorem d_Md_induction_31 : decode b_Md_induction 31 = .ok (.istore_n 2, 1) := by decide +kernel
theorem d_Md_induction_32 : decode b_Md_induction 32 = .ok (.iconst 0, 1) := by decide +kernel
theorem d_Md_induction_33 : decode b_Md_induction 33 = .ok (.istore_n 3, 1) := by decide +kernel
theorem d_Md_induction_34 : decode b_Md_induction 34 = .ok (.iload_n 3, 1) := by decide +kernel
theorem d_Md_induction_35 : decode b_Md_induction 35 = .ok (.sipush 4096, 3) := by decide +kernel
theorem d_Md_induction_38 : decode b_Md_induction 38 = .ok (.if_icmp .ge 41, 3) := by decide +kernel
theorem d_Md_induction_41 : decode b_Md_induction 41 = .ok (.aload_n 0, 1) := by decide +kernel
theorem d_Md_induction_42 : decode b_Md_induction 42 = .ok (.getfield 85, 3) := by decide +kernel
theorem d_Md_induction_45 : decode b_Md_induction 45 = .ok (.iload_n 3, 1) := by decide +kernel
theorem d_Md_induction_46 : decode b_Md_induction 46 = .ok (.aload_n 0, 1) := by decide +kernel
theorem d_Md_induction_47 : decode b_Md_induction 47 = .ok (.getfield 70, 3) := by decide +kernel
theorem d_Md_induction_50 : decode b_Md_induction 50 = .ok (.iload_n 3, 1) := by decide +kernel
theorem d_Md_induction_51 : decode b_Md_induction 51 = .ok (.baload, 1) := by decide +kernel
theorem d_Md_induction_52 : decode b_Md_induction 52 = .ok (.ifCond .eq 19, 3) := by decide +kernel
theorem d_Md_induction_55 : decode b_Md_induction 55 = .ok (.aload_n 0, 1) := by decide +kernel
theorem d_Md_induction_56 : decode b_Md_induction 56 = .ok (.getfield 79, 3) := by decide +kernel
theorem d_Md_induction_59 : decode b_Md_induction 59 = .ok (.iload_n 3, 1) := by decide +kernel
theorem d_Md_induction_60 : decode b_Md_induction 60 = .ok (.iaload, 1) := by decide +kernel
theorem d_Md_induction_61 : decode b_Md_induction 61 = .ok (.iload_n 2, 1) := by decide +kernel
theorem d_Md_induction_62 : decode b_Md_induction 62 = .ok (.iand, 1) := by decide +kernel
theorem d_Md_induction_63 : decode b_Md_induction 63 = .ok (.iload_n 2, 1) := by decide +kernel
theorem d_Md_induction_64 : decode b_Md_induction 64 = .ok (.if_icmp .ne 7, 3) := by decide +kernel
theorem d_Md_induction_67 : decode b_Md_induction 67 = .ok (.iconst 1, 1) := by decide +kernel
theorem d_Md_induction_68 : decode b_Md_induction 68 = .ok (.goto 4, 3) := by decide +kernel
theorem d_Md_induction_71 : decode b_Md_induction 71 = .ok (.iconst 0, 1) := by decide +kernel
theorem d_Md_induction_72 : decode b_Md_induction 72 = .ok (.bastore, 1) := by decide +kernel
theorem d_Md_induction_73 : decode b_Md_induction 73 = .ok (.iinc 3 1, 3) := by decide +kernel
theorem d_Md_induction_76 : decode b_Md_induction 76 = .ok (.goto (-42), 3) := by decide +kernel
theorem d_Md_induction_79 : decode b_Md_induction 79 = .ok (.iconst 1, 1) := by decide +kernel
theorem d_Md_induction_80 : decode b_Md_induction 80 = .ok (.istore_n 3, 1) := by decide +kernel
theorem d_Md_induction_81 : decode b_Md_induction 81 = .ok (.iload_n 3, 1) := by decide +kernel
theorem d_Md_induction_82 : decode b_Md_induction 82 = .ok (.bipush 16, 2) := by decide +kernel
theorem d_Md_induction_84 : decode b_Md_induction 84 = .ok (.if_icmp .gt 174, 3) := by decide +kernel
theorem d_Md_induction_87 : decode b_Md_induction 87 = .ok (.iconst 1, 1) := by decide +kernel
theorem d_Md_induction_88 : decode b_Md_induction 88 = .ok (.istore 4, 2) := by decide +kernel
theorem d_Md_induction_90 : decode b_Md_induction 90 = .ok (.iconst 0, 1) := by decide +kernel
theorem d_Md_induction_91 : decode b_Md_induction 91 = .ok (.istore 5, 2) := by decide +kernel
theorem d_Md_induction_93 : decode b_Md_induction 93 = .ok (.iload 5, 2) := by decide +kernel
theorem d_Md_induction_95 : decode b_Md_induction 95 = .ok (.sipush 4096, 3) := by decide +kernel
theorem d_Md_induction_98 : decode b_Md_induction 98 = .ok (.if_icmp .ge 52, 3) := by decide +kernel
theorem d_Md_induction_101 : decode b_Md_induction 101 = .ok (.iload 4, 2) := by decide +kernel
theorem d_Md_induction_103 : decode b_Md_induction 103 = .ok (.ifCond .eq 47, 3) := by decide +kernel
theorem d_Md_induction_106 : decode b_Md_induction 106 = .ok (.aload_n 0, 1) := by decide +kernel
theorem d_Md_induction_107 : decode b_Md_induction 107 = .ok (.getfield 73, 3) := by decide +kernel
theorem d_Md_induction_110 : decode b_Md_induction 110 = .ok (.iload 5, 2) := by decide +kernel
theorem d_Md_induction_112 : decode b_Md_induction 112 = .ok (.iaload, 1) := by decide +kernel
theorem d_Md_induction_113 : decode b_Md_induction 113 = .ok (.ifCond .lt 24, 3) := by decide +kernel
theorem d_Md_induction_116 : decode b_Md_induction 116 = .ok (.aload_n 0, 1) := by decide +kernel
theorem d_Md_induction_117 : decode b_Md_induction 117 = .ok (.getfield 73, 3) := by decide +kernel
theorem d_Md_induction_120 : decode b_Md_induction 120 = .ok (.iload 5, 2) := by decide +kernel
theorem d_Md_induction_122 : decode b_Md_induction 122 = .ok (.iaload, 1) := by decide +kernel
theorem d_Md_induction_123 : decode b_Md_induction 123 = .ok (.iload_n 3, 1) := by decide +kernel
theorem d_Md_induction_124 : decode b_Md_induction 124 = .ok (.if_icmp .ge 13, 3) := by decide +kernel
