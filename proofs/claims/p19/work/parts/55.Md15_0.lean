abbrev b_Md_goThrough : ByteArray := prog_13_method_35_code
abbrev y_Md_goThrough : MethodName := ⟨"LoopInductionModel", "goThrough", "()V"⟩
abbrev w_Md_goThrough : List Cond := .code y_Md_goThrough b_Md_goThrough 6 none :: allW
theorem pn_Md_goThrough : y_Md_goThrough.cls ≠ "java/lang/invoke/MethodHandle" ∧ y_Md_goThrough.cls ≠ "java/lang/invoke/VarHandle" ∧ (parseMethodDescriptor y_Md_goThrough.desc).map (fun d => d.parameters.length) = some 0 := by decide +kernel
theorem pd_Md_goThrough : y_Md_goThrough.cls = "LoopInductionModel" ∧ y_Md_goThrough.cls ≠ "java/lang/invoke/MethodHandle" ∧ y_Md_goThrough.cls ≠ "java/lang/invoke/VarHandle" ∧ (parseMethodDescriptor y_Md_goThrough.desc).map (fun d => d.parameters.length) = some 0 := by decide +kernel
theorem d_Md_goThrough_0 : decode b_Md_goThrough 0 = .ok (.iconst 0, 1) := by decide +kernel
theorem d_Md_goThrough_1 : decode b_Md_goThrough 1 = .ok (.istore_n 1, 1) := by decide +kernel
theorem d_Md_goThrough_2 : decode b_Md_goThrough 2 = .ok (.iconst 0, 1) := by decide +kernel
theorem d_Md_goThrough_3 : decode b_Md_goThrough 3 = .ok (.istore_n 2, 1) := by decide +kernel
theorem d_Md_goThrough_4 : decode b_Md_goThrough 4 = .ok (.iload_n 2, 1) := by decide +kernel
theorem d_Md_goThrough_5 : decode b_Md_goThrough 5 = .ok (.sipush 4096, 3) := by decide +kernel
theorem d_Md_goThrough_8 : decode b_Md_goThrough 8 = .ok (.if_icmp .ge 199, 3) := by decide +kernel
theorem d_Md_goThrough_11 : decode b_Md_goThrough 11 = .ok (.aload_n 0, 1) := by decide +kernel
theorem d_Md_goThrough_12 : decode b_Md_goThrough 12 = .ok (.getfield 66, 3) := by decide +kernel
theorem d_Md_goThrough_15 : decode b_Md_goThrough 15 = .ok (.iload_n 2, 1) := by decide +kernel
theorem d_Md_goThrough_16 : decode b_Md_goThrough 16 = .ok (.aload_n 0, 1) := by decide +kernel
theorem d_Md_goThrough_17 : decode b_Md_goThrough 17 = .ok (.aload_n 0, 1) := by decide +kernel
theorem d_Md_goThrough_18 : decode b_Md_goThrough 18 = .ok (.getfield 33, 3) := by decide +kernel
theorem d_Md_goThrough_21 : decode b_Md_goThrough 21 = .ok (.aload_n 0, 1) := by decide +kernel
theorem d_Md_goThrough_22 : decode b_Md_goThrough 22 = .ok (.getfield 30, 3) := by decide +kernel
theorem d_Md_goThrough_25 : decode b_Md_goThrough 25 = .ok (.iaload, 1) := by decide +kernel
theorem d_Md_goThrough_26 : decode b_Md_goThrough 26 = .ok (.iload_n 2, 1) := by decide +kernel
theorem d_Md_goThrough_27 : decode b_Md_goThrough 27 = .ok (.invokevirtual 252, 3) := by decide +kernel
theorem d_Md_goThrough_30 : decode b_Md_goThrough 30 = .ok (.iconst 1, 1) := by decide +kernel
theorem d_Md_goThrough_31 : decode b_Md_goThrough 31 = .ok (.if_icmp .ne 7, 3) := by decide +kernel
theorem d_Md_goThrough_34 : decode b_Md_goThrough 34 = .ok (.iconst 1, 1) := by decide +kernel
theorem d_Md_goThrough_35 : decode b_Md_goThrough 35 = .ok (.goto 4, 3) := by decide +kernel
theorem d_Md_goThrough_38 : decode b_Md_goThrough 38 = .ok (.iconst 0, 1) := by decide +kernel
theorem d_Md_goThrough_39 : decode b_Md_goThrough 39 = .ok (.bastore, 1) := by decide +kernel
theorem d_Md_goThrough_40 : decode b_Md_goThrough 40 = .ok (.aload_n 0, 1) := by decide +kernel
theorem d_Md_goThrough_41 : decode b_Md_goThrough 41 = .ok (.getfield 70, 3) := by decide +kernel
theorem d_Md_goThrough_44 : decode b_Md_goThrough 44 = .ok (.iload_n 2, 1) := by decide +kernel
theorem d_Md_goThrough_45 : decode b_Md_goThrough 45 = .ok (.aload_n 0, 1) := by decide +kernel
theorem d_Md_goThrough_46 : decode b_Md_goThrough 46 = .ok (.aload_n 0, 1) := by decide +kernel
theorem d_Md_goThrough_47 : decode b_Md_goThrough 47 = .ok (.getfield 36, 3) := by decide +kernel
theorem d_Md_goThrough_50 : decode b_Md_goThrough 50 = .ok (.aload_n 0, 1) := by decide +kernel
theorem d_Md_goThrough_51 : decode b_Md_goThrough 51 = .ok (.getfield 30, 3) := by decide +kernel
theorem d_Md_goThrough_54 : decode b_Md_goThrough 54 = .ok (.iaload, 1) := by decide +kernel
theorem d_Md_goThrough_55 : decode b_Md_goThrough 55 = .ok (.iload_n 2, 1) := by decide +kernel
theorem d_Md_goThrough_56 : decode b_Md_goThrough 56 = .ok (.invokevirtual 252, 3) := by decide +kernel
theorem d_Md_goThrough_59 : decode b_Md_goThrough 59 = .ok (.iconst 1, 1) := by decide +kernel
theorem d_Md_goThrough_60 : decode b_Md_goThrough 60 = .ok (.if_icmp .ne 7, 3) := by decide +kernel
theorem d_Md_goThrough_63 : decode b_Md_goThrough 63 = .ok (.iconst 1, 1) := by decide +kernel
theorem d_Md_goThrough_64 : decode b_Md_goThrough 64 = .ok (.goto 4, 3) := by decide +kernel
theorem d_Md_goThrough_67 : decode b_Md_goThrough 67 = .ok (.iconst 0, 1) := by decide +kernel
theorem d_Md_goThrough_68 : decode b_Md_goThrough 68 = .ok (.bastore, 1) := by decide +kernel
theorem d_Md_goThrough_69 : decode b_Md_goThrough 69 = .ok (.aload_n 0, 1) := by decide +kernel
theorem d_Md_goThrough_70 : decode b_Md_goThrough 70 = .ok (.getfield 79, 3) := by decide +kernel
theorem d_Md_goThrough_73 : decode b_Md_goThrough 73 = .ok (.iload_n 2, 1) := by decide +kernel
theorem d_Md_goThrough_74 : decode b_Md_goThrough 74 = .ok (.iconst 0, 1) := by decide +kernel
theorem d_Md_goThrough_75 : decode b_Md_goThrough 75 = .ok (.iastore, 1) := by decide +kernel
theorem d_Md_goThrough_76 : decode b_Md_goThrough 76 = .ok (.iconst 0, 1) := by decide +kernel
theorem d_Md_goThrough_77 : decode b_Md_goThrough 77 = .ok (.istore_n 3, 1) := by decide +kernel
theorem d_Md_goThrough_78 : decode b_Md_goThrough 78 = .ok (.iload_n 3, 1) := by decide +kernel
theorem d_Md_goThrough_79 : decode b_Md_goThrough 79 = .ok (.aload_n 0, 1) := by decide +kernel
theorem d_Md_goThrough_80 : decode b_Md_goThrough 80 = .ok (.getfield 51, 3) := by decide +kernel
theorem d_Md_goThrough_83 : decode b_Md_goThrough 83 = .ok (.aload_n 0, 1) := by decide +kernel
theorem d_Md_goThrough_84 : decode b_Md_goThrough 84 = .ok (.getfield 30, 3) := by decide +kernel
theorem d_Md_goThrough_87 : decode b_Md_goThrough 87 = .ok (.iaload, 1) := by decide +kernel
theorem d_Md_goThrough_88 : decode b_Md_goThrough 88 = .ok (.if_icmp .ge 43, 3) := by decide +kernel
theorem d_Md_goThrough_91 : decode b_Md_goThrough 91 = .ok (.aload_n 0, 1) := by decide +kernel
theorem d_Md_goThrough_92 : decode b_Md_goThrough 92 = .ok (.getfield 79, 3) := by decide +kernel
theorem d_Md_goThrough_95 : decode b_Md_goThrough 95 = .ok (.iload_n 2, 1) := by decide +kernel
theorem d_Md_goThrough_96 : decode b_Md_goThrough 96 = .ok (.aload_n 0, 1) := by decide +kernel
theorem d_Md_goThrough_97 : decode b_Md_goThrough 97 = .ok (.getfield 79, 3) := by decide +kernel
theorem d_Md_goThrough_100 : decode b_Md_goThrough 100 = .ok (.iload_n 2, 1) := by decide +kernel
theorem d_Md_goThrough_101 : decode b_Md_goThrough 101 = .ok (.iaload, 1) := by decide +kernel
theorem d_Md_goThrough_102 : decode b_Md_goThrough 102 = .ok (.aload_n 0, 1) := by decide +kernel
theorem d_Md_goThrough_103 : decode b_Md_goThrough 103 = .ok (.aload_n 0, 1) := by decide +kernel
theorem d_Md_goThrough_104 : decode b_Md_goThrough 104 = .ok (.getfield 54, 3) := by decide +kernel
theorem d_Md_goThrough_107 : decode b_Md_goThrough 107 = .ok (.bipush 12, 2) := by decide +kernel
theorem d_Md_goThrough_109 : decode b_Md_goThrough 109 = .ok (.aload_n 0, 1) := by decide +kernel
theorem d_Md_goThrough_110 : decode b_Md_goThrough 110 = .ok (.getfield 30, 3) := by decide +kernel
theorem d_Md_goThrough_113 : decode b_Md_goThrough 113 = .ok (.imul, 1) := by decide +kernel
theorem d_Md_goThrough_114 : decode b_Md_goThrough 114 = .ok (.iload_n 3, 1) := by decide +kernel
