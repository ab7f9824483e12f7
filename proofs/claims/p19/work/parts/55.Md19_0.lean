abbrev b_Md_many : ByteArray := prog_13_method_45_code
abbrev y_Md_many : MethodName := ⟨"LoopInductionModel", "many", "(I)I"⟩
abbrev w_Md_many : List Cond := .code y_Md_many b_Md_many 6 (some .int) :: allW
theorem pn_Md_many : y_Md_many.cls ≠ "java/lang/invoke/MethodHandle" ∧ y_Md_many.cls ≠ "java/lang/invoke/VarHandle" ∧ (parseMethodDescriptor y_Md_many.desc).map (fun d => d.parameters.length) = some 1 := by decide +kernel
theorem pd_Md_many : y_Md_many.cls = "LoopInductionModel" ∧ y_Md_many.cls ≠ "java/lang/invoke/MethodHandle" ∧ y_Md_many.cls ≠ "java/lang/invoke/VarHandle" ∧ (parseMethodDescriptor y_Md_many.desc).map (fun d => d.parameters.length) = some 1 := by decide +kernel
theorem d_Md_many_0 : decode b_Md_many 0 = .ok (.aload_n 0, 1) := by decide +kernel
theorem d_Md_many_1 : decode b_Md_many 1 = .ok (.getfield 30, 3) := by decide +kernel
theorem d_Md_many_4 : decode b_Md_many 4 = .ok (.ifCond .lt 13, 3) := by decide +kernel
theorem d_Md_many_7 : decode b_Md_many 7 = .ok (.iload_n 1, 1) := by decide +kernel
theorem d_Md_many_8 : decode b_Md_many 8 = .ok (.ifCond .lt 9, 3) := by decide +kernel
theorem d_Md_many_11 : decode b_Md_many 11 = .ok (.iload_n 1, 1) := by decide +kernel
theorem d_Md_many_12 : decode b_Md_many 12 = .ok (.bipush 6, 2) := by decide +kernel
theorem d_Md_many_14 : decode b_Md_many 14 = .ok (.if_icmp .le 5, 3) := by decide +kernel
theorem d_Md_many_17 : decode b_Md_many 17 = .ok (.iconst (-1), 1) := by decide +kernel
theorem d_Md_many_18 : decode b_Md_many 18 = .ok (.ireturn, 1) := by decide +kernel
theorem d_Md_many_19 : decode b_Md_many 19 = .ok (.iconst 0, 1) := by decide +kernel
theorem d_Md_many_20 : decode b_Md_many 20 = .ok (.istore_n 2, 1) := by decide +kernel
theorem d_Md_many_21 : decode b_Md_many 21 = .ok (.iconst (-1), 1) := by decide +kernel
theorem d_Md_many_22 : decode b_Md_many 22 = .ok (.istore_n 3, 1) := by decide +kernel
theorem d_Md_many_23 : decode b_Md_many 23 = .ok (.iconst 0, 1) := by decide +kernel
theorem d_Md_many_24 : decode b_Md_many 24 = .ok (.istore 4, 2) := by decide +kernel
theorem d_Md_many_26 : decode b_Md_many 26 = .ok (.iload 4, 2) := by decide +kernel
theorem d_Md_many_28 : decode b_Md_many 28 = .ok (.sipush 4096, 3) := by decide +kernel
theorem d_Md_many_31 : decode b_Md_many 31 = .ok (.if_icmp .ge 218, 3) := by decide +kernel
theorem d_Md_many_34 : decode b_Md_many 34 = .ok (.aload_n 0, 1) := by decide +kernel
theorem d_Md_many_35 : decode b_Md_many 35 = .ok (.getfield 73, 3) := by decide +kernel
theorem d_Md_many_38 : decode b_Md_many 38 = .ok (.iload 4, 2) := by decide +kernel
theorem d_Md_many_40 : decode b_Md_many 40 = .ok (.iaload, 1) := by decide +kernel
theorem d_Md_many_41 : decode b_Md_many 41 = .ok (.ifCond .lt 7, 3) := by decide +kernel
theorem d_Md_many_44 : decode b_Md_many 44 = .ok (.iconst 1, 1) := by decide +kernel
theorem d_Md_many_45 : decode b_Md_many 45 = .ok (.goto 4, 3) := by decide +kernel
theorem d_Md_many_48 : decode b_Md_many 48 = .ok (.iconst 0, 1) := by decide +kernel
theorem d_Md_many_49 : decode b_Md_many 49 = .ok (.istore 5, 2) := by decide +kernel
theorem d_Md_many_51 : decode b_Md_many 51 = .ok (.aload_n 0, 1) := by decide +kernel
theorem d_Md_many_52 : decode b_Md_many 52 = .ok (.getfield 73, 3) := by decide +kernel
theorem d_Md_many_55 : decode b_Md_many 55 = .ok (.iload 4, 2) := by decide +kernel
theorem d_Md_many_57 : decode b_Md_many 57 = .ok (.iaload, 1) := by decide +kernel
theorem d_Md_many_58 : decode b_Md_many 58 = .ok (.iload_n 3, 1) := by decide +kernel
theorem d_Md_many_59 : decode b_Md_many 59 = .ok (.if_icmp .le 13, 3) := by decide +kernel
theorem d_Md_many_62 : decode b_Md_many 62 = .ok (.aload_n 0, 1) := by decide +kernel
theorem d_Md_many_63 : decode b_Md_many 63 = .ok (.getfield 73, 3) := by decide +kernel
theorem d_Md_many_66 : decode b_Md_many 66 = .ok (.iload 4, 2) := by decide +kernel
theorem d_Md_many_68 : decode b_Md_many 68 = .ok (.iaload, 1) := by decide +kernel
theorem d_Md_many_69 : decode b_Md_many 69 = .ok (.goto 4, 3) := by decide +kernel
theorem d_Md_many_72 : decode b_Md_many 72 = .ok (.iload_n 3, 1) := by decide +kernel
theorem d_Md_many_73 : decode b_Md_many 73 = .ok (.istore_n 3, 1) := by decide +kernel
theorem d_Md_many_74 : decode b_Md_many 74 = .ok (.iload_n 1, 1) := by decide +kernel
theorem d_Md_many_75 : decode b_Md_many 75 = .ok (.tableswitch 141 0 5 #[37, 58, 79, 95, 141, 120], 37) := by decide +kernel
theorem d_Md_many_112 : decode b_Md_many 112 = .ok (.iload_n 2, 1) := by decide +kernel
theorem d_Md_many_113 : decode b_Md_many 113 = .ok (.aload_n 0, 1) := by decide +kernel
theorem d_Md_many_114 : decode b_Md_many 114 = .ok (.getfield 66, 3) := by decide +kernel
theorem d_Md_many_117 : decode b_Md_many 117 = .ok (.iload 4, 2) := by decide +kernel
theorem d_Md_many_119 : decode b_Md_many 119 = .ok (.baload, 1) := by decide +kernel
theorem d_Md_many_120 : decode b_Md_many 120 = .ok (.ifCond .eq 7, 3) := by decide +kernel
theorem d_Md_many_123 : decode b_Md_many 123 = .ok (.iconst 1, 1) := by decide +kernel
theorem d_Md_many_124 : decode b_Md_many 124 = .ok (.goto 4, 3) := by decide +kernel
theorem d_Md_many_127 : decode b_Md_many 127 = .ok (.iconst 0, 1) := by decide +kernel
theorem d_Md_many_128 : decode b_Md_many 128 = .ok (.iadd, 1) := by decide +kernel
theorem d_Md_many_129 : decode b_Md_many 129 = .ok (.istore_n 2, 1) := by decide +kernel
theorem d_Md_many_130 : decode b_Md_many 130 = .ok (.goto 113, 3) := by decide +kernel
theorem d_Md_many_133 : decode b_Md_many 133 = .ok (.iload_n 2, 1) := by decide +kernel
theorem d_Md_many_134 : decode b_Md_many 134 = .ok (.aload_n 0, 1) := by decide +kernel
theorem d_Md_many_135 : decode b_Md_many 135 = .ok (.getfield 70, 3) := by decide +kernel
theorem d_Md_many_138 : decode b_Md_many 138 = .ok (.iload 4, 2) := by decide +kernel
theorem d_Md_many_140 : decode b_Md_many 140 = .ok (.baload, 1) := by decide +kernel
theorem d_Md_many_141 : decode b_Md_many 141 = .ok (.ifCond .eq 7, 3) := by decide +kernel
theorem d_Md_many_144 : decode b_Md_many 144 = .ok (.iconst 1, 1) := by decide +kernel
theorem d_Md_many_145 : decode b_Md_many 145 = .ok (.goto 4, 3) := by decide +kernel
theorem d_Md_many_148 : decode b_Md_many 148 = .ok (.iconst 0, 1) := by decide +kernel
theorem d_Md_many_149 : decode b_Md_many 149 = .ok (.iadd, 1) := by decide +kernel
theorem d_Md_many_150 : decode b_Md_many 150 = .ok (.istore_n 2, 1) := by decide +kernel
theorem d_Md_many_151 : decode b_Md_many 151 = .ok (.goto 92, 3) := by decide +kernel
theorem d_Md_many_154 : decode b_Md_many 154 = .ok (.iload_n 2, 1) := by decide +kernel
theorem d_Md_many_155 : decode b_Md_many 155 = .ok (.iload 5, 2) := by decide +kernel
theorem d_Md_many_157 : decode b_Md_many 157 = .ok (.ifCond .eq 7, 3) := by decide +kernel
