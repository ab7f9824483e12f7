abbrev b_Md_many : ByteArray := prog_13_method_45_code
abbrev y_Md_many : MethodName := ⟨"LoopInductionModel", "many", "(I)I"⟩
abbrev w_Md_many : List Cond := .code y_Md_many b_Md_many 6 (some .int) :: allW
theorem pn_Md_many : y_Md_many.cls ≠ "java/lang/invoke/MethodHandle" ∧ y_Md_many.cls ≠ "java/lang/invoke/VarHandle" ∧ (parseMethodDescriptor y_Md_many.desc).map (fun d => d.parameters.length) = some 1 := by decide +kernel
theorem pd_Md_many : y_Md_many.cls = "LoopInductionModel" ∧ y_Md_many.cls ≠ "java/lang/invoke/MethodHandle" ∧ y_Md_many.cls ≠ "java/lang/invoke/VarHandle" ∧ (parseMethodDescriptor y_Md_many.desc).map (fun d => d.parameters.length) = some 1 := by decide +kernel
abbrev b_Md_level : ByteArray := prog_13_method_47_code
abbrev y_Md_level : MethodName := ⟨"LoopInductionModel", "level", "(I)I"⟩
abbrev w_Md_level : List Cond := .code y_Md_level b_Md_level 2 (some .int) :: allW
theorem pn_Md_level : y_Md_level.cls ≠ "java/lang/invoke/MethodHandle" ∧ y_Md_level.cls ≠ "java/lang/invoke/VarHandle" ∧ (parseMethodDescriptor y_Md_level.desc).map (fun d => d.parameters.length) = some 1 := by decide +kernel
theorem pd_Md_level : y_Md_level.cls = "LoopInductionModel" ∧ y_Md_level.cls ≠ "java/lang/invoke/MethodHandle" ∧ y_Md_level.cls ≠ "java/lang/invoke/VarHandle" ∧ (parseMethodDescriptor y_Md_level.desc).map (fun d => d.parameters.length) = some 1 := by decide +kernel
abbrev b_Md_markRuns : ByteArray := prog_13_method_48_code
abbrev y_Md_markRuns : MethodName := ⟨"LoopInductionModel", "markRuns", "()I"⟩
abbrev w_Md_markRuns : List Cond := .code y_Md_markRuns b_Md_markRuns 6 (some .int) :: allW
theorem pn_Md_markRuns : y_Md_markRuns.cls ≠ "java/lang/invoke/MethodHandle" ∧ y_Md_markRuns.cls ≠ "java/lang/invoke/VarHandle" ∧ (parseMethodDescriptor y_Md_markRuns.desc).map (fun d => d.parameters.length) = some 0 := by decide +kernel
theorem pd_Md_markRuns : y_Md_markRuns.cls = "LoopInductionModel" ∧ y_Md_markRuns.cls ≠ "java/lang/invoke/MethodHandle" ∧ y_Md_markRuns.cls ≠ "java/lang/invoke/VarHandle" ∧ (parseMethodDescriptor y_Md_markRuns.desc).map (fun d => d.parameters.length) = some 0 := by decide +kernel
abbrev b_Md_counter : ByteArray := prog_13_method_49_code
abbrev y_Md_counter : MethodName := ⟨"LoopInductionModel", "counter", "(I)I"⟩
abbrev w_Md_counter : List Cond := .code y_Md_counter b_Md_counter 8 (some .int) :: allW
theorem pn_Md_counter : y_Md_counter.cls ≠ "java/lang/invoke/MethodHandle" ∧ y_Md_counter.cls ≠ "java/lang/invoke/VarHandle" ∧ (parseMethodDescriptor y_Md_counter.desc).map (fun d => d.parameters.length) = some 1 := by decide +kernel
theorem pd_Md_counter : y_Md_counter.cls = "LoopInductionModel" ∧ y_Md_counter.cls ≠ "java/lang/invoke/MethodHandle" ∧ y_Md_counter.cls ≠ "java/lang/invoke/VarHandle" ∧ (parseMethodDescriptor y_Md_counter.desc).map (fun d => d.parameters.length) = some 1 := by decide +kernel
abbrev b_Md_goOn : ByteArray := prog_13_method_51_code
abbrev y_Md_goOn : MethodName := ⟨"LoopInductionModel", "goOn", "(I)V"⟩
abbrev w_Md_goOn : List Cond := .code y_Md_goOn b_Md_goOn 5 none :: allW
theorem pn_Md_goOn : y_Md_goOn.cls ≠ "java/lang/invoke/MethodHandle" ∧ y_Md_goOn.cls ≠ "java/lang/invoke/VarHandle" ∧ (parseMethodDescriptor y_Md_goOn.desc).map (fun d => d.parameters.length) = some 1 := by decide +kernel
theorem pd_Md_goOn : y_Md_goOn.cls = "LoopInductionModel" ∧ y_Md_goOn.cls ≠ "java/lang/invoke/MethodHandle" ∧ y_Md_goOn.cls ≠ "java/lang/invoke/VarHandle" ∧ (parseMethodDescriptor y_Md_goOn.desc).map (fun d => d.parameters.length) = some 1 := by decide +kernel
abbrev b_Md_induction : ByteArray := prog_13_method_50_code
abbrev y_Md_induction : MethodName := ⟨"LoopInductionModel", "induction", "(I)I"⟩
abbrev w_Md_induction : List Cond := .code y_Md_induction b_Md_induction 8 (some .int) :: allW
theorem pn_Md_induction : y_Md_induction.cls ≠ "java/lang/invoke/MethodHandle" ∧ y_Md_induction.cls ≠ "java/lang/invoke/VarHandle" ∧ (parseMethodDescriptor y_Md_induction.desc).map (fun d => d.parameters.length) = some 1 := by decide +kernel
theorem pd_Md_induction : y_Md_induction.cls = "LoopInductionModel" ∧ y_Md_induction.cls ≠ "java/lang/invoke/MethodHandle" ∧ y_Md_induction.cls ≠ "java/lang/invoke/VarHandle" ∧ (parseMethodDescriptor y_Md_induction.desc).map (fun d => d.parameters.length) = some 1 := by decide +kernel
abbrev b_Md_kept : ByteArray := prog_13_method_52_code
abbrev y_Md_kept : MethodName := ⟨"LoopInductionModel", "kept", "()I"⟩
abbrev w_Md_kept : List Cond := .code y_Md_kept b_Md_kept 1 (some .int) :: allW
theorem pn_Md_kept : y_Md_kept.cls ≠ "java/lang/invoke/MethodHandle" ∧ y_Md_kept.cls ≠ "java/lang/invoke/VarHandle" ∧ (parseMethodDescriptor y_Md_kept.desc).map (fun d => d.parameters.length) = some 0 := by decide +kernel
theorem pd_Md_kept : y_Md_kept.cls = "LoopInductionModel" ∧ y_Md_kept.cls ≠ "java/lang/invoke/MethodHandle" ∧ y_Md_kept.cls ≠ "java/lang/invoke/VarHandle" ∧ (parseMethodDescriptor y_Md_kept.desc).map (fun d => d.parameters.length) = some 0 := by decide +kernel
abbrev b_Md_gone : ByteArray := prog_13_method_53_code
abbrev y_Md_gone : MethodName := ⟨"LoopInductionModel", "gone", "(I)I"⟩
abbrev w_Md_gone : List Cond := .code y_Md_gone b_Md_gone 2 (some .int) :: allW
theorem pn_Md_gone : y_Md_gone.cls ≠ "java/lang/invoke/MethodHandle" ∧ y_Md_gone.cls ≠ "java/lang/invoke/VarHandle" ∧ (parseMethodDescriptor y_Md_gone.desc).map (fun d => d.parameters.length) = some 1 := by decide +kernel
theorem pd_Md_gone : y_Md_gone.cls = "LoopInductionModel" ∧ y_Md_gone.cls ≠ "java/lang/invoke/MethodHandle" ∧ y_Md_gone.cls ≠ "java/lang/invoke/VarHandle" ∧ (parseMethodDescriptor y_Md_gone.desc).map (fun d => d.parameters.length) = some 1 := by decide +kernel
theorem d_Md_many_0 : decode b_Md_many 0 = .ok (.aload_n 0, 1) := by decide +kernel
theorem d_Md_many_1 : decode b_Md_many 1 = .ok (.getfield 30, 3) := by decide +kernel
theorem d_Md_many_4 : decode b_Md_many 4 = .ok (.ifCond .lt 13, 3) := by decide +kernel
theorem d_Md_many_7 : decode b_Md_many 7 = .ok (.iload_n 1, 1) := by decide +kernel
theorem d_Md_many_8 : decode b_Md_many 8 = .ok (.ifCond .lt 9, 3) := by decide +kernel
theorem d_Md_many_11 : decode b_Md_many 11 = .ok (.iload_n 1, 1) := by decide +kernel
theorem d_Md_many_12 : decode b_Md_many 12 = .ok (.bipush 6, 2) := by decide +kernel
theorem d_Md_many_14 : decode b_Md_many 14 = .ok (.if_icmp .le 5, 3) := by decide +kernel
theorem d_Md_many_17 : decode b_Md_many 17 = .ok (.iconst (-1), 1) := by decide +kernel
theorem d_Md_many_18 : decode b_Md_many 18 = .ok (.ireturn, 1) := by decide +kernel
theorem d_Md_many_19 : decode b_Md_many 19 = .ok (.iconst 0, 1) := by decide +kernel
theorem d_Md_many_20 : decode b_Md_many 20 = .ok (.istore_n 2, 1) := by decide +kernel
theorem d_Md_many_21 : decode b_Md_many 21 = .ok (.iconst (-1), 1) := by decide +kernel
theorem d_Md_many_22 : decode b_Md_many 22 = .ok (.istore_n 3, 1) := by decide +kernel
theorem d_Md_many_23 : decode b_Md_many 23 = .ok (.iconst 0, 1) := by decide +kernel
theorem d_Md_many_24 : decode b_Md_many 24 = .ok (.istore 4, 2) := by decide +kernel
theorem d_Md_many_26 : decode b_Md_many 26 = .ok (.iload 4, 2) := by decide +kernel
theorem d_Md_many_28 : decode b_Md_many 28 = .ok (.sipush 4096, 3) := by decide +kernel
theorem d_Md_many_31 : decode b_Md_many 31 = .ok (.if_icmp .ge 218, 3) := by decide +kernel
theorem d_Md_many_34 : decode b_Md_many 34 = .ok (.aload_n 0, 1) := by decide +kernel
theorem d_Md_many_35 : decode b_Md_many 35 = .ok (.getfield 73, 3) := by decide +kernel
theorem d_Md_many_38 : decode b_Md_many 38 = .ok (.iload 4, 2) := by decide +kernel
theorem d_Md_many_40 : decode b_Md_many 40 = .ok (.iaload, 1) := by decide +kernel
theorem d_Md_many_41 : decode b_Md_many 41 = .ok (.ifCond .lt 7, 3) := by decide +kernel
theorem d_Md_many_44 : decode b_Md_many 44 = .ok (.iconst 1, 1) := by decide +kernel
theorem d_Md_many_45 : decode b_Md_many 45 = .ok (.goto 4, 3) := by decide +kernel
theorem d_Md_many_48 : decode b_Md_many 48 = .ok (.iconst 0, 1) := by decide +kernel
theorem d_Md_many_49 : decode b_Md_many 49 = .ok (.istore 5, 2) := by decide +kernel
theorem d_Md_many_51 : decode b_Md_many 51 = .ok (.aload_n 0, 1) := by decide +kernel
theorem d_Md_many_52 : decode b_Md_many 52 = .ok (.getfield 73, 3) := by decide +kernel
theorem d_Md_many_55 : decode b_Md_many 55 = .ok (.iload 4, 2) := by decide +kernel
theorem d_Md_many_57 : decode b_Md_many 57 = .ok (.iaload, 1) := by decide +kernel
theorem d_Md_many_58 : decode b_Md_many 58 = .ok (.iload_n 3, 1) := by decide +kernel
theorem d_Md_many_59 : decode b_Md_many 59 = .ok (.if_icmp .le 13, 3) := by decide +kernel
theorem d_Md_many_62 : decode b_Md_many 62 = .ok (.aload_n 0, 1) := by decide +kernel
theorem d_Md_many_63 : decode b_Md_many 63 = .ok (.getfield 73, 3) := by decide +kernel
theorem d_Md_many_66 : decode b_Md_many 66 = .ok (.iload 4, 2) := by decide +kernel
theorem d_Md_many_68 : decode b_Md_many 68 = .ok (.iaload, 1) := by decide +kernel
theorem d_Md_many_69 : decode b_Md_many 69 = .ok (.goto 4, 3) := by decide +kernel
theorem d_Md_many_72 : decode b_Md_many 72 = .ok (.iload_n 3, 1) := by decide +kernel
theorem d_Md_many_73 : decode b_Md_many 73 = .ok (.istore_n 3, 1) := by decide +kernel
theorem d_Md_many_74 : decode b_Md_many 74 = .ok (.iload_n 1, 1) := by decide +kernel
theorem d_Md_many_75 : decode b_Md_many 75 = .ok (.tableswitch 141 0 5 #[37, 58, 79, 95, 141, 120], 37) := by decide +kernel
theorem d_Md_many_112 : decode b_Md_many 112 = .ok (.iload_n 2, 1) := by decide +kernel
theorem d_Md_many_113 : decode b_Md_many 113 = .ok (.aload_n 0, 1) := by decide +kernel
theorem d_Md_many_114 : decode b_Md_many 114 = .ok (.getfield 66, 3) := by decide +kernel
theorem d_Md_many_117 : decode b_Md_many 117 = .ok (.iload 4, 2) := by decide +kernel
theorem d_Md_many_119 : decode b_Md_many 119 = .ok (.baload, 1) := by decide +kernel
theorem d_Md_many_120 : decode b_Md_many 120 = .ok (.ifCond .eq 7, 3) := by decide +kernel
theorem d_Md_many_123 : decode b_Md_many 123 = .ok (.iconst 1, 1) := by decide +kernel
theorem d_Md_many_124 : decode b_Md_many 124 = .ok (.goto 4, 3) := by decide +kernel
theorem d_Md_many_127 : decode b_Md_many 127 = .ok (.iconst 0, 1) := by decide +kernel
theorem d_Md_many_128 : decode b_Md_many 128 = .ok (.iadd, 1) := by decide +kernel
theorem d_Md_many_129 : decode b_Md_many 129 = .ok (.istore_n 2, 1) := by decide +kernel
theorem d_Md_many_130 : decode b_Md_many 130 = .ok (.goto 113, 3) := by decide +kernel
theorem d_Md_many_133 : decode b_Md_many 133 = .ok (.iload_n 2, 1) := by decide +kernel
theorem d_Md_many_134 : decode b_Md_many 134 = .ok (.aload_n 0, 1) := by decide +kernel
theorem d_Md_many_135 : decode b_Md_many 135 = .ok (.getfield 70, 3) := by decide +kernel
theorem d_Md_many_138 : decode b_Md_many 138 = .ok (.iload 4, 2) := by decide +kernel
theorem d_Md_many_140 : decode b_Md_many 140 = .ok (.baload, 1) := by decide +kernel
theorem d_Md_many_141 : decode b_Md_many 141 = .ok (.ifCond .eq 7, 3) := by decide +kernel
theorem d_Md_many_144 : decode b_Md_many 144 = .ok (.iconst 1, 1) := by decide +kernel
theorem d_Md_many_145 : decode b_Md_many 145 = .ok (.goto 4, 3) := by decide +kernel
theorem d_Md_many_148 : decode b_Md_many 148 = .ok (.iconst 0, 1) := by decide +kernel
theorem d_Md_many_149 : decode b_Md_many 149 = .ok (.iadd, 1) := by decide +kernel
theorem d_Md_many_150 : decode b_Md_many 150 = .ok (.istore_n 2, 1) := by decide +kernel
theorem d_Md_many_151 : decode b_Md_many 151 = .ok (.goto 92, 3) := by decide +kernel
theorem d_Md_many_154 : decode b_Md_many 154 = .ok (.iload_n 2, 1) := by decide +kernel
theorem d_Md_many_155 : decode b_Md_many 155 = .ok (.iload 5, 2) := by decide +kernel
theorem d_Md_many_157 : decode b_Md_many 157 = .ok (.ifCond .eq 7, 3) := by decide +kernel
theorem d_Md_many_160 : decode b_Md_many 160 = .ok (.iconst 1, 1) := by decide +kernel
theorem d_Md_many_161 : decode b_Md_many 161 = .ok (.goto 4, 3) := by decide +kernel
theorem d_Md_many_164 : decode b_Md_many 164 = .ok (.iconst 0, 1) := by decide +kernel
theorem d_Md_many_165 : decode b_Md_many 165 = .ok (.iadd, 1) := by decide +kernel
theorem d_Md_many_166 : decode b_Md_many 166 = .ok (.istore_n 2, 1) := by decide +kernel
theorem d_Md_many_167 : decode b_Md_many 167 = .ok (.goto 76, 3) := by decide +kernel
theorem d_Md_many_170 : decode b_Md_many 170 = .ok (.iload_n 2, 1) := by decide +kernel
theorem d_Md_many_171 : decode b_Md_many 171 = .ok (.iload 5, 2) := by decide +kernel
theorem d_Md_many_173 : decode b_Md_many 173 = .ok (.ifCond .eq 16, 3) := by decide +kernel
theorem d_Md_many_176 : decode b_Md_many 176 = .ok (.aload_n 0, 1) := by decide +kernel
theorem d_Md_many_177 : decode b_Md_many 177 = .ok (.iload 4, 2) := by decide +kernel
theorem d_Md_many_179 : decode b_Md_many 179 = .ok (.invokevirtual 270, 3) := by decide +kernel
theorem d_Md_many_182 : decode b_Md_many 182 = .ok (.ifCond .eq 7, 3) := by decide +kernel
theorem d_Md_many_185 : decode b_Md_many 185 = .ok (.iconst 1, 1) := by decide +kernel
theorem d_Md_many_186 : decode b_Md_many 186 = .ok (.goto 4, 3) := by decide +kernel
theorem d_Md_many_189 : decode b_Md_many 189 = .ok (.iconst 0, 1) := by decide +kernel
theorem d_Md_many_190 : decode b_Md_many 190 = .ok (.iadd, 1) := by decide +kernel
theorem d_Md_many_191 : decode b_Md_many 191 = .ok (.istore_n 2, 1) := by decide +kernel
theorem d_Md_many_192 : decode b_Md_many 192 = .ok (.goto 51, 3) := by decide +kernel
theorem d_Md_many_195 : decode b_Md_many 195 = .ok (.iload_n 2, 1) := by decide +kernel
theorem d_Md_many_196 : decode b_Md_many 196 = .ok (.iload 5, 2) := by decide +kernel
theorem d_Md_many_198 : decode b_Md_many 198 = .ok (.ifCond .eq 12, 3) := by decide +kernel
theorem d_Md_many_201 : decode b_Md_many 201 = .ok (.aload_n 0, 1) := by decide +kernel
theorem d_Md_many_202 : decode b_Md_many 202 = .ok (.iload 4, 2) := by decide +kernel
theorem d_Md_many_204 : decode b_Md_many 204 = .ok (.invokevirtual 273, 3) := by decide +kernel
theorem d_Md_many_207 : decode b_Md_many 207 = .ok (.goto 4, 3) := by decide +kernel
theorem d_Md_many_210 : decode b_Md_many 210 = .ok (.iconst 0, 1) := by decide +kernel
theorem d_Md_many_211 : decode b_Md_many 211 = .ok (.iadd, 1) := by decide +kernel
theorem d_Md_many_212 : decode b_Md_many 212 = .ok (.istore_n 2, 1) := by decide +kernel
theorem d_Md_many_213 : decode b_Md_many 213 = .ok (.goto 30, 3) := by decide +kernel
theorem d_Md_many_216 : decode b_Md_many 216 = .ok (.iload_n 2, 1) := by decide +kernel
theorem d_Md_many_217 : decode b_Md_many 217 = .ok (.aload_n 0, 1) := by decide +kernel
theorem d_Md_many_218 : decode b_Md_many 218 = .ok (.getfield 79, 3) := by decide +kernel
theorem d_Md_many_221 : decode b_Md_many 221 = .ok (.iload 4, 2) := by decide +kernel
theorem d_Md_many_223 : decode b_Md_many 223 = .ok (.iaload, 1) := by decide +kernel
theorem d_Md_many_224 : decode b_Md_many 224 = .ok (.aload_n 0, 1) := by decide +kernel
theorem d_Md_many_225 : decode b_Md_many 225 = .ok (.getfield 264, 3) := by decide +kernel
theorem d_Md_many_228 : decode b_Md_many 228 = .ok (.iand, 1) := by decide +kernel
theorem d_Md_many_229 : decode b_Md_many 229 = .ok (.aload_n 0, 1) := by decide +kernel
theorem d_Md_many_230 : decode b_Md_many 230 = .ok (.getfield 264, 3) := by decide +kernel
theorem d_Md_many_233 : decode b_Md_many 233 = .ok (.if_icmp .ne 7, 3) := by decide +kernel
theorem d_Md_many_236 : decode b_Md_many 236 = .ok (.iconst 1, 1) := by decide +kernel
theorem d_Md_many_237 : decode b_Md_many 237 = .ok (.goto 4, 3) := by decide +kernel
theorem d_Md_many_240 : decode b_Md_many 240 = .ok (.iconst 0, 1) := by decide +kernel
theorem d_Md_many_241 : decode b_Md_many 241 = .ok (.iadd, 1) := by decide +kernel
theorem d_Md_many_242 : decode b_Md_many 242 = .ok (.istore_n 2, 1) := by decide +kernel
theorem d_Md_many_243 : decode b_Md_many 243 = .ok (.iinc 4 1, 3) := by decide +kernel
theorem d_Md_many_246 : decode b_Md_many 246 = .ok (.goto (-220), 3) := by decide +kernel
theorem d_Md_many_249 : decode b_Md_many 249 = .ok (.iload_n 1, 1) := by decide +kernel
theorem d_Md_many_250 : decode b_Md_many 250 = .ok (.iconst 4, 1) := by decide +kernel
theorem d_Md_many_251 : decode b_Md_many 251 = .ok (.if_icmp .ne 7, 3) := by decide +kernel
theorem d_Md_many_254 : decode b_Md_many 254 = .ok (.iload_n 3, 1) := by decide +kernel
theorem d_Md_many_255 : decode b_Md_many 255 = .ok (.goto 4, 3) := by decide +kernel
theorem d_Md_many_258 : decode b_Md_many 258 = .ok (.iload_n 2, 1) := by decide +kernel
theorem d_Md_many_259 : decode b_Md_many 259 = .ok (.ireturn, 1) := by decide +kernel
theorem d_Md_level_0 : decode b_Md_level 0 = .ok (.aload_n 0, 1) := by decide +kernel
theorem d_Md_level_1 : decode b_Md_level 1 = .ok (.iload_n 1, 1) := by decide +kernel
theorem d_Md_level_2 : decode b_Md_level 2 = .ok (.invokevirtual 267, 3) := by decide +kernel
theorem d_Md_level_5 : decode b_Md_level 5 = .ok (.ifCond .eq 12, 3) := by decide +kernel
theorem d_Md_level_8 : decode b_Md_level 8 = .ok (.aload_n 0, 1) := by decide +kernel
theorem d_Md_level_9 : decode b_Md_level 9 = .ok (.getfield 73, 3) := by decide +kernel
theorem d_Md_level_12 : decode b_Md_level 12 = .ok (.iload_n 1, 1) := by decide +kernel
theorem d_Md_level_13 : decode b_Md_level 13 = .ok (.iaload, 1) := by decide +kernel
theorem d_Md_level_14 : decode b_Md_level 14 = .ok (.goto 4, 3) := by decide +kernel
theorem d_Md_level_17 : decode b_Md_level 17 = .ok (.iconst (-1), 1) := by decide +kernel
theorem d_Md_level_18 : decode b_Md_level 18 = .ok (.ireturn, 1) := by decide +kernel
theorem d_Md_markRuns_0 : decode b_Md_markRuns 0 = .ok (.iconst (-1), 1) := by decide +kernel
theorem d_Md_markRuns_1 : decode b_Md_markRuns 1 = .ok (.istore_n 1, 1) := by decide +kernel
theorem d_Md_markRuns_2 : decode b_Md_markRuns 2 = .ok (.iconst 0, 1) := by decide +kernel
theorem d_Md_markRuns_3 : decode b_Md_markRuns 3 = .ok (.istore_n 2, 1) := by decide +kernel
theorem d_Md_markRuns_4 : decode b_Md_markRuns 4 = .ok (.iload_n 2, 1) := by decide +kernel
theorem d_Md_markRuns_5 : decode b_Md_markRuns 5 = .ok (.sipush 4096, 3) := by decide +kernel
theorem d_Md_markRuns_8 : decode b_Md_markRuns 8 = .ok (.if_icmp .ge 52, 3) := by decide +kernel
theorem d_Md_markRuns_11 : decode b_Md_markRuns 11 = .ok (.aload_n 0, 1) := by decide +kernel
theorem d_Md_markRuns_12 : decode b_Md_markRuns 12 = .ok (.getfield 73, 3) := by decide +kernel
theorem d_Md_markRuns_15 : decode b_Md_markRuns 15 = .ok (.iload_n 2, 1) := by decide +kernel
theorem d_Md_markRuns_16 : decode b_Md_markRuns 16 = .ok (.iaload, 1) := by decide +kernel
theorem d_Md_markRuns_17 : decode b_Md_markRuns 17 = .ok (.ifCond .lt 35, 3) := by decide +kernel
theorem d_Md_markRuns_20 : decode b_Md_markRuns 20 = .ok (.aload_n 0, 1) := by decide +kernel
theorem d_Md_markRuns_21 : decode b_Md_markRuns 21 = .ok (.getfield 70, 3) := by decide +kernel
theorem d_Md_markRuns_24 : decode b_Md_markRuns 24 = .ok (.iload_n 2, 1) := by decide +kernel
theorem d_Md_markRuns_25 : decode b_Md_markRuns 25 = .ok (.baload, 1) := by decide +kernel
theorem d_Md_markRuns_26 : decode b_Md_markRuns 26 = .ok (.ifCond .ne 26, 3) := by decide +kernel
theorem d_Md_markRuns_29 : decode b_Md_markRuns 29 = .ok (.iload_n 1, 1) := by decide +kernel
theorem d_Md_markRuns_30 : decode b_Md_markRuns 30 = .ok (.ifCond .lt 13, 3) := by decide +kernel
theorem d_Md_markRuns_33 : decode b_Md_markRuns 33 = .ok (.aload_n 0, 1) := by decide +kernel
theorem d_Md_markRuns_34 : decode b_Md_markRuns 34 = .ok (.getfield 73, 3) := by decide +kernel
theorem d_Md_markRuns_37 : decode b_Md_markRuns 37 = .ok (.iload_n 2, 1) := by decide +kernel
theorem d_Md_markRuns_38 : decode b_Md_markRuns 38 = .ok (.iaload, 1) := by decide +kernel
theorem d_Md_markRuns_39 : decode b_Md_markRuns 39 = .ok (.iload_n 1, 1) := by decide +kernel
theorem d_Md_markRuns_40 : decode b_Md_markRuns 40 = .ok (.if_icmp .ge 12, 3) := by decide +kernel
theorem d_Md_markRuns_43 : decode b_Md_markRuns 43 = .ok (.aload_n 0, 1) := by decide +kernel
theorem d_Md_markRuns_44 : decode b_Md_markRuns 44 = .ok (.getfield 73, 3) := by decide +kernel
theorem d_Md_markRuns_47 : decode b_Md_markRuns 47 = .ok (.iload_n 2, 1) := by decide +kernel
theorem d_Md_markRuns_48 : decode b_Md_markRuns 48 = .ok (.iaload, 1) := by decide +kernel
theorem d_Md_markRuns_49 : decode b_Md_markRuns 49 = .ok (.goto 4, 3) := by decide +kernel
theorem d_Md_markRuns_52 : decode b_Md_markRuns 52 = .ok (.iload_n 1, 1) := by decide +kernel
theorem d_Md_markRuns_53 : decode b_Md_markRuns 53 = .ok (.istore_n 1, 1) := by decide +kernel
theorem d_Md_markRuns_54 : decode b_Md_markRuns 54 = .ok (.iinc 2 1, 3) := by decide +kernel
theorem d_Md_markRuns_57 : decode b_Md_markRuns 57 = .ok (.goto (-53), 3) := by decide +kernel
theorem d_Md_markRuns_60 : decode b_Md_markRuns 60 = .ok (.iconst 0, 1) := by decide +kernel
theorem d_Md_markRuns_61 : decode b_Md_markRuns 61 = .ok (.istore_n 2, 1) := by decide +kernel
theorem d_Md_markRuns_62 : decode b_Md_markRuns 62 = .ok (.iload_n 2, 1) := by decide +kernel
theorem d_Md_markRuns_63 : decode b_Md_markRuns 63 = .ok (.sipush 4096, 3) := by decide +kernel
theorem d_Md_markRuns_66 : decode b_Md_markRuns 66 = .ok (.if_icmp .ge 43, 3) := by decide +kernel
theorem d_Md_markRuns_69 : decode b_Md_markRuns 69 = .ok (.aload_n 0, 1) := by decide +kernel
theorem d_Md_markRuns_70 : decode b_Md_markRuns 70 = .ok (.getfield 85, 3) := by decide +kernel
theorem d_Md_markRuns_73 : decode b_Md_markRuns 73 = .ok (.iload_n 2, 1) := by decide +kernel
theorem d_Md_markRuns_74 : decode b_Md_markRuns 74 = .ok (.iload_n 1, 1) := by decide +kernel
theorem d_Md_markRuns_75 : decode b_Md_markRuns 75 = .ok (.ifCond .lt 26, 3) := by decide +kernel
theorem d_Md_markRuns_78 : decode b_Md_markRuns 78 = .ok (.aload_n 0, 1) := by decide +kernel
theorem d_Md_markRuns_79 : decode b_Md_markRuns 79 = .ok (.getfield 73, 3) := by decide +kernel
theorem d_Md_markRuns_82 : decode b_Md_markRuns 82 = .ok (.iload_n 2, 1) := by decide +kernel
theorem d_Md_markRuns_83 : decode b_Md_markRuns 83 = .ok (.iaload, 1) := by decide +kernel
theorem d_Md_markRuns_84 : decode b_Md_markRuns 84 = .ok (.iload_n 1, 1) := by decide +kernel
theorem d_Md_markRuns_85 : decode b_Md_markRuns 85 = .ok (.if_icmp .ne 16, 3) := by decide +kernel
theorem d_Md_markRuns_88 : decode b_Md_markRuns 88 = .ok (.aload_n 0, 1) := by decide +kernel
theorem d_Md_markRuns_89 : decode b_Md_markRuns 89 = .ok (.getfield 70, 3) := by decide +kernel
theorem d_Md_markRuns_92 : decode b_Md_markRuns 92 = .ok (.iload_n 2, 1) := by decide +kernel
theorem d_Md_markRuns_93 : decode b_Md_markRuns 93 = .ok (.baload, 1) := by decide +kernel
theorem d_Md_markRuns_94 : decode b_Md_markRuns 94 = .ok (.ifCond .ne 7, 3) := by decide +kernel
theorem d_Md_markRuns_97 : decode b_Md_markRuns 97 = .ok (.iconst 1, 1) := by decide +kernel
theorem d_Md_markRuns_98 : decode b_Md_markRuns 98 = .ok (.goto 4, 3) := by decide +kernel
theorem d_Md_markRuns_101 : decode b_Md_markRuns 101 = .ok (.iconst 0, 1) := by decide +kernel
theorem d_Md_markRuns_102 : decode b_Md_markRuns 102 = .ok (.bastore, 1) := by decide +kernel
theorem d_Md_markRuns_103 : decode b_Md_markRuns 103 = .ok (.iinc 2 1, 3) := by decide +kernel
theorem d_Md_markRuns_106 : decode b_Md_markRuns 106 = .ok (.goto (-44), 3) := by decide +kernel
theorem d_Md_markRuns_109 : decode b_Md_markRuns 109 = .ok (.iload_n 1, 1) := by decide +kernel
theorem d_Md_markRuns_110 : decode b_Md_markRuns 110 = .ok (.iconst 1, 1) := by decide +kernel
theorem d_Md_markRuns_111 : decode b_Md_markRuns 111 = .ok (.isub, 1) := by decide +kernel
theorem d_Md_markRuns_112 : decode b_Md_markRuns 112 = .ok (.istore_n 2, 1) := by decide +kernel
theorem d_Md_markRuns_113 : decode b_Md_markRuns 113 = .ok (.iload_n 2, 1) := by decide +kernel
theorem d_Md_markRuns_114 : decode b_Md_markRuns 114 = .ok (.ifCond .lt 112, 3) := by decide +kernel
theorem d_Md_markRuns_117 : decode b_Md_markRuns 117 = .ok (.iconst 0, 1) := by decide +kernel
theorem d_Md_markRuns_118 : decode b_Md_markRuns 118 = .ok (.istore_n 3, 1) := by decide +kernel
theorem d_Md_markRuns_119 : decode b_Md_markRuns 119 = .ok (.iload_n 3, 1) := by decide +kernel
theorem d_Md_markRuns_120 : decode b_Md_markRuns 120 = .ok (.sipush 4096, 3) := by decide +kernel
theorem d_Md_markRuns_123 : decode b_Md_markRuns 123 = .ok (.if_icmp .ge 97, 3) := by decide +kernel
theorem d_Md_markRuns_126 : decode b_Md_markRuns 126 = .ok (.iconst 0, 1) := by decide +kernel
theorem d_Md_markRuns_127 : decode b_Md_markRuns 127 = .ok (.istore 4, 2) := by decide +kernel
theorem d_Md_markRuns_129 : decode b_Md_markRuns 129 = .ok (.iload 4, 2) := by decide +kernel
theorem d_Md_markRuns_131 : decode b_Md_markRuns 131 = .ok (.bipush 6, 2) := by decide +kernel
theorem d_Md_markRuns_133 : decode b_Md_markRuns 133 = .ok (.if_icmp .ge 81, 3) := by decide +kernel
theorem d_Md_markRuns_136 : decode b_Md_markRuns 136 = .ok (.aload_n 0, 1) := by decide +kernel
theorem d_Md_markRuns_137 : decode b_Md_markRuns 137 = .ok (.getfield 73, 3) := by decide +kernel
theorem d_Md_markRuns_140 : decode b_Md_markRuns 140 = .ok (.iload_n 3, 1) := by decide +kernel
theorem d_Md_markRuns_141 : decode b_Md_markRuns 141 = .ok (.iaload, 1) := by decide +kernel
theorem d_Md_markRuns_142 : decode b_Md_markRuns 142 = .ok (.iload_n 2, 1) := by decide +kernel
theorem d_Md_markRuns_143 : decode b_Md_markRuns 143 = .ok (.if_icmp .ne 71, 3) := by decide +kernel
theorem d_Md_markRuns_146 : decode b_Md_markRuns 146 = .ok (.aload_n 0, 1) := by decide +kernel
theorem d_Md_markRuns_147 : decode b_Md_markRuns 147 = .ok (.getfield 63, 3) := by decide +kernel
theorem d_Md_markRuns_150 : decode b_Md_markRuns 150 = .ok (.bipush 6, 2) := by decide +kernel
theorem d_Md_markRuns_152 : decode b_Md_markRuns 152 = .ok (.iload_n 3, 1) := by decide +kernel
theorem d_Md_markRuns_153 : decode b_Md_markRuns 153 = .ok (.imul, 1) := by decide +kernel
theorem d_Md_markRuns_154 : decode b_Md_markRuns 154 = .ok (.iload 4, 2) := by decide +kernel
theorem d_Md_markRuns_156 : decode b_Md_markRuns 156 = .ok (.iadd, 1) := by decide +kernel
theorem d_Md_markRuns_157 : decode b_Md_markRuns 157 = .ok (.iaload, 1) := by decide +kernel
theorem d_Md_markRuns_158 : decode b_Md_markRuns 158 = .ok (.istore 5, 2) := by decide +kernel
theorem d_Md_markRuns_160 : decode b_Md_markRuns 160 = .ok (.aload_n 0, 1) := by decide +kernel
theorem d_Md_markRuns_161 : decode b_Md_markRuns 161 = .ok (.getfield 85, 3) := by decide +kernel
theorem d_Md_markRuns_164 : decode b_Md_markRuns 164 = .ok (.iload_n 3, 1) := by decide +kernel
theorem d_Md_markRuns_165 : decode b_Md_markRuns 165 = .ok (.aload_n 0, 1) := by decide +kernel
theorem d_Md_markRuns_166 : decode b_Md_markRuns 166 = .ok (.getfield 85, 3) := by decide +kernel
theorem d_Md_markRuns_169 : decode b_Md_markRuns 169 = .ok (.iload_n 3, 1) := by decide +kernel
theorem d_Md_markRuns_170 : decode b_Md_markRuns 170 = .ok (.baload, 1) := by decide +kernel
theorem d_Md_markRuns_171 : decode b_Md_markRuns 171 = .ok (.ifCond .ne 31, 3) := by decide +kernel
theorem d_Md_markRuns_174 : decode b_Md_markRuns 174 = .ok (.iload 5, 2) := by decide +kernel
theorem d_Md_markRuns_176 : decode b_Md_markRuns 176 = .ok (.ifCond .lt 30, 3) := by decide +kernel
theorem d_Md_markRuns_179 : decode b_Md_markRuns 179 = .ok (.aload_n 0, 1) := by decide +kernel
theorem d_Md_markRuns_180 : decode b_Md_markRuns 180 = .ok (.getfield 73, 3) := by decide +kernel
theorem d_Md_markRuns_183 : decode b_Md_markRuns 183 = .ok (.iload 5, 2) := by decide +kernel
theorem d_Md_markRuns_185 : decode b_Md_markRuns 185 = .ok (.iaload, 1) := by decide +kernel
theorem d_Md_markRuns_186 : decode b_Md_markRuns 186 = .ok (.iload_n 2, 1) := by decide +kernel
theorem d_Md_markRuns_187 : decode b_Md_markRuns 187 = .ok (.iconst 1, 1) := by decide +kernel
theorem d_Md_markRuns_188 : decode b_Md_markRuns 188 = .ok (.iadd, 1) := by decide +kernel
theorem d_Md_markRuns_189 : decode b_Md_markRuns 189 = .ok (.if_icmp .ne 17, 3) := by decide +kernel
theorem d_Md_markRuns_192 : decode b_Md_markRuns 192 = .ok (.aload_n 0, 1) := by decide +kernel
theorem d_Md_markRuns_193 : decode b_Md_markRuns 193 = .ok (.getfield 85, 3) := by decide +kernel
theorem d_Md_markRuns_196 : decode b_Md_markRuns 196 = .ok (.iload 5, 2) := by decide +kernel
theorem d_Md_markRuns_198 : decode b_Md_markRuns 198 = .ok (.baload, 1) := by decide +kernel
theorem d_Md_markRuns_199 : decode b_Md_markRuns 199 = .ok (.ifCond .eq 7, 3) := by decide +kernel
theorem d_Md_markRuns_202 : decode b_Md_markRuns 202 = .ok (.iconst 1, 1) := by decide +kernel
theorem d_Md_markRuns_203 : decode b_Md_markRuns 203 = .ok (.goto 4, 3) := by decide +kernel
theorem d_Md_markRuns_206 : decode b_Md_markRuns 206 = .ok (.iconst 0, 1) := by decide +kernel
theorem d_Md_markRuns_207 : decode b_Md_markRuns 207 = .ok (.bastore, 1) := by decide +kernel
theorem d_Md_markRuns_208 : decode b_Md_markRuns 208 = .ok (.iinc 4 1, 3) := by decide +kernel
theorem d_Md_markRuns_211 : decode b_Md_markRuns 211 = .ok (.goto (-82), 3) := by decide +kernel
theorem d_Md_markRuns_214 : decode b_Md_markRuns 214 = .ok (.iinc 3 1, 3) := by decide +kernel
theorem d_Md_markRuns_217 : decode b_Md_markRuns 217 = .ok (.goto (-98), 3) := by decide +kernel
theorem d_Md_markRuns_220 : decode b_Md_markRuns 220 = .ok (.iinc 2 (-1), 3) := by decide +kernel
theorem d_Md_markRuns_223 : decode b_Md_markRuns 223 = .ok (.goto (-110), 3) := by decide +kernel
theorem d_Md_markRuns_226 : decode b_Md_markRuns 226 = .ok (.iload_n 1, 1) := by decide +kernel
theorem d_Md_markRuns_227 : decode b_Md_markRuns 227 = .ok (.ireturn, 1) := by decide +kernel
theorem d_Md_counter_0 : decode b_Md_counter 0 = .ok (.aload_n 0, 1) := by decide +kernel
theorem d_Md_counter_1 : decode b_Md_counter 1 = .ok (.getfield 30, 3) := by decide +kernel
theorem d_Md_counter_4 : decode b_Md_counter 4 = .ok (.ifCond .ge 5, 3) := by decide +kernel
theorem d_Md_counter_7 : decode b_Md_counter 7 = .ok (.iconst (-1), 1) := by decide +kernel
theorem d_Md_counter_8 : decode b_Md_counter 8 = .ok (.ireturn, 1) := by decide +kernel
theorem d_Md_counter_9 : decode b_Md_counter 9 = .ok (.aload_n 0, 1) := by decide +kernel
theorem d_Md_counter_10 : decode b_Md_counter 10 = .ok (.invokevirtual 276, 3) := by decide +kernel
theorem d_Md_counter_13 : decode b_Md_counter 13 = .ok (.istore_n 2, 1) := by decide +kernel
theorem d_Md_counter_14 : decode b_Md_counter 14 = .ok (.iload_n 1, 1) := by decide +kernel
theorem d_Md_counter_15 : decode b_Md_counter 15 = .ok (.ifCond .lt 8, 3) := by decide +kernel
theorem d_Md_counter_18 : decode b_Md_counter 18 = .ok (.iload_n 1, 1) := by decide +kernel
theorem d_Md_counter_19 : decode b_Md_counter 19 = .ok (.iload_n 2, 1) := by decide +kernel
theorem d_Md_counter_20 : decode b_Md_counter 20 = .ok (.if_icmp .le 5, 3) := by decide +kernel
theorem d_Md_counter_23 : decode b_Md_counter 23 = .ok (.iconst (-1), 1) := by decide +kernel
theorem d_Md_counter_24 : decode b_Md_counter 24 = .ok (.ireturn, 1) := by decide +kernel
theorem d_Md_counter_25 : decode b_Md_counter 25 = .ok (.iconst 0, 1) := by decide +kernel
theorem d_Md_counter_26 : decode b_Md_counter 26 = .ok (.istore_n 3, 1) := by decide +kernel
theorem d_Md_counter_27 : decode b_Md_counter 27 = .ok (.aload_n 0, 1) := by decide +kernel
theorem d_Md_counter_28 : decode b_Md_counter 28 = .ok (.getfield 85, 3) := by decide +kernel
theorem d_Md_counter_31 : decode b_Md_counter 31 = .ok (.iload_n 3, 1) := by decide +kernel
theorem d_Md_counter_32 : decode b_Md_counter 32 = .ok (.baload, 1) := by decide +kernel
theorem d_Md_counter_33 : decode b_Md_counter 33 = .ok (.ifCond .eq 12, 3) := by decide +kernel
theorem d_Md_counter_36 : decode b_Md_counter 36 = .ok (.aload_n 0, 1) := by decide +kernel
theorem d_Md_counter_37 : decode b_Md_counter 37 = .ok (.getfield 73, 3) := by decide +kernel
theorem d_Md_counter_40 : decode b_Md_counter 40 = .ok (.iload_n 3, 1) := by decide +kernel
theorem d_Md_counter_41 : decode b_Md_counter 41 = .ok (.iaload, 1) := by decide +kernel
theorem d_Md_counter_42 : decode b_Md_counter 42 = .ok (.ifCond .eq 9, 3) := by decide +kernel
theorem d_Md_counter_45 : decode b_Md_counter 45 = .ok (.iinc 3 1, 3) := by decide +kernel
theorem d_Md_counter_48 : decode b_Md_counter 48 = .ok (.goto (-21), 3) := by decide +kernel
theorem d_Md_counter_51 : decode b_Md_counter 51 = .ok (.iconst 1, 1) := by decide +kernel
theorem d_Md_counter_52 : decode b_Md_counter 52 = .ok (.istore 4, 2) := by decide +kernel
theorem d_Md_counter_54 : decode b_Md_counter 54 = .ok (.iload 4, 2) := by decide +kernel
theorem d_Md_counter_56 : decode b_Md_counter 56 = .ok (.iload_n 1, 1) := by decide +kernel
theorem d_Md_counter_57 : decode b_Md_counter 57 = .ok (.if_icmp .gt 90, 3) := by decide +kernel
theorem d_Md_counter_60 : decode b_Md_counter 60 = .ok (.sipush 4096, 3) := by decide +kernel
theorem d_Md_counter_63 : decode b_Md_counter 63 = .ok (.istore 5, 2) := by decide +kernel
theorem d_Md_counter_65 : decode b_Md_counter 65 = .ok (.iconst 0, 1) := by decide +kernel
theorem d_Md_counter_66 : decode b_Md_counter 66 = .ok (.istore 6, 2) := by decide +kernel
theorem d_Md_counter_68 : decode b_Md_counter 68 = .ok (.iload 6, 2) := by decide +kernel
theorem d_Md_counter_70 : decode b_Md_counter 70 = .ok (.bipush 6, 2) := by decide +kernel
theorem d_Md_counter_72 : decode b_Md_counter 72 = .ok (.if_icmp .ge 66, 3) := by decide +kernel
theorem d_Md_counter_75 : decode b_Md_counter 75 = .ok (.aload_n 0, 1) := by decide +kernel
theorem d_Md_counter_76 : decode b_Md_counter 76 = .ok (.getfield 63, 3) := by decide +kernel
theorem d_Md_counter_79 : decode b_Md_counter 79 = .ok (.bipush 6, 2) := by decide +kernel
theorem d_Md_counter_81 : decode b_Md_counter 81 = .ok (.iload_n 3, 1) := by decide +kernel
theorem d_Md_counter_82 : decode b_Md_counter 82 = .ok (.imul, 1) := by decide +kernel
theorem d_Md_counter_83 : decode b_Md_counter 83 = .ok (.iload 6, 2) := by decide +kernel
theorem d_Md_counter_85 : decode b_Md_counter 85 = .ok (.iadd, 1) := by decide +kernel
theorem d_Md_counter_86 : decode b_Md_counter 86 = .ok (.iaload, 1) := by decide +kernel
theorem d_Md_counter_87 : decode b_Md_counter 87 = .ok (.istore 7, 2) := by decide +kernel
theorem d_Md_counter_89 : decode b_Md_counter 89 = .ok (.iload 7, 2) := by decide +kernel
theorem d_Md_counter_91 : decode b_Md_counter 91 = .ok (.ifCond .lt 37, 3) := by decide +kernel
theorem d_Md_counter_94 : decode b_Md_counter 94 = .ok (.iload 7, 2) := by decide +kernel
theorem d_Md_counter_96 : decode b_Md_counter 96 = .ok (.iload 5, 2) := by decide +kernel
theorem d_Md_counter_98 : decode b_Md_counter 98 = .ok (.if_icmp .ge 30, 3) := by decide +kernel
theorem d_Md_counter_101 : decode b_Md_counter 101 = .ok (.aload_n 0, 1) := by decide +kernel
theorem d_Md_counter_102 : decode b_Md_counter 102 = .ok (.getfield 85, 3) := by decide +kernel
theorem d_Md_counter_105 : decode b_Md_counter 105 = .ok (.iload 7, 2) := by decide +kernel
theorem d_Md_counter_107 : decode b_Md_counter 107 = .ok (.baload, 1) := by decide +kernel
theorem d_Md_counter_108 : decode b_Md_counter 108 = .ok (.ifCond .eq 20, 3) := by decide +kernel
theorem d_Md_counter_111 : decode b_Md_counter 111 = .ok (.aload_n 0, 1) := by decide +kernel
theorem d_Md_counter_112 : decode b_Md_counter 112 = .ok (.getfield 73, 3) := by decide +kernel
theorem d_Md_counter_115 : decode b_Md_counter 115 = .ok (.iload 7, 2) := by decide +kernel
theorem d_Md_counter_117 : decode b_Md_counter 117 = .ok (.iaload, 1) := by decide +kernel
theorem d_Md_counter_118 : decode b_Md_counter 118 = .ok (.iload 4, 2) := by decide +kernel
theorem d_Md_counter_120 : decode b_Md_counter 120 = .ok (.if_icmp .ne 8, 3) := by decide +kernel
theorem d_Md_counter_123 : decode b_Md_counter 123 = .ok (.iload 7, 2) := by decide +kernel
theorem d_Md_counter_125 : decode b_Md_counter 125 = .ok (.goto 5, 3) := by decide +kernel
theorem d_Md_counter_128 : decode b_Md_counter 128 = .ok (.iload 5, 2) := by decide +kernel
theorem d_Md_counter_130 : decode b_Md_counter 130 = .ok (.istore 5, 2) := by decide +kernel
theorem d_Md_counter_132 : decode b_Md_counter 132 = .ok (.iinc 6 1, 3) := by decide +kernel
theorem d_Md_counter_135 : decode b_Md_counter 135 = .ok (.goto (-67), 3) := by decide +kernel
theorem d_Md_counter_138 : decode b_Md_counter 138 = .ok (.iload 5, 2) := by decide +kernel
theorem d_Md_counter_140 : decode b_Md_counter 140 = .ok (.istore_n 3, 1) := by decide +kernel
theorem d_Md_counter_141 : decode b_Md_counter 141 = .ok (.iinc 4 1, 3) := by decide +kernel
theorem d_Md_counter_144 : decode b_Md_counter 144 = .ok (.goto (-90), 3) := by decide +kernel
theorem d_Md_counter_147 : decode b_Md_counter 147 = .ok (.iload_n 3, 1) := by decide +kernel
theorem d_Md_counter_148 : decode b_Md_counter 148 = .ok (.ireturn, 1) := by decide +kernel
theorem d_Md_goOn_0 : decode b_Md_goOn 0 = .ok (.iconst 0, 1) := by decide +kernel
theorem d_Md_goOn_1 : decode b_Md_goOn 1 = .ok (.istore_n 2, 1) := by decide +kernel
theorem d_Md_goOn_2 : decode b_Md_goOn 2 = .ok (.iload_n 2, 1) := by decide +kernel
theorem d_Md_goOn_3 : decode b_Md_goOn 3 = .ok (.sipush 4096, 3) := by decide +kernel
theorem d_Md_goOn_6 : decode b_Md_goOn 6 = .ok (.if_icmp .ge 16, 3) := by decide +kernel
theorem d_Md_goOn_9 : decode b_Md_goOn 9 = .ok (.aload_n 0, 1) := by decide +kernel
theorem d_Md_goOn_10 : decode b_Md_goOn 10 = .ok (.getfield 88, 3) := by decide +kernel
theorem d_Md_goOn_13 : decode b_Md_goOn 13 = .ok (.iload_n 2, 1) := by decide +kernel
theorem d_Md_goOn_14 : decode b_Md_goOn 14 = .ok (.iconst 0, 1) := by decide +kernel
theorem d_Md_goOn_15 : decode b_Md_goOn 15 = .ok (.bastore, 1) := by decide +kernel
theorem d_Md_goOn_16 : decode b_Md_goOn 16 = .ok (.iinc 2 1, 3) := by decide +kernel
theorem d_Md_goOn_19 : decode b_Md_goOn 19 = .ok (.goto (-17), 3) := by decide +kernel
theorem d_Md_goOn_22 : decode b_Md_goOn 22 = .ok (.iconst 0, 1) := by decide +kernel
theorem d_Md_goOn_23 : decode b_Md_goOn 23 = .ok (.istore_n 2, 1) := by decide +kernel
theorem d_Md_goOn_24 : decode b_Md_goOn 24 = .ok (.iload_n 2, 1) := by decide +kernel
theorem d_Md_goOn_25 : decode b_Md_goOn 25 = .ok (.sipush 4096, 3) := by decide +kernel
theorem d_Md_goOn_28 : decode b_Md_goOn 28 = .ok (.if_icmp .ge 81, 3) := by decide +kernel
theorem d_Md_goOn_31 : decode b_Md_goOn 31 = .ok (.iconst 0, 1) := by decide +kernel
theorem d_Md_goOn_32 : decode b_Md_goOn 32 = .ok (.istore_n 3, 1) := by decide +kernel
theorem d_Md_goOn_33 : decode b_Md_goOn 33 = .ok (.iload_n 3, 1) := by decide +kernel
theorem d_Md_goOn_34 : decode b_Md_goOn 34 = .ok (.bipush 6, 2) := by decide +kernel
theorem d_Md_goOn_36 : decode b_Md_goOn 36 = .ok (.if_icmp .ge 67, 3) := by decide +kernel
theorem d_Md_goOn_39 : decode b_Md_goOn 39 = .ok (.aload_n 0, 1) := by decide +kernel
theorem d_Md_goOn_40 : decode b_Md_goOn 40 = .ok (.getfield 85, 3) := by decide +kernel
theorem d_Md_goOn_43 : decode b_Md_goOn 43 = .ok (.iload_n 2, 1) := by decide +kernel
theorem d_Md_goOn_44 : decode b_Md_goOn 44 = .ok (.baload, 1) := by decide +kernel
theorem d_Md_goOn_45 : decode b_Md_goOn 45 = .ok (.ifCond .eq 58, 3) := by decide +kernel
theorem d_Md_goOn_48 : decode b_Md_goOn 48 = .ok (.aload_n 0, 1) := by decide +kernel
theorem d_Md_goOn_49 : decode b_Md_goOn 49 = .ok (.getfield 63, 3) := by decide +kernel
theorem d_Md_goOn_52 : decode b_Md_goOn 52 = .ok (.bipush 6, 2) := by decide +kernel
theorem d_Md_goOn_54 : decode b_Md_goOn 54 = .ok (.iload_n 2, 1) := by decide +kernel
theorem d_Md_goOn_55 : decode b_Md_goOn 55 = .ok (.imul, 1) := by decide +kernel
theorem d_Md_goOn_56 : decode b_Md_goOn 56 = .ok (.iload_n 3, 1) := by decide +kernel
theorem d_Md_goOn_57 : decode b_Md_goOn 57 = .ok (.iadd, 1) := by decide +kernel
theorem d_Md_goOn_58 : decode b_Md_goOn 58 = .ok (.iaload, 1) := by decide +kernel
theorem d_Md_goOn_59 : decode b_Md_goOn 59 = .ok (.istore 4, 2) := by decide +kernel
theorem d_Md_goOn_61 : decode b_Md_goOn 61 = .ok (.iload 4, 2) := by decide +kernel
theorem d_Md_goOn_63 : decode b_Md_goOn 63 = .ok (.ifCond .lt 34, 3) := by decide +kernel
theorem d_Md_goOn_66 : decode b_Md_goOn 66 = .ok (.aload_n 0, 1) := by decide +kernel
theorem d_Md_goOn_67 : decode b_Md_goOn 67 = .ok (.getfield 70, 3) := by decide +kernel
theorem d_Md_goOn_70 : decode b_Md_goOn 70 = .ok (.iload 4, 2) := by decide +kernel
theorem d_Md_goOn_72 : decode b_Md_goOn 72 = .ok (.baload, 1) := by decide +kernel
theorem d_Md_goOn_73 : decode b_Md_goOn 73 = .ok (.ifCond .eq 24, 3) := by decide +kernel
theorem d_Md_goOn_76 : decode b_Md_goOn 76 = .ok (.aload_n 0, 1) := by decide +kernel
theorem d_Md_goOn_77 : decode b_Md_goOn 77 = .ok (.getfield 79, 3) := by decide +kernel
theorem d_Md_goOn_80 : decode b_Md_goOn 80 = .ok (.iload 4, 2) := by decide +kernel
theorem d_Md_goOn_82 : decode b_Md_goOn 82 = .ok (.iaload, 1) := by decide +kernel
theorem d_Md_goOn_83 : decode b_Md_goOn 83 = .ok (.iload_n 1, 1) := by decide +kernel
theorem d_Md_goOn_84 : decode b_Md_goOn 84 = .ok (.iand, 1) := by decide +kernel
theorem d_Md_goOn_85 : decode b_Md_goOn 85 = .ok (.iload_n 1, 1) := by decide +kernel
theorem d_Md_goOn_86 : decode b_Md_goOn 86 = .ok (.if_icmp .ne 11, 3) := by decide +kernel
theorem d_Md_goOn_89 : decode b_Md_goOn 89 = .ok (.aload_n 0, 1) := by decide +kernel
theorem d_Md_goOn_90 : decode b_Md_goOn 90 = .ok (.getfield 88, 3) := by decide +kernel
theorem d_Md_goOn_93 : decode b_Md_goOn 93 = .ok (.iload 4, 2) := by decide +kernel
theorem d_Md_goOn_95 : decode b_Md_goOn 95 = .ok (.iconst 1, 1) := by decide +kernel
theorem d_Md_goOn_96 : decode b_Md_goOn 96 = .ok (.bastore, 1) := by decide +kernel
theorem d_Md_goOn_97 : decode b_Md_goOn 97 = .ok (.iinc 3 1, 3) := by decide +kernel
theorem d_Md_goOn_100 : decode b_Md_goOn 100 = .ok (.goto (-67), 3) := by decide +kernel
theorem d_Md_goOn_103 : decode b_Md_goOn 103 = .ok (.iinc 2 1, 3) := by decide +kernel
theorem d_Md_goOn_106 : decode b_Md_goOn 106 = .ok (.goto (-82), 3) := by decide +kernel
theorem d_Md_goOn_109 : decode b_Md_goOn 109 = .ok (.iconst 0, 1) := by decide +kernel
theorem d_Md_goOn_110 : decode b_Md_goOn 110 = .ok (.istore_n 2, 1) := by decide +kernel
theorem d_Md_goOn_111 : decode b_Md_goOn 111 = .ok (.iload_n 2, 1) := by decide +kernel
theorem d_Md_goOn_112 : decode b_Md_goOn 112 = .ok (.sipush 4096, 3) := by decide +kernel
theorem d_Md_goOn_115 : decode b_Md_goOn 115 = .ok (.if_icmp .ge 21, 3) := by decide +kernel
theorem d_Md_goOn_118 : decode b_Md_goOn 118 = .ok (.aload_n 0, 1) := by decide +kernel
theorem d_Md_goOn_119 : decode b_Md_goOn 119 = .ok (.getfield 85, 3) := by decide +kernel
theorem d_Md_goOn_122 : decode b_Md_goOn 122 = .ok (.iload_n 2, 1) := by decide +kernel
theorem d_Md_goOn_123 : decode b_Md_goOn 123 = .ok (.aload_n 0, 1) := by decide +kernel
theorem d_Md_goOn_124 : decode b_Md_goOn 124 = .ok (.getfield 88, 3) := by decide +kernel
theorem d_Md_goOn_127 : decode b_Md_goOn 127 = .ok (.iload_n 2, 1) := by decide +kernel
theorem d_Md_goOn_128 : decode b_Md_goOn 128 = .ok (.baload, 1) := by decide +kernel
theorem d_Md_goOn_129 : decode b_Md_goOn 129 = .ok (.bastore, 1) := by decide +kernel
theorem d_Md_goOn_130 : decode b_Md_goOn 130 = .ok (.iinc 2 1, 3) := by decide +kernel
theorem d_Md_goOn_133 : decode b_Md_goOn 133 = .ok (.goto (-22), 3) := by decide +kernel
theorem d_Md_goOn_136 : decode b_Md_goOn 136 = .ok (.return_, 1) := by decide +kernel
theorem d_Md_induction_0 : decode b_Md_induction 0 = .ok (.aload_n 0, 1) := by decide +kernel
theorem d_Md_induction_1 : decode b_Md_induction 1 = .ok (.getfield 30, 3) := by decide +kernel
theorem d_Md_induction_4 : decode b_Md_induction 4 = .ok (.ifCond .lt 12, 3) := by decide +kernel
theorem d_Md_induction_7 : decode b_Md_induction 7 = .ok (.iload_n 1, 1) := by decide +kernel
theorem d_Md_induction_8 : decode b_Md_induction 8 = .ok (.ifCond .lt 8, 3) := by decide +kernel
theorem d_Md_induction_11 : decode b_Md_induction 11 = .ok (.iload_n 1, 1) := by decide +kernel
theorem d_Md_induction_12 : decode b_Md_induction 12 = .ok (.iconst 1, 1) := by decide +kernel
theorem d_Md_induction_13 : decode b_Md_induction 13 = .ok (.if_icmp .le 5, 3) := by decide +kernel
theorem d_Md_induction_16 : decode b_Md_induction 16 = .ok (.iconst (-1), 1) := by decide +kernel
theorem d_Md_induction_17 : decode b_Md_induction 17 = .ok (.ireturn, 1) := by decide +kernel
theorem d_Md_induction_18 : decode b_Md_induction 18 = .ok (.iload_n 1, 1) := by decide +kernel
theorem d_Md_induction_19 : decode b_Md_induction 19 = .ok (.iconst 1, 1) := by decide +kernel
theorem d_Md_induction_20 : decode b_Md_induction 20 = .ok (.if_icmp .ne 10, 3) := by decide +kernel
theorem d_Md_induction_23 : decode b_Md_induction 23 = .ok (.aload_n 0, 1) := by decide +kernel
theorem d_Md_induction_24 : decode b_Md_induction 24 = .ok (.getfield 264, 3) := by decide +kernel
theorem d_Md_induction_27 : decode b_Md_induction 27 = .ok (.goto 4, 3) := by decide +kernel
theorem d_Md_induction_30 : decode b_Md_induction 30 = .ok (.iconst 0, 1) := by decide +kernel
theorem d_Md_induction_31 : decode b_Md_induction 31 = .ok (.istore_n 2, 1) := by decide +kernel
theorem d_Md_induction_32 : decode b_Md_induction 32 = .ok (.iconst 0, 1) := by decide +kernel
theorem d_Md_induction_33 : decode b_Md_induction 33 = .ok (.istore_n 3, 1) := by decide +kernel
theorem d_Md_induction_34 : decode b_Md_induction 34 = .ok (.iload_n 3, 1) := by decide +kernel
theorem d_Md_induction_35 : decode b_Md_induction 35 = .ok (.sipush 4096, 3) := by decide +kernel
theorem d_Md_induction_38 : decode b_Md_induction 38 = .ok (.if_icmp .ge 41, 3) := by decide +kernel
theorem d_Md_induction_41 : decode b_Md_induction 41 = .ok (.aload_n 0, 1) := by decide +kernel
theorem d_Md_induction_42 : decode b_Md_induction 42 = .ok (.getfield 85, 3) := by decide +kernel
theorem d_Md_induction_45 : decode b_Md_induction 45 = .ok (.iload_n 3, 1) := by decide +kernel
theorem d_Md_induction_46 : decode b_Md_induction 46 = .ok (.aload_n 0, 1) := by decide +kernel
theorem d_Md_induction_47 : decode b_Md_induction 47 = .ok (.getfield 70, 3) := by decide +kernel
theorem d_Md_induction_50 : decode b_Md_induction 50 = .ok (.iload_n 3, 1) := by decide +kernel
theorem d_Md_induction_51 : decode b_Md_induction 51 = .ok (.baload, 1) := by decide +kernel
theorem d_Md_induction_52 : decode b_Md_induction 52 = .ok (.ifCond .eq 19, 3) := by decide +kernel
theorem d_Md_induction_55 : decode b_Md_induction 55 = .ok (.aload_n 0, 1) := by decide +kernel
theorem d_Md_induction_56 : decode b_Md_induction 56 = .ok (.getfield 79, 3) := by decide +kernel
theorem d_Md_induction_59 : decode b_Md_induction 59 = .ok (.iload_n 3, 1) := by decide +kernel
theorem d_Md_induction_60 : decode b_Md_induction 60 = .ok (.iaload, 1) := by decide +kernel
theorem d_Md_induction_61 : decode b_Md_induction 61 = .ok (.iload_n 2, 1) := by decide +kernel
theorem d_Md_induction_62 : decode b_Md_induction 62 = .ok (.iand, 1) := by decide +kernel
theorem d_Md_induction_63 : decode b_Md_induction 63 = .ok (.iload_n 2, 1) := by decide +kernel
theorem d_Md_induction_64 : decode b_Md_induction 64 = .ok (.if_icmp .ne 7, 3) := by decide +kernel
theorem d_Md_induction_67 : decode b_Md_induction 67 = .ok (.iconst 1, 1) := by decide +kernel
theorem d_Md_induction_68 : decode b_Md_induction 68 = .ok (.goto 4, 3) := by decide +kernel
theorem d_Md_induction_71 : decode b_Md_induction 71 = .ok (.iconst 0, 1) := by decide +kernel
theorem d_Md_induction_72 : decode b_Md_induction 72 = .ok (.bastore, 1) := by decide +kernel
theorem d_Md_induction_73 : decode b_Md_induction 73 = .ok (.iinc 3 1, 3) := by decide +kernel
theorem d_Md_induction_76 : decode b_Md_induction 76 = .ok (.goto (-42), 3) := by decide +kernel
theorem d_Md_induction_79 : decode b_Md_induction 79 = .ok (.iconst 1, 1) := by decide +kernel
theorem d_Md_induction_80 : decode b_Md_induction 80 = .ok (.istore_n 3, 1) := by decide +kernel
theorem d_Md_induction_81 : decode b_Md_induction 81 = .ok (.iload_n 3, 1) := by decide +kernel
theorem d_Md_induction_82 : decode b_Md_induction 82 = .ok (.bipush 16, 2) := by decide +kernel
theorem d_Md_induction_84 : decode b_Md_induction 84 = .ok (.if_icmp .gt 174, 3) := by decide +kernel
theorem d_Md_induction_87 : decode b_Md_induction 87 = .ok (.iconst 1, 1) := by decide +kernel
theorem d_Md_induction_88 : decode b_Md_induction 88 = .ok (.istore 4, 2) := by decide +kernel
theorem d_Md_induction_90 : decode b_Md_induction 90 = .ok (.iconst 0, 1) := by decide +kernel
theorem d_Md_induction_91 : decode b_Md_induction 91 = .ok (.istore 5, 2) := by decide +kernel
theorem d_Md_induction_93 : decode b_Md_induction 93 = .ok (.iload 5, 2) := by decide +kernel
theorem d_Md_induction_95 : decode b_Md_induction 95 = .ok (.sipush 4096, 3) := by decide +kernel
theorem d_Md_induction_98 : decode b_Md_induction 98 = .ok (.if_icmp .ge 52, 3) := by decide +kernel
theorem d_Md_induction_101 : decode b_Md_induction 101 = .ok (.iload 4, 2) := by decide +kernel
theorem d_Md_induction_103 : decode b_Md_induction 103 = .ok (.ifCond .eq 47, 3) := by decide +kernel
theorem d_Md_induction_106 : decode b_Md_induction 106 = .ok (.aload_n 0, 1) := by decide +kernel
theorem d_Md_induction_107 : decode b_Md_induction 107 = .ok (.getfield 73, 3) := by decide +kernel
theorem d_Md_induction_110 : decode b_Md_induction 110 = .ok (.iload 5, 2) := by decide +kernel
theorem d_Md_induction_112 : decode b_Md_induction 112 = .ok (.iaload, 1) := by decide +kernel
theorem d_Md_induction_113 : decode b_Md_induction 113 = .ok (.ifCond .lt 24, 3) := by decide +kernel
theorem d_Md_induction_116 : decode b_Md_induction 116 = .ok (.aload_n 0, 1) := by decide +kernel
theorem d_Md_induction_117 : decode b_Md_induction 117 = .ok (.getfield 73, 3) := by decide +kernel
theorem d_Md_induction_120 : decode b_Md_induction 120 = .ok (.iload 5, 2) := by decide +kernel
theorem d_Md_induction_122 : decode b_Md_induction 122 = .ok (.iaload, 1) := by decide +kernel
theorem d_Md_induction_123 : decode b_Md_induction 123 = .ok (.iload_n 3, 1) := by decide +kernel
theorem d_Md_induction_124 : decode b_Md_induction 124 = .ok (.if_icmp .ge 13, 3) := by decide +kernel
theorem d_Md_induction_127 : decode b_Md_induction 127 = .ok (.aload_n 0, 1) := by decide +kernel
theorem d_Md_induction_128 : decode b_Md_induction 128 = .ok (.getfield 70, 3) := by decide +kernel
theorem d_Md_induction_131 : decode b_Md_induction 131 = .ok (.iload 5, 2) := by decide +kernel
theorem d_Md_induction_133 : decode b_Md_induction 133 = .ok (.baload, 1) := by decide +kernel
theorem d_Md_induction_134 : decode b_Md_induction 134 = .ok (.ifCond .eq 7, 3) := by decide +kernel
theorem d_Md_induction_137 : decode b_Md_induction 137 = .ok (.iconst 1, 1) := by decide +kernel
theorem d_Md_induction_138 : decode b_Md_induction 138 = .ok (.goto 4, 3) := by decide +kernel
theorem d_Md_induction_141 : decode b_Md_induction 141 = .ok (.iconst 0, 1) := by decide +kernel
theorem d_Md_induction_142 : decode b_Md_induction 142 = .ok (.istore 4, 2) := by decide +kernel
theorem d_Md_induction_144 : decode b_Md_induction 144 = .ok (.iinc 5 1, 3) := by decide +kernel
theorem d_Md_induction_147 : decode b_Md_induction 147 = .ok (.goto (-54), 3) := by decide +kernel
theorem d_Md_induction_150 : decode b_Md_induction 150 = .ok (.iconst 0, 1) := by decide +kernel
theorem d_Md_induction_151 : decode b_Md_induction 151 = .ok (.istore 5, 2) := by decide +kernel
theorem d_Md_induction_153 : decode b_Md_induction 153 = .ok (.iload 5, 2) := by decide +kernel
theorem d_Md_induction_155 : decode b_Md_induction 155 = .ok (.sipush 4096, 3) := by decide +kernel
theorem d_Md_induction_158 : decode b_Md_induction 158 = .ok (.if_icmp .ge 82, 3) := by decide +kernel
theorem d_Md_induction_161 : decode b_Md_induction 161 = .ok (.iload 4, 2) := by decide +kernel
theorem d_Md_induction_163 : decode b_Md_induction 163 = .ok (.ifCond .eq 77, 3) := by decide +kernel
theorem d_Md_induction_166 : decode b_Md_induction 166 = .ok (.iconst 0, 1) := by decide +kernel
theorem d_Md_induction_167 : decode b_Md_induction 167 = .ok (.istore 6, 2) := by decide +kernel
theorem d_Md_induction_169 : decode b_Md_induction 169 = .ok (.iload 6, 2) := by decide +kernel
theorem d_Md_induction_171 : decode b_Md_induction 171 = .ok (.bipush 6, 2) := by decide +kernel
theorem d_Md_induction_173 : decode b_Md_induction 173 = .ok (.if_icmp .ge 61, 3) := by decide +kernel
theorem d_Md_induction_176 : decode b_Md_induction 176 = .ok (.aload_n 0, 1) := by decide +kernel
theorem d_Md_induction_177 : decode b_Md_induction 177 = .ok (.getfield 85, 3) := by decide +kernel
theorem d_Md_induction_180 : decode b_Md_induction 180 = .ok (.iload 5, 2) := by decide +kernel
theorem d_Md_induction_182 : decode b_Md_induction 182 = .ok (.baload, 1) := by decide +kernel
theorem d_Md_induction_183 : decode b_Md_induction 183 = .ok (.ifCond .eq 51, 3) := by decide +kernel
theorem d_Md_induction_186 : decode b_Md_induction 186 = .ok (.aload_n 0, 1) := by decide +kernel
theorem d_Md_induction_187 : decode b_Md_induction 187 = .ok (.getfield 63, 3) := by decide +kernel
theorem d_Md_induction_190 : decode b_Md_induction 190 = .ok (.bipush 6, 2) := by decide +kernel
theorem d_Md_induction_192 : decode b_Md_induction 192 = .ok (.iload 5, 2) := by decide +kernel
theorem d_Md_induction_194 : decode b_Md_induction 194 = .ok (.imul, 1) := by decide +kernel
theorem d_Md_induction_195 : decode b_Md_induction 195 = .ok (.iload 6, 2) := by decide +kernel
theorem d_Md_induction_197 : decode b_Md_induction 197 = .ok (.iadd, 1) := by decide +kernel
theorem d_Md_induction_198 : decode b_Md_induction 198 = .ok (.iaload, 1) := by decide +kernel
theorem d_Md_induction_199 : decode b_Md_induction 199 = .ok (.istore 7, 2) := by decide +kernel
theorem d_Md_induction_201 : decode b_Md_induction 201 = .ok (.iload 4, 2) := by decide +kernel
theorem d_Md_induction_203 : decode b_Md_induction 203 = .ok (.ifCond .eq 22, 3) := by decide +kernel
theorem d_Md_induction_206 : decode b_Md_induction 206 = .ok (.iload 7, 2) := by decide +kernel
theorem d_Md_induction_208 : decode b_Md_induction 208 = .ok (.ifCond .lt 13, 3) := by decide +kernel
theorem d_Md_induction_211 : decode b_Md_induction 211 = .ok (.aload_n 0, 1) := by decide +kernel
theorem d_Md_induction_212 : decode b_Md_induction 212 = .ok (.getfield 70, 3) := by decide +kernel
theorem d_Md_induction_215 : decode b_Md_induction 215 = .ok (.iload 7, 2) := by decide +kernel
theorem d_Md_induction_217 : decode b_Md_induction 217 = .ok (.baload, 1) := by decide +kernel
theorem d_Md_induction_218 : decode b_Md_induction 218 = .ok (.ifCond .eq 7, 3) := by decide +kernel
theorem d_Md_induction_221 : decode b_Md_induction 221 = .ok (.iconst 1, 1) := by decide +kernel
theorem d_Md_induction_222 : decode b_Md_induction 222 = .ok (.goto 4, 3) := by decide +kernel
theorem d_Md_induction_225 : decode b_Md_induction 225 = .ok (.iconst 0, 1) := by decide +kernel
theorem d_Md_induction_226 : decode b_Md_induction 226 = .ok (.istore 4, 2) := by decide +kernel
theorem d_Md_induction_228 : decode b_Md_induction 228 = .ok (.iinc 6 1, 3) := by decide +kernel
theorem d_Md_induction_231 : decode b_Md_induction 231 = .ok (.goto (-62), 3) := by decide +kernel
theorem d_Md_induction_234 : decode b_Md_induction 234 = .ok (.iinc 5 1, 3) := by decide +kernel
theorem d_Md_induction_237 : decode b_Md_induction 237 = .ok (.goto (-84), 3) := by decide +kernel
theorem d_Md_induction_240 : decode b_Md_induction 240 = .ok (.iload 4, 2) := by decide +kernel
theorem d_Md_induction_242 : decode b_Md_induction 242 = .ok (.ifCond .eq 5, 3) := by decide +kernel
theorem d_Md_induction_245 : decode b_Md_induction 245 = .ok (.iload_n 3, 1) := by decide +kernel
theorem d_Md_induction_246 : decode b_Md_induction 246 = .ok (.ireturn, 1) := by decide +kernel
theorem d_Md_induction_247 : decode b_Md_induction 247 = .ok (.aload_n 0, 1) := by decide +kernel
theorem d_Md_induction_248 : decode b_Md_induction 248 = .ok (.iload_n 2, 1) := by decide +kernel
theorem d_Md_induction_249 : decode b_Md_induction 249 = .ok (.invokevirtual 279, 3) := by decide +kernel
theorem d_Md_induction_252 : decode b_Md_induction 252 = .ok (.iinc 3 1, 3) := by decide +kernel
theorem d_Md_induction_255 : decode b_Md_induction 255 = .ok (.goto (-174), 3) := by decide +kernel
theorem d_Md_induction_258 : decode b_Md_induction 258 = .ok (.iconst 0, 1) := by decide +kernel
theorem d_Md_induction_259 : decode b_Md_induction 259 = .ok (.ireturn, 1) := by decide +kernel
theorem d_Md_kept_0 : decode b_Md_kept 0 = .ok (.aload_n 0, 1) := by decide +kernel
theorem d_Md_kept_1 : decode b_Md_kept 1 = .ok (.getfield 30, 3) := by decide +kernel
theorem d_Md_kept_4 : decode b_Md_kept 4 = .ok (.ifCond .ge 7, 3) := by decide +kernel
theorem d_Md_kept_7 : decode b_Md_kept 7 = .ok (.iconst (-1), 1) := by decide +kernel
theorem d_Md_kept_8 : decode b_Md_kept 8 = .ok (.goto 7, 3) := by decide +kernel
theorem d_Md_kept_11 : decode b_Md_kept 11 = .ok (.aload_n 0, 1) := by decide +kernel
theorem d_Md_kept_12 : decode b_Md_kept 12 = .ok (.getfield 264, 3) := by decide +kernel
theorem d_Md_kept_15 : decode b_Md_kept 15 = .ok (.ireturn, 1) := by decide +kernel
theorem d_Md_gone_0 : decode b_Md_gone 0 = .ok (.aload_n 0, 1) := by decide +kernel
theorem d_Md_gone_1 : decode b_Md_gone 1 = .ok (.getfield 30, 3) := by decide +kernel
theorem d_Md_gone_4 : decode b_Md_gone 4 = .ok (.ifCond .lt 20, 3) := by decide +kernel
theorem d_Md_gone_7 : decode b_Md_gone 7 = .ok (.iload_n 1, 1) := by decide +kernel
theorem d_Md_gone_8 : decode b_Md_gone 8 = .ok (.ifCond .lt 16, 3) := by decide +kernel
theorem d_Md_gone_11 : decode b_Md_gone 11 = .ok (.iload_n 1, 1) := by decide +kernel
theorem d_Md_gone_12 : decode b_Md_gone 12 = .ok (.aload_n 0, 1) := by decide +kernel
theorem d_Md_gone_13 : decode b_Md_gone 13 = .ok (.getfield 51, 3) := by decide +kernel
theorem d_Md_gone_16 : decode b_Md_gone 16 = .ok (.aload_n 0, 1) := by decide +kernel
theorem d_Md_gone_17 : decode b_Md_gone 17 = .ok (.getfield 30, 3) := by decide +kernel
theorem d_Md_gone_20 : decode b_Md_gone 20 = .ok (.iaload, 1) := by decide +kernel
theorem d_Md_gone_21 : decode b_Md_gone 21 = .ok (.if_icmp .lt 7, 3) := by decide +kernel
theorem d_Md_gone_24 : decode b_Md_gone 24 = .ok (.iconst (-1), 1) := by decide +kernel
theorem d_Md_gone_25 : decode b_Md_gone 25 = .ok (.goto 9, 3) := by decide +kernel
theorem d_Md_gone_28 : decode b_Md_gone 28 = .ok (.aload_n 0, 1) := by decide +kernel
theorem d_Md_gone_29 : decode b_Md_gone 29 = .ok (.getfield 82, 3) := by decide +kernel
theorem d_Md_gone_32 : decode b_Md_gone 32 = .ok (.iload_n 1, 1) := by decide +kernel
theorem d_Md_gone_33 : decode b_Md_gone 33 = .ok (.iaload, 1) := by decide +kernel
theorem d_Md_gone_34 : decode b_Md_gone 34 = .ok (.ireturn, 1) := by decide +kernel
def wp_Md_many_J73 (x1 : Int32) (x2 : Int32) (x4 : Int32) (x5 : Int32) (s0 : Int32) (md_keptBits : Int32) (md_nexts : Nat → Int32) (md_isBegin : Nat → Int32) (md_isGoal : Nat → Int32) (md_levels : Nat → Int32) (md_hasGuesses : Nat → Int32) (kb : Int32 → Int32 → Int32 → Prop) (k249 : Int32 → Int32 → Prop) : Prop :=
  (((x1 : Int32) = 0 → (vp_in x4 4096 ∧ (((md_isBegin (x4 : Int32).toNatClampNeg : Int32) = 0 → (∀ x2_1 : Int32, x2_1 = (x2 + 0) → kb x2_1 s0 (x4 + 1))) ∧ (¬ (md_isBegin (x4 : Int32).toNatClampNeg : Int32) = 0 → (∀ x2_2 : Int32, x2_2 = (x2 + 1) → kb x2_2 s0 (x4 + 1)))))) ∧ ((x1 : Int32) = 1 → (vp_in x4 4096 ∧ (((md_isGoal (x4 : Int32).toNatClampNeg : Int32) = 0 → (∀ x2_3 : Int32, x2_3 = (x2 + 0) → kb x2_3 s0 (x4 + 1))) ∧ (¬ (md_isGoal (x4 : Int32).toNatClampNeg : Int32) = 0 → (∀ x2_4 : Int32, x2_4 = (x2 + 1) → kb x2_4 s0 (x4 + 1)))))) ∧ ((x1 : Int32) = 2 → (((x5 : Int32) = 0 → (∀ x2_5 : Int32, x2_5 = (x2 + 0) → kb x2_5 s0 (x4 + 1))) ∧ (¬ (x5 : Int32) = 0 → (∀ x2_6 : Int32, x2_6 = (x2 + 1) → kb x2_6 s0 (x4 + 1))))) ∧ ((x1 : Int32) = 3 → (((x5 : Int32) = 0 → (∀ x2_7 : Int32, x2_7 = (x2 + 0) → kb x2_7 s0 (x4 + 1))) ∧ (¬ (x5 : Int32) = 0 → wp_Md_isEnd x4 md_nexts (fun r_8 => (((r_8 : Int32) = 0 → (∀ x2_9 : Int32, x2_9 = (x2 + 0) → kb x2_9 s0 (x4 + 1))) ∧ (¬ (r_8 : Int32) = 0 → (∀ x2_10 : Int32, x2_10 = (x2 + 1) → kb x2_10 s0 (x4 + 1)))))))) ∧ ((x1 : Int32) = 4 → (vp_in x4 4096 ∧ ((¬ ((md_hasGuesses (x4 : Int32).toNatClampNeg) &&& md_keptBits : Int32) = (md_keptBits : Int32) → (∀ x2_11 : Int32, x2_11 = (x2 + 0) → kb x2_11 s0 (x4 + 1))) ∧ (((md_hasGuesses (x4 : Int32).toNatClampNeg) &&& md_keptBits : Int32) = (md_keptBits : Int32) → (∀ x2_12 : Int32, x2_12 = (x2 + 1) → kb x2_12 s0 (x4 + 1)))))) ∧ ((x1 : Int32) = 5 → (((x5 : Int32) = 0 → (∀ x2_13 : Int32, x2_13 = (x2 + 0) → kb x2_13 s0 (x4 + 1))) ∧ (¬ (x5 : Int32) = 0 → wp_Md_unlikeNexts x4 md_nexts (fun r_14 => (∀ x2_15 : Int32, x2_15 = (x2 + r_14) → kb x2_15 s0 (x4 + 1)))))) ∧ (¬ (x1 : Int32) = 0 → ¬ (x1 : Int32) = 1 → ¬ (x1 : Int32) = 2 → ¬ (x1 : Int32) = 3 → ¬ (x1 : Int32) = 4 → ¬ (x1 : Int32) = 5 → (vp_in x4 4096 ∧ ((¬ ((md_hasGuesses (x4 : Int32).toNatClampNeg) &&& md_keptBits : Int32) = (md_keptBits : Int32) → (∀ x2_16 : Int32, x2_16 = (x2 + 0) → kb x2_16 s0 (x4 + 1))) ∧ (((md_hasGuesses (x4 : Int32).toNatClampNeg) &&& md_keptBits : Int32) = (md_keptBits : Int32) → (∀ x2_17 : Int32, x2_17 = (x2 + 1) → kb x2_17 s0 (x4 + 1)))))))
def wp_Md_many_L26 (x1 : Int32) (md_keptBits : Int32) (md_nexts : Nat → Int32) (md_isBegin : Nat → Int32) (md_isGoal : Nat → Int32) (md_levels : Nat → Int32) (md_hasGuesses : Nat → Int32) (k249 : Int32 → Int32 → Prop) : Nat → Int32 → Int32 → Int32 → Prop
  | 0, _, _, _ => False
  | n + 1, x2, x3, x4 =>
    (((4096 : Int32) ≤ (x4 : Int32) → k249 x2 x3) ∧ (¬ (4096 : Int32) ≤ (x4 : Int32) → (vp_in x4 4096 ∧ (((md_levels (x4 : Int32).toNatClampNeg : Int32) < 0 → (vp_in x4 4096 ∧ (((md_levels (x4 : Int32).toNatClampNeg : Int32) ≤ (x3 : Int32) → wp_Md_many_J73 x1 x2 x4 0 x3 md_keptBits md_nexts md_isBegin md_isGoal md_levels md_hasGuesses (wp_Md_many_L26 x1 md_keptBits md_nexts md_isBegin md_isGoal md_levels md_hasGuesses k249 n) k249) ∧ (¬ (md_levels (x4 : Int32).toNatClampNeg : Int32) ≤ (x3 : Int32) → (vp_in x4 4096 ∧ wp_Md_many_J73 x1 x2 x4 0 (md_levels (x4 : Int32).toNatClampNeg) md_keptBits md_nexts md_isBegin md_isGoal md_levels md_hasGuesses (wp_Md_many_L26 x1 md_keptBits md_nexts md_isBegin md_isGoal md_levels md_hasGuesses k249 n) k249))))) ∧ (¬ (md_levels (x4 : Int32).toNatClampNeg : Int32) < 0 → (vp_in x4 4096 ∧ (((md_levels (x4 : Int32).toNatClampNeg : Int32) ≤ (x3 : Int32) → wp_Md_many_J73 x1 x2 x4 1 x3 md_keptBits md_nexts md_isBegin md_isGoal md_levels md_hasGuesses (wp_Md_many_L26 x1 md_keptBits md_nexts md_isBegin md_isGoal md_levels md_hasGuesses k249 n) k249) ∧ (¬ (md_levels (x4 : Int32).toNatClampNeg : Int32) ≤ (x3 : Int32) → (vp_in x4 4096 ∧ wp_Md_many_J73 x1 x2 x4 1 (md_levels (x4 : Int32).toNatClampNeg) md_keptBits md_nexts md_isBegin md_isGoal md_levels md_hasGuesses (wp_Md_many_L26 x1 md_keptBits md_nexts md_isBegin md_isGoal md_levels md_hasGuesses k249 n) k249)))))))))
def wp_Md_many (x1 : Int32) (md_loop : Int32) (md_keptBits : Int32) (md_nexts : Nat → Int32) (md_isBegin : Nat → Int32) (md_isGoal : Nat → Int32) (md_levels : Nat → Int32) (md_hasGuesses : Nat → Int32) (post : Int32 → Prop) : Prop :=
  (((md_loop : Int32) < 0 → post (-1)) ∧ (¬ (md_loop : Int32) < 0 → (((x1 : Int32) < 0 → post (-1)) ∧ (¬ (x1 : Int32) < 0 → (((x1 : Int32) ≤ (6 : Int32) → ∃ n_20, wp_Md_many_L26 x1 md_keptBits md_nexts md_isBegin md_isGoal md_levels md_hasGuesses (fun x2_18 x3_19 => ((¬ (x1 : Int32) = (4 : Int32) → post x2_18) ∧ ((x1 : Int32) = (4 : Int32) → post x3_19))) n_20 0 (-1) 0) ∧ (¬ (x1 : Int32) ≤ (6 : Int32) → post (-1)))))))
set_option maxHeartbeats 4000000 in
set_option maxRecDepth 100000 in
theorem c_Md_many (l : Launch) (dC : Nat → ClassId) (dI : Nat → Nat → Nat) (cI cB cZ : ClassId) (adK adV : Nat → Nat) (sz : Nat) (a_md a_md_tape a_md_acts a_md_actNumbers a_md_actCounts a_md_pile a_md_begins a_md_goals a_md_ranks a_md_choiceCounts a_md_whens a_md_becomes a_md_guessCounts a_md_guesses a_md_unaryCounts a_md_stack a_md_nexts a_md_isBegin a_md_isGoal a_md_levels a_md_queue a_md_hasGuesses a_md_rounds a_md_marked a_md_other a_md_heights : Nat) (md_size : Int32) (md_at : Int32) (md_token : Int32) (md_tokenPlace : Int32) (md_number : Int32) (md_sign : Int32) (md_bad : Int32) (md_faultPlace : Int32) (md_place : Int32) (md_bank : Int32) (md_unaries : Int32) (md_opens : Int32) (md_piled : Int32) (md_loop : Int32) (md_keptBits : Int32) (md_nexts : Nat → Int32) (md_isBegin : Nat → Int32) (md_isGoal : Nat → Int32) (md_levels : Nat → Int32) (md_hasGuesses : Nat → Int32) (x1 : Int32) (post : Int32 → Prop) (h : wp_Md_many x1 md_loop md_keptBits md_nexts md_isBegin md_isGoal md_levels md_hasGuesses post) : Met l y_Md_many w_Md_many ({ frames := 1, cells := 0, slots := 0, locals := 26 }) (pc_ (dC, dI) [(cI, .int), (cB, .byte), (cZ, .boolean)] [(a_md, .inr (11, [.ref a_md_tape, .int md_size, .int md_at, .int md_token, .int md_tokenPlace, .int md_number, .int md_sign, .int md_bad, .int md_faultPlace, .int md_place, .ref a_md_acts, .ref a_md_actNumbers, .ref a_md_actCounts, .int md_bank, .int md_unaries, .int md_opens, .ref a_md_pile, .int md_piled, .int md_loop, .ref a_md_begins, .ref a_md_goals, .ref a_md_ranks, .ref a_md_choiceCounts, .ref a_md_whens, .ref a_md_becomes, .ref a_md_guessCounts, .ref a_md_guesses, .ref a_md_unaryCounts, .ref a_md_stack, .ref a_md_nexts, .ref a_md_isBegin, .ref a_md_isGoal, .ref a_md_levels, .ref a_md_queue, .ref a_md_hasGuesses, .int md_keptBits, .ref a_md_rounds, .ref a_md_marked, .ref a_md_other, .ref a_md_heights])), (a_md_nexts, .inl (cI, 24576, .inl md_nexts)), (a_md_isBegin, .inl (cZ, 4096, .inl md_isBegin)), (a_md_isGoal, .inl (cZ, 4096, .inl md_isGoal)), (a_md_levels, .inl (cI, 4096, .inl md_levels)), (a_md_hasGuesses, .inl (cI, 4096, .inl md_hasGuesses))] sz adK adV [.ref a_md, .int x1]) (va_Qi (fun (r : Int32) (u : Unit) => post r ) (fun (u : Unit) t => bw_ (dC, dI) [(cI, .int), (cB, .byte), (cZ, .boolean)] (va_A [(a_md, .inr (11, [.ref a_md_tape, .int md_size, .int md_at, .int md_token, .int md_tokenPlace, .int md_number, .int md_sign, .int md_bad, .int md_faultPlace, .int md_place, .ref a_md_acts, .ref a_md_actNumbers, .ref a_md_actCounts, .int md_bank, .int md_unaries, .int md_opens, .ref a_md_pile, .int md_piled, .int md_loop, .ref a_md_begins, .ref a_md_goals, .ref a_md_ranks, .ref a_md_choiceCounts, .ref a_md_whens, .ref a_md_becomes, .ref a_md_guessCounts, .ref a_md_guesses, .ref a_md_unaryCounts, .ref a_md_stack, .ref a_md_nexts, .ref a_md_isBegin, .ref a_md_isGoal, .ref a_md_levels, .ref a_md_queue, .ref a_md_hasGuesses, .int md_keptBits, .ref a_md_rounds, .ref a_md_marked, .ref a_md_other, .ref a_md_heights])), (a_md_nexts, .inl (cI, 24576, .inl md_nexts)), (a_md_isBegin, .inl (cZ, 4096, .inl md_isBegin)), (a_md_isGoal, .inl (cZ, 4096, .inl md_isGoal)), (a_md_levels, .inl (cI, 4096, .inl md_levels)), (a_md_hasGuesses, .inl (cI, 4096, .inl md_hasGuesses))] sz) [(a_md, .inr (11, [.ref a_md_tape, .int md_size, .int md_at, .int md_token, .int md_tokenPlace, .int md_number, .int md_sign, .int md_bad, .int md_faultPlace, .int md_place, .ref a_md_acts, .ref a_md_actNumbers, .ref a_md_actCounts, .int md_bank, .int md_unaries, .int md_opens, .ref a_md_pile, .int md_piled, .int md_loop, .ref a_md_begins, .ref a_md_goals, .ref a_md_ranks, .ref a_md_choiceCounts, .ref a_md_whens, .ref a_md_becomes, .ref a_md_guessCounts, .ref a_md_guesses, .ref a_md_unaryCounts, .ref a_md_stack, .ref a_md_nexts, .ref a_md_isBegin, .ref a_md_isGoal, .ref a_md_levels, .ref a_md_queue, .ref a_md_hasGuesses, .int md_keptBits, .ref a_md_rounds, .ref a_md_marked, .ref a_md_other, .ref a_md_heights])), (a_md_nexts, .inl (cI, 24576, .inl md_nexts)), (a_md_isBegin, .inl (cZ, 4096, .inl md_isBegin)), (a_md_isGoal, .inl (cZ, 4096, .inl md_isGoal)), (a_md_levels, .inl (cI, 4096, .inl md_levels)), (a_md_hasGuesses, .inl (cI, 4096, .inl md_hasGuesses))] t) (va_A [(a_md, .inr (11, [.ref a_md_tape, .int md_size, .int md_at, .int md_token, .int md_tokenPlace, .int md_number, .int md_sign, .int md_bad, .int md_faultPlace, .int md_place, .ref a_md_acts, .ref a_md_actNumbers, .ref a_md_actCounts, .int md_bank, .int md_unaries, .int md_opens, .ref a_md_pile, .int md_piled, .int md_loop, .ref a_md_begins, .ref a_md_goals, .ref a_md_ranks, .ref a_md_choiceCounts, .ref a_md_whens, .ref a_md_becomes, .ref a_md_guessCounts, .ref a_md_guesses, .ref a_md_unaryCounts, .ref a_md_stack, .ref a_md_nexts, .ref a_md_isBegin, .ref a_md_isGoal, .ref a_md_levels, .ref a_md_queue, .ref a_md_hasGuesses, .int md_keptBits, .ref a_md_rounds, .ref a_md_marked, .ref a_md_other, .ref a_md_heights])), (a_md_nexts, .inl (cI, 24576, .inl md_nexts)), (a_md_isBegin, .inl (cZ, 4096, .inl md_isBegin)), (a_md_isGoal, .inl (cZ, 4096, .inl md_isGoal)), (a_md_levels, .inl (cI, 4096, .inl md_levels)), (a_md_hasGuesses, .inl (cI, 4096, .inl md_hasGuesses))] sz)) 0 0 (va_A [(a_md, .inr (11, [.ref a_md_tape, .int md_size, .int md_at, .int md_token, .int md_tokenPlace, .int md_number, .int md_sign, .int md_bad, .int md_faultPlace, .int md_place, .ref a_md_acts, .ref a_md_actNumbers, .ref a_md_actCounts, .int md_bank, .int md_unaries, .int md_opens, .ref a_md_pile, .int md_piled, .int md_loop, .ref a_md_begins, .ref a_md_goals, .ref a_md_ranks, .ref a_md_choiceCounts, .ref a_md_whens, .ref a_md_becomes, .ref a_md_guessCounts, .ref a_md_guesses, .ref a_md_unaryCounts, .ref a_md_stack, .ref a_md_nexts, .ref a_md_isBegin, .ref a_md_isGoal, .ref a_md_levels, .ref a_md_queue, .ref a_md_hasGuesses, .int md_keptBits, .ref a_md_rounds, .ref a_md_marked, .ref a_md_other, .ref a_md_heights])), (a_md_nexts, .inl (cI, 24576, .inl md_nexts)), (a_md_isBegin, .inl (cZ, 4096, .inl md_isBegin)), (a_md_isGoal, .inl (cZ, 4096, .inl md_isGoal)), (a_md_levels, .inl (cI, 4096, .inl md_levels)), (a_md_hasGuesses, .inl (cI, 4096, .inl md_hasGuesses))] sz) := by
  refine Met.ofW (cc := b_Md_many) (maxL := 6) (ret := (some .int)) (by decide) rfl ?_
  intro p e s m args below meth c s₁ B hml hv
  obtain ⟨rfl, hsz, hP, hK, hD0, hN, hT⟩ := hv
  have hx := B.exec
  have hb := B.bytes
  have hr := B.returns
  have hts := atoms_spec (ws := w_Md_many) B.pre
  have hown : s.vm.findClass "LoopInductionModel" = some m.cls := findClass_of_methodNamed B.named
  have hlocks := B.notSynchronized
  subst hsz
  have hD := hD0.self (sz := s.heap.size)
  generalize hAe : va_A [(a_md, .inr (11, [.ref a_md_tape, .int md_size, .int md_at, .int md_token, .int md_tokenPlace, .int md_number, .int md_sign, .int md_bad, .int md_faultPlace, .int md_place, .ref a_md_acts, .ref a_md_actNumbers, .ref a_md_actCounts, .int md_bank, .int md_unaries, .int md_opens, .ref a_md_pile, .int md_piled, .int md_loop, .ref a_md_begins, .ref a_md_goals, .ref a_md_ranks, .ref a_md_choiceCounts, .ref a_md_whens, .ref a_md_becomes, .ref a_md_guessCounts, .ref a_md_guesses, .ref a_md_unaryCounts, .ref a_md_stack, .ref a_md_nexts, .ref a_md_isBegin, .ref a_md_isGoal, .ref a_md_levels, .ref a_md_queue, .ref a_md_hasGuesses, .int md_keptBits, .ref a_md_rounds, .ref a_md_marked, .ref a_md_other, .ref a_md_heights])), (a_md_nexts, .inl (cI, 24576, .inl md_nexts)), (a_md_isBegin, .inl (cZ, 4096, .inl md_isBegin)), (a_md_isGoal, .inl (cZ, 4096, .inl md_isGoal)), (a_md_levels, .inl (cI, 4096, .inl md_levels)), (a_md_hasGuesses, .inl (cI, 4096, .inl md_hasGuesses))] s.heap.size = A at hD hT ⊢
  have hA : ∀ q : Nat, s.heap.size ≤ q → A q := fun q h => by rw [← hAe]; exact Or.inr h
  have hS : va_S A s.heap s.heap [] := va_S.rf
  generalize hQ : MQ below _ _ s 0 0 _ = QQ
  have hl := lv_entry ([.ref a_md, .int x1]) (n := 6) (Nat.le_of_ble_eq_true rfl)
  rw [lg_entry_eq]
  generalize (lg_sl ([.ref a_md, .int x1]) ++ List.replicate (6 - (lg_sl ([.ref a_md, .int x1])).length) Slot.unset).toArray = ls at hl ⊢
  have hl : lv_has ls 6 [(0, .ref a_md), (1, .int x1)] := hl
  have fl_30 := (hts _ (List.mem_cons_of_mem _ m_1108))
  have fl_66 := (hts _ (List.mem_cons_of_mem _ m_1120))
  have fl_70 := (hts _ (List.mem_cons_of_mem _ m_1121))
  have fl_73 := (hts _ (List.mem_cons_of_mem _ m_1122))
  have fl_79 := (hts _ (List.mem_cons_of_mem _ m_1124))
  have fl_264 := (hts _ (List.mem_cons_of_mem _ m_1125))
  refine lv_aload_n hx hb d_Md_many_0 rfl (lv_at hl 0 rfl) ?_
  refine va_get (D := (dC, dI)) (ci := 11) (v := .int md_loop) (C := "LoopInductionModel") (T := F_Md) (N := 40) hx hb hts iC_Md hown hK hP 0 rfl rfl 18 (by decide) fl_30 (fun _ h9 => h9) rfl d_Md_many_1 ?_
  refine lv_if_lt (tgt := 17) hx hb d_Md_many_4 (by decide) (fun c_4 => ?_) (fun c_4 => ?_)
  · have h := And.left h c_4
    refine lv_iconst (v := (-1)) hx hb d_Md_many_17 (by decide) ?_
    subst hQ
    have hP9 := hP
    have hD9 := hD
    exact W.iret (v := (-1)) hx hb hr (fun t ht hW => ⟨⟨(-1), (), rfl, h, by rw [ht]; exact hP9, va_K.moved hW.alike hK, hD9⟩, hS.F ht⟩) hS.2.2 d_Md_many_18
  · have h := And.right h c_4
    refine lv_iload_n hx hb d_Md_many_7 rfl (lv_at hl 1 rfl) ?_
    refine lv_if_lt (tgt := 17) hx hb d_Md_many_8 (by decide) (fun c_8 => ?_) (fun c_8 => ?_)
    · have h := And.left h c_8
      refine lv_iconst (v := (-1)) hx hb d_Md_many_17 (by decide) ?_
      subst hQ
      have hP9 := hP
      have hD9 := hD
      exact W.iret (v := (-1)) hx hb hr (fun t ht hW => ⟨⟨(-1), (), rfl, h, by rw [ht]; exact hP9, va_K.moved hW.alike hK, hD9⟩, hS.F ht⟩) hS.2.2 d_Md_many_18
    · have h := And.right h c_8
      refine lv_iload_n hx hb d_Md_many_11 rfl (lv_at hl 1 rfl) ?_
      refine lv_bipush (v := 6) hx hb d_Md_many_12 (by decide) ?_
      refine lv_icmp_le (tgt := 19) hx hb d_Md_many_14 (by decide) (fun c_14 => ?_) (fun c_14 => ?_)
      · have h := And.left h c_14
        refine lv_iconst (v := 0) hx hb d_Md_many_19 (by decide) ?_
        refine lv_istore_n (lv' := [(2, .int 0), (0, .ref a_md), (1, .int x1)]) hx hb d_Md_many_20 rfl hl (by decide) rfl (fun ls hl => ?_)
        refine lv_iconst (v := (-1)) hx hb d_Md_many_21 (by decide) ?_
        refine lv_istore_n (lv' := [(3, .int (-1)), (2, .int 0), (0, .ref a_md), (1, .int x1)]) hx hb d_Md_many_22 rfl hl (by decide) rfl (fun ls hl => ?_)
        refine lv_iconst (v := 0) hx hb d_Md_many_23 (by decide) ?_
        refine lv_istore (lv' := [(4, .int 0), (3, .int (-1)), (2, .int 0), (0, .ref a_md), (1, .int x1)]) hx hb d_Md_many_24 hl (by decide) rfl (fun ls hl => ?_)
        have L26_q_4 : ∀ (k249 : Int32 → Int32 → Prop) (hk249 : ∀ (x2_5 : Int32) (x3_6 : Int32), k249 x2_5 x3_6 → ∀ (H : Heap) (locs : List Loc), va_P (dC, dI) vwCl [(a_md, .inr (11, [.ref a_md_tape, .int md_size, .int md_at, .int md_token, .int md_tokenPlace, .int md_number, .int md_sign, .int md_bad, .int md_faultPlace, .int md_place, .ref a_md_acts, .ref a_md_actNumbers, .ref a_md_actCounts, .int md_bank, .int md_unaries, .int md_opens, .ref a_md_pile, .int md_piled, .int md_loop, .ref a_md_begins, .ref a_md_goals, .ref a_md_ranks, .ref a_md_choiceCounts, .ref a_md_whens, .ref a_md_becomes, .ref a_md_guessCounts, .ref a_md_guesses, .ref a_md_unaryCounts, .ref a_md_stack, .ref a_md_nexts, .ref a_md_isBegin, .ref a_md_isGoal, .ref a_md_levels, .ref a_md_queue, .ref a_md_hasGuesses, .int md_keptBits, .ref a_md_rounds, .ref a_md_marked, .ref a_md_other, .ref a_md_heights])), (a_md_nexts, .inl (cI, 24576, .inl md_nexts)), (a_md_isBegin, .inl (cZ, 4096, .inl md_isBegin)), (a_md_isGoal, .inl (cZ, 4096, .inl md_isGoal)), (a_md_levels, .inl (cI, 4096, .inl md_levels)), (a_md_hasGuesses, .inl (cI, 4096, .inl md_hasGuesses))] H → va_D A [(a_md, .inr (11, [.ref a_md_tape, .int md_size, .int md_at, .int md_token, .int md_tokenPlace, .int md_number, .int md_sign, .int md_bad, .int md_faultPlace, .int md_place, .ref a_md_acts, .ref a_md_actNumbers, .ref a_md_actCounts, .int md_bank, .int md_unaries, .int md_opens, .ref a_md_pile, .int md_piled, .int md_loop, .ref a_md_begins, .ref a_md_goals, .ref a_md_ranks, .ref a_md_choiceCounts, .ref a_md_whens, .ref a_md_becomes, .ref a_md_guessCounts, .ref a_md_guesses, .ref a_md_unaryCounts, .ref a_md_stack, .ref a_md_nexts, .ref a_md_isBegin, .ref a_md_isGoal, .ref a_md_levels, .ref a_md_queue, .ref a_md_hasGuesses, .int md_keptBits, .ref a_md_rounds, .ref a_md_marked, .ref a_md_other, .ref a_md_heights])), (a_md_nexts, .inl (cI, 24576, .inl md_nexts)), (a_md_isBegin, .inl (cZ, 4096, .inl md_isBegin)), (a_md_isGoal, .inl (cZ, 4096, .inl md_isGoal)), (a_md_levels, .inl (cI, 4096, .inl md_levels)), (a_md_hasGuesses, .inl (cI, 4096, .inl md_hasGuesses))] → va_S A s.heap H locs → ∀ ls : Array Slot, lv_has ls 6 [(1, .int x1), (2, .int x2_5), (3, .int x3_6)] → W p l e (headSpec w_Md_many ({ frames := 1, cells := 0, slots := 0, locals := 26 })).room s m (([.ref a_md, .int x1] : List Value).toArray) below meth c H locs 0 0 QQ (F0 m 249 ls [])) (n : Nat) (x2_1 : Int32) (x3_2 : Int32) (x4_3 : Int32), wp_Md_many_L26 x1 md_keptBits md_nexts md_isBegin md_isGoal md_levels md_hasGuesses k249 n x2_1 x3_2 x4_3 → ∀ (H : Heap) (locs : List Loc), va_P (dC, dI) vwCl [(a_md, .inr (11, [.ref a_md_tape, .int md_size, .int md_at, .int md_token, .int md_tokenPlace, .int md_number, .int md_sign, .int md_bad, .int md_faultPlace, .int md_place, .ref a_md_acts, .ref a_md_actNumbers, .ref a_md_actCounts, .int md_bank, .int md_unaries, .int md_opens, .ref a_md_pile, .int md_piled, .int md_loop, .ref a_md_begins, .ref a_md_goals, .ref a_md_ranks, .ref a_md_choiceCounts, .ref a_md_whens, .ref a_md_becomes, .ref a_md_guessCounts, .ref a_md_guesses, .ref a_md_unaryCounts, .ref a_md_stack, .ref a_md_nexts, .ref a_md_isBegin, .ref a_md_isGoal, .ref a_md_levels, .ref a_md_queue, .ref a_md_hasGuesses, .int md_keptBits, .ref a_md_rounds, .ref a_md_marked, .ref a_md_other, .ref a_md_heights])), (a_md_nexts, .inl (cI, 24576, .inl md_nexts)), (a_md_isBegin, .inl (cZ, 4096, .inl md_isBegin)), (a_md_isGoal, .inl (cZ, 4096, .inl md_isGoal)), (a_md_levels, .inl (cI, 4096, .inl md_levels)), (a_md_hasGuesses, .inl (cI, 4096, .inl md_hasGuesses))] H → va_D A [(a_md, .inr (11, [.ref a_md_tape, .int md_size, .int md_at, .int md_token, .int md_tokenPlace, .int md_number, .int md_sign, .int md_bad, .int md_faultPlace, .int md_place, .ref a_md_acts, .ref a_md_actNumbers, .ref a_md_actCounts, .int md_bank, .int md_unaries, .int md_opens, .ref a_md_pile, .int md_piled, .int md_loop, .ref a_md_begins, .ref a_md_goals, .ref a_md_ranks, .ref a_md_choiceCounts, .ref a_md_whens, .ref a_md_becomes, .ref a_md_guessCounts, .ref a_md_guesses, .ref a_md_unaryCounts, .ref a_md_stack, .ref a_md_nexts, .ref a_md_isBegin, .ref a_md_isGoal, .ref a_md_levels, .ref a_md_queue, .ref a_md_hasGuesses, .int md_keptBits, .ref a_md_rounds, .ref a_md_marked, .ref a_md_other, .ref a_md_heights])), (a_md_nexts, .inl (cI, 24576, .inl md_nexts)), (a_md_isBegin, .inl (cZ, 4096, .inl md_isBegin)), (a_md_isGoal, .inl (cZ, 4096, .inl md_isGoal)), (a_md_levels, .inl (cI, 4096, .inl md_levels)), (a_md_hasGuesses, .inl (cI, 4096, .inl md_hasGuesses))] → va_S A s.heap H locs → ∀ ls : Array Slot, lv_has ls 6 [(0, .ref a_md), (1, .int x1), (2, .int x2_1), (3, .int x3_2), (4, .int x4_3)] → W p l e (headSpec w_Md_many ({ frames := 1, cells := 0, slots := 0, locals := 26 })).room s m (([.ref a_md, .int x1] : List Value).toArray) below meth c H locs 0 0 QQ (F0 m 26 ls []) := by
          intro k249 hk249 n
          induction n with
          | zero => intro x2_1 x3_2 x4_3 h; exact (show False from h).elim
          | succ n il =>
            intro x2_1 x3_2 x4_3 h H locs hP hD hS ls hl
            have J73 : ∀ (kb : Int32 → Int32 → Int32 → Prop) (hkb : ∀ (x2_11 : Int32) (x3_12 : Int32) (x4_13 : Int32), kb x2_11 x3_12 x4_13 → ∀ (H : Heap) (locs : List Loc), va_P (dC, dI) vwCl [(a_md, .inr (11, [.ref a_md_tape, .int md_size, .int md_at, .int md_token, .int md_tokenPlace, .int md_number, .int md_sign, .int md_bad, .int md_faultPlace, .int md_place, .ref a_md_acts, .ref a_md_actNumbers, .ref a_md_actCounts, .int md_bank, .int md_unaries, .int md_opens, .ref a_md_pile, .int md_piled, .int md_loop, .ref a_md_begins, .ref a_md_goals, .ref a_md_ranks, .ref a_md_choiceCounts, .ref a_md_whens, .ref a_md_becomes, .ref a_md_guessCounts, .ref a_md_guesses, .ref a_md_unaryCounts, .ref a_md_stack, .ref a_md_nexts, .ref a_md_isBegin, .ref a_md_isGoal, .ref a_md_levels, .ref a_md_queue, .ref a_md_hasGuesses, .int md_keptBits, .ref a_md_rounds, .ref a_md_marked, .ref a_md_other, .ref a_md_heights])), (a_md_nexts, .inl (cI, 24576, .inl md_nexts)), (a_md_isBegin, .inl (cZ, 4096, .inl md_isBegin)), (a_md_isGoal, .inl (cZ, 4096, .inl md_isGoal)), (a_md_levels, .inl (cI, 4096, .inl md_levels)), (a_md_hasGuesses, .inl (cI, 4096, .inl md_hasGuesses))] H → va_D A [(a_md, .inr (11, [.ref a_md_tape, .int md_size, .int md_at, .int md_token, .int md_tokenPlace, .int md_number, .int md_sign, .int md_bad, .int md_faultPlace, .int md_place, .ref a_md_acts, .ref a_md_actNumbers, .ref a_md_actCounts, .int md_bank, .int md_unaries, .int md_opens, .ref a_md_pile, .int md_piled, .int md_loop, .ref a_md_begins, .ref a_md_goals, .ref a_md_ranks, .ref a_md_choiceCounts, .ref a_md_whens, .ref a_md_becomes, .ref a_md_guessCounts, .ref a_md_guesses, .ref a_md_unaryCounts, .ref a_md_stack, .ref a_md_nexts, .ref a_md_isBegin, .ref a_md_isGoal, .ref a_md_levels, .ref a_md_queue, .ref a_md_hasGuesses, .int md_keptBits, .ref a_md_rounds, .ref a_md_marked, .ref a_md_other, .ref a_md_heights])), (a_md_nexts, .inl (cI, 24576, .inl md_nexts)), (a_md_isBegin, .inl (cZ, 4096, .inl md_isBegin)), (a_md_isGoal, .inl (cZ, 4096, .inl md_isGoal)), (a_md_levels, .inl (cI, 4096, .inl md_levels)), (a_md_hasGuesses, .inl (cI, 4096, .inl md_hasGuesses))] → va_S A s.heap H locs → ∀ ls : Array Slot, lv_has ls 6 [(0, .ref a_md), (1, .int x1), (2, .int x2_11), (3, .int x3_12), (4, .int x4_13)] → W p l e (headSpec w_Md_many ({ frames := 1, cells := 0, slots := 0, locals := 26 })).room s m (([.ref a_md, .int x1] : List Value).toArray) below meth c H locs 0 0 QQ (F0 m 26 ls [])) (k249 : Int32 → Int32 → Prop) (hk249 : ∀ (x2_14 : Int32) (x3_15 : Int32), k249 x2_14 x3_15 → ∀ (H : Heap) (locs : List Loc), va_P (dC, dI) vwCl [(a_md, .inr (11, [.ref a_md_tape, .int md_size, .int md_at, .int md_token, .int md_tokenPlace, .int md_number, .int md_sign, .int md_bad, .int md_faultPlace, .int md_place, .ref a_md_acts, .ref a_md_actNumbers, .ref a_md_actCounts, .int md_bank, .int md_unaries, .int md_opens, .ref a_md_pile, .int md_piled, .int md_loop, .ref a_md_begins, .ref a_md_goals, .ref a_md_ranks, .ref a_md_choiceCounts, .ref a_md_whens, .ref a_md_becomes, .ref a_md_guessCounts, .ref a_md_guesses, .ref a_md_unaryCounts, .ref a_md_stack, .ref a_md_nexts, .ref a_md_isBegin, .ref a_md_isGoal, .ref a_md_levels, .ref a_md_queue, .ref a_md_hasGuesses, .int md_keptBits, .ref a_md_rounds, .ref a_md_marked, .ref a_md_other, .ref a_md_heights])), (a_md_nexts, .inl (cI, 24576, .inl md_nexts)), (a_md_isBegin, .inl (cZ, 4096, .inl md_isBegin)), (a_md_isGoal, .inl (cZ, 4096, .inl md_isGoal)), (a_md_levels, .inl (cI, 4096, .inl md_levels)), (a_md_hasGuesses, .inl (cI, 4096, .inl md_hasGuesses))] H → va_D A [(a_md, .inr (11, [.ref a_md_tape, .int md_size, .int md_at, .int md_token, .int md_tokenPlace, .int md_number, .int md_sign, .int md_bad, .int md_faultPlace, .int md_place, .ref a_md_acts, .ref a_md_actNumbers, .ref a_md_actCounts, .int md_bank, .int md_unaries, .int md_opens, .ref a_md_pile, .int md_piled, .int md_loop, .ref a_md_begins, .ref a_md_goals, .ref a_md_ranks, .ref a_md_choiceCounts, .ref a_md_whens, .ref a_md_becomes, .ref a_md_guessCounts, .ref a_md_guesses, .ref a_md_unaryCounts, .ref a_md_stack, .ref a_md_nexts, .ref a_md_isBegin, .ref a_md_isGoal, .ref a_md_levels, .ref a_md_queue, .ref a_md_hasGuesses, .int md_keptBits, .ref a_md_rounds, .ref a_md_marked, .ref a_md_other, .ref a_md_heights])), (a_md_nexts, .inl (cI, 24576, .inl md_nexts)), (a_md_isBegin, .inl (cZ, 4096, .inl md_isBegin)), (a_md_isGoal, .inl (cZ, 4096, .inl md_isGoal)), (a_md_levels, .inl (cI, 4096, .inl md_levels)), (a_md_hasGuesses, .inl (cI, 4096, .inl md_hasGuesses))] → va_S A s.heap H locs → ∀ ls : Array Slot, lv_has ls 6 [(1, .int x1), (2, .int x2_14), (3, .int x3_15)] → W p l e (headSpec w_Md_many ({ frames := 1, cells := 0, slots := 0, locals := 26 })).room s m (([.ref a_md, .int x1] : List Value).toArray) below meth c H locs 0 0 QQ (F0 m 249 ls [])) (x2_7 : Int32) (x4_8 : Int32) (x5_9 : Int32) (s0_10 : Int32), wp_Md_many_J73 x1 x2_7 x4_8 x5_9 s0_10 md_keptBits md_nexts md_isBegin md_isGoal md_levels md_hasGuesses kb k249 → ∀ (H : Heap) (locs : List Loc), va_P (dC, dI) vwCl [(a_md, .inr (11, [.ref a_md_tape, .int md_size, .int md_at, .int md_token, .int md_tokenPlace, .int md_number, .int md_sign, .int md_bad, .int md_faultPlace, .int md_place, .ref a_md_acts, .ref a_md_actNumbers, .ref a_md_actCounts, .int md_bank, .int md_unaries, .int md_opens, .ref a_md_pile, .int md_piled, .int md_loop, .ref a_md_begins, .ref a_md_goals, .ref a_md_ranks, .ref a_md_choiceCounts, .ref a_md_whens, .ref a_md_becomes, .ref a_md_guessCounts, .ref a_md_guesses, .ref a_md_unaryCounts, .ref a_md_stack, .ref a_md_nexts, .ref a_md_isBegin, .ref a_md_isGoal, .ref a_md_levels, .ref a_md_queue, .ref a_md_hasGuesses, .int md_keptBits, .ref a_md_rounds, .ref a_md_marked, .ref a_md_other, .ref a_md_heights])), (a_md_nexts, .inl (cI, 24576, .inl md_nexts)), (a_md_isBegin, .inl (cZ, 4096, .inl md_isBegin)), (a_md_isGoal, .inl (cZ, 4096, .inl md_isGoal)), (a_md_levels, .inl (cI, 4096, .inl md_levels)), (a_md_hasGuesses, .inl (cI, 4096, .inl md_hasGuesses))] H → va_D A [(a_md, .inr (11, [.ref a_md_tape, .int md_size, .int md_at, .int md_token, .int md_tokenPlace, .int md_number, .int md_sign, .int md_bad, .int md_faultPlace, .int md_place, .ref a_md_acts, .ref a_md_actNumbers, .ref a_md_actCounts, .int md_bank, .int md_unaries, .int md_opens, .ref a_md_pile, .int md_piled, .int md_loop, .ref a_md_begins, .ref a_md_goals, .ref a_md_ranks, .ref a_md_choiceCounts, .ref a_md_whens, .ref a_md_becomes, .ref a_md_guessCounts, .ref a_md_guesses, .ref a_md_unaryCounts, .ref a_md_stack, .ref a_md_nexts, .ref a_md_isBegin, .ref a_md_isGoal, .ref a_md_levels, .ref a_md_queue, .ref a_md_hasGuesses, .int md_keptBits, .ref a_md_rounds, .ref a_md_marked, .ref a_md_other, .ref a_md_heights])), (a_md_nexts, .inl (cI, 24576, .inl md_nexts)), (a_md_isBegin, .inl (cZ, 4096, .inl md_isBegin)), (a_md_isGoal, .inl (cZ, 4096, .inl md_isGoal)), (a_md_levels, .inl (cI, 4096, .inl md_levels)), (a_md_hasGuesses, .inl (cI, 4096, .inl md_hasGuesses))] → va_S A s.heap H locs → ∀ ls : Array Slot, lv_has ls 6 [(0, .ref a_md), (1, .int x1), (2, .int x2_7), (4, .int x4_8), (5, .int x5_9)] → W p l e (headSpec w_Md_many ({ frames := 1, cells := 0, slots := 0, locals := 26 })).room s m (([.ref a_md, .int x1] : List Value).toArray) below meth c H locs 0 0 QQ (F0 m 73 ls [.int s0_10]) := by
              intro kb hkb k249 hk249 x2_7 x4_8 x5_9 s0_10 h H locs hP hD hS ls hl
              refine lv_istore_n (lv' := [(3, .int s0_10), (0, .ref a_md), (1, .int x1), (2, .int x2_7), (4, .int x4_8), (5, .int x5_9)]) hx hb d_Md_many_73 rfl hl (by decide) rfl (fun ls hl => ?_)
              refine lv_iload_n hx hb d_Md_many_74 rfl (lv_at hl 2 rfl) ?_
              rcases Classical.em ((x1 : Int32) = 0) with e_75_0 | e_75_0
              · have h := h.1 e_75_0
                refine lv_tableIn (off := 37) (tgt := 112) hx hb d_Md_many_75 (by rw [e_75_0]; decide) (by rw [e_75_0]; decide) (by rw [e_75_0]; rfl) (by decide) ?_
                refine lv_iload_n hx hb d_Md_many_112 rfl (lv_at hl 3 rfl) ?_
                refine lv_aload_n hx hb d_Md_many_113 rfl (lv_at hl 1 rfl) ?_
                refine va_get (D := (dC, dI)) (ci := 11) (v := .ref a_md_isBegin) (C := "LoopInductionModel") (T := F_Md) (N := 40) hx hb hts iC_Md hown hK hP 0 rfl rfl 30 (by decide) fl_66 (fun _ h9 => h9) rfl d_Md_many_114 ?_
                refine lv_iload hx hb d_Md_many_117 (lv_at hl 4 rfl) ?_
                obtain ⟨hin_119, h⟩ := h
                refine va_zald hx hb hK hP 2 2 rfl rfl hin_119 d_Md_many_119 ?_
                refine lv_if_eq (tgt := 127) hx hb d_Md_many_120 (by decide) (fun c_120 => ?_) (fun c_120 => ?_)
                · have h := And.left h c_120
                  refine lv_iconst (v := 0) hx hb d_Md_many_127 (by decide) ?_
                  refine lv_iadd hx hb d_Md_many_128 ?_
                  refine lv_topi (fun x2_16 ex2_16 => ?_)
                  have h := h x2_16 ex2_16
                  refine lv_istore_n (lv' := [(2, .int x2_16), (3, .int s0_10), (0, .ref a_md), (1, .int x1), (4, .int x4_8), (5, .int x5_9)]) hx hb d_Md_many_129 rfl hl (by decide) rfl (fun ls hl => ?_)
                  refine lv_goto (tgt := 243) hx hb d_Md_many_130 (by decide) ?_
                  refine lv_iinc (v := x4_8 + 1) (lv' := [(4, .int (x4_8 + 1)), (2, .int x2_16), (3, .int s0_10), (0, .ref a_md), (1, .int x1), (5, .int x5_9)]) hx hb d_Md_many_243 hl (k := 4) rfl rfl (by decide) rfl (fun ls hl => ?_)
                  refine lv_goto (tgt := 26) hx hb d_Md_many_246 (by decide) ?_
                  exact hkb _ _ _ h _ _ hP hD hS _ (lv_sub hl [3, 4, 1, 2, 0] rfl)
                · have h := And.right h c_120
                  refine lv_iconst (v := 1) hx hb d_Md_many_123 (by decide) ?_
                  refine lv_goto (tgt := 128) hx hb d_Md_many_124 (by decide) ?_
                  refine lv_iadd hx hb d_Md_many_128 ?_
                  refine lv_topi (fun x2_17 ex2_17 => ?_)
                  have h := h x2_17 ex2_17
                  refine lv_istore_n (lv' := [(2, .int x2_17), (3, .int s0_10), (0, .ref a_md), (1, .int x1), (4, .int x4_8), (5, .int x5_9)]) hx hb d_Md_many_129 rfl hl (by decide) rfl (fun ls hl => ?_)
                  refine lv_goto (tgt := 243) hx hb d_Md_many_130 (by decide) ?_
                  refine lv_iinc (v := x4_8 + 1) (lv' := [(4, .int (x4_8 + 1)), (2, .int x2_17), (3, .int s0_10), (0, .ref a_md), (1, .int x1), (5, .int x5_9)]) hx hb d_Md_many_243 hl (k := 4) rfl rfl (by decide) rfl (fun ls hl => ?_)
                  refine lv_goto (tgt := 26) hx hb d_Md_many_246 (by decide) ?_
                  exact hkb _ _ _ h _ _ hP hD hS _ (lv_sub hl [3, 4, 1, 2, 0] rfl)
              rcases Classical.em ((x1 : Int32) = 1) with e_75_1 | e_75_1
              · have h := h.2.1 e_75_1
                refine lv_tableIn (off := 58) (tgt := 133) hx hb d_Md_many_75 (by rw [e_75_1]; decide) (by rw [e_75_1]; decide) (by rw [e_75_1]; rfl) (by decide) ?_
                refine lv_iload_n hx hb d_Md_many_133 rfl (lv_at hl 3 rfl) ?_
                refine lv_aload_n hx hb d_Md_many_134 rfl (lv_at hl 1 rfl) ?_
                refine va_get (D := (dC, dI)) (ci := 11) (v := .ref a_md_isGoal) (C := "LoopInductionModel") (T := F_Md) (N := 40) hx hb hts iC_Md hown hK hP 0 rfl rfl 31 (by decide) fl_70 (fun _ h9 => h9) rfl d_Md_many_135 ?_
                refine lv_iload hx hb d_Md_many_138 (lv_at hl 4 rfl) ?_
                obtain ⟨hin_140, h⟩ := h
                refine va_zald hx hb hK hP 3 2 rfl rfl hin_140 d_Md_many_140 ?_
                refine lv_if_eq (tgt := 148) hx hb d_Md_many_141 (by decide) (fun c_141 => ?_) (fun c_141 => ?_)
                · have h := And.left h c_141
                  refine lv_iconst (v := 0) hx hb d_Md_many_148 (by decide) ?_
                  refine lv_iadd hx hb d_Md_many_149 ?_
                  refine lv_topi (fun x2_18 ex2_18 => ?_)
                  have h := h x2_18 ex2_18
                  refine lv_istore_n (lv' := [(2, .int x2_18), (3, .int s0_10), (0, .ref a_md), (1, .int x1), (4, .int x4_8), (5, .int x5_9)]) hx hb d_Md_many_150 rfl hl (by decide) rfl (fun ls hl => ?_)
                  refine lv_goto (tgt := 243) hx hb d_Md_many_151 (by decide) ?_
                  refine lv_iinc (v := x4_8 + 1) (lv' := [(4, .int (x4_8 + 1)), (2, .int x2_18), (3, .int s0_10), (0, .ref a_md), (1, .int x1), (5, .int x5_9)]) hx hb d_Md_many_243 hl (k := 4) rfl rfl (by decide) rfl (fun ls hl => ?_)
                  refine lv_goto (tgt := 26) hx hb d_Md_many_246 (by decide) ?_
                  exact hkb _ _ _ h _ _ hP hD hS _ (lv_sub hl [3, 4, 1, 2, 0] rfl)
                · have h := And.right h c_141
                  refine lv_iconst (v := 1) hx hb d_Md_many_144 (by decide) ?_
                  refine lv_goto (tgt := 149) hx hb d_Md_many_145 (by decide) ?_
                  refine lv_iadd hx hb d_Md_many_149 ?_
                  refine lv_topi (fun x2_19 ex2_19 => ?_)
                  have h := h x2_19 ex2_19
                  refine lv_istore_n (lv' := [(2, .int x2_19), (3, .int s0_10), (0, .ref a_md), (1, .int x1), (4, .int x4_8), (5, .int x5_9)]) hx hb d_Md_many_150 rfl hl (by decide) rfl (fun ls hl => ?_)
                  refine lv_goto (tgt := 243) hx hb d_Md_many_151 (by decide) ?_
                  refine lv_iinc (v := x4_8 + 1) (lv' := [(4, .int (x4_8 + 1)), (2, .int x2_19), (3, .int s0_10), (0, .ref a_md), (1, .int x1), (5, .int x5_9)]) hx hb d_Md_many_243 hl (k := 4) rfl rfl (by decide) rfl (fun ls hl => ?_)
                  refine lv_goto (tgt := 26) hx hb d_Md_many_246 (by decide) ?_
                  exact hkb _ _ _ h _ _ hP hD hS _ (lv_sub hl [3, 4, 1, 2, 0] rfl)
              rcases Classical.em ((x1 : Int32) = 2) with e_75_2 | e_75_2
              · have h := h.2.2.1 e_75_2
                refine lv_tableIn (off := 79) (tgt := 154) hx hb d_Md_many_75 (by rw [e_75_2]; decide) (by rw [e_75_2]; decide) (by rw [e_75_2]; rfl) (by decide) ?_
                refine lv_iload_n hx hb d_Md_many_154 rfl (lv_at hl 3 rfl) ?_
                refine lv_iload hx hb d_Md_many_155 (lv_at hl 5 rfl) ?_
                refine lv_if_eq (tgt := 164) hx hb d_Md_many_157 (by decide) (fun c_157 => ?_) (fun c_157 => ?_)
                · have h := And.left h c_157
                  refine lv_iconst (v := 0) hx hb d_Md_many_164 (by decide) ?_
                  refine lv_iadd hx hb d_Md_many_165 ?_
                  refine lv_topi (fun x2_20 ex2_20 => ?_)
                  have h := h x2_20 ex2_20
                  refine lv_istore_n (lv' := [(2, .int x2_20), (3, .int s0_10), (0, .ref a_md), (1, .int x1), (4, .int x4_8), (5, .int x5_9)]) hx hb d_Md_many_166 rfl hl (by decide) rfl (fun ls hl => ?_)
                  refine lv_goto (tgt := 243) hx hb d_Md_many_167 (by decide) ?_
                  refine lv_iinc (v := x4_8 + 1) (lv' := [(4, .int (x4_8 + 1)), (2, .int x2_20), (3, .int s0_10), (0, .ref a_md), (1, .int x1), (5, .int x5_9)]) hx hb d_Md_many_243 hl (k := 4) rfl rfl (by decide) rfl (fun ls hl => ?_)
                  refine lv_goto (tgt := 26) hx hb d_Md_many_246 (by decide) ?_
                  exact hkb _ _ _ h _ _ hP hD hS _ (lv_sub hl [3, 4, 1, 2, 0] rfl)
                · have h := And.right h c_157
                  refine lv_iconst (v := 1) hx hb d_Md_many_160 (by decide) ?_
                  refine lv_goto (tgt := 165) hx hb d_Md_many_161 (by decide) ?_
                  refine lv_iadd hx hb d_Md_many_165 ?_
                  refine lv_topi (fun x2_21 ex2_21 => ?_)
                  have h := h x2_21 ex2_21
                  refine lv_istore_n (lv' := [(2, .int x2_21), (3, .int s0_10), (0, .ref a_md), (1, .int x1), (4, .int x4_8), (5, .int x5_9)]) hx hb d_Md_many_166 rfl hl (by decide) rfl (fun ls hl => ?_)
                  refine lv_goto (tgt := 243) hx hb d_Md_many_167 (by decide) ?_
                  refine lv_iinc (v := x4_8 + 1) (lv' := [(4, .int (x4_8 + 1)), (2, .int x2_21), (3, .int s0_10), (0, .ref a_md), (1, .int x1), (5, .int x5_9)]) hx hb d_Md_many_243 hl (k := 4) rfl rfl (by decide) rfl (fun ls hl => ?_)
                  refine lv_goto (tgt := 26) hx hb d_Md_many_246 (by decide) ?_
                  exact hkb _ _ _ h _ _ hP hD hS _ (lv_sub hl [3, 4, 1, 2, 0] rfl)
              rcases Classical.em ((x1 : Int32) = 3) with e_75_3 | e_75_3
              · have h := h.2.2.2.1 e_75_3
                refine lv_tableIn (off := 95) (tgt := 170) hx hb d_Md_many_75 (by rw [e_75_3]; decide) (by rw [e_75_3]; decide) (by rw [e_75_3]; rfl) (by decide) ?_
                refine lv_iload_n hx hb d_Md_many_170 rfl (lv_at hl 3 rfl) ?_
                refine lv_iload hx hb d_Md_many_171 (lv_at hl 5 rfl) ?_
                refine lv_if_eq (tgt := 189) hx hb d_Md_many_173 (by decide) (fun c_173 => ?_) (fun c_173 => ?_)
                · have h := And.left h c_173
                  refine lv_iconst (v := 0) hx hb d_Md_many_189 (by decide) ?_
                  refine lv_iadd hx hb d_Md_many_190 ?_
                  refine lv_topi (fun x2_22 ex2_22 => ?_)
                  have h := h x2_22 ex2_22
                  refine lv_istore_n (lv' := [(2, .int x2_22), (3, .int s0_10), (0, .ref a_md), (1, .int x1), (4, .int x4_8), (5, .int x5_9)]) hx hb d_Md_many_191 rfl hl (by decide) rfl (fun ls hl => ?_)
                  refine lv_goto (tgt := 243) hx hb d_Md_many_192 (by decide) ?_
                  refine lv_iinc (v := x4_8 + 1) (lv' := [(4, .int (x4_8 + 1)), (2, .int x2_22), (3, .int s0_10), (0, .ref a_md), (1, .int x1), (5, .int x5_9)]) hx hb d_Md_many_243 hl (k := 4) rfl rfl (by decide) rfl (fun ls hl => ?_)
                  refine lv_goto (tgt := 26) hx hb d_Md_many_246 (by decide) ?_
                  exact hkb _ _ _ h _ _ hP hD hS _ (lv_sub hl [3, 4, 1, 2, 0] rfl)
                · have h := And.right h c_173
                  refine lv_aload_n hx hb d_Md_many_176 rfl (lv_at hl 1 rfl) ?_
                  refine lv_iload hx hb d_Md_many_177 (lv_at hl 4 rfl) ?_
                  refine jn_i (wr := [(a_md_isBegin, .inl (cZ, 4096, .inl md_isBegin)), (a_md_isGoal, .inl (cZ, 4096, .inl md_isGoal)), (a_md_levels, .inl (cI, 4096, .inl md_levels)), (a_md_hasGuesses, .inl (cI, 4096, .inl md_hasGuesses))]) (va_runV (As := [.int x4_8]) (rest := [.int x2_7]) ⟨hx, hb, hml, hown, hts⟩ (c_Md_isEnd l dC dI cI cB cZ adK adV _ a_md a_md_tape a_md_acts a_md_actNumbers a_md_actCounts a_md_pile a_md_begins a_md_goals a_md_ranks a_md_choiceCounts a_md_whens a_md_becomes a_md_guessCounts a_md_guesses a_md_unaryCounts a_md_stack a_md_nexts a_md_isBegin a_md_isGoal a_md_levels a_md_queue a_md_hasGuesses a_md_rounds a_md_marked a_md_other a_md_heights md_size md_at md_token md_tokenPlace md_number md_sign md_bad md_faultPlace md_place md_bank md_unaries md_opens md_piled md_loop md_keptBits md_nexts x4_8 _ h) (cwV 1 hts (gv_ m_1377 m_1379 m_78 m_96 m_1380) rfl rfl rfl pd_Md_isEnd ⟨Nat.le_of_ble_eq_true rfl, Nat.le_of_ble_eq_true rfl⟩) ⟨pc_blind, va_recv hK hP (ci := 11) (q0 := 0) rfl rfl, pc_of (hP.sub [0, 1] rfl) hK (hD.sub [0, 1] (by decide) rfl) hN hT hS hA⟩ rfl rfl hl.1 rfl (lv_room (Nat.le_of_ble_eq_true rfl)) d_Md_many_179 ⟨Nat.zero_le _, Nat.zero_le _⟩) hP hD hS hA [0, 1] [2, 3, 4, 5] rfl rfl (by decide) (by decide) (fun r_23 u_ H locs h hP hD hS => ?_)
                  have hP : va_P (dC, dI) vwCl [(a_md_isBegin, .inl (cZ, 4096, .inl md_isBegin)), (a_md_isGoal, .inl (cZ, 4096, .inl md_isGoal)), (a_md_levels, .inl (cI, 4096, .inl md_levels)), (a_md_hasGuesses, .inl (cI, 4096, .inl md_hasGuesses)), (a_md, .inr (11, [.ref a_md_tape, .int md_size, .int md_at, .int md_token, .int md_tokenPlace, .int md_number, .int md_sign, .int md_bad, .int md_faultPlace, .int md_place, .ref a_md_acts, .ref a_md_actNumbers, .ref a_md_actCounts, .int md_bank, .int md_unaries, .int md_opens, .ref a_md_pile, .int md_piled, .int md_loop, .ref a_md_begins, .ref a_md_goals, .ref a_md_ranks, .ref a_md_choiceCounts, .ref a_md_whens, .ref a_md_becomes, .ref a_md_guessCounts, .ref a_md_guesses, .ref a_md_unaryCounts, .ref a_md_stack, .ref a_md_nexts, .ref a_md_isBegin, .ref a_md_isGoal, .ref a_md_levels, .ref a_md_queue, .ref a_md_hasGuesses, .int md_keptBits, .ref a_md_rounds, .ref a_md_marked, .ref a_md_other, .ref a_md_heights])), (a_md_nexts, .inl (cI, 24576, .inl md_nexts))] H := hP
                  have hD : va_D A [(a_md_isBegin, .inl (cZ, 4096, .inl md_isBegin)), (a_md_isGoal, .inl (cZ, 4096, .inl md_isGoal)), (a_md_levels, .inl (cI, 4096, .inl md_levels)), (a_md_hasGuesses, .inl (cI, 4096, .inl md_hasGuesses)), (a_md, .inr (11, [.ref a_md_tape, .int md_size, .int md_at, .int md_token, .int md_tokenPlace, .int md_number, .int md_sign, .int md_bad, .int md_faultPlace, .int md_place, .ref a_md_acts, .ref a_md_actNumbers, .ref a_md_actCounts, .int md_bank, .int md_unaries, .int md_opens, .ref a_md_pile, .int md_piled, .int md_loop, .ref a_md_begins, .ref a_md_goals, .ref a_md_ranks, .ref a_md_choiceCounts, .ref a_md_whens, .ref a_md_becomes, .ref a_md_guessCounts, .ref a_md_guesses, .ref a_md_unaryCounts, .ref a_md_stack, .ref a_md_nexts, .ref a_md_isBegin, .ref a_md_isGoal, .ref a_md_levels, .ref a_md_queue, .ref a_md_hasGuesses, .int md_keptBits, .ref a_md_rounds, .ref a_md_marked, .ref a_md_other, .ref a_md_heights])), (a_md_nexts, .inl (cI, 24576, .inl md_nexts))] := hD
                  refine lv_if_eq (tgt := 189) hx hb d_Md_many_182 (by decide) (fun c_182 => ?_) (fun c_182 => ?_)
                  · have h := And.left h c_182
                    refine lv_iconst (v := 0) hx hb d_Md_many_189 (by decide) ?_
                    refine lv_iadd hx hb d_Md_many_190 ?_
                    refine lv_topi (fun x2_24 ex2_24 => ?_)
                    have h := h x2_24 ex2_24
                    refine lv_istore_n (lv' := [(2, .int x2_24), (3, .int s0_10), (0, .ref a_md), (1, .int x1), (4, .int x4_8), (5, .int x5_9)]) hx hb d_Md_many_191 rfl hl (by decide) rfl (fun ls hl => ?_)
                    refine lv_goto (tgt := 243) hx hb d_Md_many_192 (by decide) ?_
                    refine lv_iinc (v := x4_8 + 1) (lv' := [(4, .int (x4_8 + 1)), (2, .int x2_24), (3, .int s0_10), (0, .ref a_md), (1, .int x1), (5, .int x5_9)]) hx hb d_Md_many_243 hl (k := 4) rfl rfl (by decide) rfl (fun ls hl => ?_)
                    refine lv_goto (tgt := 26) hx hb d_Md_many_246 (by decide) ?_
                    exact hkb _ _ _ h _ _ (hP.sub [4, 5, 0, 1, 2, 3] rfl) (hD.sub [4, 5, 0, 1, 2, 3] (by decide) rfl) hS _ (lv_sub hl [3, 4, 1, 2, 0] rfl)
                  · have h := And.right h c_182
                    refine lv_iconst (v := 1) hx hb d_Md_many_185 (by decide) ?_
                    refine lv_goto (tgt := 190) hx hb d_Md_many_186 (by decide) ?_
                    refine lv_iadd hx hb d_Md_many_190 ?_
                    refine lv_topi (fun x2_25 ex2_25 => ?_)
                    have h := h x2_25 ex2_25
                    refine lv_istore_n (lv' := [(2, .int x2_25), (3, .int s0_10), (0, .ref a_md), (1, .int x1), (4, .int x4_8), (5, .int x5_9)]) hx hb d_Md_many_191 rfl hl (by decide) rfl (fun ls hl => ?_)
                    refine lv_goto (tgt := 243) hx hb d_Md_many_192 (by decide) ?_
                    refine lv_iinc (v := x4_8 + 1) (lv' := [(4, .int (x4_8 + 1)), (2, .int x2_25), (3, .int s0_10), (0, .ref a_md), (1, .int x1), (5, .int x5_9)]) hx hb d_Md_many_243 hl (k := 4) rfl rfl (by decide) rfl (fun ls hl => ?_)
                    refine lv_goto (tgt := 26) hx hb d_Md_many_246 (by decide) ?_
                    exact hkb _ _ _ h _ _ (hP.sub [4, 5, 0, 1, 2, 3] rfl) (hD.sub [4, 5, 0, 1, 2, 3] (by decide) rfl) hS _ (lv_sub hl [3, 4, 1, 2, 0] rfl)
              rcases Classical.em ((x1 : Int32) = 4) with e_75_4 | e_75_4
              · have h := h.2.2.2.2.1 e_75_4
                refine lv_tableIn (off := 141) (tgt := 216) hx hb d_Md_many_75 (by rw [e_75_4]; decide) (by rw [e_75_4]; decide) (by rw [e_75_4]; rfl) (by decide) ?_
                refine lv_iload_n hx hb d_Md_many_216 rfl (lv_at hl 3 rfl) ?_
                refine lv_aload_n hx hb d_Md_many_217 rfl (lv_at hl 1 rfl) ?_
                refine va_get (D := (dC, dI)) (ci := 11) (v := .ref a_md_hasGuesses) (C := "LoopInductionModel") (T := F_Md) (N := 40) hx hb hts iC_Md hown hK hP 0 rfl rfl 34 (by decide) fl_79 (fun _ h9 => h9) rfl d_Md_many_218 ?_
                refine lv_iload hx hb d_Md_many_221 (lv_at hl 4 rfl) ?_
                obtain ⟨hin_223, h⟩ := h
                refine va_iald hx hb hK hP 5 0 rfl rfl hin_223 d_Md_many_223 ?_
                refine lv_aload_n hx hb d_Md_many_224 rfl (lv_at hl 1 rfl) ?_
                refine va_get (D := (dC, dI)) (ci := 11) (v := .int md_keptBits) (C := "LoopInductionModel") (T := F_Md) (N := 40) hx hb hts iC_Md hown hK hP 0 rfl rfl 35 (by decide) fl_264 (fun _ h9 => h9) rfl d_Md_many_225 ?_
                refine lv_iand hx hb d_Md_many_228 ?_
                refine lv_aload_n hx hb d_Md_many_229 rfl (lv_at hl 1 rfl) ?_
                refine va_get (D := (dC, dI)) (ci := 11) (v := .int md_keptBits) (C := "LoopInductionModel") (T := F_Md) (N := 40) hx hb hts iC_Md hown hK hP 0 rfl rfl 35 (by decide) fl_264 (fun _ h9 => h9) rfl d_Md_many_230 ?_
                refine lv_icmp_ne (tgt := 240) hx hb d_Md_many_233 (by decide) (fun c_233 => ?_) (fun c_233 => ?_)
                · have h := And.left h c_233
                  refine lv_iconst (v := 0) hx hb d_Md_many_240 (by decide) ?_
                  refine lv_iadd hx hb d_Md_many_241 ?_
                  refine lv_topi (fun x2_26 ex2_26 => ?_)
                  have h := h x2_26 ex2_26
                  refine lv_istore_n (lv' := [(2, .int x2_26), (3, .int s0_10), (0, .ref a_md), (1, .int x1), (4, .int x4_8), (5, .int x5_9)]) hx hb d_Md_many_242 rfl hl (by decide) rfl (fun ls hl => ?_)
                  refine lv_iinc (v := x4_8 + 1) (lv' := [(4, .int (x4_8 + 1)), (2, .int x2_26), (3, .int s0_10), (0, .ref a_md), (1, .int x1), (5, .int x5_9)]) hx hb d_Md_many_243 hl (k := 4) rfl rfl (by decide) rfl (fun ls hl => ?_)
                  refine lv_goto (tgt := 26) hx hb d_Md_many_246 (by decide) ?_
                  exact hkb _ _ _ h _ _ hP hD hS _ (lv_sub hl [3, 4, 1, 2, 0] rfl)
                · have h := And.right h c_233
                  refine lv_iconst (v := 1) hx hb d_Md_many_236 (by decide) ?_
                  refine lv_goto (tgt := 241) hx hb d_Md_many_237 (by decide) ?_
                  refine lv_iadd hx hb d_Md_many_241 ?_
                  refine lv_topi (fun x2_27 ex2_27 => ?_)
                  have h := h x2_27 ex2_27
                  refine lv_istore_n (lv' := [(2, .int x2_27), (3, .int s0_10), (0, .ref a_md), (1, .int x1), (4, .int x4_8), (5, .int x5_9)]) hx hb d_Md_many_242 rfl hl (by decide) rfl (fun ls hl => ?_)
                  refine lv_iinc (v := x4_8 + 1) (lv' := [(4, .int (x4_8 + 1)), (2, .int x2_27), (3, .int s0_10), (0, .ref a_md), (1, .int x1), (5, .int x5_9)]) hx hb d_Md_many_243 hl (k := 4) rfl rfl (by decide) rfl (fun ls hl => ?_)
                  refine lv_goto (tgt := 26) hx hb d_Md_many_246 (by decide) ?_
                  exact hkb _ _ _ h _ _ hP hD hS _ (lv_sub hl [3, 4, 1, 2, 0] rfl)
              rcases Classical.em ((x1 : Int32) = 5) with e_75_5 | e_75_5
              · have h := h.2.2.2.2.2.1 e_75_5
                refine lv_tableIn (off := 120) (tgt := 195) hx hb d_Md_many_75 (by rw [e_75_5]; decide) (by rw [e_75_5]; decide) (by rw [e_75_5]; rfl) (by decide) ?_
                refine lv_iload_n hx hb d_Md_many_195 rfl (lv_at hl 3 rfl) ?_
                refine lv_iload hx hb d_Md_many_196 (lv_at hl 5 rfl) ?_
                refine lv_if_eq (tgt := 210) hx hb d_Md_many_198 (by decide) (fun c_198 => ?_) (fun c_198 => ?_)
                · have h := And.left h c_198
                  refine lv_iconst (v := 0) hx hb d_Md_many_210 (by decide) ?_
                  refine lv_iadd hx hb d_Md_many_211 ?_
                  refine lv_topi (fun x2_28 ex2_28 => ?_)
                  have h := h x2_28 ex2_28
                  refine lv_istore_n (lv' := [(2, .int x2_28), (3, .int s0_10), (0, .ref a_md), (1, .int x1), (4, .int x4_8), (5, .int x5_9)]) hx hb d_Md_many_212 rfl hl (by decide) rfl (fun ls hl => ?_)
                  refine lv_goto (tgt := 243) hx hb d_Md_many_213 (by decide) ?_
                  refine lv_iinc (v := x4_8 + 1) (lv' := [(4, .int (x4_8 + 1)), (2, .int x2_28), (3, .int s0_10), (0, .ref a_md), (1, .int x1), (5, .int x5_9)]) hx hb d_Md_many_243 hl (k := 4) rfl rfl (by decide) rfl (fun ls hl => ?_)
                  refine lv_goto (tgt := 26) hx hb d_Md_many_246 (by decide) ?_
                  exact hkb _ _ _ h _ _ hP hD hS _ (lv_sub hl [3, 4, 1, 2, 0] rfl)
                · have h := And.right h c_198
                  refine lv_aload_n hx hb d_Md_many_201 rfl (lv_at hl 1 rfl) ?_
                  refine lv_iload hx hb d_Md_many_202 (lv_at hl 4 rfl) ?_
                  refine jn_i (wr := [(a_md_isBegin, .inl (cZ, 4096, .inl md_isBegin)), (a_md_isGoal, .inl (cZ, 4096, .inl md_isGoal)), (a_md_levels, .inl (cI, 4096, .inl md_levels)), (a_md_hasGuesses, .inl (cI, 4096, .inl md_hasGuesses))]) (va_runV (As := [.int x4_8]) (rest := [.int x2_7]) ⟨hx, hb, hml, hown, hts⟩ (c_Md_unlikeNexts l dC dI cI cB cZ adK adV _ a_md a_md_tape a_md_acts a_md_actNumbers a_md_actCounts a_md_pile a_md_begins a_md_goals a_md_ranks a_md_choiceCounts a_md_whens a_md_becomes a_md_guessCounts a_md_guesses a_md_unaryCounts a_md_stack a_md_nexts a_md_isBegin a_md_isGoal a_md_levels a_md_queue a_md_hasGuesses a_md_rounds a_md_marked a_md_other a_md_heights md_size md_at md_token md_tokenPlace md_number md_sign md_bad md_faultPlace md_place md_bank md_unaries md_opens md_piled md_loop md_keptBits md_nexts x4_8 _ h) (cwV 1 hts (gv_ m_1393 m_1395 m_79 m_96 m_1396) rfl rfl rfl pd_Md_unlikeNexts ⟨Nat.le_of_ble_eq_true rfl, Nat.le_of_ble_eq_true rfl⟩) ⟨pc_blind, va_recv hK hP (ci := 11) (q0 := 0) rfl rfl, pc_of (hP.sub [0, 1] rfl) hK (hD.sub [0, 1] (by decide) rfl) hN hT hS hA⟩ rfl rfl hl.1 rfl (lv_room (Nat.le_of_ble_eq_true rfl)) d_Md_many_204 ⟨Nat.zero_le _, Nat.zero_le _⟩) hP hD hS hA [0, 1] [2, 3, 4, 5] rfl rfl (by decide) (by decide) (fun r_29 u_ H locs h hP hD hS => ?_)
                  have hP : va_P (dC, dI) vwCl [(a_md_isBegin, .inl (cZ, 4096, .inl md_isBegin)), (a_md_isGoal, .inl (cZ, 4096, .inl md_isGoal)), (a_md_levels, .inl (cI, 4096, .inl md_levels)), (a_md_hasGuesses, .inl (cI, 4096, .inl md_hasGuesses)), (a_md, .inr (11, [.ref a_md_tape, .int md_size, .int md_at, .int md_token, .int md_tokenPlace, .int md_number, .int md_sign, .int md_bad, .int md_faultPlace, .int md_place, .ref a_md_acts, .ref a_md_actNumbers, .ref a_md_actCounts, .int md_bank, .int md_unaries, .int md_opens, .ref a_md_pile, .int md_piled, .int md_loop, .ref a_md_begins, .ref a_md_goals, .ref a_md_ranks, .ref a_md_choiceCounts, .ref a_md_whens, .ref a_md_becomes, .ref a_md_guessCounts, .ref a_md_guesses, .ref a_md_unaryCounts, .ref a_md_stack, .ref a_md_nexts, .ref a_md_isBegin, .ref a_md_isGoal, .ref a_md_levels, .ref a_md_queue, .ref a_md_hasGuesses, .int md_keptBits, .ref a_md_rounds, .ref a_md_marked, .ref a_md_other, .ref a_md_heights])), (a_md_nexts, .inl (cI, 24576, .inl md_nexts))] H := hP
                  have hD : va_D A [(a_md_isBegin, .inl (cZ, 4096, .inl md_isBegin)), (a_md_isGoal, .inl (cZ, 4096, .inl md_isGoal)), (a_md_levels, .inl (cI, 4096, .inl md_levels)), (a_md_hasGuesses, .inl (cI, 4096, .inl md_hasGuesses)), (a_md, .inr (11, [.ref a_md_tape, .int md_size, .int md_at, .int md_token, .int md_tokenPlace, .int md_number, .int md_sign, .int md_bad, .int md_faultPlace, .int md_place, .ref a_md_acts, .ref a_md_actNumbers, .ref a_md_actCounts, .int md_bank, .int md_unaries, .int md_opens, .ref a_md_pile, .int md_piled, .int md_loop, .ref a_md_begins, .ref a_md_goals, .ref a_md_ranks, .ref a_md_choiceCounts, .ref a_md_whens, .ref a_md_becomes, .ref a_md_guessCounts, .ref a_md_guesses, .ref a_md_unaryCounts, .ref a_md_stack, .ref a_md_nexts, .ref a_md_isBegin, .ref a_md_isGoal, .ref a_md_levels, .ref a_md_queue, .ref a_md_hasGuesses, .int md_keptBits, .ref a_md_rounds, .ref a_md_marked, .ref a_md_other, .ref a_md_heights])), (a_md_nexts, .inl (cI, 24576, .inl md_nexts))] := hD
                  refine lv_goto (tgt := 211) hx hb d_Md_many_207 (by decide) ?_
                  refine lv_iadd hx hb d_Md_many_211 ?_
                  refine lv_topi (fun x2_30 ex2_30 => ?_)
                  have h := h x2_30 ex2_30
                  refine lv_istore_n (lv' := [(2, .int x2_30), (3, .int s0_10), (0, .ref a_md), (1, .int x1), (4, .int x4_8), (5, .int x5_9)]) hx hb d_Md_many_212 rfl hl (by decide) rfl (fun ls hl => ?_)
                  refine lv_goto (tgt := 243) hx hb d_Md_many_213 (by decide) ?_
                  refine lv_iinc (v := x4_8 + 1) (lv' := [(4, .int (x4_8 + 1)), (2, .int x2_30), (3, .int s0_10), (0, .ref a_md), (1, .int x1), (5, .int x5_9)]) hx hb d_Md_many_243 hl (k := 4) rfl rfl (by decide) rfl (fun ls hl => ?_)
                  refine lv_goto (tgt := 26) hx hb d_Md_many_246 (by decide) ?_
                  exact hkb _ _ _ h _ _ (hP.sub [4, 5, 0, 1, 2, 3] rfl) (hD.sub [4, 5, 0, 1, 2, 3] (by decide) rfl) hS _ (lv_sub hl [3, 4, 1, 2, 0] rfl)
              have h := h.2.2.2.2.2.2 e_75_0 e_75_1 e_75_2 e_75_3 e_75_4 e_75_5
              refine lv_tableOut (tgt := 216) hx hb d_Md_many_75 (by have := lv_neT e_75_0 (a := 0) (by decide); have := lv_neT e_75_1 (a := 1) (by decide); have := lv_neT e_75_2 (a := 2) (by decide); have := lv_neT e_75_3 (a := 3) (by decide); have := lv_neT e_75_4 (a := 4) (by decide); have := lv_neT e_75_5 (a := 5) (by decide); omega) (by decide) ?_
              refine lv_iload_n hx hb d_Md_many_216 rfl (lv_at hl 3 rfl) ?_
              refine lv_aload_n hx hb d_Md_many_217 rfl (lv_at hl 1 rfl) ?_
              refine va_get (D := (dC, dI)) (ci := 11) (v := .ref a_md_hasGuesses) (C := "LoopInductionModel") (T := F_Md) (N := 40) hx hb hts iC_Md hown hK hP 0 rfl rfl 34 (by decide) fl_79 (fun _ h9 => h9) rfl d_Md_many_218 ?_
              refine lv_iload hx hb d_Md_many_221 (lv_at hl 4 rfl) ?_
              obtain ⟨hin_223, h⟩ := h
              refine va_iald hx hb hK hP 5 0 rfl rfl hin_223 d_Md_many_223 ?_
              refine lv_aload_n hx hb d_Md_many_224 rfl (lv_at hl 1 rfl) ?_
              refine va_get (D := (dC, dI)) (ci := 11) (v := .int md_keptBits) (C := "LoopInductionModel") (T := F_Md) (N := 40) hx hb hts iC_Md hown hK hP 0 rfl rfl 35 (by decide) fl_264 (fun _ h9 => h9) rfl d_Md_many_225 ?_
              refine lv_iand hx hb d_Md_many_228 ?_
              refine lv_aload_n hx hb d_Md_many_229 rfl (lv_at hl 1 rfl) ?_
              refine va_get (D := (dC, dI)) (ci := 11) (v := .int md_keptBits) (C := "LoopInductionModel") (T := F_Md) (N := 40) hx hb hts iC_Md hown hK hP 0 rfl rfl 35 (by decide) fl_264 (fun _ h9 => h9) rfl d_Md_many_230 ?_
              refine lv_icmp_ne (tgt := 240) hx hb d_Md_many_233 (by decide) (fun c_233 => ?_) (fun c_233 => ?_)
              · have h := And.left h c_233
                refine lv_iconst (v := 0) hx hb d_Md_many_240 (by decide) ?_
                refine lv_iadd hx hb d_Md_many_241 ?_
                refine lv_topi (fun x2_31 ex2_31 => ?_)
                have h := h x2_31 ex2_31
                refine lv_istore_n (lv' := [(2, .int x2_31), (3, .int s0_10), (0, .ref a_md), (1, .int x1), (4, .int x4_8), (5, .int x5_9)]) hx hb d_Md_many_242 rfl hl (by decide) rfl (fun ls hl => ?_)
                refine lv_iinc (v := x4_8 + 1) (lv' := [(4, .int (x4_8 + 1)), (2, .int x2_31), (3, .int s0_10), (0, .ref a_md), (1, .int x1), (5, .int x5_9)]) hx hb d_Md_many_243 hl (k := 4) rfl rfl (by decide) rfl (fun ls hl => ?_)
                refine lv_goto (tgt := 26) hx hb d_Md_many_246 (by decide) ?_
                exact hkb _ _ _ h _ _ hP hD hS _ (lv_sub hl [3, 4, 1, 2, 0] rfl)
              · have h := And.right h c_233
                refine lv_iconst (v := 1) hx hb d_Md_many_236 (by decide) ?_
                refine lv_goto (tgt := 241) hx hb d_Md_many_237 (by decide) ?_
                refine lv_iadd hx hb d_Md_many_241 ?_
                refine lv_topi (fun x2_32 ex2_32 => ?_)
                have h := h x2_32 ex2_32
                refine lv_istore_n (lv' := [(2, .int x2_32), (3, .int s0_10), (0, .ref a_md), (1, .int x1), (4, .int x4_8), (5, .int x5_9)]) hx hb d_Md_many_242 rfl hl (by decide) rfl (fun ls hl => ?_)
                refine lv_iinc (v := x4_8 + 1) (lv' := [(4, .int (x4_8 + 1)), (2, .int x2_32), (3, .int s0_10), (0, .ref a_md), (1, .int x1), (5, .int x5_9)]) hx hb d_Md_many_243 hl (k := 4) rfl rfl (by decide) rfl (fun ls hl => ?_)
                refine lv_goto (tgt := 26) hx hb d_Md_many_246 (by decide) ?_
                exact hkb _ _ _ h _ _ hP hD hS _ (lv_sub hl [3, 4, 1, 2, 0] rfl)
            refine lv_iload hx hb d_Md_many_26 (lv_at hl 4 rfl) ?_
            refine lv_sipush (v := 4096) hx hb d_Md_many_28 (by decide) ?_
            refine lv_icmp_ge (tgt := 249) hx hb d_Md_many_31 (by decide) (fun c_31 => ?_) (fun c_31 => ?_)
            · have h := And.left h c_31
              exact hk249 _ _ h _ _ hP hD hS _ (lv_sub hl [1, 2, 3] rfl)
            · have h := And.right h c_31
              refine lv_aload_n hx hb d_Md_many_34 rfl (lv_at hl 0 rfl) ?_
              refine va_get (D := (dC, dI)) (ci := 11) (v := .ref a_md_levels) (C := "LoopInductionModel") (T := F_Md) (N := 40) hx hb hts iC_Md hown hK hP 0 rfl rfl 32 (by decide) fl_73 (fun _ h9 => h9) rfl d_Md_many_35 ?_
              refine lv_iload hx hb d_Md_many_38 (lv_at hl 4 rfl) ?_
              obtain ⟨hin_40, h⟩ := h
              refine va_iald hx hb hK hP 4 0 rfl rfl hin_40 d_Md_many_40 ?_
              refine lv_if_lt (tgt := 48) hx hb d_Md_many_41 (by decide) (fun c_41 => ?_) (fun c_41 => ?_)
              · have h := And.left h c_41
                refine lv_iconst (v := 0) hx hb d_Md_many_48 (by decide) ?_
                refine lv_istore (lv' := [(5, .int 0), (0, .ref a_md), (1, .int x1), (2, .int x2_1), (3, .int x3_2), (4, .int x4_3)]) hx hb d_Md_many_49 hl (by decide) rfl (fun ls hl => ?_)
                refine lv_aload_n hx hb d_Md_many_51 rfl (lv_at hl 1 rfl) ?_
                refine va_get (D := (dC, dI)) (ci := 11) (v := .ref a_md_levels) (C := "LoopInductionModel") (T := F_Md) (N := 40) hx hb hts iC_Md hown hK hP 0 rfl rfl 32 (by decide) fl_73 (fun _ h9 => h9) rfl d_Md_many_52 ?_
                refine lv_iload hx hb d_Md_many_55 (lv_at hl 5 rfl) ?_
                obtain ⟨hin_57, h⟩ := h
                refine va_iald hx hb hK hP 4 0 rfl rfl hin_57 d_Md_many_57 ?_
                refine lv_iload_n hx hb d_Md_many_58 rfl (lv_at hl 4 rfl) ?_
                refine lv_icmp_le (tgt := 72) hx hb d_Md_many_59 (by decide) (fun c_59 => ?_) (fun c_59 => ?_)
                · have h := And.left h c_59
                  refine lv_iload_n hx hb d_Md_many_72 rfl (lv_at hl 4 rfl) ?_
                  exact J73 _ il _ hk249 _ _ _ _ h _ _ hP hD hS _ (lv_sub hl [1, 2, 3, 5, 0] rfl)
                · have h := And.right h c_59
                  refine lv_aload_n hx hb d_Md_many_62 rfl (lv_at hl 1 rfl) ?_
                  refine va_get (D := (dC, dI)) (ci := 11) (v := .ref a_md_levels) (C := "LoopInductionModel") (T := F_Md) (N := 40) hx hb hts iC_Md hown hK hP 0 rfl rfl 32 (by decide) fl_73 (fun _ h9 => h9) rfl d_Md_many_63 ?_
                  refine lv_iload hx hb d_Md_many_66 (lv_at hl 5 rfl) ?_
                  obtain ⟨hin_68, h⟩ := h
                  refine va_iald hx hb hK hP 4 0 rfl rfl hin_68 d_Md_many_68 ?_
                  refine lv_goto (tgt := 73) hx hb d_Md_many_69 (by decide) ?_
                  exact J73 _ il _ hk249 _ _ _ _ h _ _ hP hD hS _ (lv_sub hl [1, 2, 3, 5, 0] rfl)
              · have h := And.right h c_41
                refine lv_iconst (v := 1) hx hb d_Md_many_44 (by decide) ?_
                refine lv_goto (tgt := 49) hx hb d_Md_many_45 (by decide) ?_
                refine lv_istore (lv' := [(5, .int 1), (0, .ref a_md), (1, .int x1), (2, .int x2_1), (3, .int x3_2), (4, .int x4_3)]) hx hb d_Md_many_49 hl (by decide) rfl (fun ls hl => ?_)
                refine lv_aload_n hx hb d_Md_many_51 rfl (lv_at hl 1 rfl) ?_
                refine va_get (D := (dC, dI)) (ci := 11) (v := .ref a_md_levels) (C := "LoopInductionModel") (T := F_Md) (N := 40) hx hb hts iC_Md hown hK hP 0 rfl rfl 32 (by decide) fl_73 (fun _ h9 => h9) rfl d_Md_many_52 ?_
                refine lv_iload hx hb d_Md_many_55 (lv_at hl 5 rfl) ?_
                obtain ⟨hin_57, h⟩ := h
                refine va_iald hx hb hK hP 4 0 rfl rfl hin_57 d_Md_many_57 ?_
                refine lv_iload_n hx hb d_Md_many_58 rfl (lv_at hl 4 rfl) ?_
                refine lv_icmp_le (tgt := 72) hx hb d_Md_many_59 (by decide) (fun c_59 => ?_) (fun c_59 => ?_)
                · have h := And.left h c_59
                  refine lv_iload_n hx hb d_Md_many_72 rfl (lv_at hl 4 rfl) ?_
                  exact J73 _ il _ hk249 _ _ _ _ h _ _ hP hD hS _ (lv_sub hl [1, 2, 3, 5, 0] rfl)
                · have h := And.right h c_59
                  refine lv_aload_n hx hb d_Md_many_62 rfl (lv_at hl 1 rfl) ?_
                  refine va_get (D := (dC, dI)) (ci := 11) (v := .ref a_md_levels) (C := "LoopInductionModel") (T := F_Md) (N := 40) hx hb hts iC_Md hown hK hP 0 rfl rfl 32 (by decide) fl_73 (fun _ h9 => h9) rfl d_Md_many_63 ?_
                  refine lv_iload hx hb d_Md_many_66 (lv_at hl 5 rfl) ?_
                  obtain ⟨hin_68, h⟩ := h
                  refine va_iald hx hb hK hP 4 0 rfl rfl hin_68 d_Md_many_68 ?_
                  refine lv_goto (tgt := 73) hx hb d_Md_many_69 (by decide) ?_
                  exact J73 _ il _ hk249 _ _ _ _ h _ _ hP hD hS _ (lv_sub hl [1, 2, 3, 5, 0] rfl)
        obtain ⟨n_, h⟩ := h
        refine L26_q_4 _ ?_ n_ _ _ _ h _ _ hP hD hS _ (lv_sub hl [3, 4, 2, 1, 0] rfl)
        intro x2_33 x3_34 h H locs hP hD hS ls hl
        refine lv_iload_n hx hb d_Md_many_249 rfl (lv_at hl 0 rfl) ?_
        refine lv_iconst (v := 4) hx hb d_Md_many_250 (by decide) ?_
        refine lv_icmp_ne (tgt := 258) hx hb d_Md_many_251 (by decide) (fun c_251 => ?_) (fun c_251 => ?_)
        · have h := And.left h c_251
          refine lv_iload_n hx hb d_Md_many_258 rfl (lv_at hl 1 rfl) ?_
          subst hQ
          have hP9 := hP
          have hD9 := hD
          exact W.iret (v := x2_33) hx hb hr (fun t ht hW => ⟨⟨x2_33, (), rfl, h, by rw [ht]; exact hP9, va_K.moved hW.alike hK, hD9⟩, hS.F ht⟩) hS.2.2 d_Md_many_259
        · have h := And.right h c_251
          refine lv_iload_n hx hb d_Md_many_254 rfl (lv_at hl 2 rfl) ?_
          refine lv_goto (tgt := 259) hx hb d_Md_many_255 (by decide) ?_
          subst hQ
          have hP9 := hP
          have hD9 := hD
          exact W.iret (v := x3_34) hx hb hr (fun t ht hW => ⟨⟨x3_34, (), rfl, h, by rw [ht]; exact hP9, va_K.moved hW.alike hK, hD9⟩, hS.F ht⟩) hS.2.2 d_Md_many_259
      · have h := And.right h c_14
        refine lv_iconst (v := (-1)) hx hb d_Md_many_17 (by decide) ?_
        subst hQ
        have hP9 := hP
        have hD9 := hD
        exact W.iret (v := (-1)) hx hb hr (fun t ht hW => ⟨⟨(-1), (), rfl, h, by rw [ht]; exact hP9, va_K.moved hW.alike hK, hD9⟩, hS.F ht⟩) hS.2.2 d_Md_many_18
def wp_Md_level (x1 : Int32) (md_loop : Int32) (md_levels : Nat → Int32) (post : Int32 → Prop) : Prop :=
  wp_Md_isState x1 md_loop (fun r_1 => (((r_1 : Int32) = 0 → post (-1)) ∧ (¬ (r_1 : Int32) = 0 → (vp_in x1 4096 ∧ post (md_levels (x1 : Int32).toNatClampNeg)))))
set_option maxHeartbeats 4000000 in
set_option maxRecDepth 100000 in
theorem c_Md_level (l : Launch) (dC : Nat → ClassId) (dI : Nat → Nat → Nat) (cI cB cZ : ClassId) (adK adV : Nat → Nat) (sz : Nat) (a_md a_md_tape a_md_acts a_md_actNumbers a_md_actCounts a_md_pile a_md_begins a_md_goals a_md_ranks a_md_choiceCounts a_md_whens a_md_becomes a_md_guessCounts a_md_guesses a_md_unaryCounts a_md_stack a_md_nexts a_md_isBegin a_md_isGoal a_md_levels a_md_queue a_md_hasGuesses a_md_rounds a_md_marked a_md_other a_md_heights : Nat) (md_size : Int32) (md_at : Int32) (md_token : Int32) (md_tokenPlace : Int32) (md_number : Int32) (md_sign : Int32) (md_bad : Int32) (md_faultPlace : Int32) (md_place : Int32) (md_bank : Int32) (md_unaries : Int32) (md_opens : Int32) (md_piled : Int32) (md_loop : Int32) (md_keptBits : Int32) (md_levels : Nat → Int32) (x1 : Int32) (post : Int32 → Prop) (h : wp_Md_level x1 md_loop md_levels post) : Met l y_Md_level w_Md_level ({ frames := 1, cells := 0, slots := 0, locals := 21 }) (pc_ (dC, dI) [(cI, .int), (cB, .byte), (cZ, .boolean)] [(a_md, .inr (11, [.ref a_md_tape, .int md_size, .int md_at, .int md_token, .int md_tokenPlace, .int md_number, .int md_sign, .int md_bad, .int md_faultPlace, .int md_place, .ref a_md_acts, .ref a_md_actNumbers, .ref a_md_actCounts, .int md_bank, .int md_unaries, .int md_opens, .ref a_md_pile, .int md_piled, .int md_loop, .ref a_md_begins, .ref a_md_goals, .ref a_md_ranks, .ref a_md_choiceCounts, .ref a_md_whens, .ref a_md_becomes, .ref a_md_guessCounts, .ref a_md_guesses, .ref a_md_unaryCounts, .ref a_md_stack, .ref a_md_nexts, .ref a_md_isBegin, .ref a_md_isGoal, .ref a_md_levels, .ref a_md_queue, .ref a_md_hasGuesses, .int md_keptBits, .ref a_md_rounds, .ref a_md_marked, .ref a_md_other, .ref a_md_heights])), (a_md_levels, .inl (cI, 4096, .inl md_levels))] sz adK adV [.ref a_md, .int x1]) (va_Qi (fun (r : Int32) (u : Unit) => post r ) (fun (u : Unit) t => bw_ (dC, dI) [(cI, .int), (cB, .byte), (cZ, .boolean)] (va_A [(a_md, .inr (11, [.ref a_md_tape, .int md_size, .int md_at, .int md_token, .int md_tokenPlace, .int md_number, .int md_sign, .int md_bad, .int md_faultPlace, .int md_place, .ref a_md_acts, .ref a_md_actNumbers, .ref a_md_actCounts, .int md_bank, .int md_unaries, .int md_opens, .ref a_md_pile, .int md_piled, .int md_loop, .ref a_md_begins, .ref a_md_goals, .ref a_md_ranks, .ref a_md_choiceCounts, .ref a_md_whens, .ref a_md_becomes, .ref a_md_guessCounts, .ref a_md_guesses, .ref a_md_unaryCounts, .ref a_md_stack, .ref a_md_nexts, .ref a_md_isBegin, .ref a_md_isGoal, .ref a_md_levels, .ref a_md_queue, .ref a_md_hasGuesses, .int md_keptBits, .ref a_md_rounds, .ref a_md_marked, .ref a_md_other, .ref a_md_heights])), (a_md_levels, .inl (cI, 4096, .inl md_levels))] sz) [(a_md, .inr (11, [.ref a_md_tape, .int md_size, .int md_at, .int md_token, .int md_tokenPlace, .int md_number, .int md_sign, .int md_bad, .int md_faultPlace, .int md_place, .ref a_md_acts, .ref a_md_actNumbers, .ref a_md_actCounts, .int md_bank, .int md_unaries, .int md_opens, .ref a_md_pile, .int md_piled, .int md_loop, .ref a_md_begins, .ref a_md_goals, .ref a_md_ranks, .ref a_md_choiceCounts, .ref a_md_whens, .ref a_md_becomes, .ref a_md_guessCounts, .ref a_md_guesses, .ref a_md_unaryCounts, .ref a_md_stack, .ref a_md_nexts, .ref a_md_isBegin, .ref a_md_isGoal, .ref a_md_levels, .ref a_md_queue, .ref a_md_hasGuesses, .int md_keptBits, .ref a_md_rounds, .ref a_md_marked, .ref a_md_other, .ref a_md_heights])), (a_md_levels, .inl (cI, 4096, .inl md_levels))] t) (va_A [(a_md, .inr (11, [.ref a_md_tape, .int md_size, .int md_at, .int md_token, .int md_tokenPlace, .int md_number, .int md_sign, .int md_bad, .int md_faultPlace, .int md_place, .ref a_md_acts, .ref a_md_actNumbers, .ref a_md_actCounts, .int md_bank, .int md_unaries, .int md_opens, .ref a_md_pile, .int md_piled, .int md_loop, .ref a_md_begins, .ref a_md_goals, .ref a_md_ranks, .ref a_md_choiceCounts, .ref a_md_whens, .ref a_md_becomes, .ref a_md_guessCounts, .ref a_md_guesses, .ref a_md_unaryCounts, .ref a_md_stack, .ref a_md_nexts, .ref a_md_isBegin, .ref a_md_isGoal, .ref a_md_levels, .ref a_md_queue, .ref a_md_hasGuesses, .int md_keptBits, .ref a_md_rounds, .ref a_md_marked, .ref a_md_other, .ref a_md_heights])), (a_md_levels, .inl (cI, 4096, .inl md_levels))] sz)) 0 0 (va_A [(a_md, .inr (11, [.ref a_md_tape, .int md_size, .int md_at, .int md_token, .int md_tokenPlace, .int md_number, .int md_sign, .int md_bad, .int md_faultPlace, .int md_place, .ref a_md_acts, .ref a_md_actNumbers, .ref a_md_actCounts, .int md_bank, .int md_unaries, .int md_opens, .ref a_md_pile, .int md_piled, .int md_loop, .ref a_md_begins, .ref a_md_goals, .ref a_md_ranks, .ref a_md_choiceCounts, .ref a_md_whens, .ref a_md_becomes, .ref a_md_guessCounts, .ref a_md_guesses, .ref a_md_unaryCounts, .ref a_md_stack, .ref a_md_nexts, .ref a_md_isBegin, .ref a_md_isGoal, .ref a_md_levels, .ref a_md_queue, .ref a_md_hasGuesses, .int md_keptBits, .ref a_md_rounds, .ref a_md_marked, .ref a_md_other, .ref a_md_heights])), (a_md_levels, .inl (cI, 4096, .inl md_levels))] sz) := by
  refine Met.ofW (cc := b_Md_level) (maxL := 2) (ret := (some .int)) (by decide) rfl ?_
  intro p e s m args below meth c s₁ B hml hv
  obtain ⟨rfl, hsz, hP, hK, hD0, hN, hT⟩ := hv
  have hx := B.exec
  have hb := B.bytes
  have hr := B.returns
  have hts := atoms_spec (ws := w_Md_level) B.pre
  have hown : s.vm.findClass "LoopInductionModel" = some m.cls := findClass_of_methodNamed B.named
  have hlocks := B.notSynchronized
  subst hsz
  have hD := hD0.self (sz := s.heap.size)
  generalize hAe : va_A [(a_md, .inr (11, [.ref a_md_tape, .int md_size, .int md_at, .int md_token, .int md_tokenPlace, .int md_number, .int md_sign, .int md_bad, .int md_faultPlace, .int md_place, .ref a_md_acts, .ref a_md_actNumbers, .ref a_md_actCounts, .int md_bank, .int md_unaries, .int md_opens, .ref a_md_pile, .int md_piled, .int md_loop, .ref a_md_begins, .ref a_md_goals, .ref a_md_ranks, .ref a_md_choiceCounts, .ref a_md_whens, .ref a_md_becomes, .ref a_md_guessCounts, .ref a_md_guesses, .ref a_md_unaryCounts, .ref a_md_stack, .ref a_md_nexts, .ref a_md_isBegin, .ref a_md_isGoal, .ref a_md_levels, .ref a_md_queue, .ref a_md_hasGuesses, .int md_keptBits, .ref a_md_rounds, .ref a_md_marked, .ref a_md_other, .ref a_md_heights])), (a_md_levels, .inl (cI, 4096, .inl md_levels))] s.heap.size = A at hD hT ⊢
  have hA : ∀ q : Nat, s.heap.size ≤ q → A q := fun q h => by rw [← hAe]; exact Or.inr h
  have hS : va_S A s.heap s.heap [] := va_S.rf
  generalize hQ : MQ below _ _ s 0 0 _ = QQ
  have hl := lv_entry ([.ref a_md, .int x1]) (n := 2) (Nat.le_of_ble_eq_true rfl)
  rw [lg_entry_eq]
  generalize (lg_sl ([.ref a_md, .int x1]) ++ List.replicate (2 - (lg_sl ([.ref a_md, .int x1])).length) Slot.unset).toArray = ls at hl ⊢
  have hl : lv_has ls 2 [(0, .ref a_md), (1, .int x1)] := hl
  have fl_73 := (hts _ (List.mem_cons_of_mem _ m_1122))
  refine lv_aload_n hx hb d_Md_level_0 rfl (lv_at hl 0 rfl) ?_
  refine lv_iload_n hx hb d_Md_level_1 rfl (lv_at hl 1 rfl) ?_
  refine jn_i (wr := [(a_md_levels, .inl (cI, 4096, .inl md_levels))]) (va_runV (As := [.int x1]) (rest := []) ⟨hx, hb, hml, hown, hts⟩ (c_Md_isState l dC dI cI cB cZ adK adV _ a_md a_md_tape a_md_acts a_md_actNumbers a_md_actCounts a_md_pile a_md_begins a_md_goals a_md_ranks a_md_choiceCounts a_md_whens a_md_becomes a_md_guessCounts a_md_guesses a_md_unaryCounts a_md_stack a_md_nexts a_md_isBegin a_md_isGoal a_md_levels a_md_queue a_md_hasGuesses a_md_rounds a_md_marked a_md_other a_md_heights md_size md_at md_token md_tokenPlace md_number md_sign md_bad md_faultPlace md_place md_bank md_unaries md_opens md_piled md_loop md_keptBits x1 _ h) (cwV 1 hts (gv_ m_1373 m_1375 m_77 m_96 m_1376) rfl rfl rfl pd_Md_isState ⟨Nat.le_of_ble_eq_true rfl, Nat.le_of_ble_eq_true rfl⟩) ⟨pc_blind, va_recv hK hP (ci := 11) (q0 := 0) rfl rfl, pc_of (hP.sub [0] rfl) hK (hD.sub [0] (by decide) rfl) hN hT hS hA⟩ rfl rfl hl.1 rfl (lv_room (Nat.le_of_ble_eq_true rfl)) d_Md_level_2 ⟨Nat.zero_le _, Nat.zero_le _⟩) hP hD hS hA [0] [1] rfl rfl (by decide) (by decide) (fun r_1 u_ H locs h hP hD hS => ?_)
  have hP : va_P (dC, dI) vwCl [(a_md_levels, .inl (cI, 4096, .inl md_levels)), (a_md, .inr (11, [.ref a_md_tape, .int md_size, .int md_at, .int md_token, .int md_tokenPlace, .int md_number, .int md_sign, .int md_bad, .int md_faultPlace, .int md_place, .ref a_md_acts, .ref a_md_actNumbers, .ref a_md_actCounts, .int md_bank, .int md_unaries, .int md_opens, .ref a_md_pile, .int md_piled, .int md_loop, .ref a_md_begins, .ref a_md_goals, .ref a_md_ranks, .ref a_md_choiceCounts, .ref a_md_whens, .ref a_md_becomes, .ref a_md_guessCounts, .ref a_md_guesses, .ref a_md_unaryCounts, .ref a_md_stack, .ref a_md_nexts, .ref a_md_isBegin, .ref a_md_isGoal, .ref a_md_levels, .ref a_md_queue, .ref a_md_hasGuesses, .int md_keptBits, .ref a_md_rounds, .ref a_md_marked, .ref a_md_other, .ref a_md_heights]))] H := hP
  have hD : va_D A [(a_md_levels, .inl (cI, 4096, .inl md_levels)), (a_md, .inr (11, [.ref a_md_tape, .int md_size, .int md_at, .int md_token, .int md_tokenPlace, .int md_number, .int md_sign, .int md_bad, .int md_faultPlace, .int md_place, .ref a_md_acts, .ref a_md_actNumbers, .ref a_md_actCounts, .int md_bank, .int md_unaries, .int md_opens, .ref a_md_pile, .int md_piled, .int md_loop, .ref a_md_begins, .ref a_md_goals, .ref a_md_ranks, .ref a_md_choiceCounts, .ref a_md_whens, .ref a_md_becomes, .ref a_md_guessCounts, .ref a_md_guesses, .ref a_md_unaryCounts, .ref a_md_stack, .ref a_md_nexts, .ref a_md_isBegin, .ref a_md_isGoal, .ref a_md_levels, .ref a_md_queue, .ref a_md_hasGuesses, .int md_keptBits, .ref a_md_rounds, .ref a_md_marked, .ref a_md_other, .ref a_md_heights]))] := hD
  refine lv_if_eq (tgt := 17) hx hb d_Md_level_5 (by decide) (fun c_5 => ?_) (fun c_5 => ?_)
  · have h := And.left h c_5
    refine lv_iconst (v := (-1)) hx hb d_Md_level_17 (by decide) ?_
    subst hQ
    have hP9 := hP.sub (ws' := [(a_md, .inr (11, [.ref a_md_tape, .int md_size, .int md_at, .int md_token, .int md_tokenPlace, .int md_number, .int md_sign, .int md_bad, .int md_faultPlace, .int md_place, .ref a_md_acts, .ref a_md_actNumbers, .ref a_md_actCounts, .int md_bank, .int md_unaries, .int md_opens, .ref a_md_pile, .int md_piled, .int md_loop, .ref a_md_begins, .ref a_md_goals, .ref a_md_ranks, .ref a_md_choiceCounts, .ref a_md_whens, .ref a_md_becomes, .ref a_md_guessCounts, .ref a_md_guesses, .ref a_md_unaryCounts, .ref a_md_stack, .ref a_md_nexts, .ref a_md_isBegin, .ref a_md_isGoal, .ref a_md_levels, .ref a_md_queue, .ref a_md_hasGuesses, .int md_keptBits, .ref a_md_rounds, .ref a_md_marked, .ref a_md_other, .ref a_md_heights])), (a_md_levels, .inl (cI, 4096, .inl md_levels))]) [1, 0] rfl
    have hD9 := hD.sub (ws' := [(a_md, .inr (11, [.ref a_md_tape, .int md_size, .int md_at, .int md_token, .int md_tokenPlace, .int md_number, .int md_sign, .int md_bad, .int md_faultPlace, .int md_place, .ref a_md_acts, .ref a_md_actNumbers, .ref a_md_actCounts, .int md_bank, .int md_unaries, .int md_opens, .ref a_md_pile, .int md_piled, .int md_loop, .ref a_md_begins, .ref a_md_goals, .ref a_md_ranks, .ref a_md_choiceCounts, .ref a_md_whens, .ref a_md_becomes, .ref a_md_guessCounts, .ref a_md_guesses, .ref a_md_unaryCounts, .ref a_md_stack, .ref a_md_nexts, .ref a_md_isBegin, .ref a_md_isGoal, .ref a_md_levels, .ref a_md_queue, .ref a_md_hasGuesses, .int md_keptBits, .ref a_md_rounds, .ref a_md_marked, .ref a_md_other, .ref a_md_heights])), (a_md_levels, .inl (cI, 4096, .inl md_levels))]) [1, 0] (by decide) rfl
    exact W.iret (v := (-1)) hx hb hr (fun t ht hW => ⟨⟨(-1), (), rfl, h, by rw [ht]; exact hP9, va_K.moved hW.alike hK, hD9⟩, hS.F ht⟩) hS.2.2 d_Md_level_18
  · have h := And.right h c_5
    refine lv_aload_n hx hb d_Md_level_8 rfl (lv_at hl 0 rfl) ?_
    refine va_get (D := (dC, dI)) (ci := 11) (v := .ref a_md_levels) (C := "LoopInductionModel") (T := F_Md) (N := 40) hx hb hts iC_Md hown hK hP 1 rfl rfl 32 (by decide) fl_73 (fun _ h9 => h9) rfl d_Md_level_9 ?_
    refine lv_iload_n hx hb d_Md_level_12 rfl (lv_at hl 1 rfl) ?_
    obtain ⟨hin_13, h⟩ := h
    refine va_iald hx hb hK hP 0 0 rfl rfl hin_13 d_Md_level_13 ?_
    refine lv_goto (tgt := 18) hx hb d_Md_level_14 (by decide) ?_
    subst hQ
    have hP9 := hP.sub (ws' := [(a_md, .inr (11, [.ref a_md_tape, .int md_size, .int md_at, .int md_token, .int md_tokenPlace, .int md_number, .int md_sign, .int md_bad, .int md_faultPlace, .int md_place, .ref a_md_acts, .ref a_md_actNumbers, .ref a_md_actCounts, .int md_bank, .int md_unaries, .int md_opens, .ref a_md_pile, .int md_piled, .int md_loop, .ref a_md_begins, .ref a_md_goals, .ref a_md_ranks, .ref a_md_choiceCounts, .ref a_md_whens, .ref a_md_becomes, .ref a_md_guessCounts, .ref a_md_guesses, .ref a_md_unaryCounts, .ref a_md_stack, .ref a_md_nexts, .ref a_md_isBegin, .ref a_md_isGoal, .ref a_md_levels, .ref a_md_queue, .ref a_md_hasGuesses, .int md_keptBits, .ref a_md_rounds, .ref a_md_marked, .ref a_md_other, .ref a_md_heights])), (a_md_levels, .inl (cI, 4096, .inl md_levels))]) [1, 0] rfl
    have hD9 := hD.sub (ws' := [(a_md, .inr (11, [.ref a_md_tape, .int md_size, .int md_at, .int md_token, .int md_tokenPlace, .int md_number, .int md_sign, .int md_bad, .int md_faultPlace, .int md_place, .ref a_md_acts, .ref a_md_actNumbers, .ref a_md_actCounts, .int md_bank, .int md_unaries, .int md_opens, .ref a_md_pile, .int md_piled, .int md_loop, .ref a_md_begins, .ref a_md_goals, .ref a_md_ranks, .ref a_md_choiceCounts, .ref a_md_whens, .ref a_md_becomes, .ref a_md_guessCounts, .ref a_md_guesses, .ref a_md_unaryCounts, .ref a_md_stack, .ref a_md_nexts, .ref a_md_isBegin, .ref a_md_isGoal, .ref a_md_levels, .ref a_md_queue, .ref a_md_hasGuesses, .int md_keptBits, .ref a_md_rounds, .ref a_md_marked, .ref a_md_other, .ref a_md_heights])), (a_md_levels, .inl (cI, 4096, .inl md_levels))]) [1, 0] (by decide) rfl
    exact W.iret (v := md_levels (x1 : Int32).toNatClampNeg) hx hb hr (fun t ht hW => ⟨⟨(md_levels (x1 : Int32).toNatClampNeg), (), rfl, h, by rw [ht]; exact hP9, va_K.moved hW.alike hK, hD9⟩, hS.F ht⟩) hS.2.2 d_Md_level_18
def wp_Md_markRuns_L4 (md_isGoal : Nat → Int32) (md_levels : Nat → Int32) (k60 : Int32 → Prop) : Nat → Int32 → Int32 → Prop
  | 0, _, _ => False
  | n + 1, x1, x2 =>
    (((4096 : Int32) ≤ (x2 : Int32) → k60 x1) ∧ (¬ (4096 : Int32) ≤ (x2 : Int32) → (vp_in x2 4096 ∧ (((md_levels (x2 : Int32).toNatClampNeg : Int32) < 0 → wp_Md_markRuns_L4 md_isGoal md_levels k60 n x1 (x2 + 1)) ∧ (¬ (md_levels (x2 : Int32).toNatClampNeg : Int32) < 0 → (vp_in x2 4096 ∧ ((¬ (md_isGoal (x2 : Int32).toNatClampNeg : Int32) = 0 → wp_Md_markRuns_L4 md_isGoal md_levels k60 n x1 (x2 + 1)) ∧ ((md_isGoal (x2 : Int32).toNatClampNeg : Int32) = 0 → (((x1 : Int32) < 0 → (vp_in x2 4096 ∧ (∀ x1_1 : Int32, x1_1 = (md_levels (x2 : Int32).toNatClampNeg) → wp_Md_markRuns_L4 md_isGoal md_levels k60 n x1_1 (x2 + 1)))) ∧ (¬ (x1 : Int32) < 0 → (vp_in x2 4096 ∧ (((x1 : Int32) ≤ (md_levels (x2 : Int32).toNatClampNeg : Int32) → wp_Md_markRuns_L4 md_isGoal md_levels k60 n x1 (x2 + 1)) ∧ (¬ (x1 : Int32) ≤ (md_levels (x2 : Int32).toNatClampNeg : Int32) → (vp_in x2 4096 ∧ (∀ x1_2 : Int32, x1_2 = (md_levels (x2 : Int32).toNatClampNeg) → wp_Md_markRuns_L4 md_isGoal md_levels k60 n x1_2 (x2 + 1))))))))))))))))
def wp_Md_markRuns_L62 (x1 : Int32) (md_isGoal : Nat → Int32) (md_levels : Nat → Int32) (k109 : (Nat → Int32) → Prop) : Nat → Int32 → (Nat → Int32) → Prop
  | 0, _, _ => False
  | n + 1, x2, md_marked =>
    (((4096 : Int32) ≤ (x2 : Int32) → k109 md_marked) ∧ (¬ (4096 : Int32) ≤ (x2 : Int32) → (((x1 : Int32) < 0 → (vp_in x2 4096 ∧ wp_Md_markRuns_L62 x1 md_isGoal md_levels k109 n (x2 + 1) (upd md_marked (x2 : Int32).toNatClampNeg (vp_nar .boolean 0)))) ∧ (¬ (x1 : Int32) < 0 → (vp_in x2 4096 ∧ ((¬ (md_levels (x2 : Int32).toNatClampNeg : Int32) = (x1 : Int32) → (vp_in x2 4096 ∧ wp_Md_markRuns_L62 x1 md_isGoal md_levels k109 n (x2 + 1) (upd md_marked (x2 : Int32).toNatClampNeg (vp_nar .boolean 0)))) ∧ ((md_levels (x2 : Int32).toNatClampNeg : Int32) = (x1 : Int32) → (vp_in x2 4096 ∧ ((¬ (md_isGoal (x2 : Int32).toNatClampNeg : Int32) = 0 → (vp_in x2 4096 ∧ wp_Md_markRuns_L62 x1 md_isGoal md_levels k109 n (x2 + 1) (upd md_marked (x2 : Int32).toNatClampNeg (vp_nar .boolean 0)))) ∧ ((md_isGoal (x2 : Int32).toNatClampNeg : Int32) = 0 → (vp_in x2 4096 ∧ wp_Md_markRuns_L62 x1 md_isGoal md_levels k109 n (x2 + 1) (upd md_marked (x2 : Int32).toNatClampNeg (vp_nar .boolean 1)))))))))))))
def wp_Md_markRuns_L129 (x1 : Int32) (x2 : Int32) (x3 : Int32) (md_nexts : Nat → Int32) (md_levels : Nat → Int32) (k214 : (Nat → Int32) → Prop) : Nat → Int32 → (Nat → Int32) → Prop
  | 0, _, _ => False
  | n + 1, x4, md_marked =>
    (((6 : Int32) ≤ (x4 : Int32) → k214 md_marked) ∧ (¬ (6 : Int32) ≤ (x4 : Int32) → (vp_in x3 4096 ∧ ((¬ (md_levels (x3 : Int32).toNatClampNeg : Int32) = (x2 : Int32) → k214 md_marked) ∧ ((md_levels (x3 : Int32).toNatClampNeg : Int32) = (x2 : Int32) → (vp_in ((6 * x3) + x4) 24576 ∧ (∀ x5_1 : Int32, x5_1 = (md_nexts ((6 * x3) + x4 : Int32).toNatClampNeg) → (vp_in x3 4096 ∧ ((¬ (md_marked (x3 : Int32).toNatClampNeg : Int32) = 0 → (vp_in x3 4096 ∧ wp_Md_markRuns_L129 x1 x2 x3 md_nexts md_levels k214 n (x4 + 1) (upd md_marked (x3 : Int32).toNatClampNeg (vp_nar .boolean 1)))) ∧ ((md_marked (x3 : Int32).toNatClampNeg : Int32) = 0 → (((x5_1 : Int32) < 0 → (vp_in x3 4096 ∧ wp_Md_markRuns_L129 x1 x2 x3 md_nexts md_levels k214 n (x4 + 1) (upd md_marked (x3 : Int32).toNatClampNeg (vp_nar .boolean 0)))) ∧ (¬ (x5_1 : Int32) < 0 → (vp_in x5_1 4096 ∧ ((¬ (md_levels (x5_1 : Int32).toNatClampNeg : Int32) = (x2 + 1 : Int32) → (vp_in x3 4096 ∧ wp_Md_markRuns_L129 x1 x2 x3 md_nexts md_levels k214 n (x4 + 1) (upd md_marked (x3 : Int32).toNatClampNeg (vp_nar .boolean 0)))) ∧ ((md_levels (x5_1 : Int32).toNatClampNeg : Int32) = (x2 + 1 : Int32) → (vp_in x5_1 4096 ∧ (((md_marked (x5_1 : Int32).toNatClampNeg : Int32) = 0 → (vp_in x3 4096 ∧ wp_Md_markRuns_L129 x1 x2 x3 md_nexts md_levels k214 n (x4 + 1) (upd md_marked (x3 : Int32).toNatClampNeg (vp_nar .boolean 0)))) ∧ (¬ (md_marked (x5_1 : Int32).toNatClampNeg : Int32) = 0 → (vp_in x3 4096 ∧ wp_Md_markRuns_L129 x1 x2 x3 md_nexts md_levels k214 n (x4 + 1) (upd md_marked (x3 : Int32).toNatClampNeg (vp_nar .boolean 1)))))))))))))))))))))
def wp_Md_markRuns_L119 (x1 : Int32) (x2 : Int32) (md_nexts : Nat → Int32) (md_levels : Nat → Int32) (k220 : (Nat → Int32) → Prop) : Nat → Int32 → (Nat → Int32) → Prop
  | 0, _, _ => False
  | n + 1, x3, md_marked =>
    (((4096 : Int32) ≤ (x3 : Int32) → k220 md_marked) ∧ (¬ (4096 : Int32) ≤ (x3 : Int32) → ∃ n_3, wp_Md_markRuns_L129 x1 x2 x3 md_nexts md_levels (fun md_marked_2 => wp_Md_markRuns_L119 x1 x2 md_nexts md_levels k220 n (x3 + 1) md_marked_2) n_3 0 md_marked))
def wp_Md_markRuns_L113 (x1 : Int32) (md_nexts : Nat → Int32) (md_levels : Nat → Int32) (k226 : (Nat → Int32) → Prop) : Nat → Int32 → (Nat → Int32) → Prop
  | 0, _, _ => False
  | n + 1, x2, md_marked =>
    (((x2 : Int32) < 0 → k226 md_marked) ∧ (¬ (x2 : Int32) < 0 → ∃ n_5, wp_Md_markRuns_L119 x1 x2 md_nexts md_levels (fun md_marked_4 => wp_Md_markRuns_L113 x1 md_nexts md_levels k226 n (x2 + (-1)) md_marked_4) n_5 0 md_marked))
def wp_Md_markRuns (md_nexts : Nat → Int32) (md_isGoal : Nat → Int32) (md_levels : Nat → Int32) (md_marked : Nat → Int32) (post : Int32 → (Nat → Int32) → Prop) : Prop :=
  ∃ n_9, wp_Md_markRuns_L4 md_isGoal md_levels (fun x1_3 => ∃ n_8, wp_Md_markRuns_L62 x1_3 md_isGoal md_levels (fun md_marked_4 => (∀ x2_5 : Int32, x2_5 = (x1_3 - 1) → ∃ n_7, wp_Md_markRuns_L113 x1_3 md_nexts md_levels (fun md_marked_6 => post x1_3 md_marked_6) n_7 x2_5 md_marked_4)) n_8 0 md_marked) n_9 (-1) 0
set_option maxHeartbeats 4000000 in
set_option maxRecDepth 100000 in
theorem c_Md_markRuns (l : Launch) (dC : Nat → ClassId) (dI : Nat → Nat → Nat) (cI cB cZ : ClassId) (adK adV : Nat → Nat) (sz : Nat) (a_md a_md_tape a_md_acts a_md_actNumbers a_md_actCounts a_md_pile a_md_begins a_md_goals a_md_ranks a_md_choiceCounts a_md_whens a_md_becomes a_md_guessCounts a_md_guesses a_md_unaryCounts a_md_stack a_md_nexts a_md_isBegin a_md_isGoal a_md_levels a_md_queue a_md_hasGuesses a_md_rounds a_md_marked a_md_other a_md_heights : Nat) (md_size : Int32) (md_at : Int32) (md_token : Int32) (md_tokenPlace : Int32) (md_number : Int32) (md_sign : Int32) (md_bad : Int32) (md_faultPlace : Int32) (md_place : Int32) (md_bank : Int32) (md_unaries : Int32) (md_opens : Int32) (md_piled : Int32) (md_loop : Int32) (md_keptBits : Int32) (md_nexts : Nat → Int32) (md_isGoal : Nat → Int32) (md_levels : Nat → Int32) (md_marked : Nat → Int32) (post : Int32 → (Nat → Int32) → Prop) (h : wp_Md_markRuns md_nexts md_isGoal md_levels md_marked post) : Met l y_Md_markRuns w_Md_markRuns ({ frames := 0, cells := 0, slots := 0, locals := 0 }) (pc_ (dC, dI) [(cI, .int), (cB, .byte), (cZ, .boolean)] [(a_md, .inr (11, [.ref a_md_tape, .int md_size, .int md_at, .int md_token, .int md_tokenPlace, .int md_number, .int md_sign, .int md_bad, .int md_faultPlace, .int md_place, .ref a_md_acts, .ref a_md_actNumbers, .ref a_md_actCounts, .int md_bank, .int md_unaries, .int md_opens, .ref a_md_pile, .int md_piled, .int md_loop, .ref a_md_begins, .ref a_md_goals, .ref a_md_ranks, .ref a_md_choiceCounts, .ref a_md_whens, .ref a_md_becomes, .ref a_md_guessCounts, .ref a_md_guesses, .ref a_md_unaryCounts, .ref a_md_stack, .ref a_md_nexts, .ref a_md_isBegin, .ref a_md_isGoal, .ref a_md_levels, .ref a_md_queue, .ref a_md_hasGuesses, .int md_keptBits, .ref a_md_rounds, .ref a_md_marked, .ref a_md_other, .ref a_md_heights])), (a_md_nexts, .inl (cI, 24576, .inl md_nexts)), (a_md_isGoal, .inl (cZ, 4096, .inl md_isGoal)), (a_md_levels, .inl (cI, 4096, .inl md_levels)), (a_md_marked, .inl (cZ, 4096, .inl md_marked))] sz adK adV [.ref a_md]) (va_Qi (fun (r : Int32) (u : (Nat → Int32)) => post r u) (fun (u : (Nat → Int32)) t => bw_ (dC, dI) [(cI, .int), (cB, .byte), (cZ, .boolean)] (va_A [(a_md, .inr (11, [.ref a_md_tape, .int md_size, .int md_at, .int md_token, .int md_tokenPlace, .int md_number, .int md_sign, .int md_bad, .int md_faultPlace, .int md_place, .ref a_md_acts, .ref a_md_actNumbers, .ref a_md_actCounts, .int md_bank, .int md_unaries, .int md_opens, .ref a_md_pile, .int md_piled, .int md_loop, .ref a_md_begins, .ref a_md_goals, .ref a_md_ranks, .ref a_md_choiceCounts, .ref a_md_whens, .ref a_md_becomes, .ref a_md_guessCounts, .ref a_md_guesses, .ref a_md_unaryCounts, .ref a_md_stack, .ref a_md_nexts, .ref a_md_isBegin, .ref a_md_isGoal, .ref a_md_levels, .ref a_md_queue, .ref a_md_hasGuesses, .int md_keptBits, .ref a_md_rounds, .ref a_md_marked, .ref a_md_other, .ref a_md_heights])), (a_md_nexts, .inl (cI, 24576, .inl md_nexts)), (a_md_isGoal, .inl (cZ, 4096, .inl md_isGoal)), (a_md_levels, .inl (cI, 4096, .inl md_levels)), (a_md_marked, .inl (cZ, 4096, .inl md_marked))] sz) [(a_md, .inr (11, [.ref a_md_tape, .int md_size, .int md_at, .int md_token, .int md_tokenPlace, .int md_number, .int md_sign, .int md_bad, .int md_faultPlace, .int md_place, .ref a_md_acts, .ref a_md_actNumbers, .ref a_md_actCounts, .int md_bank, .int md_unaries, .int md_opens, .ref a_md_pile, .int md_piled, .int md_loop, .ref a_md_begins, .ref a_md_goals, .ref a_md_ranks, .ref a_md_choiceCounts, .ref a_md_whens, .ref a_md_becomes, .ref a_md_guessCounts, .ref a_md_guesses, .ref a_md_unaryCounts, .ref a_md_stack, .ref a_md_nexts, .ref a_md_isBegin, .ref a_md_isGoal, .ref a_md_levels, .ref a_md_queue, .ref a_md_hasGuesses, .int md_keptBits, .ref a_md_rounds, .ref a_md_marked, .ref a_md_other, .ref a_md_heights])), (a_md_nexts, .inl (cI, 24576, .inl md_nexts)), (a_md_isGoal, .inl (cZ, 4096, .inl md_isGoal)), (a_md_levels, .inl (cI, 4096, .inl md_levels)), (a_md_marked, .inl (cZ, 4096, .inl u))] t) (va_A [(a_md, .inr (11, [.ref a_md_tape, .int md_size, .int md_at, .int md_token, .int md_tokenPlace, .int md_number, .int md_sign, .int md_bad, .int md_faultPlace, .int md_place, .ref a_md_acts, .ref a_md_actNumbers, .ref a_md_actCounts, .int md_bank, .int md_unaries, .int md_opens, .ref a_md_pile, .int md_piled, .int md_loop, .ref a_md_begins, .ref a_md_goals, .ref a_md_ranks, .ref a_md_choiceCounts, .ref a_md_whens, .ref a_md_becomes, .ref a_md_guessCounts, .ref a_md_guesses, .ref a_md_unaryCounts, .ref a_md_stack, .ref a_md_nexts, .ref a_md_isBegin, .ref a_md_isGoal, .ref a_md_levels, .ref a_md_queue, .ref a_md_hasGuesses, .int md_keptBits, .ref a_md_rounds, .ref a_md_marked, .ref a_md_other, .ref a_md_heights])), (a_md_nexts, .inl (cI, 24576, .inl md_nexts)), (a_md_isGoal, .inl (cZ, 4096, .inl md_isGoal)), (a_md_levels, .inl (cI, 4096, .inl md_levels)), (a_md_marked, .inl (cZ, 4096, .inl md_marked))] sz)) 0 0 (va_A [(a_md, .inr (11, [.ref a_md_tape, .int md_size, .int md_at, .int md_token, .int md_tokenPlace, .int md_number, .int md_sign, .int md_bad, .int md_faultPlace, .int md_place, .ref a_md_acts, .ref a_md_actNumbers, .ref a_md_actCounts, .int md_bank, .int md_unaries, .int md_opens, .ref a_md_pile, .int md_piled, .int md_loop, .ref a_md_begins, .ref a_md_goals, .ref a_md_ranks, .ref a_md_choiceCounts, .ref a_md_whens, .ref a_md_becomes, .ref a_md_guessCounts, .ref a_md_guesses, .ref a_md_unaryCounts, .ref a_md_stack, .ref a_md_nexts, .ref a_md_isBegin, .ref a_md_isGoal, .ref a_md_levels, .ref a_md_queue, .ref a_md_hasGuesses, .int md_keptBits, .ref a_md_rounds, .ref a_md_marked, .ref a_md_other, .ref a_md_heights])), (a_md_nexts, .inl (cI, 24576, .inl md_nexts)), (a_md_isGoal, .inl (cZ, 4096, .inl md_isGoal)), (a_md_levels, .inl (cI, 4096, .inl md_levels)), (a_md_marked, .inl (cZ, 4096, .inl md_marked))] sz) := by
  refine Met.ofW (cc := b_Md_markRuns) (maxL := 6) (ret := (some .int)) (by decide) rfl ?_
  intro p e s m args below meth c s₁ B hml hv
  obtain ⟨rfl, hsz, hP, hK, hD0, hN, hT⟩ := hv
  have hx := B.exec
  have hb := B.bytes
  have hr := B.returns
  have hts := atoms_spec (ws := w_Md_markRuns) B.pre
  have hown : s.vm.findClass "LoopInductionModel" = some m.cls := findClass_of_methodNamed B.named
  have hlocks := B.notSynchronized
  subst hsz
  have hD := hD0.self (sz := s.heap.size)
  generalize hAe : va_A [(a_md, .inr (11, [.ref a_md_tape, .int md_size, .int md_at, .int md_token, .int md_tokenPlace, .int md_number, .int md_sign, .int md_bad, .int md_faultPlace, .int md_place, .ref a_md_acts, .ref a_md_actNumbers, .ref a_md_actCounts, .int md_bank, .int md_unaries, .int md_opens, .ref a_md_pile, .int md_piled, .int md_loop, .ref a_md_begins, .ref a_md_goals, .ref a_md_ranks, .ref a_md_choiceCounts, .ref a_md_whens, .ref a_md_becomes, .ref a_md_guessCounts, .ref a_md_guesses, .ref a_md_unaryCounts, .ref a_md_stack, .ref a_md_nexts, .ref a_md_isBegin, .ref a_md_isGoal, .ref a_md_levels, .ref a_md_queue, .ref a_md_hasGuesses, .int md_keptBits, .ref a_md_rounds, .ref a_md_marked, .ref a_md_other, .ref a_md_heights])), (a_md_nexts, .inl (cI, 24576, .inl md_nexts)), (a_md_isGoal, .inl (cZ, 4096, .inl md_isGoal)), (a_md_levels, .inl (cI, 4096, .inl md_levels)), (a_md_marked, .inl (cZ, 4096, .inl md_marked))] s.heap.size = A at hD hT ⊢
  have hA : ∀ q : Nat, s.heap.size ≤ q → A q := fun q h => by rw [← hAe]; exact Or.inr h
  have hS : va_S A s.heap s.heap [] := va_S.rf
  generalize hQ : MQ below _ _ s 0 0 _ = QQ
  have hl := lv_entry ([.ref a_md]) (n := 6) (Nat.le_of_ble_eq_true rfl)
  rw [lg_entry_eq]
  generalize (lg_sl ([.ref a_md]) ++ List.replicate (6 - (lg_sl ([.ref a_md])).length) Slot.unset).toArray = ls at hl ⊢
  have hl : lv_has ls 6 [(0, .ref a_md)] := hl
  have fl_63 := (hts _ (List.mem_cons_of_mem _ m_1119))
  have fl_70 := (hts _ (List.mem_cons_of_mem _ m_1121))
  have fl_73 := (hts _ (List.mem_cons_of_mem _ m_1122))
  have fl_85 := (hts _ (List.mem_cons_of_mem _ m_1127))
  refine lv_iconst (v := (-1)) hx hb d_Md_markRuns_0 (by decide) ?_
  refine lv_istore_n (lv' := [(1, .int (-1)), (0, .ref a_md)]) hx hb d_Md_markRuns_1 rfl hl (by decide) rfl (fun ls hl => ?_)
  refine lv_iconst (v := 0) hx hb d_Md_markRuns_2 (by decide) ?_
  refine lv_istore_n (lv' := [(2, .int 0), (1, .int (-1)), (0, .ref a_md)]) hx hb d_Md_markRuns_3 rfl hl (by decide) rfl (fun ls hl => ?_)
  have L4_q_3 : ∀ (k60 : Int32 → Prop) (hk60 : ∀ (x1_4 : Int32), k60 x1_4 → ∀ (H : Heap) (locs : List Loc), va_P (dC, dI) vwCl [(a_md, .inr (11, [.ref a_md_tape, .int md_size, .int md_at, .int md_token, .int md_tokenPlace, .int md_number, .int md_sign, .int md_bad, .int md_faultPlace, .int md_place, .ref a_md_acts, .ref a_md_actNumbers, .ref a_md_actCounts, .int md_bank, .int md_unaries, .int md_opens, .ref a_md_pile, .int md_piled, .int md_loop, .ref a_md_begins, .ref a_md_goals, .ref a_md_ranks, .ref a_md_choiceCounts, .ref a_md_whens, .ref a_md_becomes, .ref a_md_guessCounts, .ref a_md_guesses, .ref a_md_unaryCounts, .ref a_md_stack, .ref a_md_nexts, .ref a_md_isBegin, .ref a_md_isGoal, .ref a_md_levels, .ref a_md_queue, .ref a_md_hasGuesses, .int md_keptBits, .ref a_md_rounds, .ref a_md_marked, .ref a_md_other, .ref a_md_heights])), (a_md_nexts, .inl (cI, 24576, .inl md_nexts)), (a_md_isGoal, .inl (cZ, 4096, .inl md_isGoal)), (a_md_levels, .inl (cI, 4096, .inl md_levels)), (a_md_marked, .inl (cZ, 4096, .inl md_marked))] H → va_D A [(a_md, .inr (11, [.ref a_md_tape, .int md_size, .int md_at, .int md_token, .int md_tokenPlace, .int md_number, .int md_sign, .int md_bad, .int md_faultPlace, .int md_place, .ref a_md_acts, .ref a_md_actNumbers, .ref a_md_actCounts, .int md_bank, .int md_unaries, .int md_opens, .ref a_md_pile, .int md_piled, .int md_loop, .ref a_md_begins, .ref a_md_goals, .ref a_md_ranks, .ref a_md_choiceCounts, .ref a_md_whens, .ref a_md_becomes, .ref a_md_guessCounts, .ref a_md_guesses, .ref a_md_unaryCounts, .ref a_md_stack, .ref a_md_nexts, .ref a_md_isBegin, .ref a_md_isGoal, .ref a_md_levels, .ref a_md_queue, .ref a_md_hasGuesses, .int md_keptBits, .ref a_md_rounds, .ref a_md_marked, .ref a_md_other, .ref a_md_heights])), (a_md_nexts, .inl (cI, 24576, .inl md_nexts)), (a_md_isGoal, .inl (cZ, 4096, .inl md_isGoal)), (a_md_levels, .inl (cI, 4096, .inl md_levels)), (a_md_marked, .inl (cZ, 4096, .inl md_marked))] → va_S A s.heap H locs → ∀ ls : Array Slot, lv_has ls 6 [(0, .ref a_md), (1, .int x1_4)] → W p l e (headSpec w_Md_markRuns ({ frames := 0, cells := 0, slots := 0, locals := 0 })).room s m (([.ref a_md] : List Value).toArray) below meth c H locs 0 0 QQ (F0 m 60 ls [])) (n : Nat) (x1_1 : Int32) (x2_2 : Int32), wp_Md_markRuns_L4 md_isGoal md_levels k60 n x1_1 x2_2 → ∀ (H : Heap) (locs : List Loc), va_P (dC, dI) vwCl [(a_md, .inr (11, [.ref a_md_tape, .int md_size, .int md_at, .int md_token, .int md_tokenPlace, .int md_number, .int md_sign, .int md_bad, .int md_faultPlace, .int md_place, .ref a_md_acts, .ref a_md_actNumbers, .ref a_md_actCounts, .int md_bank, .int md_unaries, .int md_opens, .ref a_md_pile, .int md_piled, .int md_loop, .ref a_md_begins, .ref a_md_goals, .ref a_md_ranks, .ref a_md_choiceCounts, .ref a_md_whens, .ref a_md_becomes, .ref a_md_guessCounts, .ref a_md_guesses, .ref a_md_unaryCounts, .ref a_md_stack, .ref a_md_nexts, .ref a_md_isBegin, .ref a_md_isGoal, .ref a_md_levels, .ref a_md_queue, .ref a_md_hasGuesses, .int md_keptBits, .ref a_md_rounds, .ref a_md_marked, .ref a_md_other, .ref a_md_heights])), (a_md_nexts, .inl (cI, 24576, .inl md_nexts)), (a_md_isGoal, .inl (cZ, 4096, .inl md_isGoal)), (a_md_levels, .inl (cI, 4096, .inl md_levels)), (a_md_marked, .inl (cZ, 4096, .inl md_marked))] H → va_D A [(a_md, .inr (11, [.ref a_md_tape, .int md_size, .int md_at, .int md_token, .int md_tokenPlace, .int md_number, .int md_sign, .int md_bad, .int md_faultPlace, .int md_place, .ref a_md_acts, .ref a_md_actNumbers, .ref a_md_actCounts, .int md_bank, .int md_unaries, .int md_opens, .ref a_md_pile, .int md_piled, .int md_loop, .ref a_md_begins, .ref a_md_goals, .ref a_md_ranks, .ref a_md_choiceCounts, .ref a_md_whens, .ref a_md_becomes, .ref a_md_guessCounts, .ref a_md_guesses, .ref a_md_unaryCounts, .ref a_md_stack, .ref a_md_nexts, .ref a_md_isBegin, .ref a_md_isGoal, .ref a_md_levels, .ref a_md_queue, .ref a_md_hasGuesses, .int md_keptBits, .ref a_md_rounds, .ref a_md_marked, .ref a_md_other, .ref a_md_heights])), (a_md_nexts, .inl (cI, 24576, .inl md_nexts)), (a_md_isGoal, .inl (cZ, 4096, .inl md_isGoal)), (a_md_levels, .inl (cI, 4096, .inl md_levels)), (a_md_marked, .inl (cZ, 4096, .inl md_marked))] → va_S A s.heap H locs → ∀ ls : Array Slot, lv_has ls 6 [(0, .ref a_md), (1, .int x1_1), (2, .int x2_2)] → W p l e (headSpec w_Md_markRuns ({ frames := 0, cells := 0, slots := 0, locals := 0 })).room s m (([.ref a_md] : List Value).toArray) below meth c H locs 0 0 QQ (F0 m 4 ls []) := by
    intro k60 hk60 n
    induction n with
    | zero => intro x1_1 x2_2 h; exact (show False from h).elim
    | succ n il =>
      intro x1_1 x2_2 h H locs hP hD hS ls hl
      refine lv_iload_n hx hb d_Md_markRuns_4 rfl (lv_at hl 2 rfl) ?_
      refine lv_sipush (v := 4096) hx hb d_Md_markRuns_5 (by decide) ?_
      refine lv_icmp_ge (tgt := 60) hx hb d_Md_markRuns_8 (by decide) (fun c_8 => ?_) (fun c_8 => ?_)
      · have h := And.left h c_8
        exact hk60 _ h _ _ hP hD hS _ (lv_sub hl [0, 1] rfl)
      · have h := And.right h c_8
        refine lv_aload_n hx hb d_Md_markRuns_11 rfl (lv_at hl 0 rfl) ?_
        refine va_get (D := (dC, dI)) (ci := 11) (v := .ref a_md_levels) (C := "LoopInductionModel") (T := F_Md) (N := 40) hx hb hts iC_Md hown hK hP 0 rfl rfl 32 (by decide) fl_73 (fun _ h9 => h9) rfl d_Md_markRuns_12 ?_
        refine lv_iload_n hx hb d_Md_markRuns_15 rfl (lv_at hl 2 rfl) ?_
        obtain ⟨hin_16, h⟩ := h
        refine va_iald hx hb hK hP 3 0 rfl rfl hin_16 d_Md_markRuns_16 ?_
        refine lv_if_lt (tgt := 52) hx hb d_Md_markRuns_17 (by decide) (fun c_17 => ?_) (fun c_17 => ?_)
        · have h := And.left h c_17
          refine lv_iload_n hx hb d_Md_markRuns_52 rfl (lv_at hl 1 rfl) ?_
          refine lv_istore_n (lv' := [(1, .int x1_1), (0, .ref a_md), (2, .int x2_2)]) hx hb d_Md_markRuns_53 rfl hl (by decide) rfl (fun ls hl => ?_)
          refine lv_iinc (v := x2_2 + 1) (lv' := [(2, .int (x2_2 + 1)), (1, .int x1_1), (0, .ref a_md)]) hx hb d_Md_markRuns_54 hl (k := 2) rfl rfl (by decide) rfl (fun ls hl => ?_)
          refine lv_goto (tgt := 4) hx hb d_Md_markRuns_57 (by decide) ?_
          exact il _ _ h _ _ hP hD hS _ (lv_sub hl [2, 1, 0] rfl)
        · have h := And.right h c_17
          refine lv_aload_n hx hb d_Md_markRuns_20 rfl (lv_at hl 0 rfl) ?_
          refine va_get (D := (dC, dI)) (ci := 11) (v := .ref a_md_isGoal) (C := "LoopInductionModel") (T := F_Md) (N := 40) hx hb hts iC_Md hown hK hP 0 rfl rfl 31 (by decide) fl_70 (fun _ h9 => h9) rfl d_Md_markRuns_21 ?_
          refine lv_iload_n hx hb d_Md_markRuns_24 rfl (lv_at hl 2 rfl) ?_
          obtain ⟨hin_25, h⟩ := h
          refine va_zald hx hb hK hP 2 2 rfl rfl hin_25 d_Md_markRuns_25 ?_
          refine lv_if_ne (tgt := 52) hx hb d_Md_markRuns_26 (by decide) (fun c_26 => ?_) (fun c_26 => ?_)
          · have h := And.left h c_26
            refine lv_iload_n hx hb d_Md_markRuns_52 rfl (lv_at hl 1 rfl) ?_
            refine lv_istore_n (lv' := [(1, .int x1_1), (0, .ref a_md), (2, .int x2_2)]) hx hb d_Md_markRuns_53 rfl hl (by decide) rfl (fun ls hl => ?_)
            refine lv_iinc (v := x2_2 + 1) (lv' := [(2, .int (x2_2 + 1)), (1, .int x1_1), (0, .ref a_md)]) hx hb d_Md_markRuns_54 hl (k := 2) rfl rfl (by decide) rfl (fun ls hl => ?_)
            refine lv_goto (tgt := 4) hx hb d_Md_markRuns_57 (by decide) ?_
            exact il _ _ h _ _ hP hD hS _ (lv_sub hl [2, 1, 0] rfl)
          · have h := And.right h c_26
            refine lv_iload_n hx hb d_Md_markRuns_29 rfl (lv_at hl 1 rfl) ?_
            refine lv_if_lt (tgt := 43) hx hb d_Md_markRuns_30 (by decide) (fun c_30 => ?_) (fun c_30 => ?_)
            · have h := And.left h c_30
              refine lv_aload_n hx hb d_Md_markRuns_43 rfl (lv_at hl 0 rfl) ?_
              refine va_get (D := (dC, dI)) (ci := 11) (v := .ref a_md_levels) (C := "LoopInductionModel") (T := F_Md) (N := 40) hx hb hts iC_Md hown hK hP 0 rfl rfl 32 (by decide) fl_73 (fun _ h9 => h9) rfl d_Md_markRuns_44 ?_
              refine lv_iload_n hx hb d_Md_markRuns_47 rfl (lv_at hl 2 rfl) ?_
              obtain ⟨hin_48, h⟩ := h
              refine va_iald hx hb hK hP 3 0 rfl rfl hin_48 d_Md_markRuns_48 ?_
              refine lv_goto (tgt := 53) hx hb d_Md_markRuns_49 (by decide) ?_
              refine lv_topi (fun x1_5 ex1_5 => ?_)
              have h := h x1_5 ex1_5
              refine lv_istore_n (lv' := [(1, .int x1_5), (0, .ref a_md), (2, .int x2_2)]) hx hb d_Md_markRuns_53 rfl hl (by decide) rfl (fun ls hl => ?_)
              refine lv_iinc (v := x2_2 + 1) (lv' := [(2, .int (x2_2 + 1)), (1, .int x1_5), (0, .ref a_md)]) hx hb d_Md_markRuns_54 hl (k := 2) rfl rfl (by decide) rfl (fun ls hl => ?_)
              refine lv_goto (tgt := 4) hx hb d_Md_markRuns_57 (by decide) ?_
              exact il _ _ h _ _ hP hD hS _ (lv_sub hl [2, 1, 0] rfl)
            · have h := And.right h c_30
              refine lv_aload_n hx hb d_Md_markRuns_33 rfl (lv_at hl 0 rfl) ?_
              refine va_get (D := (dC, dI)) (ci := 11) (v := .ref a_md_levels) (C := "LoopInductionModel") (T := F_Md) (N := 40) hx hb hts iC_Md hown hK hP 0 rfl rfl 32 (by decide) fl_73 (fun _ h9 => h9) rfl d_Md_markRuns_34 ?_
              refine lv_iload_n hx hb d_Md_markRuns_37 rfl (lv_at hl 2 rfl) ?_
              obtain ⟨hin_38, h⟩ := h
              refine va_iald hx hb hK hP 3 0 rfl rfl hin_38 d_Md_markRuns_38 ?_
              refine lv_iload_n hx hb d_Md_markRuns_39 rfl (lv_at hl 1 rfl) ?_
              refine lv_icmp_ge (tgt := 52) hx hb d_Md_markRuns_40 (by decide) (fun c_40 => ?_) (fun c_40 => ?_)
              · have h := And.left h c_40
                refine lv_iload_n hx hb d_Md_markRuns_52 rfl (lv_at hl 1 rfl) ?_
                refine lv_istore_n (lv' := [(1, .int x1_1), (0, .ref a_md), (2, .int x2_2)]) hx hb d_Md_markRuns_53 rfl hl (by decide) rfl (fun ls hl => ?_)
                refine lv_iinc (v := x2_2 + 1) (lv' := [(2, .int (x2_2 + 1)), (1, .int x1_1), (0, .ref a_md)]) hx hb d_Md_markRuns_54 hl (k := 2) rfl rfl (by decide) rfl (fun ls hl => ?_)
                refine lv_goto (tgt := 4) hx hb d_Md_markRuns_57 (by decide) ?_
                exact il _ _ h _ _ hP hD hS _ (lv_sub hl [2, 1, 0] rfl)
              · have h := And.right h c_40
                refine lv_aload_n hx hb d_Md_markRuns_43 rfl (lv_at hl 0 rfl) ?_
                refine va_get (D := (dC, dI)) (ci := 11) (v := .ref a_md_levels) (C := "LoopInductionModel") (T := F_Md) (N := 40) hx hb hts iC_Md hown hK hP 0 rfl rfl 32 (by decide) fl_73 (fun _ h9 => h9) rfl d_Md_markRuns_44 ?_
                refine lv_iload_n hx hb d_Md_markRuns_47 rfl (lv_at hl 2 rfl) ?_
                obtain ⟨hin_48, h⟩ := h
                refine va_iald hx hb hK hP 3 0 rfl rfl hin_48 d_Md_markRuns_48 ?_
                refine lv_goto (tgt := 53) hx hb d_Md_markRuns_49 (by decide) ?_
                refine lv_topi (fun x1_6 ex1_6 => ?_)
                have h := h x1_6 ex1_6
                refine lv_istore_n (lv' := [(1, .int x1_6), (0, .ref a_md), (2, .int x2_2)]) hx hb d_Md_markRuns_53 rfl hl (by decide) rfl (fun ls hl => ?_)
                refine lv_iinc (v := x2_2 + 1) (lv' := [(2, .int (x2_2 + 1)), (1, .int x1_6), (0, .ref a_md)]) hx hb d_Md_markRuns_54 hl (k := 2) rfl rfl (by decide) rfl (fun ls hl => ?_)
                refine lv_goto (tgt := 4) hx hb d_Md_markRuns_57 (by decide) ?_
                exact il _ _ h _ _ hP hD hS _ (lv_sub hl [2, 1, 0] rfl)
  obtain ⟨n_, h⟩ := h
  refine L4_q_3 _ ?_ n_ _ _ h _ _ hP hD hS _ (lv_sub hl [2, 1, 0] rfl)
  intro x1_7 h H locs hP hD hS ls hl
  refine lv_iconst (v := 0) hx hb d_Md_markRuns_60 (by decide) ?_
  refine lv_istore_n (lv' := [(2, .int 0), (0, .ref a_md), (1, .int x1_7)]) hx hb d_Md_markRuns_61 rfl hl (by decide) rfl (fun ls hl => ?_)
  have L62_q_10 : ∀ (k109 : (Nat → Int32) → Prop) (hk109 : ∀ (md_marked_11 : Nat → Int32), k109 md_marked_11 → ∀ (H : Heap) (locs : List Loc), va_P (dC, dI) vwCl [(a_md, .inr (11, [.ref a_md_tape, .int md_size, .int md_at, .int md_token, .int md_tokenPlace, .int md_number, .int md_sign, .int md_bad, .int md_faultPlace, .int md_place, .ref a_md_acts, .ref a_md_actNumbers, .ref a_md_actCounts, .int md_bank, .int md_unaries, .int md_opens, .ref a_md_pile, .int md_piled, .int md_loop, .ref a_md_begins, .ref a_md_goals, .ref a_md_ranks, .ref a_md_choiceCounts, .ref a_md_whens, .ref a_md_becomes, .ref a_md_guessCounts, .ref a_md_guesses, .ref a_md_unaryCounts, .ref a_md_stack, .ref a_md_nexts, .ref a_md_isBegin, .ref a_md_isGoal, .ref a_md_levels, .ref a_md_queue, .ref a_md_hasGuesses, .int md_keptBits, .ref a_md_rounds, .ref a_md_marked, .ref a_md_other, .ref a_md_heights])), (a_md_nexts, .inl (cI, 24576, .inl md_nexts)), (a_md_isGoal, .inl (cZ, 4096, .inl md_isGoal)), (a_md_levels, .inl (cI, 4096, .inl md_levels)), (a_md_marked, .inl (cZ, 4096, .inl md_marked_11))] H → va_D A [(a_md, .inr (11, [.ref a_md_tape, .int md_size, .int md_at, .int md_token, .int md_tokenPlace, .int md_number, .int md_sign, .int md_bad, .int md_faultPlace, .int md_place, .ref a_md_acts, .ref a_md_actNumbers, .ref a_md_actCounts, .int md_bank, .int md_unaries, .int md_opens, .ref a_md_pile, .int md_piled, .int md_loop, .ref a_md_begins, .ref a_md_goals, .ref a_md_ranks, .ref a_md_choiceCounts, .ref a_md_whens, .ref a_md_becomes, .ref a_md_guessCounts, .ref a_md_guesses, .ref a_md_unaryCounts, .ref a_md_stack, .ref a_md_nexts, .ref a_md_isBegin, .ref a_md_isGoal, .ref a_md_levels, .ref a_md_queue, .ref a_md_hasGuesses, .int md_keptBits, .ref a_md_rounds, .ref a_md_marked, .ref a_md_other, .ref a_md_heights])), (a_md_nexts, .inl (cI, 24576, .inl md_nexts)), (a_md_isGoal, .inl (cZ, 4096, .inl md_isGoal)), (a_md_levels, .inl (cI, 4096, .inl md_levels)), (a_md_marked, .inl (cZ, 4096, .inl md_marked_11))] → va_S A s.heap H locs → ∀ ls : Array Slot, lv_has ls 6 [(0, .ref a_md), (1, .int x1_7)] → W p l e (headSpec w_Md_markRuns ({ frames := 0, cells := 0, slots := 0, locals := 0 })).room s m (([.ref a_md] : List Value).toArray) below meth c H locs 0 0 QQ (F0 m 109 ls [])) (n : Nat) (x2_8 : Int32) (md_marked_9 : Nat → Int32), wp_Md_markRuns_L62 x1_7 md_isGoal md_levels k109 n x2_8 md_marked_9 → ∀ (H : Heap) (locs : List Loc), va_P (dC, dI) vwCl [(a_md, .inr (11, [.ref a_md_tape, .int md_size, .int md_at, .int md_token, .int md_tokenPlace, .int md_number, .int md_sign, .int md_bad, .int md_faultPlace, .int md_place, .ref a_md_acts, .ref a_md_actNumbers, .ref a_md_actCounts, .int md_bank, .int md_unaries, .int md_opens, .ref a_md_pile, .int md_piled, .int md_loop, .ref a_md_begins, .ref a_md_goals, .ref a_md_ranks, .ref a_md_choiceCounts, .ref a_md_whens, .ref a_md_becomes, .ref a_md_guessCounts, .ref a_md_guesses, .ref a_md_unaryCounts, .ref a_md_stack, .ref a_md_nexts, .ref a_md_isBegin, .ref a_md_isGoal, .ref a_md_levels, .ref a_md_queue, .ref a_md_hasGuesses, .int md_keptBits, .ref a_md_rounds, .ref a_md_marked, .ref a_md_other, .ref a_md_heights])), (a_md_nexts, .inl (cI, 24576, .inl md_nexts)), (a_md_isGoal, .inl (cZ, 4096, .inl md_isGoal)), (a_md_levels, .inl (cI, 4096, .inl md_levels)), (a_md_marked, .inl (cZ, 4096, .inl md_marked_9))] H → va_D A [(a_md, .inr (11, [.ref a_md_tape, .int md_size, .int md_at, .int md_token, .int md_tokenPlace, .int md_number, .int md_sign, .int md_bad, .int md_faultPlace, .int md_place, .ref a_md_acts, .ref a_md_actNumbers, .ref a_md_actCounts, .int md_bank, .int md_unaries, .int md_opens, .ref a_md_pile, .int md_piled, .int md_loop, .ref a_md_begins, .ref a_md_goals, .ref a_md_ranks, .ref a_md_choiceCounts, .ref a_md_whens, .ref a_md_becomes, .ref a_md_guessCounts, .ref a_md_guesses, .ref a_md_unaryCounts, .ref a_md_stack, .ref a_md_nexts, .ref a_md_isBegin, .ref a_md_isGoal, .ref a_md_levels, .ref a_md_queue, .ref a_md_hasGuesses, .int md_keptBits, .ref a_md_rounds, .ref a_md_marked, .ref a_md_other, .ref a_md_heights])), (a_md_nexts, .inl (cI, 24576, .inl md_nexts)), (a_md_isGoal, .inl (cZ, 4096, .inl md_isGoal)), (a_md_levels, .inl (cI, 4096, .inl md_levels)), (a_md_marked, .inl (cZ, 4096, .inl md_marked_9))] → va_S A s.heap H locs → ∀ ls : Array Slot, lv_has ls 6 [(0, .ref a_md), (1, .int x1_7), (2, .int x2_8)] → W p l e (headSpec w_Md_markRuns ({ frames := 0, cells := 0, slots := 0, locals := 0 })).room s m (([.ref a_md] : List Value).toArray) below meth c H locs 0 0 QQ (F0 m 62 ls []) := by
    intro k109 hk109 n
    induction n with
    | zero => intro x2_8 md_marked_9 h; exact (show False from h).elim
    | succ n il =>
      intro x2_8 md_marked_9 h H locs hP hD hS ls hl
      refine lv_iload_n hx hb d_Md_markRuns_62 rfl (lv_at hl 2 rfl) ?_
      refine lv_sipush (v := 4096) hx hb d_Md_markRuns_63 (by decide) ?_
      refine lv_icmp_ge (tgt := 109) hx hb d_Md_markRuns_66 (by decide) (fun c_66 => ?_) (fun c_66 => ?_)
      · have h := And.left h c_66
        exact hk109 _ h _ _ hP hD hS _ (lv_sub hl [0, 1] rfl)
      · have h := And.right h c_66
        refine lv_aload_n hx hb d_Md_markRuns_69 rfl (lv_at hl 0 rfl) ?_
        refine va_get (D := (dC, dI)) (ci := 11) (v := .ref a_md_marked) (C := "LoopInductionModel") (T := F_Md) (N := 40) hx hb hts iC_Md hown hK hP 0 rfl rfl 37 (by decide) fl_85 (fun _ h9 => h9) rfl d_Md_markRuns_70 ?_
        refine lv_iload_n hx hb d_Md_markRuns_73 rfl (lv_at hl 2 rfl) ?_
        refine lv_iload_n hx hb d_Md_markRuns_74 rfl (lv_at hl 1 rfl) ?_
        refine lv_if_lt (tgt := 101) hx hb d_Md_markRuns_75 (by decide) (fun c_75 => ?_) (fun c_75 => ?_)
        · have h := And.left h c_75
          refine lv_iconst (v := 0) hx hb d_Md_markRuns_101 (by decide) ?_
          obtain ⟨hin_102, h⟩ := h
          refine va_zast hx hb hK hP hD hS 4 2 rfl rfl hin_102 d_Md_markRuns_102 (fun H locs hP hD hS => ?_)
          have hP : va_P (dC, dI) vwCl [(a_md, .inr (11, [.ref a_md_tape, .int md_size, .int md_at, .int md_token, .int md_tokenPlace, .int md_number, .int md_sign, .int md_bad, .int md_faultPlace, .int md_place, .ref a_md_acts, .ref a_md_actNumbers, .ref a_md_actCounts, .int md_bank, .int md_unaries, .int md_opens, .ref a_md_pile, .int md_piled, .int md_loop, .ref a_md_begins, .ref a_md_goals, .ref a_md_ranks, .ref a_md_choiceCounts, .ref a_md_whens, .ref a_md_becomes, .ref a_md_guessCounts, .ref a_md_guesses, .ref a_md_unaryCounts, .ref a_md_stack, .ref a_md_nexts, .ref a_md_isBegin, .ref a_md_isGoal, .ref a_md_levels, .ref a_md_queue, .ref a_md_hasGuesses, .int md_keptBits, .ref a_md_rounds, .ref a_md_marked, .ref a_md_other, .ref a_md_heights])), (a_md_nexts, .inl (cI, 24576, .inl md_nexts)), (a_md_isGoal, .inl (cZ, 4096, .inl md_isGoal)), (a_md_levels, .inl (cI, 4096, .inl md_levels)), (a_md_marked, .inl (cZ, 4096, .inl (upd md_marked_9 (x2_8 : Int32).toNatClampNeg (vp_nar .boolean 0))))] H := hP
          have hD : va_D A [(a_md, .inr (11, [.ref a_md_tape, .int md_size, .int md_at, .int md_token, .int md_tokenPlace, .int md_number, .int md_sign, .int md_bad, .int md_faultPlace, .int md_place, .ref a_md_acts, .ref a_md_actNumbers, .ref a_md_actCounts, .int md_bank, .int md_unaries, .int md_opens, .ref a_md_pile, .int md_piled, .int md_loop, .ref a_md_begins, .ref a_md_goals, .ref a_md_ranks, .ref a_md_choiceCounts, .ref a_md_whens, .ref a_md_becomes, .ref a_md_guessCounts, .ref a_md_guesses, .ref a_md_unaryCounts, .ref a_md_stack, .ref a_md_nexts, .ref a_md_isBegin, .ref a_md_isGoal, .ref a_md_levels, .ref a_md_queue, .ref a_md_hasGuesses, .int md_keptBits, .ref a_md_rounds, .ref a_md_marked, .ref a_md_other, .ref a_md_heights])), (a_md_nexts, .inl (cI, 24576, .inl md_nexts)), (a_md_isGoal, .inl (cZ, 4096, .inl md_isGoal)), (a_md_levels, .inl (cI, 4096, .inl md_levels)), (a_md_marked, .inl (cZ, 4096, .inl (upd md_marked_9 (x2_8 : Int32).toNatClampNeg (vp_nar .boolean 0))))] := hD
          refine lv_iinc (v := x2_8 + 1) (lv' := [(2, .int (x2_8 + 1)), (0, .ref a_md), (1, .int x1_7)]) hx hb d_Md_markRuns_103 hl (k := 2) rfl rfl (by decide) rfl (fun ls hl => ?_)
          refine lv_goto (tgt := 62) hx hb d_Md_markRuns_106 (by decide) ?_
          exact il _ _ h _ _ hP hD hS _ (lv_sub hl [1, 2, 0] rfl)
        · have h := And.right h c_75
          refine lv_aload_n hx hb d_Md_markRuns_78 rfl (lv_at hl 0 rfl) ?_
          refine va_get (D := (dC, dI)) (ci := 11) (v := .ref a_md_levels) (C := "LoopInductionModel") (T := F_Md) (N := 40) hx hb hts iC_Md hown hK hP 0 rfl rfl 32 (by decide) fl_73 (fun _ h9 => h9) rfl d_Md_markRuns_79 ?_
          refine lv_iload_n hx hb d_Md_markRuns_82 rfl (lv_at hl 2 rfl) ?_
          obtain ⟨hin_83, h⟩ := h
          refine va_iald hx hb hK hP 3 0 rfl rfl hin_83 d_Md_markRuns_83 ?_
          refine lv_iload_n hx hb d_Md_markRuns_84 rfl (lv_at hl 1 rfl) ?_
          refine lv_icmp_ne (tgt := 101) hx hb d_Md_markRuns_85 (by decide) (fun c_85 => ?_) (fun c_85 => ?_)
          · have h := And.left h c_85
            refine lv_iconst (v := 0) hx hb d_Md_markRuns_101 (by decide) ?_
            obtain ⟨hin_102, h⟩ := h
            refine va_zast hx hb hK hP hD hS 4 2 rfl rfl hin_102 d_Md_markRuns_102 (fun H locs hP hD hS => ?_)
            have hP : va_P (dC, dI) vwCl [(a_md, .inr (11, [.ref a_md_tape, .int md_size, .int md_at, .int md_token, .int md_tokenPlace, .int md_number, .int md_sign, .int md_bad, .int md_faultPlace, .int md_place, .ref a_md_acts, .ref a_md_actNumbers, .ref a_md_actCounts, .int md_bank, .int md_unaries, .int md_opens, .ref a_md_pile, .int md_piled, .int md_loop, .ref a_md_begins, .ref a_md_goals, .ref a_md_ranks, .ref a_md_choiceCounts, .ref a_md_whens, .ref a_md_becomes, .ref a_md_guessCounts, .ref a_md_guesses, .ref a_md_unaryCounts, .ref a_md_stack, .ref a_md_nexts, .ref a_md_isBegin, .ref a_md_isGoal, .ref a_md_levels, .ref a_md_queue, .ref a_md_hasGuesses, .int md_keptBits, .ref a_md_rounds, .ref a_md_marked, .ref a_md_other, .ref a_md_heights])), (a_md_nexts, .inl (cI, 24576, .inl md_nexts)), (a_md_isGoal, .inl (cZ, 4096, .inl md_isGoal)), (a_md_levels, .inl (cI, 4096, .inl md_levels)), (a_md_marked, .inl (cZ, 4096, .inl (upd md_marked_9 (x2_8 : Int32).toNatClampNeg (vp_nar .boolean 0))))] H := hP
            have hD : va_D A [(a_md, .inr (11, [.ref a_md_tape, .int md_size, .int md_at, .int md_token, .int md_tokenPlace, .int md_number, .int md_sign, .int md_bad, .int md_faultPlace, .int md_place, .ref a_md_acts, .ref a_md_actNumbers, .ref a_md_actCounts, .int md_bank, .int md_unaries, .int md_opens, .ref a_md_pile, .int md_piled, .int md_loop, .ref a_md_begins, .ref a_md_goals, .ref a_md_ranks, .ref a_md_choiceCounts, .ref a_md_whens, .ref a_md_becomes, .ref a_md_guessCounts, .ref a_md_guesses, .ref a_md_unaryCounts, .ref a_md_stack, .ref a_md_nexts, .ref a_md_isBegin, .ref a_md_isGoal, .ref a_md_levels, .ref a_md_queue, .ref a_md_hasGuesses, .int md_keptBits, .ref a_md_rounds, .ref a_md_marked, .ref a_md_other, .ref a_md_heights])), (a_md_nexts, .inl (cI, 24576, .inl md_nexts)), (a_md_isGoal, .inl (cZ, 4096, .inl md_isGoal)), (a_md_levels, .inl (cI, 4096, .inl md_levels)), (a_md_marked, .inl (cZ, 4096, .inl (upd md_marked_9 (x2_8 : Int32).toNatClampNeg (vp_nar .boolean 0))))] := hD
            refine lv_iinc (v := x2_8 + 1) (lv' := [(2, .int (x2_8 + 1)), (0, .ref a_md), (1, .int x1_7)]) hx hb d_Md_markRuns_103 hl (k := 2) rfl rfl (by decide) rfl (fun ls hl => ?_)
            refine lv_goto (tgt := 62) hx hb d_Md_markRuns_106 (by decide) ?_
            exact il _ _ h _ _ hP hD hS _ (lv_sub hl [1, 2, 0] rfl)
          · have h := And.right h c_85
            refine lv_aload_n hx hb d_Md_markRuns_88 rfl (lv_at hl 0 rfl) ?_
            refine va_get (D := (dC, dI)) (ci := 11) (v := .ref a_md_isGoal) (C := "LoopInductionModel") (T := F_Md) (N := 40) hx hb hts iC_Md hown hK hP 0 rfl rfl 31 (by decide) fl_70 (fun _ h9 => h9) rfl d_Md_markRuns_89 ?_
            refine lv_iload_n hx hb d_Md_markRuns_92 rfl (lv_at hl 2 rfl) ?_
            obtain ⟨hin_93, h⟩ := h
            refine va_zald hx hb hK hP 2 2 rfl rfl hin_93 d_Md_markRuns_93 ?_
            refine lv_if_ne (tgt := 101) hx hb d_Md_markRuns_94 (by decide) (fun c_94 => ?_) (fun c_94 => ?_)
            · have h := And.left h c_94
              refine lv_iconst (v := 0) hx hb d_Md_markRuns_101 (by decide) ?_
              obtain ⟨hin_102, h⟩ := h
              refine va_zast hx hb hK hP hD hS 4 2 rfl rfl hin_102 d_Md_markRuns_102 (fun H locs hP hD hS => ?_)
              have hP : va_P (dC, dI) vwCl [(a_md, .inr (11, [.ref a_md_tape, .int md_size, .int md_at, .int md_token, .int md_tokenPlace, .int md_number, .int md_sign, .int md_bad, .int md_faultPlace, .int md_place, .ref a_md_acts, .ref a_md_actNumbers, .ref a_md_actCounts, .int md_bank, .int md_unaries, .int md_opens, .ref a_md_pile, .int md_piled, .int md_loop, .ref a_md_begins, .ref a_md_goals, .ref a_md_ranks, .ref a_md_choiceCounts, .ref a_md_whens, .ref a_md_becomes, .ref a_md_guessCounts, .ref a_md_guesses, .ref a_md_unaryCounts, .ref a_md_stack, .ref a_md_nexts, .ref a_md_isBegin, .ref a_md_isGoal, .ref a_md_levels, .ref a_md_queue, .ref a_md_hasGuesses, .int md_keptBits, .ref a_md_rounds, .ref a_md_marked, .ref a_md_other, .ref a_md_heights])), (a_md_nexts, .inl (cI, 24576, .inl md_nexts)), (a_md_isGoal, .inl (cZ, 4096, .inl md_isGoal)), (a_md_levels, .inl (cI, 4096, .inl md_levels)), (a_md_marked, .inl (cZ, 4096, .inl (upd md_marked_9 (x2_8 : Int32).toNatClampNeg (vp_nar .boolean 0))))] H := hP
              have hD : va_D A [(a_md, .inr (11, [.ref a_md_tape, .int md_size, .int md_at, .int md_token, .int md_tokenPlace, .int md_number, .int md_sign, .int md_bad, .int md_faultPlace, .int md_place, .ref a_md_acts, .ref a_md_actNumbers, .ref a_md_actCounts, .int md_bank, .int md_unaries, .int md_opens, .ref a_md_pile, .int md_piled, .int md_loop, .ref a_md_begins, .ref a_md_goals, .ref a_md_ranks, .ref a_md_choiceCounts, .ref a_md_whens, .ref a_md_becomes, .ref a_md_guessCounts, .ref a_md_guesses, .ref a_md_unaryCounts, .ref a_md_stack, .ref a_md_nexts, .ref a_md_isBegin, .ref a_md_isGoal, .ref a_md_levels, .ref a_md_queue, .ref a_md_hasGuesses, .int md_keptBits, .ref a_md_rounds, .ref a_md_marked, .ref a_md_other, .ref a_md_heights])), (a_md_nexts, .inl (cI, 24576, .inl md_nexts)), (a_md_isGoal, .inl (cZ, 4096, .inl md_isGoal)), (a_md_levels, .inl (cI, 4096, .inl md_levels)), (a_md_marked, .inl (cZ, 4096, .inl (upd md_marked_9 (x2_8 : Int32).toNatClampNeg (vp_nar .boolean 0))))] := hD
              refine lv_iinc (v := x2_8 + 1) (lv' := [(2, .int (x2_8 + 1)), (0, .ref a_md), (1, .int x1_7)]) hx hb d_Md_markRuns_103 hl (k := 2) rfl rfl (by decide) rfl (fun ls hl => ?_)
              refine lv_goto (tgt := 62) hx hb d_Md_markRuns_106 (by decide) ?_
              exact il _ _ h _ _ hP hD hS _ (lv_sub hl [1, 2, 0] rfl)
            · have h := And.right h c_94
              refine lv_iconst (v := 1) hx hb d_Md_markRuns_97 (by decide) ?_
              refine lv_goto (tgt := 102) hx hb d_Md_markRuns_98 (by decide) ?_
              obtain ⟨hin_102, h⟩ := h
              refine va_zast hx hb hK hP hD hS 4 2 rfl rfl hin_102 d_Md_markRuns_102 (fun H locs hP hD hS => ?_)
              have hP : va_P (dC, dI) vwCl [(a_md, .inr (11, [.ref a_md_tape, .int md_size, .int md_at, .int md_token, .int md_tokenPlace, .int md_number, .int md_sign, .int md_bad, .int md_faultPlace, .int md_place, .ref a_md_acts, .ref a_md_actNumbers, .ref a_md_actCounts, .int md_bank, .int md_unaries, .int md_opens, .ref a_md_pile, .int md_piled, .int md_loop, .ref a_md_begins, .ref a_md_goals, .ref a_md_ranks, .ref a_md_choiceCounts, .ref a_md_whens, .ref a_md_becomes, .ref a_md_guessCounts, .ref a_md_guesses, .ref a_md_unaryCounts, .ref a_md_stack, .ref a_md_nexts, .ref a_md_isBegin, .ref a_md_isGoal, .ref a_md_levels, .ref a_md_queue, .ref a_md_hasGuesses, .int md_keptBits, .ref a_md_rounds, .ref a_md_marked, .ref a_md_other, .ref a_md_heights])), (a_md_nexts, .inl (cI, 24576, .inl md_nexts)), (a_md_isGoal, .inl (cZ, 4096, .inl md_isGoal)), (a_md_levels, .inl (cI, 4096, .inl md_levels)), (a_md_marked, .inl (cZ, 4096, .inl (upd md_marked_9 (x2_8 : Int32).toNatClampNeg (vp_nar .boolean 1))))] H := hP
              have hD : va_D A [(a_md, .inr (11, [.ref a_md_tape, .int md_size, .int md_at, .int md_token, .int md_tokenPlace, .int md_number, .int md_sign, .int md_bad, .int md_faultPlace, .int md_place, .ref a_md_acts, .ref a_md_actNumbers, .ref a_md_actCounts, .int md_bank, .int md_unaries, .int md_opens, .ref a_md_pile, .int md_piled, .int md_loop, .ref a_md_begins, .ref a_md_goals, .ref a_md_ranks, .ref a_md_choiceCounts, .ref a_md_whens, .ref a_md_becomes, .ref a_md_guessCounts, .ref a_md_guesses, .ref a_md_unaryCounts, .ref a_md_stack, .ref a_md_nexts, .ref a_md_isBegin, .ref a_md_isGoal, .ref a_md_levels, .ref a_md_queue, .ref a_md_hasGuesses, .int md_keptBits, .ref a_md_rounds, .ref a_md_marked, .ref a_md_other, .ref a_md_heights])), (a_md_nexts, .inl (cI, 24576, .inl md_nexts)), (a_md_isGoal, .inl (cZ, 4096, .inl md_isGoal)), (a_md_levels, .inl (cI, 4096, .inl md_levels)), (a_md_marked, .inl (cZ, 4096, .inl (upd md_marked_9 (x2_8 : Int32).toNatClampNeg (vp_nar .boolean 1))))] := hD
              refine lv_iinc (v := x2_8 + 1) (lv' := [(2, .int (x2_8 + 1)), (0, .ref a_md), (1, .int x1_7)]) hx hb d_Md_markRuns_103 hl (k := 2) rfl rfl (by decide) rfl (fun ls hl => ?_)
              refine lv_goto (tgt := 62) hx hb d_Md_markRuns_106 (by decide) ?_
              exact il _ _ h _ _ hP hD hS _ (lv_sub hl [1, 2, 0] rfl)
  obtain ⟨n_, h⟩ := h
  refine L62_q_10 _ ?_ n_ _ _ h _ _ hP hD hS _ (lv_sub hl [1, 2, 0] rfl)
  intro md_marked_12 h H locs hP hD hS ls hl
  refine lv_iload_n hx hb d_Md_markRuns_109 rfl (lv_at hl 1 rfl) ?_
  refine lv_iconst (v := 1) hx hb d_Md_markRuns_110 (by decide) ?_
  refine lv_isub hx hb d_Md_markRuns_111 ?_
  refine lv_topi (fun x2_13 ex2_13 => ?_)
  have h := h x2_13 ex2_13
  refine lv_istore_n (lv' := [(2, .int x2_13), (0, .ref a_md), (1, .int x1_7)]) hx hb d_Md_markRuns_112 rfl hl (by decide) rfl (fun ls hl => ?_)
  have L113_q_16 : ∀ (k226 : (Nat → Int32) → Prop) (hk226 : ∀ (md_marked_17 : Nat → Int32), k226 md_marked_17 → ∀ (H : Heap) (locs : List Loc), va_P (dC, dI) vwCl [(a_md, .inr (11, [.ref a_md_tape, .int md_size, .int md_at, .int md_token, .int md_tokenPlace, .int md_number, .int md_sign, .int md_bad, .int md_faultPlace, .int md_place, .ref a_md_acts, .ref a_md_actNumbers, .ref a_md_actCounts, .int md_bank, .int md_unaries, .int md_opens, .ref a_md_pile, .int md_piled, .int md_loop, .ref a_md_begins, .ref a_md_goals, .ref a_md_ranks, .ref a_md_choiceCounts, .ref a_md_whens, .ref a_md_becomes, .ref a_md_guessCounts, .ref a_md_guesses, .ref a_md_unaryCounts, .ref a_md_stack, .ref a_md_nexts, .ref a_md_isBegin, .ref a_md_isGoal, .ref a_md_levels, .ref a_md_queue, .ref a_md_hasGuesses, .int md_keptBits, .ref a_md_rounds, .ref a_md_marked, .ref a_md_other, .ref a_md_heights])), (a_md_nexts, .inl (cI, 24576, .inl md_nexts)), (a_md_isGoal, .inl (cZ, 4096, .inl md_isGoal)), (a_md_levels, .inl (cI, 4096, .inl md_levels)), (a_md_marked, .inl (cZ, 4096, .inl md_marked_17))] H → va_D A [(a_md, .inr (11, [.ref a_md_tape, .int md_size, .int md_at, .int md_token, .int md_tokenPlace, .int md_number, .int md_sign, .int md_bad, .int md_faultPlace, .int md_place, .ref a_md_acts, .ref a_md_actNumbers, .ref a_md_actCounts, .int md_bank, .int md_unaries, .int md_opens, .ref a_md_pile, .int md_piled, .int md_loop, .ref a_md_begins, .ref a_md_goals, .ref a_md_ranks, .ref a_md_choiceCounts, .ref a_md_whens, .ref a_md_becomes, .ref a_md_guessCounts, .ref a_md_guesses, .ref a_md_unaryCounts, .ref a_md_stack, .ref a_md_nexts, .ref a_md_isBegin, .ref a_md_isGoal, .ref a_md_levels, .ref a_md_queue, .ref a_md_hasGuesses, .int md_keptBits, .ref a_md_rounds, .ref a_md_marked, .ref a_md_other, .ref a_md_heights])), (a_md_nexts, .inl (cI, 24576, .inl md_nexts)), (a_md_isGoal, .inl (cZ, 4096, .inl md_isGoal)), (a_md_levels, .inl (cI, 4096, .inl md_levels)), (a_md_marked, .inl (cZ, 4096, .inl md_marked_17))] → va_S A s.heap H locs → ∀ ls : Array Slot, lv_has ls 6 [(1, .int x1_7)] → W p l e (headSpec w_Md_markRuns ({ frames := 0, cells := 0, slots := 0, locals := 0 })).room s m (([.ref a_md] : List Value).toArray) below meth c H locs 0 0 QQ (F0 m 226 ls [])) (n : Nat) (x2_14 : Int32) (md_marked_15 : Nat → Int32), wp_Md_markRuns_L113 x1_7 md_nexts md_levels k226 n x2_14 md_marked_15 → ∀ (H : Heap) (locs : List Loc), va_P (dC, dI) vwCl [(a_md, .inr (11, [.ref a_md_tape, .int md_size, .int md_at, .int md_token, .int md_tokenPlace, .int md_number, .int md_sign, .int md_bad, .int md_faultPlace, .int md_place, .ref a_md_acts, .ref a_md_actNumbers, .ref a_md_actCounts, .int md_bank, .int md_unaries, .int md_opens, .ref a_md_pile, .int md_piled, .int md_loop, .ref a_md_begins, .ref a_md_goals, .ref a_md_ranks, .ref a_md_choiceCounts, .ref a_md_whens, .ref a_md_becomes, .ref a_md_guessCounts, .ref a_md_guesses, .ref a_md_unaryCounts, .ref a_md_stack, .ref a_md_nexts, .ref a_md_isBegin, .ref a_md_isGoal, .ref a_md_levels, .ref a_md_queue, .ref a_md_hasGuesses, .int md_keptBits, .ref a_md_rounds, .ref a_md_marked, .ref a_md_other, .ref a_md_heights])), (a_md_nexts, .inl (cI, 24576, .inl md_nexts)), (a_md_isGoal, .inl (cZ, 4096, .inl md_isGoal)), (a_md_levels, .inl (cI, 4096, .inl md_levels)), (a_md_marked, .inl (cZ, 4096, .inl md_marked_15))] H → va_D A [(a_md, .inr (11, [.ref a_md_tape, .int md_size, .int md_at, .int md_token, .int md_tokenPlace, .int md_number, .int md_sign, .int md_bad, .int md_faultPlace, .int md_place, .ref a_md_acts, .ref a_md_actNumbers, .ref a_md_actCounts, .int md_bank, .int md_unaries, .int md_opens, .ref a_md_pile, .int md_piled, .int md_loop, .ref a_md_begins, .ref a_md_goals, .ref a_md_ranks, .ref a_md_choiceCounts, .ref a_md_whens, .ref a_md_becomes, .ref a_md_guessCounts, .ref a_md_guesses, .ref a_md_unaryCounts, .ref a_md_stack, .ref a_md_nexts, .ref a_md_isBegin, .ref a_md_isGoal, .ref a_md_levels, .ref a_md_queue, .ref a_md_hasGuesses, .int md_keptBits, .ref a_md_rounds, .ref a_md_marked, .ref a_md_other, .ref a_md_heights])), (a_md_nexts, .inl (cI, 24576, .inl md_nexts)), (a_md_isGoal, .inl (cZ, 4096, .inl md_isGoal)), (a_md_levels, .inl (cI, 4096, .inl md_levels)), (a_md_marked, .inl (cZ, 4096, .inl md_marked_15))] → va_S A s.heap H locs → ∀ ls : Array Slot, lv_has ls 6 [(0, .ref a_md), (1, .int x1_7), (2, .int x2_14)] → W p l e (headSpec w_Md_markRuns ({ frames := 0, cells := 0, slots := 0, locals := 0 })).room s m (([.ref a_md] : List Value).toArray) below meth c H locs 0 0 QQ (F0 m 113 ls []) := by
    intro k226 hk226 n
    induction n with
    | zero => intro x2_14 md_marked_15 h; exact (show False from h).elim
    | succ n il =>
      intro x2_14 md_marked_15 h H locs hP hD hS ls hl
      refine lv_iload_n hx hb d_Md_markRuns_113 rfl (lv_at hl 2 rfl) ?_
      refine lv_if_lt (tgt := 226) hx hb d_Md_markRuns_114 (by decide) (fun c_114 => ?_) (fun c_114 => ?_)
      · have h := And.left h c_114
        exact hk226 _ h _ _ hP hD hS _ (lv_sub hl [1] rfl)
      · have h := And.right h c_114
        refine lv_iconst (v := 0) hx hb d_Md_markRuns_117 (by decide) ?_
        refine lv_istore_n (lv' := [(3, .int 0), (0, .ref a_md), (1, .int x1_7), (2, .int x2_14)]) hx hb d_Md_markRuns_118 rfl hl (by decide) rfl (fun ls hl => ?_)
        have L119_q_20 : ∀ (k220 : (Nat → Int32) → Prop) (hk220 : ∀ (md_marked_21 : Nat → Int32), k220 md_marked_21 → ∀ (H : Heap) (locs : List Loc), va_P (dC, dI) vwCl [(a_md, .inr (11, [.ref a_md_tape, .int md_size, .int md_at, .int md_token, .int md_tokenPlace, .int md_number, .int md_sign, .int md_bad, .int md_faultPlace, .int md_place, .ref a_md_acts, .ref a_md_actNumbers, .ref a_md_actCounts, .int md_bank, .int md_unaries, .int md_opens, .ref a_md_pile, .int md_piled, .int md_loop, .ref a_md_begins, .ref a_md_goals, .ref a_md_ranks, .ref a_md_choiceCounts, .ref a_md_whens, .ref a_md_becomes, .ref a_md_guessCounts, .ref a_md_guesses, .ref a_md_unaryCounts, .ref a_md_stack, .ref a_md_nexts, .ref a_md_isBegin, .ref a_md_isGoal, .ref a_md_levels, .ref a_md_queue, .ref a_md_hasGuesses, .int md_keptBits, .ref a_md_rounds, .ref a_md_marked, .ref a_md_other, .ref a_md_heights])), (a_md_nexts, .inl (cI, 24576, .inl md_nexts)), (a_md_isGoal, .inl (cZ, 4096, .inl md_isGoal)), (a_md_levels, .inl (cI, 4096, .inl md_levels)), (a_md_marked, .inl (cZ, 4096, .inl md_marked_21))] H → va_D A [(a_md, .inr (11, [.ref a_md_tape, .int md_size, .int md_at, .int md_token, .int md_tokenPlace, .int md_number, .int md_sign, .int md_bad, .int md_faultPlace, .int md_place, .ref a_md_acts, .ref a_md_actNumbers, .ref a_md_actCounts, .int md_bank, .int md_unaries, .int md_opens, .ref a_md_pile, .int md_piled, .int md_loop, .ref a_md_begins, .ref a_md_goals, .ref a_md_ranks, .ref a_md_choiceCounts, .ref a_md_whens, .ref a_md_becomes, .ref a_md_guessCounts, .ref a_md_guesses, .ref a_md_unaryCounts, .ref a_md_stack, .ref a_md_nexts, .ref a_md_isBegin, .ref a_md_isGoal, .ref a_md_levels, .ref a_md_queue, .ref a_md_hasGuesses, .int md_keptBits, .ref a_md_rounds, .ref a_md_marked, .ref a_md_other, .ref a_md_heights])), (a_md_nexts, .inl (cI, 24576, .inl md_nexts)), (a_md_isGoal, .inl (cZ, 4096, .inl md_isGoal)), (a_md_levels, .inl (cI, 4096, .inl md_levels)), (a_md_marked, .inl (cZ, 4096, .inl md_marked_21))] → va_S A s.heap H locs → ∀ ls : Array Slot, lv_has ls 6 [(0, .ref a_md), (1, .int x1_7), (2, .int x2_14)] → W p l e (headSpec w_Md_markRuns ({ frames := 0, cells := 0, slots := 0, locals := 0 })).room s m (([.ref a_md] : List Value).toArray) below meth c H locs 0 0 QQ (F0 m 220 ls [])) (n : Nat) (x3_18 : Int32) (md_marked_19 : Nat → Int32), wp_Md_markRuns_L119 x1_7 x2_14 md_nexts md_levels k220 n x3_18 md_marked_19 → ∀ (H : Heap) (locs : List Loc), va_P (dC, dI) vwCl [(a_md, .inr (11, [.ref a_md_tape, .int md_size, .int md_at, .int md_token, .int md_tokenPlace, .int md_number, .int md_sign, .int md_bad, .int md_faultPlace, .int md_place, .ref a_md_acts, .ref a_md_actNumbers, .ref a_md_actCounts, .int md_bank, .int md_unaries, .int md_opens, .ref a_md_pile, .int md_piled, .int md_loop, .ref a_md_begins, .ref a_md_goals, .ref a_md_ranks, .ref a_md_choiceCounts, .ref a_md_whens, .ref a_md_becomes, .ref a_md_guessCounts, .ref a_md_guesses, .ref a_md_unaryCounts, .ref a_md_stack, .ref a_md_nexts, .ref a_md_isBegin, .ref a_md_isGoal, .ref a_md_levels, .ref a_md_queue, .ref a_md_hasGuesses, .int md_keptBits, .ref a_md_rounds, .ref a_md_marked, .ref a_md_other, .ref a_md_heights])), (a_md_nexts, .inl (cI, 24576, .inl md_nexts)), (a_md_isGoal, .inl (cZ, 4096, .inl md_isGoal)), (a_md_levels, .inl (cI, 4096, .inl md_levels)), (a_md_marked, .inl (cZ, 4096, .inl md_marked_19))] H → va_D A [(a_md, .inr (11, [.ref a_md_tape, .int md_size, .int md_at, .int md_token, .int md_tokenPlace, .int md_number, .int md_sign, .int md_bad, .int md_faultPlace, .int md_place, .ref a_md_acts, .ref a_md_actNumbers, .ref a_md_actCounts, .int md_bank, .int md_unaries, .int md_opens, .ref a_md_pile, .int md_piled, .int md_loop, .ref a_md_begins, .ref a_md_goals, .ref a_md_ranks, .ref a_md_choiceCounts, .ref a_md_whens, .ref a_md_becomes, .ref a_md_guessCounts, .ref a_md_guesses, .ref a_md_unaryCounts, .ref a_md_stack, .ref a_md_nexts, .ref a_md_isBegin, .ref a_md_isGoal, .ref a_md_levels, .ref a_md_queue, .ref a_md_hasGuesses, .int md_keptBits, .ref a_md_rounds, .ref a_md_marked, .ref a_md_other, .ref a_md_heights])), (a_md_nexts, .inl (cI, 24576, .inl md_nexts)), (a_md_isGoal, .inl (cZ, 4096, .inl md_isGoal)), (a_md_levels, .inl (cI, 4096, .inl md_levels)), (a_md_marked, .inl (cZ, 4096, .inl md_marked_19))] → va_S A s.heap H locs → ∀ ls : Array Slot, lv_has ls 6 [(0, .ref a_md), (1, .int x1_7), (2, .int x2_14), (3, .int x3_18)] → W p l e (headSpec w_Md_markRuns ({ frames := 0, cells := 0, slots := 0, locals := 0 })).room s m (([.ref a_md] : List Value).toArray) below meth c H locs 0 0 QQ (F0 m 119 ls []) := by
          intro k220 hk220 n
          induction n with
          | zero => intro x3_18 md_marked_19 h; exact (show False from h).elim
          | succ n il =>
            intro x3_18 md_marked_19 h H locs hP hD hS ls hl
            refine lv_iload_n hx hb d_Md_markRuns_119 rfl (lv_at hl 3 rfl) ?_
            refine lv_sipush (v := 4096) hx hb d_Md_markRuns_120 (by decide) ?_
            refine lv_icmp_ge (tgt := 220) hx hb d_Md_markRuns_123 (by decide) (fun c_123 => ?_) (fun c_123 => ?_)
            · have h := And.left h c_123
              exact hk220 _ h _ _ hP hD hS _ (lv_sub hl [0, 1, 2] rfl)
            · have h := And.right h c_123
              refine lv_iconst (v := 0) hx hb d_Md_markRuns_126 (by decide) ?_
              refine lv_istore (lv' := [(4, .int 0), (0, .ref a_md), (1, .int x1_7), (2, .int x2_14), (3, .int x3_18)]) hx hb d_Md_markRuns_127 hl (by decide) rfl (fun ls hl => ?_)
              have L129_q_24 : ∀ (k214 : (Nat → Int32) → Prop) (hk214 : ∀ (md_marked_25 : Nat → Int32), k214 md_marked_25 → ∀ (H : Heap) (locs : List Loc), va_P (dC, dI) vwCl [(a_md, .inr (11, [.ref a_md_tape, .int md_size, .int md_at, .int md_token, .int md_tokenPlace, .int md_number, .int md_sign, .int md_bad, .int md_faultPlace, .int md_place, .ref a_md_acts, .ref a_md_actNumbers, .ref a_md_actCounts, .int md_bank, .int md_unaries, .int md_opens, .ref a_md_pile, .int md_piled, .int md_loop, .ref a_md_begins, .ref a_md_goals, .ref a_md_ranks, .ref a_md_choiceCounts, .ref a_md_whens, .ref a_md_becomes, .ref a_md_guessCounts, .ref a_md_guesses, .ref a_md_unaryCounts, .ref a_md_stack, .ref a_md_nexts, .ref a_md_isBegin, .ref a_md_isGoal, .ref a_md_levels, .ref a_md_queue, .ref a_md_hasGuesses, .int md_keptBits, .ref a_md_rounds, .ref a_md_marked, .ref a_md_other, .ref a_md_heights])), (a_md_nexts, .inl (cI, 24576, .inl md_nexts)), (a_md_isGoal, .inl (cZ, 4096, .inl md_isGoal)), (a_md_levels, .inl (cI, 4096, .inl md_levels)), (a_md_marked, .inl (cZ, 4096, .inl md_marked_25))] H → va_D A [(a_md, .inr (11, [.ref a_md_tape, .int md_size, .int md_at, .int md_token, .int md_tokenPlace, .int md_number, .int md_sign, .int md_bad, .int md_faultPlace, .int md_place, .ref a_md_acts, .ref a_md_actNumbers, .ref a_md_actCounts, .int md_bank, .int md_unaries, .int md_opens, .ref a_md_pile, .int md_piled, .int md_loop, .ref a_md_begins, .ref a_md_goals, .ref a_md_ranks, .ref a_md_choiceCounts, .ref a_md_whens, .ref a_md_becomes, .ref a_md_guessCounts, .ref a_md_guesses, .ref a_md_unaryCounts, .ref a_md_stack, .ref a_md_nexts, .ref a_md_isBegin, .ref a_md_isGoal, .ref a_md_levels, .ref a_md_queue, .ref a_md_hasGuesses, .int md_keptBits, .ref a_md_rounds, .ref a_md_marked, .ref a_md_other, .ref a_md_heights])), (a_md_nexts, .inl (cI, 24576, .inl md_nexts)), (a_md_isGoal, .inl (cZ, 4096, .inl md_isGoal)), (a_md_levels, .inl (cI, 4096, .inl md_levels)), (a_md_marked, .inl (cZ, 4096, .inl md_marked_25))] → va_S A s.heap H locs → ∀ ls : Array Slot, lv_has ls 6 [(0, .ref a_md), (1, .int x1_7), (2, .int x2_14), (3, .int x3_18)] → W p l e (headSpec w_Md_markRuns ({ frames := 0, cells := 0, slots := 0, locals := 0 })).room s m (([.ref a_md] : List Value).toArray) below meth c H locs 0 0 QQ (F0 m 214 ls [])) (n : Nat) (x4_22 : Int32) (md_marked_23 : Nat → Int32), wp_Md_markRuns_L129 x1_7 x2_14 x3_18 md_nexts md_levels k214 n x4_22 md_marked_23 → ∀ (H : Heap) (locs : List Loc), va_P (dC, dI) vwCl [(a_md, .inr (11, [.ref a_md_tape, .int md_size, .int md_at, .int md_token, .int md_tokenPlace, .int md_number, .int md_sign, .int md_bad, .int md_faultPlace, .int md_place, .ref a_md_acts, .ref a_md_actNumbers, .ref a_md_actCounts, .int md_bank, .int md_unaries, .int md_opens, .ref a_md_pile, .int md_piled, .int md_loop, .ref a_md_begins, .ref a_md_goals, .ref a_md_ranks, .ref a_md_choiceCounts, .ref a_md_whens, .ref a_md_becomes, .ref a_md_guessCounts, .ref a_md_guesses, .ref a_md_unaryCounts, .ref a_md_stack, .ref a_md_nexts, .ref a_md_isBegin, .ref a_md_isGoal, .ref a_md_levels, .ref a_md_queue, .ref a_md_hasGuesses, .int md_keptBits, .ref a_md_rounds, .ref a_md_marked, .ref a_md_other, .ref a_md_heights])), (a_md_nexts, .inl (cI, 24576, .inl md_nexts)), (a_md_isGoal, .inl (cZ, 4096, .inl md_isGoal)), (a_md_levels, .inl (cI, 4096, .inl md_levels)), (a_md_marked, .inl (cZ, 4096, .inl md_marked_23))] H → va_D A [(a_md, .inr (11, [.ref a_md_tape, .int md_size, .int md_at, .int md_token, .int md_tokenPlace, .int md_number, .int md_sign, .int md_bad, .int md_faultPlace, .int md_place, .ref a_md_acts, .ref a_md_actNumbers, .ref a_md_actCounts, .int md_bank, .int md_unaries, .int md_opens, .ref a_md_pile, .int md_piled, .int md_loop, .ref a_md_begins, .ref a_md_goals, .ref a_md_ranks, .ref a_md_choiceCounts, .ref a_md_whens, .ref a_md_becomes, .ref a_md_guessCounts, .ref a_md_guesses, .ref a_md_unaryCounts, .ref a_md_stack, .ref a_md_nexts, .ref a_md_isBegin, .ref a_md_isGoal, .ref a_md_levels, .ref a_md_queue, .ref a_md_hasGuesses, .int md_keptBits, .ref a_md_rounds, .ref a_md_marked, .ref a_md_other, .ref a_md_heights])), (a_md_nexts, .inl (cI, 24576, .inl md_nexts)), (a_md_isGoal, .inl (cZ, 4096, .inl md_isGoal)), (a_md_levels, .inl (cI, 4096, .inl md_levels)), (a_md_marked, .inl (cZ, 4096, .inl md_marked_23))] → va_S A s.heap H locs → ∀ ls : Array Slot, lv_has ls 6 [(0, .ref a_md), (1, .int x1_7), (2, .int x2_14), (3, .int x3_18), (4, .int x4_22)] → W p l e (headSpec w_Md_markRuns ({ frames := 0, cells := 0, slots := 0, locals := 0 })).room s m (([.ref a_md] : List Value).toArray) below meth c H locs 0 0 QQ (F0 m 129 ls []) := by
                intro k214 hk214 n
                induction n with
                | zero => intro x4_22 md_marked_23 h; exact (show False from h).elim
                | succ n il =>
                  intro x4_22 md_marked_23 h H locs hP hD hS ls hl
                  refine lv_iload hx hb d_Md_markRuns_129 (lv_at hl 4 rfl) ?_
                  refine lv_bipush (v := 6) hx hb d_Md_markRuns_131 (by decide) ?_
                  refine lv_icmp_ge (tgt := 214) hx hb d_Md_markRuns_133 (by decide) (fun c_133 => ?_) (fun c_133 => ?_)
                  · have h := And.left h c_133
                    exact hk214 _ h _ _ hP hD hS _ (lv_sub hl [0, 1, 2, 3] rfl)
                  · have h := And.right h c_133
                    refine lv_aload_n hx hb d_Md_markRuns_136 rfl (lv_at hl 0 rfl) ?_
                    refine va_get (D := (dC, dI)) (ci := 11) (v := .ref a_md_levels) (C := "LoopInductionModel") (T := F_Md) (N := 40) hx hb hts iC_Md hown hK hP 0 rfl rfl 32 (by decide) fl_73 (fun _ h9 => h9) rfl d_Md_markRuns_137 ?_
                    refine lv_iload_n hx hb d_Md_markRuns_140 rfl (lv_at hl 3 rfl) ?_
                    obtain ⟨hin_141, h⟩ := h
                    refine va_iald hx hb hK hP 3 0 rfl rfl hin_141 d_Md_markRuns_141 ?_
                    refine lv_iload_n hx hb d_Md_markRuns_142 rfl (lv_at hl 2 rfl) ?_
                    refine lv_icmp_ne (tgt := 214) hx hb d_Md_markRuns_143 (by decide) (fun c_143 => ?_) (fun c_143 => ?_)
                    · have h := And.left h c_143
                      exact hk214 _ h _ _ hP hD hS _ (lv_sub hl [0, 1, 2, 3] rfl)
                    · have h := And.right h c_143
                      refine lv_aload_n hx hb d_Md_markRuns_146 rfl (lv_at hl 0 rfl) ?_
                      refine va_get (D := (dC, dI)) (ci := 11) (v := .ref a_md_nexts) (C := "LoopInductionModel") (T := F_Md) (N := 40) hx hb hts iC_Md hown hK hP 0 rfl rfl 29 (by decide) fl_63 (fun _ h9 => h9) rfl d_Md_markRuns_147 ?_
                      refine lv_bipush (v := 6) hx hb d_Md_markRuns_150 (by decide) ?_
                      refine lv_iload_n hx hb d_Md_markRuns_152 rfl (lv_at hl 3 rfl) ?_
                      refine lv_imul hx hb d_Md_markRuns_153 ?_
                      refine lv_iload hx hb d_Md_markRuns_154 (lv_at hl 4 rfl) ?_
                      refine lv_iadd hx hb d_Md_markRuns_156 ?_
                      obtain ⟨hin_157, h⟩ := h
                      refine va_iald hx hb hK hP 1 0 rfl rfl hin_157 d_Md_markRuns_157 ?_
                      refine lv_topi (fun x5_26 ex5_26 => ?_)
                      have h := h x5_26 ex5_26
                      refine lv_istore (lv' := [(5, .int x5_26), (0, .ref a_md), (1, .int x1_7), (2, .int x2_14), (3, .int x3_18), (4, .int x4_22)]) hx hb d_Md_markRuns_158 hl (by decide) rfl (fun ls hl => ?_)
                      refine lv_aload_n hx hb d_Md_markRuns_160 rfl (lv_at hl 1 rfl) ?_
                      refine va_get (D := (dC, dI)) (ci := 11) (v := .ref a_md_marked) (C := "LoopInductionModel") (T := F_Md) (N := 40) hx hb hts iC_Md hown hK hP 0 rfl rfl 37 (by decide) fl_85 (fun _ h9 => h9) rfl d_Md_markRuns_161 ?_
                      refine lv_iload_n hx hb d_Md_markRuns_164 rfl (lv_at hl 4 rfl) ?_
                      refine lv_aload_n hx hb d_Md_markRuns_165 rfl (lv_at hl 1 rfl) ?_
                      refine va_get (D := (dC, dI)) (ci := 11) (v := .ref a_md_marked) (C := "LoopInductionModel") (T := F_Md) (N := 40) hx hb hts iC_Md hown hK hP 0 rfl rfl 37 (by decide) fl_85 (fun _ h9 => h9) rfl d_Md_markRuns_166 ?_
                      refine lv_iload_n hx hb d_Md_markRuns_169 rfl (lv_at hl 4 rfl) ?_
                      obtain ⟨hin_170, h⟩ := h
                      refine va_zald hx hb hK hP 4 2 rfl rfl hin_170 d_Md_markRuns_170 ?_
                      refine lv_if_ne (tgt := 202) hx hb d_Md_markRuns_171 (by decide) (fun c_171 => ?_) (fun c_171 => ?_)
                      · have h := And.left h c_171
                        refine lv_iconst (v := 1) hx hb d_Md_markRuns_202 (by decide) ?_
                        refine lv_goto (tgt := 207) hx hb d_Md_markRuns_203 (by decide) ?_
                        obtain ⟨hin_207, h⟩ := h
                        refine va_zast hx hb hK hP hD hS 4 2 rfl rfl hin_207 d_Md_markRuns_207 (fun H locs hP hD hS => ?_)
                        have hP : va_P (dC, dI) vwCl [(a_md, .inr (11, [.ref a_md_tape, .int md_size, .int md_at, .int md_token, .int md_tokenPlace, .int md_number, .int md_sign, .int md_bad, .int md_faultPlace, .int md_place, .ref a_md_acts, .ref a_md_actNumbers, .ref a_md_actCounts, .int md_bank, .int md_unaries, .int md_opens, .ref a_md_pile, .int md_piled, .int md_loop, .ref a_md_begins, .ref a_md_goals, .ref a_md_ranks, .ref a_md_choiceCounts, .ref a_md_whens, .ref a_md_becomes, .ref a_md_guessCounts, .ref a_md_guesses, .ref a_md_unaryCounts, .ref a_md_stack, .ref a_md_nexts, .ref a_md_isBegin, .ref a_md_isGoal, .ref a_md_levels, .ref a_md_queue, .ref a_md_hasGuesses, .int md_keptBits, .ref a_md_rounds, .ref a_md_marked, .ref a_md_other, .ref a_md_heights])), (a_md_nexts, .inl (cI, 24576, .inl md_nexts)), (a_md_isGoal, .inl (cZ, 4096, .inl md_isGoal)), (a_md_levels, .inl (cI, 4096, .inl md_levels)), (a_md_marked, .inl (cZ, 4096, .inl (upd md_marked_23 (x3_18 : Int32).toNatClampNeg (vp_nar .boolean 1))))] H := hP
                        have hD : va_D A [(a_md, .inr (11, [.ref a_md_tape, .int md_size, .int md_at, .int md_token, .int md_tokenPlace, .int md_number, .int md_sign, .int md_bad, .int md_faultPlace, .int md_place, .ref a_md_acts, .ref a_md_actNumbers, .ref a_md_actCounts, .int md_bank, .int md_unaries, .int md_opens, .ref a_md_pile, .int md_piled, .int md_loop, .ref a_md_begins, .ref a_md_goals, .ref a_md_ranks, .ref a_md_choiceCounts, .ref a_md_whens, .ref a_md_becomes, .ref a_md_guessCounts, .ref a_md_guesses, .ref a_md_unaryCounts, .ref a_md_stack, .ref a_md_nexts, .ref a_md_isBegin, .ref a_md_isGoal, .ref a_md_levels, .ref a_md_queue, .ref a_md_hasGuesses, .int md_keptBits, .ref a_md_rounds, .ref a_md_marked, .ref a_md_other, .ref a_md_heights])), (a_md_nexts, .inl (cI, 24576, .inl md_nexts)), (a_md_isGoal, .inl (cZ, 4096, .inl md_isGoal)), (a_md_levels, .inl (cI, 4096, .inl md_levels)), (a_md_marked, .inl (cZ, 4096, .inl (upd md_marked_23 (x3_18 : Int32).toNatClampNeg (vp_nar .boolean 1))))] := hD
                        refine lv_iinc (v := x4_22 + 1) (lv' := [(4, .int (x4_22 + 1)), (5, .int x5_26), (0, .ref a_md), (1, .int x1_7), (2, .int x2_14), (3, .int x3_18)]) hx hb d_Md_markRuns_208 hl (k := 5) rfl rfl (by decide) rfl (fun ls hl => ?_)
                        refine lv_goto (tgt := 129) hx hb d_Md_markRuns_211 (by decide) ?_
                        exact il _ _ h _ _ hP hD hS _ (lv_sub hl [2, 3, 4, 5, 0] rfl)
                      · have h := And.right h c_171
                        refine lv_iload hx hb d_Md_markRuns_174 (lv_at hl 0 rfl) ?_
                        refine lv_if_lt (tgt := 206) hx hb d_Md_markRuns_176 (by decide) (fun c_176 => ?_) (fun c_176 => ?_)
                        · have h := And.left h c_176
                          refine lv_iconst (v := 0) hx hb d_Md_markRuns_206 (by decide) ?_
                          obtain ⟨hin_207, h⟩ := h
                          refine va_zast hx hb hK hP hD hS 4 2 rfl rfl hin_207 d_Md_markRuns_207 (fun H locs hP hD hS => ?_)
                          have hP : va_P (dC, dI) vwCl [(a_md, .inr (11, [.ref a_md_tape, .int md_size, .int md_at, .int md_token, .int md_tokenPlace, .int md_number, .int md_sign, .int md_bad, .int md_faultPlace, .int md_place, .ref a_md_acts, .ref a_md_actNumbers, .ref a_md_actCounts, .int md_bank, .int md_unaries, .int md_opens, .ref a_md_pile, .int md_piled, .int md_loop, .ref a_md_begins, .ref a_md_goals, .ref a_md_ranks, .ref a_md_choiceCounts, .ref a_md_whens, .ref a_md_becomes, .ref a_md_guessCounts, .ref a_md_guesses, .ref a_md_unaryCounts, .ref a_md_stack, .ref a_md_nexts, .ref a_md_isBegin, .ref a_md_isGoal, .ref a_md_levels, .ref a_md_queue, .ref a_md_hasGuesses, .int md_keptBits, .ref a_md_rounds, .ref a_md_marked, .ref a_md_other, .ref a_md_heights])), (a_md_nexts, .inl (cI, 24576, .inl md_nexts)), (a_md_isGoal, .inl (cZ, 4096, .inl md_isGoal)), (a_md_levels, .inl (cI, 4096, .inl md_levels)), (a_md_marked, .inl (cZ, 4096, .inl (upd md_marked_23 (x3_18 : Int32).toNatClampNeg (vp_nar .boolean 0))))] H := hP
                          have hD : va_D A [(a_md, .inr (11, [.ref a_md_tape, .int md_size, .int md_at, .int md_token, .int md_tokenPlace, .int md_number, .int md_sign, .int md_bad, .int md_faultPlace, .int md_place, .ref a_md_acts, .ref a_md_actNumbers, .ref a_md_actCounts, .int md_bank, .int md_unaries, .int md_opens, .ref a_md_pile, .int md_piled, .int md_loop, .ref a_md_begins, .ref a_md_goals, .ref a_md_ranks, .ref a_md_choiceCounts, .ref a_md_whens, .ref a_md_becomes, .ref a_md_guessCounts, .ref a_md_guesses, .ref a_md_unaryCounts, .ref a_md_stack, .ref a_md_nexts, .ref a_md_isBegin, .ref a_md_isGoal, .ref a_md_levels, .ref a_md_queue, .ref a_md_hasGuesses, .int md_keptBits, .ref a_md_rounds, .ref a_md_marked, .ref a_md_other, .ref a_md_heights])), (a_md_nexts, .inl (cI, 24576, .inl md_nexts)), (a_md_isGoal, .inl (cZ, 4096, .inl md_isGoal)), (a_md_levels, .inl (cI, 4096, .inl md_levels)), (a_md_marked, .inl (cZ, 4096, .inl (upd md_marked_23 (x3_18 : Int32).toNatClampNeg (vp_nar .boolean 0))))] := hD
                          refine lv_iinc (v := x4_22 + 1) (lv' := [(4, .int (x4_22 + 1)), (5, .int x5_26), (0, .ref a_md), (1, .int x1_7), (2, .int x2_14), (3, .int x3_18)]) hx hb d_Md_markRuns_208 hl (k := 5) rfl rfl (by decide) rfl (fun ls hl => ?_)
                          refine lv_goto (tgt := 129) hx hb d_Md_markRuns_211 (by decide) ?_
                          exact il _ _ h _ _ hP hD hS _ (lv_sub hl [2, 3, 4, 5, 0] rfl)
                        · have h := And.right h c_176
                          refine lv_aload_n hx hb d_Md_markRuns_179 rfl (lv_at hl 1 rfl) ?_
                          refine va_get (D := (dC, dI)) (ci := 11) (v := .ref a_md_levels) (C := "LoopInductionModel") (T := F_Md) (N := 40) hx hb hts iC_Md hown hK hP 0 rfl rfl 32 (by decide) fl_73 (fun _ h9 => h9) rfl d_Md_markRuns_180 ?_
                          refine lv_iload hx hb d_Md_markRuns_183 (lv_at hl 0 rfl) ?_
                          obtain ⟨hin_185, h⟩ := h
                          refine va_iald hx hb hK hP 3 0 rfl rfl hin_185 d_Md_markRuns_185 ?_
                          refine lv_iload_n hx hb d_Md_markRuns_186 rfl (lv_at hl 3 rfl) ?_
                          refine lv_iconst (v := 1) hx hb d_Md_markRuns_187 (by decide) ?_
                          refine lv_iadd hx hb d_Md_markRuns_188 ?_
                          refine lv_icmp_ne (tgt := 206) hx hb d_Md_markRuns_189 (by decide) (fun c_189 => ?_) (fun c_189 => ?_)
                          · have h := And.left h c_189
                            refine lv_iconst (v := 0) hx hb d_Md_markRuns_206 (by decide) ?_
                            obtain ⟨hin_207, h⟩ := h
                            refine va_zast hx hb hK hP hD hS 4 2 rfl rfl hin_207 d_Md_markRuns_207 (fun H locs hP hD hS => ?_)
                            have hP : va_P (dC, dI) vwCl [(a_md, .inr (11, [.ref a_md_tape, .int md_size, .int md_at, .int md_token, .int md_tokenPlace, .int md_number, .int md_sign, .int md_bad, .int md_faultPlace, .int md_place, .ref a_md_acts, .ref a_md_actNumbers, .ref a_md_actCounts, .int md_bank, .int md_unaries, .int md_opens, .ref a_md_pile, .int md_piled, .int md_loop, .ref a_md_begins, .ref a_md_goals, .ref a_md_ranks, .ref a_md_choiceCounts, .ref a_md_whens, .ref a_md_becomes, .ref a_md_guessCounts, .ref a_md_guesses, .ref a_md_unaryCounts, .ref a_md_stack, .ref a_md_nexts, .ref a_md_isBegin, .ref a_md_isGoal, .ref a_md_levels, .ref a_md_queue, .ref a_md_hasGuesses, .int md_keptBits, .ref a_md_rounds, .ref a_md_marked, .ref a_md_other, .ref a_md_heights])), (a_md_nexts, .inl (cI, 24576, .inl md_nexts)), (a_md_isGoal, .inl (cZ, 4096, .inl md_isGoal)), (a_md_levels, .inl (cI, 4096, .inl md_levels)), (a_md_marked, .inl (cZ, 4096, .inl (upd md_marked_23 (x3_18 : Int32).toNatClampNeg (vp_nar .boolean 0))))] H := hP
                            have hD : va_D A [(a_md, .inr (11, [.ref a_md_tape, .int md_size, .int md_at, .int md_token, .int md_tokenPlace, .int md_number, .int md_sign, .int md_bad, .int md_faultPlace, .int md_place, .ref a_md_acts, .ref a_md_actNumbers, .ref a_md_actCounts, .int md_bank, .int md_unaries, .int md_opens, .ref a_md_pile, .int md_piled, .int md_loop, .ref a_md_begins, .ref a_md_goals, .ref a_md_ranks, .ref a_md_choiceCounts, .ref a_md_whens, .ref a_md_becomes, .ref a_md_guessCounts, .ref a_md_guesses, .ref a_md_unaryCounts, .ref a_md_stack, .ref a_md_nexts, .ref a_md_isBegin, .ref a_md_isGoal, .ref a_md_levels, .ref a_md_queue, .ref a_md_hasGuesses, .int md_keptBits, .ref a_md_rounds, .ref a_md_marked, .ref a_md_other, .ref a_md_heights])), (a_md_nexts, .inl (cI, 24576, .inl md_nexts)), (a_md_isGoal, .inl (cZ, 4096, .inl md_isGoal)), (a_md_levels, .inl (cI, 4096, .inl md_levels)), (a_md_marked, .inl (cZ, 4096, .inl (upd md_marked_23 (x3_18 : Int32).toNatClampNeg (vp_nar .boolean 0))))] := hD
                            refine lv_iinc (v := x4_22 + 1) (lv' := [(4, .int (x4_22 + 1)), (5, .int x5_26), (0, .ref a_md), (1, .int x1_7), (2, .int x2_14), (3, .int x3_18)]) hx hb d_Md_markRuns_208 hl (k := 5) rfl rfl (by decide) rfl (fun ls hl => ?_)
                            refine lv_goto (tgt := 129) hx hb d_Md_markRuns_211 (by decide) ?_
                            exact il _ _ h _ _ hP hD hS _ (lv_sub hl [2, 3, 4, 5, 0] rfl)
                          · have h := And.right h c_189
                            refine lv_aload_n hx hb d_Md_markRuns_192 rfl (lv_at hl 1 rfl) ?_
                            refine va_get (D := (dC, dI)) (ci := 11) (v := .ref a_md_marked) (C := "LoopInductionModel") (T := F_Md) (N := 40) hx hb hts iC_Md hown hK hP 0 rfl rfl 37 (by decide) fl_85 (fun _ h9 => h9) rfl d_Md_markRuns_193 ?_
                            refine lv_iload hx hb d_Md_markRuns_196 (lv_at hl 0 rfl) ?_
                            obtain ⟨hin_198, h⟩ := h
                            refine va_zald hx hb hK hP 4 2 rfl rfl hin_198 d_Md_markRuns_198 ?_
                            refine lv_if_eq (tgt := 206) hx hb d_Md_markRuns_199 (by decide) (fun c_199 => ?_) (fun c_199 => ?_)
                            · have h := And.left h c_199
                              refine lv_iconst (v := 0) hx hb d_Md_markRuns_206 (by decide) ?_
                              obtain ⟨hin_207, h⟩ := h
                              refine va_zast hx hb hK hP hD hS 4 2 rfl rfl hin_207 d_Md_markRuns_207 (fun H locs hP hD hS => ?_)
                              have hP : va_P (dC, dI) vwCl [(a_md, .inr (11, [.ref a_md_tape, .int md_size, .int md_at, .int md_token, .int md_tokenPlace, .int md_number, .int md_sign, .int md_bad, .int md_faultPlace, .int md_place, .ref a_md_acts, .ref a_md_actNumbers, .ref a_md_actCounts, .int md_bank, .int md_unaries, .int md_opens, .ref a_md_pile, .int md_piled, .int md_loop, .ref a_md_begins, .ref a_md_goals, .ref a_md_ranks, .ref a_md_choiceCounts, .ref a_md_whens, .ref a_md_becomes, .ref a_md_guessCounts, .ref a_md_guesses, .ref a_md_unaryCounts, .ref a_md_stack, .ref a_md_nexts, .ref a_md_isBegin, .ref a_md_isGoal, .ref a_md_levels, .ref a_md_queue, .ref a_md_hasGuesses, .int md_keptBits, .ref a_md_rounds, .ref a_md_marked, .ref a_md_other, .ref a_md_heights])), (a_md_nexts, .inl (cI, 24576, .inl md_nexts)), (a_md_isGoal, .inl (cZ, 4096, .inl md_isGoal)), (a_md_levels, .inl (cI, 4096, .inl md_levels)), (a_md_marked, .inl (cZ, 4096, .inl (upd md_marked_23 (x3_18 : Int32).toNatClampNeg (vp_nar .boolean 0))))] H := hP
                              have hD : va_D A [(a_md, .inr (11, [.ref a_md_tape, .int md_size, .int md_at, .int md_token, .int md_tokenPlace, .int md_number, .int md_sign, .int md_bad, .int md_faultPlace, .int md_place, .ref a_md_acts, .ref a_md_actNumbers, .ref a_md_actCounts, .int md_bank, .int md_unaries, .int md_opens, .ref a_md_pile, .int md_piled, .int md_loop, .ref a_md_begins, .ref a_md_goals, .ref a_md_ranks, .ref a_md_choiceCounts, .ref a_md_whens, .ref a_md_becomes, .ref a_md_guessCounts, .ref a_md_guesses, .ref a_md_unaryCounts, .ref a_md_stack, .ref a_md_nexts, .ref a_md_isBegin, .ref a_md_isGoal, .ref a_md_levels, .ref a_md_queue, .ref a_md_hasGuesses, .int md_keptBits, .ref a_md_rounds, .ref a_md_marked, .ref a_md_other, .ref a_md_heights])), (a_md_nexts, .inl (cI, 24576, .inl md_nexts)), (a_md_isGoal, .inl (cZ, 4096, .inl md_isGoal)), (a_md_levels, .inl (cI, 4096, .inl md_levels)), (a_md_marked, .inl (cZ, 4096, .inl (upd md_marked_23 (x3_18 : Int32).toNatClampNeg (vp_nar .boolean 0))))] := hD
                              refine lv_iinc (v := x4_22 + 1) (lv' := [(4, .int (x4_22 + 1)), (5, .int x5_26), (0, .ref a_md), (1, .int x1_7), (2, .int x2_14), (3, .int x3_18)]) hx hb d_Md_markRuns_208 hl (k := 5) rfl rfl (by decide) rfl (fun ls hl => ?_)
                              refine lv_goto (tgt := 129) hx hb d_Md_markRuns_211 (by decide) ?_
                              exact il _ _ h _ _ hP hD hS _ (lv_sub hl [2, 3, 4, 5, 0] rfl)
                            · have h := And.right h c_199
                              refine lv_iconst (v := 1) hx hb d_Md_markRuns_202 (by decide) ?_
                              refine lv_goto (tgt := 207) hx hb d_Md_markRuns_203 (by decide) ?_
                              obtain ⟨hin_207, h⟩ := h
                              refine va_zast hx hb hK hP hD hS 4 2 rfl rfl hin_207 d_Md_markRuns_207 (fun H locs hP hD hS => ?_)
                              have hP : va_P (dC, dI) vwCl [(a_md, .inr (11, [.ref a_md_tape, .int md_size, .int md_at, .int md_token, .int md_tokenPlace, .int md_number, .int md_sign, .int md_bad, .int md_faultPlace, .int md_place, .ref a_md_acts, .ref a_md_actNumbers, .ref a_md_actCounts, .int md_bank, .int md_unaries, .int md_opens, .ref a_md_pile, .int md_piled, .int md_loop, .ref a_md_begins, .ref a_md_goals, .ref a_md_ranks, .ref a_md_choiceCounts, .ref a_md_whens, .ref a_md_becomes, .ref a_md_guessCounts, .ref a_md_guesses, .ref a_md_unaryCounts, .ref a_md_stack, .ref a_md_nexts, .ref a_md_isBegin, .ref a_md_isGoal, .ref a_md_levels, .ref a_md_queue, .ref a_md_hasGuesses, .int md_keptBits, .ref a_md_rounds, .ref a_md_marked, .ref a_md_other, .ref a_md_heights])), (a_md_nexts, .inl (cI, 24576, .inl md_nexts)), (a_md_isGoal, .inl (cZ, 4096, .inl md_isGoal)), (a_md_levels, .inl (cI, 4096, .inl md_levels)), (a_md_marked, .inl (cZ, 4096, .inl (upd md_marked_23 (x3_18 : Int32).toNatClampNeg (vp_nar .boolean 1))))] H := hP
                              have hD : va_D A [(a_md, .inr (11, [.ref a_md_tape, .int md_size, .int md_at, .int md_token, .int md_tokenPlace, .int md_number, .int md_sign, .int md_bad, .int md_faultPlace, .int md_place, .ref a_md_acts, .ref a_md_actNumbers, .ref a_md_actCounts, .int md_bank, .int md_unaries, .int md_opens, .ref a_md_pile, .int md_piled, .int md_loop, .ref a_md_begins, .ref a_md_goals, .ref a_md_ranks, .ref a_md_choiceCounts, .ref a_md_whens, .ref a_md_becomes, .ref a_md_guessCounts, .ref a_md_guesses, .ref a_md_unaryCounts, .ref a_md_stack, .ref a_md_nexts, .ref a_md_isBegin, .ref a_md_isGoal, .ref a_md_levels, .ref a_md_queue, .ref a_md_hasGuesses, .int md_keptBits, .ref a_md_rounds, .ref a_md_marked, .ref a_md_other, .ref a_md_heights])), (a_md_nexts, .inl (cI, 24576, .inl md_nexts)), (a_md_isGoal, .inl (cZ, 4096, .inl md_isGoal)), (a_md_levels, .inl (cI, 4096, .inl md_levels)), (a_md_marked, .inl (cZ, 4096, .inl (upd md_marked_23 (x3_18 : Int32).toNatClampNeg (vp_nar .boolean 1))))] := hD
                              refine lv_iinc (v := x4_22 + 1) (lv' := [(4, .int (x4_22 + 1)), (5, .int x5_26), (0, .ref a_md), (1, .int x1_7), (2, .int x2_14), (3, .int x3_18)]) hx hb d_Md_markRuns_208 hl (k := 5) rfl rfl (by decide) rfl (fun ls hl => ?_)
                              refine lv_goto (tgt := 129) hx hb d_Md_markRuns_211 (by decide) ?_
                              exact il _ _ h _ _ hP hD hS _ (lv_sub hl [2, 3, 4, 5, 0] rfl)
              obtain ⟨n_, h⟩ := h
              refine L129_q_24 _ ?_ n_ _ _ h _ _ hP hD hS _ (lv_sub hl [1, 2, 3, 4, 0] rfl)
              intro md_marked_27 h H locs hP hD hS ls hl
              refine lv_iinc (v := x3_18 + 1) (lv' := [(3, .int (x3_18 + 1)), (0, .ref a_md), (1, .int x1_7), (2, .int x2_14)]) hx hb d_Md_markRuns_214 hl (k := 3) rfl rfl (by decide) rfl (fun ls hl => ?_)
              refine lv_goto (tgt := 119) hx hb d_Md_markRuns_217 (by decide) ?_
              exact il _ _ h _ _ hP hD hS _ (lv_sub hl [1, 2, 3, 0] rfl)
        obtain ⟨n_, h⟩ := h
        refine L119_q_20 _ ?_ n_ _ _ h _ _ hP hD hS _ (lv_sub hl [1, 2, 3, 0] rfl)
        intro md_marked_28 h H locs hP hD hS ls hl
        refine lv_iinc (v := x2_14 + (-1)) (lv' := [(2, .int (x2_14 + (-1))), (0, .ref a_md), (1, .int x1_7)]) hx hb d_Md_markRuns_220 hl (k := 2) rfl rfl (by decide) rfl (fun ls hl => ?_)
        refine lv_goto (tgt := 113) hx hb d_Md_markRuns_223 (by decide) ?_
        exact il _ _ h _ _ hP hD hS _ (lv_sub hl [1, 2, 0] rfl)
  obtain ⟨n_, h⟩ := h
  refine L113_q_16 _ ?_ n_ _ _ h _ _ hP hD hS _ (lv_sub hl [1, 2, 0] rfl)
  intro md_marked_29 h H locs hP hD hS ls hl
  refine lv_iload_n hx hb d_Md_markRuns_226 rfl (lv_at hl 0 rfl) ?_
  subst hQ
  have hP9 := hP
  have hD9 := hD
  exact W.iret (v := x1_7) hx hb hr (fun t ht hW => ⟨⟨x1_7, (md_marked_29), rfl, h, by rw [ht]; exact hP9, va_K.moved hW.alike hK, hD9⟩, hS.F ht⟩) hS.2.2 d_Md_markRuns_227
def wp_Md_counter_L27 (x1 : Int32) (md_levels : Nat → Int32) (md_marked : Nat → Int32) (k51 : Int32 → Prop) : Nat → Int32 → Prop
  | 0, _ => False
  | n + 1, x3 =>
    (vp_in x3 4096 ∧ (((md_marked (x3 : Int32).toNatClampNeg : Int32) = 0 → wp_Md_counter_L27 x1 md_levels md_marked k51 n (x3 + 1)) ∧ (¬ (md_marked (x3 : Int32).toNatClampNeg : Int32) = 0 → (vp_in x3 4096 ∧ (((md_levels (x3 : Int32).toNatClampNeg : Int32) = 0 → k51 x3) ∧ (¬ (md_levels (x3 : Int32).toNatClampNeg : Int32) = 0 → wp_Md_counter_L27 x1 md_levels md_marked k51 n (x3 + 1)))))))
def wp_Md_counter_L68 (x1 : Int32) (x3 : Int32) (x4 : Int32) (md_nexts : Nat → Int32) (md_levels : Nat → Int32) (md_marked : Nat → Int32) (k138 : Int32 → Prop) : Nat → Int32 → Int32 → Prop
  | 0, _, _ => False
  | n + 1, x5, x6 =>
    (((6 : Int32) ≤ (x6 : Int32) → k138 x5) ∧ (¬ (6 : Int32) ≤ (x6 : Int32) → (vp_in ((6 * x3) + x6) 24576 ∧ (∀ x7_1 : Int32, x7_1 = (md_nexts ((6 * x3) + x6 : Int32).toNatClampNeg) → (((x7_1 : Int32) < 0 → wp_Md_counter_L68 x1 x3 x4 md_nexts md_levels md_marked k138 n x5 (x6 + 1)) ∧ (¬ (x7_1 : Int32) < 0 → (((x5 : Int32) ≤ (x7_1 : Int32) → wp_Md_counter_L68 x1 x3 x4 md_nexts md_levels md_marked k138 n x5 (x6 + 1)) ∧ (¬ (x5 : Int32) ≤ (x7_1 : Int32) → (vp_in x7_1 4096 ∧ (((md_marked (x7_1 : Int32).toNatClampNeg : Int32) = 0 → wp_Md_counter_L68 x1 x3 x4 md_nexts md_levels md_marked k138 n x5 (x6 + 1)) ∧ (¬ (md_marked (x7_1 : Int32).toNatClampNeg : Int32) = 0 → (vp_in x7_1 4096 ∧ ((¬ (md_levels (x7_1 : Int32).toNatClampNeg : Int32) = (x4 : Int32) → wp_Md_counter_L68 x1 x3 x4 md_nexts md_levels md_marked k138 n x5 (x6 + 1)) ∧ ((md_levels (x7_1 : Int32).toNatClampNeg : Int32) = (x4 : Int32) → wp_Md_counter_L68 x1 x3 x4 md_nexts md_levels md_marked k138 n x7_1 (x6 + 1)))))))))))))))
def wp_Md_counter_L54 (x1 : Int32) (md_nexts : Nat → Int32) (md_levels : Nat → Int32) (md_marked : Nat → Int32) (k147 : Int32 → Prop) : Nat → Int32 → Int32 → Prop
  | 0, _, _ => False
  | n + 1, x3, x4 =>
    (((x1 : Int32) < (x4 : Int32) → k147 x3) ∧ (¬ (x1 : Int32) < (x4 : Int32) → ∃ n_3, wp_Md_counter_L68 x1 x3 x4 md_nexts md_levels md_marked (fun x5_2 => wp_Md_counter_L54 x1 md_nexts md_levels md_marked k147 n x5_2 (x4 + 1)) n_3 4096 0))
def wp_Md_counter (x1 : Int32) (md_loop : Int32) (md_nexts : Nat → Int32) (md_isGoal : Nat → Int32) (md_levels : Nat → Int32) (md_marked : Nat → Int32) (post : Int32 → (Nat → Int32) → Prop) : Prop :=
  ((0 ≤ (md_loop : Int32) → wp_Md_markRuns md_nexts md_isGoal md_levels md_marked (fun r_1 md_marked_2 => (((x1 : Int32) < 0 → post (-1) md_marked_2) ∧ (¬ (x1 : Int32) < 0 → (((x1 : Int32) ≤ (r_1 : Int32) → ∃ n_6, wp_Md_counter_L27 x1 md_levels md_marked_2 (fun x3_3 => ∃ n_5, wp_Md_counter_L54 x1 md_nexts md_levels md_marked_2 (fun x3_4 => post x3_4 md_marked_2) n_5 x3_3 1) n_6 0) ∧ (¬ (x1 : Int32) ≤ (r_1 : Int32) → post (-1) md_marked_2)))))) ∧ (¬ 0 ≤ (md_loop : Int32) → post (-1) md_marked))
set_option maxHeartbeats 4000000 in
set_option maxRecDepth 100000 in
theorem c_Md_counter (l : Launch) (dC : Nat → ClassId) (dI : Nat → Nat → Nat) (cI cB cZ : ClassId) (adK adV : Nat → Nat) (sz : Nat) (a_md a_md_tape a_md_acts a_md_actNumbers a_md_actCounts a_md_pile a_md_begins a_md_goals a_md_ranks a_md_choiceCounts a_md_whens a_md_becomes a_md_guessCounts a_md_guesses a_md_unaryCounts a_md_stack a_md_nexts a_md_isBegin a_md_isGoal a_md_levels a_md_queue a_md_hasGuesses a_md_rounds a_md_marked a_md_other a_md_heights : Nat) (md_size : Int32) (md_at : Int32) (md_token : Int32) (md_tokenPlace : Int32) (md_number : Int32) (md_sign : Int32) (md_bad : Int32) (md_faultPlace : Int32) (md_place : Int32) (md_bank : Int32) (md_unaries : Int32) (md_opens : Int32) (md_piled : Int32) (md_loop : Int32) (md_keptBits : Int32) (md_nexts : Nat → Int32) (md_isGoal : Nat → Int32) (md_levels : Nat → Int32) (md_marked : Nat → Int32) (x1 : Int32) (post : Int32 → (Nat → Int32) → Prop) (h : wp_Md_counter x1 md_loop md_nexts md_isGoal md_levels md_marked post) : Met l y_Md_counter w_Md_counter ({ frames := 1, cells := 0, slots := 0, locals := 25 }) (pc_ (dC, dI) [(cI, .int), (cB, .byte), (cZ, .boolean)] [(a_md, .inr (11, [.ref a_md_tape, .int md_size, .int md_at, .int md_token, .int md_tokenPlace, .int md_number, .int md_sign, .int md_bad, .int md_faultPlace, .int md_place, .ref a_md_acts, .ref a_md_actNumbers, .ref a_md_actCounts, .int md_bank, .int md_unaries, .int md_opens, .ref a_md_pile, .int md_piled, .int md_loop, .ref a_md_begins, .ref a_md_goals, .ref a_md_ranks, .ref a_md_choiceCounts, .ref a_md_whens, .ref a_md_becomes, .ref a_md_guessCounts, .ref a_md_guesses, .ref a_md_unaryCounts, .ref a_md_stack, .ref a_md_nexts, .ref a_md_isBegin, .ref a_md_isGoal, .ref a_md_levels, .ref a_md_queue, .ref a_md_hasGuesses, .int md_keptBits, .ref a_md_rounds, .ref a_md_marked, .ref a_md_other, .ref a_md_heights])), (a_md_nexts, .inl (cI, 24576, .inl md_nexts)), (a_md_isGoal, .inl (cZ, 4096, .inl md_isGoal)), (a_md_levels, .inl (cI, 4096, .inl md_levels)), (a_md_marked, .inl (cZ, 4096, .inl md_marked))] sz adK adV [.ref a_md, .int x1]) (va_Qi (fun (r : Int32) (u : (Nat → Int32)) => post r u) (fun (u : (Nat → Int32)) t => bw_ (dC, dI) [(cI, .int), (cB, .byte), (cZ, .boolean)] (va_A [(a_md, .inr (11, [.ref a_md_tape, .int md_size, .int md_at, .int md_token, .int md_tokenPlace, .int md_number, .int md_sign, .int md_bad, .int md_faultPlace, .int md_place, .ref a_md_acts, .ref a_md_actNumbers, .ref a_md_actCounts, .int md_bank, .int md_unaries, .int md_opens, .ref a_md_pile, .int md_piled, .int md_loop, .ref a_md_begins, .ref a_md_goals, .ref a_md_ranks, .ref a_md_choiceCounts, .ref a_md_whens, .ref a_md_becomes, .ref a_md_guessCounts, .ref a_md_guesses, .ref a_md_unaryCounts, .ref a_md_stack, .ref a_md_nexts, .ref a_md_isBegin, .ref a_md_isGoal, .ref a_md_levels, .ref a_md_queue, .ref a_md_hasGuesses, .int md_keptBits, .ref a_md_rounds, .ref a_md_marked, .ref a_md_other, .ref a_md_heights])), (a_md_nexts, .inl (cI, 24576, .inl md_nexts)), (a_md_isGoal, .inl (cZ, 4096, .inl md_isGoal)), (a_md_levels, .inl (cI, 4096, .inl md_levels)), (a_md_marked, .inl (cZ, 4096, .inl md_marked))] sz) [(a_md, .inr (11, [.ref a_md_tape, .int md_size, .int md_at, .int md_token, .int md_tokenPlace, .int md_number, .int md_sign, .int md_bad, .int md_faultPlace, .int md_place, .ref a_md_acts, .ref a_md_actNumbers, .ref a_md_actCounts, .int md_bank, .int md_unaries, .int md_opens, .ref a_md_pile, .int md_piled, .int md_loop, .ref a_md_begins, .ref a_md_goals, .ref a_md_ranks, .ref a_md_choiceCounts, .ref a_md_whens, .ref a_md_becomes, .ref a_md_guessCounts, .ref a_md_guesses, .ref a_md_unaryCounts, .ref a_md_stack, .ref a_md_nexts, .ref a_md_isBegin, .ref a_md_isGoal, .ref a_md_levels, .ref a_md_queue, .ref a_md_hasGuesses, .int md_keptBits, .ref a_md_rounds, .ref a_md_marked, .ref a_md_other, .ref a_md_heights])), (a_md_nexts, .inl (cI, 24576, .inl md_nexts)), (a_md_isGoal, .inl (cZ, 4096, .inl md_isGoal)), (a_md_levels, .inl (cI, 4096, .inl md_levels)), (a_md_marked, .inl (cZ, 4096, .inl u))] t) (va_A [(a_md, .inr (11, [.ref a_md_tape, .int md_size, .int md_at, .int md_token, .int md_tokenPlace, .int md_number, .int md_sign, .int md_bad, .int md_faultPlace, .int md_place, .ref a_md_acts, .ref a_md_actNumbers, .ref a_md_actCounts, .int md_bank, .int md_unaries, .int md_opens, .ref a_md_pile, .int md_piled, .int md_loop, .ref a_md_begins, .ref a_md_goals, .ref a_md_ranks, .ref a_md_choiceCounts, .ref a_md_whens, .ref a_md_becomes, .ref a_md_guessCounts, .ref a_md_guesses, .ref a_md_unaryCounts, .ref a_md_stack, .ref a_md_nexts, .ref a_md_isBegin, .ref a_md_isGoal, .ref a_md_levels, .ref a_md_queue, .ref a_md_hasGuesses, .int md_keptBits, .ref a_md_rounds, .ref a_md_marked, .ref a_md_other, .ref a_md_heights])), (a_md_nexts, .inl (cI, 24576, .inl md_nexts)), (a_md_isGoal, .inl (cZ, 4096, .inl md_isGoal)), (a_md_levels, .inl (cI, 4096, .inl md_levels)), (a_md_marked, .inl (cZ, 4096, .inl md_marked))] sz)) 0 0 (va_A [(a_md, .inr (11, [.ref a_md_tape, .int md_size, .int md_at, .int md_token, .int md_tokenPlace, .int md_number, .int md_sign, .int md_bad, .int md_faultPlace, .int md_place, .ref a_md_acts, .ref a_md_actNumbers, .ref a_md_actCounts, .int md_bank, .int md_unaries, .int md_opens, .ref a_md_pile, .int md_piled, .int md_loop, .ref a_md_begins, .ref a_md_goals, .ref a_md_ranks, .ref a_md_choiceCounts, .ref a_md_whens, .ref a_md_becomes, .ref a_md_guessCounts, .ref a_md_guesses, .ref a_md_unaryCounts, .ref a_md_stack, .ref a_md_nexts, .ref a_md_isBegin, .ref a_md_isGoal, .ref a_md_levels, .ref a_md_queue, .ref a_md_hasGuesses, .int md_keptBits, .ref a_md_rounds, .ref a_md_marked, .ref a_md_other, .ref a_md_heights])), (a_md_nexts, .inl (cI, 24576, .inl md_nexts)), (a_md_isGoal, .inl (cZ, 4096, .inl md_isGoal)), (a_md_levels, .inl (cI, 4096, .inl md_levels)), (a_md_marked, .inl (cZ, 4096, .inl md_marked))] sz) := by
  refine Met.ofW (cc := b_Md_counter) (maxL := 8) (ret := (some .int)) (by decide) rfl ?_
  intro p e s m args below meth c s₁ B hml hv
  obtain ⟨rfl, hsz, hP, hK, hD0, hN, hT⟩ := hv
  have hx := B.exec
  have hb := B.bytes
  have hr := B.returns
  have hts := atoms_spec (ws := w_Md_counter) B.pre
  have hown : s.vm.findClass "LoopInductionModel" = some m.cls := findClass_of_methodNamed B.named
  have hlocks := B.notSynchronized
  subst hsz
  have hD := hD0.self (sz := s.heap.size)
  generalize hAe : va_A [(a_md, .inr (11, [.ref a_md_tape, .int md_size, .int md_at, .int md_token, .int md_tokenPlace, .int md_number, .int md_sign, .int md_bad, .int md_faultPlace, .int md_place, .ref a_md_acts, .ref a_md_actNumbers, .ref a_md_actCounts, .int md_bank, .int md_unaries, .int md_opens, .ref a_md_pile, .int md_piled, .int md_loop, .ref a_md_begins, .ref a_md_goals, .ref a_md_ranks, .ref a_md_choiceCounts, .ref a_md_whens, .ref a_md_becomes, .ref a_md_guessCounts, .ref a_md_guesses, .ref a_md_unaryCounts, .ref a_md_stack, .ref a_md_nexts, .ref a_md_isBegin, .ref a_md_isGoal, .ref a_md_levels, .ref a_md_queue, .ref a_md_hasGuesses, .int md_keptBits, .ref a_md_rounds, .ref a_md_marked, .ref a_md_other, .ref a_md_heights])), (a_md_nexts, .inl (cI, 24576, .inl md_nexts)), (a_md_isGoal, .inl (cZ, 4096, .inl md_isGoal)), (a_md_levels, .inl (cI, 4096, .inl md_levels)), (a_md_marked, .inl (cZ, 4096, .inl md_marked))] s.heap.size = A at hD hT ⊢
  have hA : ∀ q : Nat, s.heap.size ≤ q → A q := fun q h => by rw [← hAe]; exact Or.inr h
  have hS : va_S A s.heap s.heap [] := va_S.rf
  generalize hQ : MQ below _ _ s 0 0 _ = QQ
  have hl := lv_entry ([.ref a_md, .int x1]) (n := 8) (Nat.le_of_ble_eq_true rfl)
  rw [lg_entry_eq]
  generalize (lg_sl ([.ref a_md, .int x1]) ++ List.replicate (8 - (lg_sl ([.ref a_md, .int x1])).length) Slot.unset).toArray = ls at hl ⊢
  have hl : lv_has ls 8 [(0, .ref a_md), (1, .int x1)] := hl
  have fl_30 := (hts _ (List.mem_cons_of_mem _ m_1108))
  have fl_63 := (hts _ (List.mem_cons_of_mem _ m_1119))
  have fl_73 := (hts _ (List.mem_cons_of_mem _ m_1122))
  have fl_85 := (hts _ (List.mem_cons_of_mem _ m_1127))
  refine lv_aload_n hx hb d_Md_counter_0 rfl (lv_at hl 0 rfl) ?_
  refine va_get (D := (dC, dI)) (ci := 11) (v := .int md_loop) (C := "LoopInductionModel") (T := F_Md) (N := 40) hx hb hts iC_Md hown hK hP 0 rfl rfl 18 (by decide) fl_30 (fun _ h9 => h9) rfl d_Md_counter_1 ?_
  refine lv_if_ge (tgt := 9) hx hb d_Md_counter_4 (by decide) (fun c_4 => ?_) (fun c_4 => ?_)
  · have h := And.left h c_4
    refine lv_aload_n hx hb d_Md_counter_9 rfl (lv_at hl 0 rfl) ?_
    refine jn_i (wr := []) (va_runV (As := []) (rest := []) ⟨hx, hb, hml, hown, hts⟩ (c_Md_markRuns l dC dI cI cB cZ adK adV _ a_md a_md_tape a_md_acts a_md_actNumbers a_md_actCounts a_md_pile a_md_begins a_md_goals a_md_ranks a_md_choiceCounts a_md_whens a_md_becomes a_md_guessCounts a_md_guesses a_md_unaryCounts a_md_stack a_md_nexts a_md_isBegin a_md_isGoal a_md_levels a_md_queue a_md_hasGuesses a_md_rounds a_md_marked a_md_other a_md_heights md_size md_at md_token md_tokenPlace md_number md_sign md_bad md_faultPlace md_place md_bank md_unaries md_opens md_piled md_loop md_keptBits md_nexts md_isGoal md_levels md_marked _ h) (cwV 0 hts (gv_ m_1405 m_1407 m_80 m_96 m_1408) rfl rfl rfl pd_Md_markRuns ⟨Nat.le_of_ble_eq_true rfl, Nat.le_of_ble_eq_true rfl⟩) ⟨pc_blind, va_recv hK hP (ci := 11) (q0 := 0) rfl rfl, pc_of (hP.sub [0, 1, 2, 3, 4] rfl) hK (hD.sub [0, 1, 2, 3, 4] (by decide) rfl) hN hT hS hA⟩ rfl rfl hl.1 rfl (lv_room (Nat.le_of_ble_eq_true rfl)) d_Md_counter_10 ⟨Nat.zero_le _, Nat.zero_le _⟩) hP hD hS hA [0, 1, 2, 3, 4] [] rfl rfl (by decide) (by decide) (fun r_1 md_marked_2 H locs h hP hD hS => ?_)
    have hP : va_P (dC, dI) vwCl [(a_md, .inr (11, [.ref a_md_tape, .int md_size, .int md_at, .int md_token, .int md_tokenPlace, .int md_number, .int md_sign, .int md_bad, .int md_faultPlace, .int md_place, .ref a_md_acts, .ref a_md_actNumbers, .ref a_md_actCounts, .int md_bank, .int md_unaries, .int md_opens, .ref a_md_pile, .int md_piled, .int md_loop, .ref a_md_begins, .ref a_md_goals, .ref a_md_ranks, .ref a_md_choiceCounts, .ref a_md_whens, .ref a_md_becomes, .ref a_md_guessCounts, .ref a_md_guesses, .ref a_md_unaryCounts, .ref a_md_stack, .ref a_md_nexts, .ref a_md_isBegin, .ref a_md_isGoal, .ref a_md_levels, .ref a_md_queue, .ref a_md_hasGuesses, .int md_keptBits, .ref a_md_rounds, .ref a_md_marked, .ref a_md_other, .ref a_md_heights])), (a_md_nexts, .inl (cI, 24576, .inl md_nexts)), (a_md_isGoal, .inl (cZ, 4096, .inl md_isGoal)), (a_md_levels, .inl (cI, 4096, .inl md_levels)), (a_md_marked, .inl (cZ, 4096, .inl md_marked_2))] H := hP
    have hD : va_D A [(a_md, .inr (11, [.ref a_md_tape, .int md_size, .int md_at, .int md_token, .int md_tokenPlace, .int md_number, .int md_sign, .int md_bad, .int md_faultPlace, .int md_place, .ref a_md_acts, .ref a_md_actNumbers, .ref a_md_actCounts, .int md_bank, .int md_unaries, .int md_opens, .ref a_md_pile, .int md_piled, .int md_loop, .ref a_md_begins, .ref a_md_goals, .ref a_md_ranks, .ref a_md_choiceCounts, .ref a_md_whens, .ref a_md_becomes, .ref a_md_guessCounts, .ref a_md_guesses, .ref a_md_unaryCounts, .ref a_md_stack, .ref a_md_nexts, .ref a_md_isBegin, .ref a_md_isGoal, .ref a_md_levels, .ref a_md_queue, .ref a_md_hasGuesses, .int md_keptBits, .ref a_md_rounds, .ref a_md_marked, .ref a_md_other, .ref a_md_heights])), (a_md_nexts, .inl (cI, 24576, .inl md_nexts)), (a_md_isGoal, .inl (cZ, 4096, .inl md_isGoal)), (a_md_levels, .inl (cI, 4096, .inl md_levels)), (a_md_marked, .inl (cZ, 4096, .inl md_marked_2))] := hD
    refine lv_istore_n (lv' := [(2, .int r_1), (0, .ref a_md), (1, .int x1)]) hx hb d_Md_counter_13 rfl hl (by decide) rfl (fun ls hl => ?_)
    refine lv_iload_n hx hb d_Md_counter_14 rfl (lv_at hl 2 rfl) ?_
    refine lv_if_lt (tgt := 23) hx hb d_Md_counter_15 (by decide) (fun c_15 => ?_) (fun c_15 => ?_)
    · have h := And.left h c_15
      refine lv_iconst (v := (-1)) hx hb d_Md_counter_23 (by decide) ?_
      subst hQ
      have hP9 := hP
      have hD9 := hD
      exact W.iret (v := (-1)) hx hb hr (fun t ht hW => ⟨⟨(-1), (md_marked_2), rfl, h, by rw [ht]; exact hP9, va_K.moved hW.alike hK, hD9⟩, hS.F ht⟩) hS.2.2 d_Md_counter_24
    · have h := And.right h c_15
      refine lv_iload_n hx hb d_Md_counter_18 rfl (lv_at hl 2 rfl) ?_
      refine lv_iload_n hx hb d_Md_counter_19 rfl (lv_at hl 0 rfl) ?_
      refine lv_icmp_le (tgt := 25) hx hb d_Md_counter_20 (by decide) (fun c_20 => ?_) (fun c_20 => ?_)
      · have h := And.left h c_20
        refine lv_iconst (v := 0) hx hb d_Md_counter_25 (by decide) ?_
        refine lv_istore_n (lv' := [(3, .int 0), (2, .int r_1), (0, .ref a_md), (1, .int x1)]) hx hb d_Md_counter_26 rfl hl (by decide) rfl (fun ls hl => ?_)
        have L27_q_4 : ∀ (k51 : Int32 → Prop) (hk51 : ∀ (x3_5 : Int32), k51 x3_5 → ∀ (H : Heap) (locs : List Loc), va_P (dC, dI) vwCl [(a_md, .inr (11, [.ref a_md_tape, .int md_size, .int md_at, .int md_token, .int md_tokenPlace, .int md_number, .int md_sign, .int md_bad, .int md_faultPlace, .int md_place, .ref a_md_acts, .ref a_md_actNumbers, .ref a_md_actCounts, .int md_bank, .int md_unaries, .int md_opens, .ref a_md_pile, .int md_piled, .int md_loop, .ref a_md_begins, .ref a_md_goals, .ref a_md_ranks, .ref a_md_choiceCounts, .ref a_md_whens, .ref a_md_becomes, .ref a_md_guessCounts, .ref a_md_guesses, .ref a_md_unaryCounts, .ref a_md_stack, .ref a_md_nexts, .ref a_md_isBegin, .ref a_md_isGoal, .ref a_md_levels, .ref a_md_queue, .ref a_md_hasGuesses, .int md_keptBits, .ref a_md_rounds, .ref a_md_marked, .ref a_md_other, .ref a_md_heights])), (a_md_nexts, .inl (cI, 24576, .inl md_nexts)), (a_md_isGoal, .inl (cZ, 4096, .inl md_isGoal)), (a_md_levels, .inl (cI, 4096, .inl md_levels)), (a_md_marked, .inl (cZ, 4096, .inl md_marked_2))] H → va_D A [(a_md, .inr (11, [.ref a_md_tape, .int md_size, .int md_at, .int md_token, .int md_tokenPlace, .int md_number, .int md_sign, .int md_bad, .int md_faultPlace, .int md_place, .ref a_md_acts, .ref a_md_actNumbers, .ref a_md_actCounts, .int md_bank, .int md_unaries, .int md_opens, .ref a_md_pile, .int md_piled, .int md_loop, .ref a_md_begins, .ref a_md_goals, .ref a_md_ranks, .ref a_md_choiceCounts, .ref a_md_whens, .ref a_md_becomes, .ref a_md_guessCounts, .ref a_md_guesses, .ref a_md_unaryCounts, .ref a_md_stack, .ref a_md_nexts, .ref a_md_isBegin, .ref a_md_isGoal, .ref a_md_levels, .ref a_md_queue, .ref a_md_hasGuesses, .int md_keptBits, .ref a_md_rounds, .ref a_md_marked, .ref a_md_other, .ref a_md_heights])), (a_md_nexts, .inl (cI, 24576, .inl md_nexts)), (a_md_isGoal, .inl (cZ, 4096, .inl md_isGoal)), (a_md_levels, .inl (cI, 4096, .inl md_levels)), (a_md_marked, .inl (cZ, 4096, .inl md_marked_2))] → va_S A s.heap H locs → ∀ ls : Array Slot, lv_has ls 8 [(0, .ref a_md), (1, .int x1), (3, .int x3_5)] → W p l e (headSpec w_Md_counter ({ frames := 1, cells := 0, slots := 0, locals := 25 })).room s m (([.ref a_md, .int x1] : List Value).toArray) below meth c H locs 0 0 QQ (F0 m 51 ls [])) (n : Nat) (x3_3 : Int32), wp_Md_counter_L27 x1 md_levels md_marked_2 k51 n x3_3 → ∀ (H : Heap) (locs : List Loc), va_P (dC, dI) vwCl [(a_md, .inr (11, [.ref a_md_tape, .int md_size, .int md_at, .int md_token, .int md_tokenPlace, .int md_number, .int md_sign, .int md_bad, .int md_faultPlace, .int md_place, .ref a_md_acts, .ref a_md_actNumbers, .ref a_md_actCounts, .int md_bank, .int md_unaries, .int md_opens, .ref a_md_pile, .int md_piled, .int md_loop, .ref a_md_begins, .ref a_md_goals, .ref a_md_ranks, .ref a_md_choiceCounts, .ref a_md_whens, .ref a_md_becomes, .ref a_md_guessCounts, .ref a_md_guesses, .ref a_md_unaryCounts, .ref a_md_stack, .ref a_md_nexts, .ref a_md_isBegin, .ref a_md_isGoal, .ref a_md_levels, .ref a_md_queue, .ref a_md_hasGuesses, .int md_keptBits, .ref a_md_rounds, .ref a_md_marked, .ref a_md_other, .ref a_md_heights])), (a_md_nexts, .inl (cI, 24576, .inl md_nexts)), (a_md_isGoal, .inl (cZ, 4096, .inl md_isGoal)), (a_md_levels, .inl (cI, 4096, .inl md_levels)), (a_md_marked, .inl (cZ, 4096, .inl md_marked_2))] H → va_D A [(a_md, .inr (11, [.ref a_md_tape, .int md_size, .int md_at, .int md_token, .int md_tokenPlace, .int md_number, .int md_sign, .int md_bad, .int md_faultPlace, .int md_place, .ref a_md_acts, .ref a_md_actNumbers, .ref a_md_actCounts, .int md_bank, .int md_unaries, .int md_opens, .ref a_md_pile, .int md_piled, .int md_loop, .ref a_md_begins, .ref a_md_goals, .ref a_md_ranks, .ref a_md_choiceCounts, .ref a_md_whens, .ref a_md_becomes, .ref a_md_guessCounts, .ref a_md_guesses, .ref a_md_unaryCounts, .ref a_md_stack, .ref a_md_nexts, .ref a_md_isBegin, .ref a_md_isGoal, .ref a_md_levels, .ref a_md_queue, .ref a_md_hasGuesses, .int md_keptBits, .ref a_md_rounds, .ref a_md_marked, .ref a_md_other, .ref a_md_heights])), (a_md_nexts, .inl (cI, 24576, .inl md_nexts)), (a_md_isGoal, .inl (cZ, 4096, .inl md_isGoal)), (a_md_levels, .inl (cI, 4096, .inl md_levels)), (a_md_marked, .inl (cZ, 4096, .inl md_marked_2))] → va_S A s.heap H locs → ∀ ls : Array Slot, lv_has ls 8 [(0, .ref a_md), (1, .int x1), (3, .int x3_3)] → W p l e (headSpec w_Md_counter ({ frames := 1, cells := 0, slots := 0, locals := 25 })).room s m (([.ref a_md, .int x1] : List Value).toArray) below meth c H locs 0 0 QQ (F0 m 27 ls []) := by
          intro k51 hk51 n
          induction n with
          | zero => intro x3_3 h; exact (show False from h).elim
          | succ n il =>
            intro x3_3 h H locs hP hD hS ls hl
            refine lv_aload_n hx hb d_Md_counter_27 rfl (lv_at hl 0 rfl) ?_
            refine va_get (D := (dC, dI)) (ci := 11) (v := .ref a_md_marked) (C := "LoopInductionModel") (T := F_Md) (N := 40) hx hb hts iC_Md hown hK hP 0 rfl rfl 37 (by decide) fl_85 (fun _ h9 => h9) rfl d_Md_counter_28 ?_
            refine lv_iload_n hx hb d_Md_counter_31 rfl (lv_at hl 2 rfl) ?_
            obtain ⟨hin_32, h⟩ := h
            refine va_zald hx hb hK hP 4 2 rfl rfl hin_32 d_Md_counter_32 ?_
            refine lv_if_eq (tgt := 45) hx hb d_Md_counter_33 (by decide) (fun c_33 => ?_) (fun c_33 => ?_)
            · have h := And.left h c_33
              refine lv_iinc (v := x3_3 + 1) (lv' := [(3, .int (x3_3 + 1)), (0, .ref a_md), (1, .int x1)]) hx hb d_Md_counter_45 hl (k := 2) rfl rfl (by decide) rfl (fun ls hl => ?_)
              refine lv_goto (tgt := 27) hx hb d_Md_counter_48 (by decide) ?_
              exact il _ h _ _ hP hD hS _ (lv_sub hl [1, 2, 0] rfl)
            · have h := And.right h c_33
              refine lv_aload_n hx hb d_Md_counter_36 rfl (lv_at hl 0 rfl) ?_
              refine va_get (D := (dC, dI)) (ci := 11) (v := .ref a_md_levels) (C := "LoopInductionModel") (T := F_Md) (N := 40) hx hb hts iC_Md hown hK hP 0 rfl rfl 32 (by decide) fl_73 (fun _ h9 => h9) rfl d_Md_counter_37 ?_
              refine lv_iload_n hx hb d_Md_counter_40 rfl (lv_at hl 2 rfl) ?_
              obtain ⟨hin_41, h⟩ := h
              refine va_iald hx hb hK hP 3 0 rfl rfl hin_41 d_Md_counter_41 ?_
              refine lv_if_eq (tgt := 51) hx hb d_Md_counter_42 (by decide) (fun c_42 => ?_) (fun c_42 => ?_)
              · have h := And.left h c_42
                exact hk51 _ h _ _ hP hD hS _ hl
              · have h := And.right h c_42
                refine lv_iinc (v := x3_3 + 1) (lv' := [(3, .int (x3_3 + 1)), (0, .ref a_md), (1, .int x1)]) hx hb d_Md_counter_45 hl (k := 2) rfl rfl (by decide) rfl (fun ls hl => ?_)
                refine lv_goto (tgt := 27) hx hb d_Md_counter_48 (by decide) ?_
                exact il _ h _ _ hP hD hS _ (lv_sub hl [1, 2, 0] rfl)
        obtain ⟨n_, h⟩ := h
        refine L27_q_4 _ ?_ n_ _ h _ _ hP hD hS _ (lv_sub hl [2, 3, 0] rfl)
        intro x3_6 h H locs hP hD hS ls hl
        refine lv_iconst (v := 1) hx hb d_Md_counter_51 (by decide) ?_
        refine lv_istore (lv' := [(4, .int 1), (0, .ref a_md), (1, .int x1), (3, .int x3_6)]) hx hb d_Md_counter_52 hl (by decide) rfl (fun ls hl => ?_)
        have L54_q_9 : ∀ (k147 : Int32 → Prop) (hk147 : ∀ (x3_10 : Int32), k147 x3_10 → ∀ (H : Heap) (locs : List Loc), va_P (dC, dI) vwCl [(a_md, .inr (11, [.ref a_md_tape, .int md_size, .int md_at, .int md_token, .int md_tokenPlace, .int md_number, .int md_sign, .int md_bad, .int md_faultPlace, .int md_place, .ref a_md_acts, .ref a_md_actNumbers, .ref a_md_actCounts, .int md_bank, .int md_unaries, .int md_opens, .ref a_md_pile, .int md_piled, .int md_loop, .ref a_md_begins, .ref a_md_goals, .ref a_md_ranks, .ref a_md_choiceCounts, .ref a_md_whens, .ref a_md_becomes, .ref a_md_guessCounts, .ref a_md_guesses, .ref a_md_unaryCounts, .ref a_md_stack, .ref a_md_nexts, .ref a_md_isBegin, .ref a_md_isGoal, .ref a_md_levels, .ref a_md_queue, .ref a_md_hasGuesses, .int md_keptBits, .ref a_md_rounds, .ref a_md_marked, .ref a_md_other, .ref a_md_heights])), (a_md_nexts, .inl (cI, 24576, .inl md_nexts)), (a_md_isGoal, .inl (cZ, 4096, .inl md_isGoal)), (a_md_levels, .inl (cI, 4096, .inl md_levels)), (a_md_marked, .inl (cZ, 4096, .inl md_marked_2))] H → va_D A [(a_md, .inr (11, [.ref a_md_tape, .int md_size, .int md_at, .int md_token, .int md_tokenPlace, .int md_number, .int md_sign, .int md_bad, .int md_faultPlace, .int md_place, .ref a_md_acts, .ref a_md_actNumbers, .ref a_md_actCounts, .int md_bank, .int md_unaries, .int md_opens, .ref a_md_pile, .int md_piled, .int md_loop, .ref a_md_begins, .ref a_md_goals, .ref a_md_ranks, .ref a_md_choiceCounts, .ref a_md_whens, .ref a_md_becomes, .ref a_md_guessCounts, .ref a_md_guesses, .ref a_md_unaryCounts, .ref a_md_stack, .ref a_md_nexts, .ref a_md_isBegin, .ref a_md_isGoal, .ref a_md_levels, .ref a_md_queue, .ref a_md_hasGuesses, .int md_keptBits, .ref a_md_rounds, .ref a_md_marked, .ref a_md_other, .ref a_md_heights])), (a_md_nexts, .inl (cI, 24576, .inl md_nexts)), (a_md_isGoal, .inl (cZ, 4096, .inl md_isGoal)), (a_md_levels, .inl (cI, 4096, .inl md_levels)), (a_md_marked, .inl (cZ, 4096, .inl md_marked_2))] → va_S A s.heap H locs → ∀ ls : Array Slot, lv_has ls 8 [(3, .int x3_10)] → W p l e (headSpec w_Md_counter ({ frames := 1, cells := 0, slots := 0, locals := 25 })).room s m (([.ref a_md, .int x1] : List Value).toArray) below meth c H locs 0 0 QQ (F0 m 147 ls [])) (n : Nat) (x3_7 : Int32) (x4_8 : Int32), wp_Md_counter_L54 x1 md_nexts md_levels md_marked_2 k147 n x3_7 x4_8 → ∀ (H : Heap) (locs : List Loc), va_P (dC, dI) vwCl [(a_md, .inr (11, [.ref a_md_tape, .int md_size, .int md_at, .int md_token, .int md_tokenPlace, .int md_number, .int md_sign, .int md_bad, .int md_faultPlace, .int md_place, .ref a_md_acts, .ref a_md_actNumbers, .ref a_md_actCounts, .int md_bank, .int md_unaries, .int md_opens, .ref a_md_pile, .int md_piled, .int md_loop, .ref a_md_begins, .ref a_md_goals, .ref a_md_ranks, .ref a_md_choiceCounts, .ref a_md_whens, .ref a_md_becomes, .ref a_md_guessCounts, .ref a_md_guesses, .ref a_md_unaryCounts, .ref a_md_stack, .ref a_md_nexts, .ref a_md_isBegin, .ref a_md_isGoal, .ref a_md_levels, .ref a_md_queue, .ref a_md_hasGuesses, .int md_keptBits, .ref a_md_rounds, .ref a_md_marked, .ref a_md_other, .ref a_md_heights])), (a_md_nexts, .inl (cI, 24576, .inl md_nexts)), (a_md_isGoal, .inl (cZ, 4096, .inl md_isGoal)), (a_md_levels, .inl (cI, 4096, .inl md_levels)), (a_md_marked, .inl (cZ, 4096, .inl md_marked_2))] H → va_D A [(a_md, .inr (11, [.ref a_md_tape, .int md_size, .int md_at, .int md_token, .int md_tokenPlace, .int md_number, .int md_sign, .int md_bad, .int md_faultPlace, .int md_place, .ref a_md_acts, .ref a_md_actNumbers, .ref a_md_actCounts, .int md_bank, .int md_unaries, .int md_opens, .ref a_md_pile, .int md_piled, .int md_loop, .ref a_md_begins, .ref a_md_goals, .ref a_md_ranks, .ref a_md_choiceCounts, .ref a_md_whens, .ref a_md_becomes, .ref a_md_guessCounts, .ref a_md_guesses, .ref a_md_unaryCounts, .ref a_md_stack, .ref a_md_nexts, .ref a_md_isBegin, .ref a_md_isGoal, .ref a_md_levels, .ref a_md_queue, .ref a_md_hasGuesses, .int md_keptBits, .ref a_md_rounds, .ref a_md_marked, .ref a_md_other, .ref a_md_heights])), (a_md_nexts, .inl (cI, 24576, .inl md_nexts)), (a_md_isGoal, .inl (cZ, 4096, .inl md_isGoal)), (a_md_levels, .inl (cI, 4096, .inl md_levels)), (a_md_marked, .inl (cZ, 4096, .inl md_marked_2))] → va_S A s.heap H locs → ∀ ls : Array Slot, lv_has ls 8 [(0, .ref a_md), (1, .int x1), (3, .int x3_7), (4, .int x4_8)] → W p l e (headSpec w_Md_counter ({ frames := 1, cells := 0, slots := 0, locals := 25 })).room s m (([.ref a_md, .int x1] : List Value).toArray) below meth c H locs 0 0 QQ (F0 m 54 ls []) := by
          intro k147 hk147 n
          induction n with
          | zero => intro x3_7 x4_8 h; exact (show False from h).elim
          | succ n il =>
            intro x3_7 x4_8 h H locs hP hD hS ls hl
            refine lv_iload hx hb d_Md_counter_54 (lv_at hl 3 rfl) ?_
            refine lv_iload_n hx hb d_Md_counter_56 rfl (lv_at hl 1 rfl) ?_
            refine lv_icmp_gt (tgt := 147) hx hb d_Md_counter_57 (by decide) (fun c_57 => ?_) (fun c_57 => ?_)
            · have h := And.left h c_57
              exact hk147 _ h _ _ hP hD hS _ (lv_sub hl [2] rfl)
            · have h := And.right h c_57
              refine lv_sipush (v := 4096) hx hb d_Md_counter_60 (by decide) ?_
              refine lv_istore (lv' := [(5, .int 4096), (0, .ref a_md), (1, .int x1), (3, .int x3_7), (4, .int x4_8)]) hx hb d_Md_counter_63 hl (by decide) rfl (fun ls hl => ?_)
              refine lv_iconst (v := 0) hx hb d_Md_counter_65 (by decide) ?_
              refine lv_istore (lv' := [(6, .int 0), (5, .int 4096), (0, .ref a_md), (1, .int x1), (3, .int x3_7), (4, .int x4_8)]) hx hb d_Md_counter_66 hl (by decide) rfl (fun ls hl => ?_)
              have L68_q_13 : ∀ (k138 : Int32 → Prop) (hk138 : ∀ (x5_14 : Int32), k138 x5_14 → ∀ (H : Heap) (locs : List Loc), va_P (dC, dI) vwCl [(a_md, .inr (11, [.ref a_md_tape, .int md_size, .int md_at, .int md_token, .int md_tokenPlace, .int md_number, .int md_sign, .int md_bad, .int md_faultPlace, .int md_place, .ref a_md_acts, .ref a_md_actNumbers, .ref a_md_actCounts, .int md_bank, .int md_unaries, .int md_opens, .ref a_md_pile, .int md_piled, .int md_loop, .ref a_md_begins, .ref a_md_goals, .ref a_md_ranks, .ref a_md_choiceCounts, .ref a_md_whens, .ref a_md_becomes, .ref a_md_guessCounts, .ref a_md_guesses, .ref a_md_unaryCounts, .ref a_md_stack, .ref a_md_nexts, .ref a_md_isBegin, .ref a_md_isGoal, .ref a_md_levels, .ref a_md_queue, .ref a_md_hasGuesses, .int md_keptBits, .ref a_md_rounds, .ref a_md_marked, .ref a_md_other, .ref a_md_heights])), (a_md_nexts, .inl (cI, 24576, .inl md_nexts)), (a_md_isGoal, .inl (cZ, 4096, .inl md_isGoal)), (a_md_levels, .inl (cI, 4096, .inl md_levels)), (a_md_marked, .inl (cZ, 4096, .inl md_marked_2))] H → va_D A [(a_md, .inr (11, [.ref a_md_tape, .int md_size, .int md_at, .int md_token, .int md_tokenPlace, .int md_number, .int md_sign, .int md_bad, .int md_faultPlace, .int md_place, .ref a_md_acts, .ref a_md_actNumbers, .ref a_md_actCounts, .int md_bank, .int md_unaries, .int md_opens, .ref a_md_pile, .int md_piled, .int md_loop, .ref a_md_begins, .ref a_md_goals, .ref a_md_ranks, .ref a_md_choiceCounts, .ref a_md_whens, .ref a_md_becomes, .ref a_md_guessCounts, .ref a_md_guesses, .ref a_md_unaryCounts, .ref a_md_stack, .ref a_md_nexts, .ref a_md_isBegin, .ref a_md_isGoal, .ref a_md_levels, .ref a_md_queue, .ref a_md_hasGuesses, .int md_keptBits, .ref a_md_rounds, .ref a_md_marked, .ref a_md_other, .ref a_md_heights])), (a_md_nexts, .inl (cI, 24576, .inl md_nexts)), (a_md_isGoal, .inl (cZ, 4096, .inl md_isGoal)), (a_md_levels, .inl (cI, 4096, .inl md_levels)), (a_md_marked, .inl (cZ, 4096, .inl md_marked_2))] → va_S A s.heap H locs → ∀ ls : Array Slot, lv_has ls 8 [(0, .ref a_md), (1, .int x1), (4, .int x4_8), (5, .int x5_14)] → W p l e (headSpec w_Md_counter ({ frames := 1, cells := 0, slots := 0, locals := 25 })).room s m (([.ref a_md, .int x1] : List Value).toArray) below meth c H locs 0 0 QQ (F0 m 138 ls [])) (n : Nat) (x5_11 : Int32) (x6_12 : Int32), wp_Md_counter_L68 x1 x3_7 x4_8 md_nexts md_levels md_marked_2 k138 n x5_11 x6_12 → ∀ (H : Heap) (locs : List Loc), va_P (dC, dI) vwCl [(a_md, .inr (11, [.ref a_md_tape, .int md_size, .int md_at, .int md_token, .int md_tokenPlace, .int md_number, .int md_sign, .int md_bad, .int md_faultPlace, .int md_place, .ref a_md_acts, .ref a_md_actNumbers, .ref a_md_actCounts, .int md_bank, .int md_unaries, .int md_opens, .ref a_md_pile, .int md_piled, .int md_loop, .ref a_md_begins, .ref a_md_goals, .ref a_md_ranks, .ref a_md_choiceCounts, .ref a_md_whens, .ref a_md_becomes, .ref a_md_guessCounts, .ref a_md_guesses, .ref a_md_unaryCounts, .ref a_md_stack, .ref a_md_nexts, .ref a_md_isBegin, .ref a_md_isGoal, .ref a_md_levels, .ref a_md_queue, .ref a_md_hasGuesses, .int md_keptBits, .ref a_md_rounds, .ref a_md_marked, .ref a_md_other, .ref a_md_heights])), (a_md_nexts, .inl (cI, 24576, .inl md_nexts)), (a_md_isGoal, .inl (cZ, 4096, .inl md_isGoal)), (a_md_levels, .inl (cI, 4096, .inl md_levels)), (a_md_marked, .inl (cZ, 4096, .inl md_marked_2))] H → va_D A [(a_md, .inr (11, [.ref a_md_tape, .int md_size, .int md_at, .int md_token, .int md_tokenPlace, .int md_number, .int md_sign, .int md_bad, .int md_faultPlace, .int md_place, .ref a_md_acts, .ref a_md_actNumbers, .ref a_md_actCounts, .int md_bank, .int md_unaries, .int md_opens, .ref a_md_pile, .int md_piled, .int md_loop, .ref a_md_begins, .ref a_md_goals, .ref a_md_ranks, .ref a_md_choiceCounts, .ref a_md_whens, .ref a_md_becomes, .ref a_md_guessCounts, .ref a_md_guesses, .ref a_md_unaryCounts, .ref a_md_stack, .ref a_md_nexts, .ref a_md_isBegin, .ref a_md_isGoal, .ref a_md_levels, .ref a_md_queue, .ref a_md_hasGuesses, .int md_keptBits, .ref a_md_rounds, .ref a_md_marked, .ref a_md_other, .ref a_md_heights])), (a_md_nexts, .inl (cI, 24576, .inl md_nexts)), (a_md_isGoal, .inl (cZ, 4096, .inl md_isGoal)), (a_md_levels, .inl (cI, 4096, .inl md_levels)), (a_md_marked, .inl (cZ, 4096, .inl md_marked_2))] → va_S A s.heap H locs → ∀ ls : Array Slot, lv_has ls 8 [(0, .ref a_md), (1, .int x1), (3, .int x3_7), (4, .int x4_8), (5, .int x5_11), (6, .int x6_12)] → W p l e (headSpec w_Md_counter ({ frames := 1, cells := 0, slots := 0, locals := 25 })).room s m (([.ref a_md, .int x1] : List Value).toArray) below meth c H locs 0 0 QQ (F0 m 68 ls []) := by
                intro k138 hk138 n
                induction n with
                | zero => intro x5_11 x6_12 h; exact (show False from h).elim
                | succ n il =>
                  intro x5_11 x6_12 h H locs hP hD hS ls hl
                  refine lv_iload hx hb d_Md_counter_68 (lv_at hl 5 rfl) ?_
                  refine lv_bipush (v := 6) hx hb d_Md_counter_70 (by decide) ?_
                  refine lv_icmp_ge (tgt := 138) hx hb d_Md_counter_72 (by decide) (fun c_72 => ?_) (fun c_72 => ?_)
                  · have h := And.left h c_72
                    exact hk138 _ h _ _ hP hD hS _ (lv_sub hl [0, 1, 3, 4] rfl)
                  · have h := And.right h c_72
                    refine lv_aload_n hx hb d_Md_counter_75 rfl (lv_at hl 0 rfl) ?_
                    refine va_get (D := (dC, dI)) (ci := 11) (v := .ref a_md_nexts) (C := "LoopInductionModel") (T := F_Md) (N := 40) hx hb hts iC_Md hown hK hP 0 rfl rfl 29 (by decide) fl_63 (fun _ h9 => h9) rfl d_Md_counter_76 ?_
                    refine lv_bipush (v := 6) hx hb d_Md_counter_79 (by decide) ?_
                    refine lv_iload_n hx hb d_Md_counter_81 rfl (lv_at hl 2 rfl) ?_
                    refine lv_imul hx hb d_Md_counter_82 ?_
                    refine lv_iload hx hb d_Md_counter_83 (lv_at hl 5 rfl) ?_
                    refine lv_iadd hx hb d_Md_counter_85 ?_
                    obtain ⟨hin_86, h⟩ := h
                    refine va_iald hx hb hK hP 1 0 rfl rfl hin_86 d_Md_counter_86 ?_
                    refine lv_topi (fun x7_15 ex7_15 => ?_)
                    have h := h x7_15 ex7_15
                    refine lv_istore (lv' := [(7, .int x7_15), (0, .ref a_md), (1, .int x1), (3, .int x3_7), (4, .int x4_8), (5, .int x5_11), (6, .int x6_12)]) hx hb d_Md_counter_87 hl (by decide) rfl (fun ls hl => ?_)
                    refine lv_iload hx hb d_Md_counter_89 (lv_at hl 0 rfl) ?_
                    refine lv_if_lt (tgt := 128) hx hb d_Md_counter_91 (by decide) (fun c_91 => ?_) (fun c_91 => ?_)
                    · have h := And.left h c_91
                      refine lv_iload hx hb d_Md_counter_128 (lv_at hl 5 rfl) ?_
                      refine lv_istore (lv' := [(5, .int x5_11), (7, .int x7_15), (0, .ref a_md), (1, .int x1), (3, .int x3_7), (4, .int x4_8), (6, .int x6_12)]) hx hb d_Md_counter_130 hl (by decide) rfl (fun ls hl => ?_)
                      refine lv_iinc (v := x6_12 + 1) (lv' := [(6, .int (x6_12 + 1)), (5, .int x5_11), (7, .int x7_15), (0, .ref a_md), (1, .int x1), (3, .int x3_7), (4, .int x4_8)]) hx hb d_Md_counter_132 hl (k := 6) rfl rfl (by decide) rfl (fun ls hl => ?_)
                      refine lv_goto (tgt := 68) hx hb d_Md_counter_135 (by decide) ?_
                      exact il _ _ h _ _ hP hD hS _ (lv_sub hl [3, 4, 5, 6, 1, 0] rfl)
                    · have h := And.right h c_91
                      refine lv_iload hx hb d_Md_counter_94 (lv_at hl 0 rfl) ?_
                      refine lv_iload hx hb d_Md_counter_96 (lv_at hl 5 rfl) ?_
                      refine lv_icmp_ge (tgt := 128) hx hb d_Md_counter_98 (by decide) (fun c_98 => ?_) (fun c_98 => ?_)
                      · have h := And.left h c_98
                        refine lv_iload hx hb d_Md_counter_128 (lv_at hl 5 rfl) ?_
                        refine lv_istore (lv' := [(5, .int x5_11), (7, .int x7_15), (0, .ref a_md), (1, .int x1), (3, .int x3_7), (4, .int x4_8), (6, .int x6_12)]) hx hb d_Md_counter_130 hl (by decide) rfl (fun ls hl => ?_)
                        refine lv_iinc (v := x6_12 + 1) (lv' := [(6, .int (x6_12 + 1)), (5, .int x5_11), (7, .int x7_15), (0, .ref a_md), (1, .int x1), (3, .int x3_7), (4, .int x4_8)]) hx hb d_Md_counter_132 hl (k := 6) rfl rfl (by decide) rfl (fun ls hl => ?_)
                        refine lv_goto (tgt := 68) hx hb d_Md_counter_135 (by decide) ?_
                        exact il _ _ h _ _ hP hD hS _ (lv_sub hl [3, 4, 5, 6, 1, 0] rfl)
                      · have h := And.right h c_98
                        refine lv_aload_n hx hb d_Md_counter_101 rfl (lv_at hl 1 rfl) ?_
                        refine va_get (D := (dC, dI)) (ci := 11) (v := .ref a_md_marked) (C := "LoopInductionModel") (T := F_Md) (N := 40) hx hb hts iC_Md hown hK hP 0 rfl rfl 37 (by decide) fl_85 (fun _ h9 => h9) rfl d_Md_counter_102 ?_
                        refine lv_iload hx hb d_Md_counter_105 (lv_at hl 0 rfl) ?_
                        obtain ⟨hin_107, h⟩ := h
                        refine va_zald hx hb hK hP 4 2 rfl rfl hin_107 d_Md_counter_107 ?_
                        refine lv_if_eq (tgt := 128) hx hb d_Md_counter_108 (by decide) (fun c_108 => ?_) (fun c_108 => ?_)
                        · have h := And.left h c_108
                          refine lv_iload hx hb d_Md_counter_128 (lv_at hl 5 rfl) ?_
                          refine lv_istore (lv' := [(5, .int x5_11), (7, .int x7_15), (0, .ref a_md), (1, .int x1), (3, .int x3_7), (4, .int x4_8), (6, .int x6_12)]) hx hb d_Md_counter_130 hl (by decide) rfl (fun ls hl => ?_)
                          refine lv_iinc (v := x6_12 + 1) (lv' := [(6, .int (x6_12 + 1)), (5, .int x5_11), (7, .int x7_15), (0, .ref a_md), (1, .int x1), (3, .int x3_7), (4, .int x4_8)]) hx hb d_Md_counter_132 hl (k := 6) rfl rfl (by decide) rfl (fun ls hl => ?_)
                          refine lv_goto (tgt := 68) hx hb d_Md_counter_135 (by decide) ?_
                          exact il _ _ h _ _ hP hD hS _ (lv_sub hl [3, 4, 5, 6, 1, 0] rfl)
                        · have h := And.right h c_108
                          refine lv_aload_n hx hb d_Md_counter_111 rfl (lv_at hl 1 rfl) ?_
                          refine va_get (D := (dC, dI)) (ci := 11) (v := .ref a_md_levels) (C := "LoopInductionModel") (T := F_Md) (N := 40) hx hb hts iC_Md hown hK hP 0 rfl rfl 32 (by decide) fl_73 (fun _ h9 => h9) rfl d_Md_counter_112 ?_
                          refine lv_iload hx hb d_Md_counter_115 (lv_at hl 0 rfl) ?_
                          obtain ⟨hin_117, h⟩ := h
                          refine va_iald hx hb hK hP 3 0 rfl rfl hin_117 d_Md_counter_117 ?_
                          refine lv_iload hx hb d_Md_counter_118 (lv_at hl 4 rfl) ?_
                          refine lv_icmp_ne (tgt := 128) hx hb d_Md_counter_120 (by decide) (fun c_120 => ?_) (fun c_120 => ?_)
                          · have h := And.left h c_120
                            refine lv_iload hx hb d_Md_counter_128 (lv_at hl 5 rfl) ?_
                            refine lv_istore (lv' := [(5, .int x5_11), (7, .int x7_15), (0, .ref a_md), (1, .int x1), (3, .int x3_7), (4, .int x4_8), (6, .int x6_12)]) hx hb d_Md_counter_130 hl (by decide) rfl (fun ls hl => ?_)
                            refine lv_iinc (v := x6_12 + 1) (lv' := [(6, .int (x6_12 + 1)), (5, .int x5_11), (7, .int x7_15), (0, .ref a_md), (1, .int x1), (3, .int x3_7), (4, .int x4_8)]) hx hb d_Md_counter_132 hl (k := 6) rfl rfl (by decide) rfl (fun ls hl => ?_)
                            refine lv_goto (tgt := 68) hx hb d_Md_counter_135 (by decide) ?_
                            exact il _ _ h _ _ hP hD hS _ (lv_sub hl [3, 4, 5, 6, 1, 0] rfl)
                          · have h := And.right h c_120
                            refine lv_iload hx hb d_Md_counter_123 (lv_at hl 0 rfl) ?_
                            refine lv_goto (tgt := 130) hx hb d_Md_counter_125 (by decide) ?_
                            refine lv_istore (lv' := [(5, .int x7_15), (7, .int x7_15), (0, .ref a_md), (1, .int x1), (3, .int x3_7), (4, .int x4_8), (6, .int x6_12)]) hx hb d_Md_counter_130 hl (by decide) rfl (fun ls hl => ?_)
                            refine lv_iinc (v := x6_12 + 1) (lv' := [(6, .int (x6_12 + 1)), (5, .int x7_15), (7, .int x7_15), (0, .ref a_md), (1, .int x1), (3, .int x3_7), (4, .int x4_8)]) hx hb d_Md_counter_132 hl (k := 6) rfl rfl (by decide) rfl (fun ls hl => ?_)
                            refine lv_goto (tgt := 68) hx hb d_Md_counter_135 (by decide) ?_
                            exact il _ _ h _ _ hP hD hS _ (lv_sub hl [3, 4, 5, 6, 1, 0] rfl)
              obtain ⟨n_, h⟩ := h
              refine L68_q_13 _ ?_ n_ _ _ h _ _ hP hD hS _ (lv_sub hl [2, 3, 4, 5, 1, 0] rfl)
              intro x5_16 h H locs hP hD hS ls hl
              refine lv_iload hx hb d_Md_counter_138 (lv_at hl 3 rfl) ?_
              refine lv_istore_n (lv' := [(3, .int x5_16), (0, .ref a_md), (1, .int x1), (4, .int x4_8), (5, .int x5_16)]) hx hb d_Md_counter_140 rfl hl (by decide) rfl (fun ls hl => ?_)
              refine lv_iinc (v := x4_8 + 1) (lv' := [(4, .int (x4_8 + 1)), (3, .int x5_16), (0, .ref a_md), (1, .int x1), (5, .int x5_16)]) hx hb d_Md_counter_141 hl (k := 3) rfl rfl (by decide) rfl (fun ls hl => ?_)
              refine lv_goto (tgt := 54) hx hb d_Md_counter_144 (by decide) ?_
              exact il _ _ h _ _ hP hD hS _ (lv_sub hl [2, 3, 1, 0] rfl)
        obtain ⟨n_, h⟩ := h
        refine L54_q_9 _ ?_ n_ _ _ h _ _ hP hD hS _ (lv_sub hl [1, 2, 3, 0] rfl)
        intro x3_17 h H locs hP hD hS ls hl
        refine lv_iload_n hx hb d_Md_counter_147 rfl (lv_at hl 0 rfl) ?_
        subst hQ
        have hP9 := hP
        have hD9 := hD
        exact W.iret (v := x3_17) hx hb hr (fun t ht hW => ⟨⟨x3_17, (md_marked_2), rfl, h, by rw [ht]; exact hP9, va_K.moved hW.alike hK, hD9⟩, hS.F ht⟩) hS.2.2 d_Md_counter_148
      · have h := And.right h c_20
        refine lv_iconst (v := (-1)) hx hb d_Md_counter_23 (by decide) ?_
        subst hQ
        have hP9 := hP
        have hD9 := hD
        exact W.iret (v := (-1)) hx hb hr (fun t ht hW => ⟨⟨(-1), (md_marked_2), rfl, h, by rw [ht]; exact hP9, va_K.moved hW.alike hK, hD9⟩, hS.F ht⟩) hS.2.2 d_Md_counter_24
  · have h := And.right h c_4
    refine lv_iconst (v := (-1)) hx hb d_Md_counter_7 (by decide) ?_
    subst hQ
    have hP9 := hP
    have hD9 := hD
    exact W.iret (v := (-1)) hx hb hr (fun t ht hW => ⟨⟨(-1), (md_marked), rfl, h, by rw [ht]; exact hP9, va_K.moved hW.alike hK, hD9⟩, hS.F ht⟩) hS.2.2 d_Md_counter_8
def wp_Md_goOn_L2 (x1 : Int32) (k22 : (Nat → Int32) → Prop) : Nat → Int32 → (Nat → Int32) → Prop
  | 0, _, _ => False
  | n + 1, x2, md_other =>
    (((4096 : Int32) ≤ (x2 : Int32) → k22 md_other) ∧ (¬ (4096 : Int32) ≤ (x2 : Int32) → (vp_in x2 4096 ∧ wp_Md_goOn_L2 x1 k22 n (x2 + 1) (upd md_other (x2 : Int32).toNatClampNeg (vp_nar .boolean 0)))))
def wp_Md_goOn_L33 (x1 : Int32) (x2 : Int32) (md_nexts : Nat → Int32) (md_isGoal : Nat → Int32) (md_hasGuesses : Nat → Int32) (md_marked : Nat → Int32) (k103 : (Nat → Int32) → Prop) : Nat → Int32 → (Nat → Int32) → Prop
  | 0, _, _ => False
  | n + 1, x3, md_other =>
    (((6 : Int32) ≤ (x3 : Int32) → k103 md_other) ∧ (¬ (6 : Int32) ≤ (x3 : Int32) → (vp_in x2 4096 ∧ (((md_marked (x2 : Int32).toNatClampNeg : Int32) = 0 → k103 md_other) ∧ (¬ (md_marked (x2 : Int32).toNatClampNeg : Int32) = 0 → (vp_in ((6 * x2) + x3) 24576 ∧ (∀ x4_1 : Int32, x4_1 = (md_nexts ((6 * x2) + x3 : Int32).toNatClampNeg) → (((x4_1 : Int32) < 0 → wp_Md_goOn_L33 x1 x2 md_nexts md_isGoal md_hasGuesses md_marked k103 n (x3 + 1) md_other) ∧ (¬ (x4_1 : Int32) < 0 → (vp_in x4_1 4096 ∧ (((md_isGoal (x4_1 : Int32).toNatClampNeg : Int32) = 0 → wp_Md_goOn_L33 x1 x2 md_nexts md_isGoal md_hasGuesses md_marked k103 n (x3 + 1) md_other) ∧ (¬ (md_isGoal (x4_1 : Int32).toNatClampNeg : Int32) = 0 → (vp_in x4_1 4096 ∧ ((¬ ((md_hasGuesses (x4_1 : Int32).toNatClampNeg) &&& x1 : Int32) = (x1 : Int32) → wp_Md_goOn_L33 x1 x2 md_nexts md_isGoal md_hasGuesses md_marked k103 n (x3 + 1) md_other) ∧ (((md_hasGuesses (x4_1 : Int32).toNatClampNeg) &&& x1 : Int32) = (x1 : Int32) → (vp_in x4_1 4096 ∧ wp_Md_goOn_L33 x1 x2 md_nexts md_isGoal md_hasGuesses md_marked k103 n (x3 + 1) (upd md_other (x4_1 : Int32).toNatClampNeg (vp_nar .boolean 1))))))))))))))))))
def wp_Md_goOn_L24 (x1 : Int32) (md_nexts : Nat → Int32) (md_isGoal : Nat → Int32) (md_hasGuesses : Nat → Int32) (md_marked : Nat → Int32) (k109 : (Nat → Int32) → Prop) : Nat → Int32 → (Nat → Int32) → Prop
  | 0, _, _ => False
  | n + 1, x2, md_other =>
    (((4096 : Int32) ≤ (x2 : Int32) → k109 md_other) ∧ (¬ (4096 : Int32) ≤ (x2 : Int32) → ∃ n_3, wp_Md_goOn_L33 x1 x2 md_nexts md_isGoal md_hasGuesses md_marked (fun md_other_2 => wp_Md_goOn_L24 x1 md_nexts md_isGoal md_hasGuesses md_marked k109 n (x2 + 1) md_other_2) n_3 0 md_other))
def wp_Md_goOn_L111 (md_other : Nat → Int32) (k136 : (Nat → Int32) → Prop) : Nat → Int32 → (Nat → Int32) → Prop
  | 0, _, _ => False
  | n + 1, x2, md_marked =>
    (((4096 : Int32) ≤ (x2 : Int32) → k136 md_marked) ∧ (¬ (4096 : Int32) ≤ (x2 : Int32) → (vp_in x2 4096 ∧ (vp_in x2 4096 ∧ wp_Md_goOn_L111 md_other k136 n (x2 + 1) (upd md_marked (x2 : Int32).toNatClampNeg (vp_nar .boolean (md_other (x2 : Int32).toNatClampNeg)))))))
def wp_Md_goOn (x1 : Int32) (md_nexts : Nat → Int32) (md_isGoal : Nat → Int32) (md_hasGuesses : Nat → Int32) (md_marked : Nat → Int32) (md_other : Nat → Int32) (post : (Nat → Int32) → (Nat → Int32) → Prop) : Prop :=
  ∃ n_8, wp_Md_goOn_L2 x1 (fun md_other_1 => ∃ n_7, wp_Md_goOn_L24 x1 md_nexts md_isGoal md_hasGuesses md_marked (fun md_other_4 => ∃ n_6, wp_Md_goOn_L111 md_other_4 (fun md_marked_5 => post md_marked_5 md_other_4) n_6 0 md_marked) n_7 0 md_other_1) n_8 0 md_other
set_option maxHeartbeats 4000000 in
set_option maxRecDepth 100000 in
theorem c_Md_goOn (l : Launch) (dC : Nat → ClassId) (dI : Nat → Nat → Nat) (cI cB cZ : ClassId) (adK adV : Nat → Nat) (sz : Nat) (a_md a_md_tape a_md_acts a_md_actNumbers a_md_actCounts a_md_pile a_md_begins a_md_goals a_md_ranks a_md_choiceCounts a_md_whens a_md_becomes a_md_guessCounts a_md_guesses a_md_unaryCounts a_md_stack a_md_nexts a_md_isBegin a_md_isGoal a_md_levels a_md_queue a_md_hasGuesses a_md_rounds a_md_marked a_md_other a_md_heights : Nat) (md_size : Int32) (md_at : Int32) (md_token : Int32) (md_tokenPlace : Int32) (md_number : Int32) (md_sign : Int32) (md_bad : Int32) (md_faultPlace : Int32) (md_place : Int32) (md_bank : Int32) (md_unaries : Int32) (md_opens : Int32) (md_piled : Int32) (md_loop : Int32) (md_keptBits : Int32) (md_nexts : Nat → Int32) (md_isGoal : Nat → Int32) (md_hasGuesses : Nat → Int32) (md_marked : Nat → Int32) (md_other : Nat → Int32) (x1 : Int32) (post : (Nat → Int32) → (Nat → Int32) → Prop) (h : wp_Md_goOn x1 md_nexts md_isGoal md_hasGuesses md_marked md_other post) : Met l y_Md_goOn w_Md_goOn ({ frames := 0, cells := 0, slots := 0, locals := 0 }) (pc_ (dC, dI) [(cI, .int), (cB, .byte), (cZ, .boolean)] [(a_md, .inr (11, [.ref a_md_tape, .int md_size, .int md_at, .int md_token, .int md_tokenPlace, .int md_number, .int md_sign, .int md_bad, .int md_faultPlace, .int md_place, .ref a_md_acts, .ref a_md_actNumbers, .ref a_md_actCounts, .int md_bank, .int md_unaries, .int md_opens, .ref a_md_pile, .int md_piled, .int md_loop, .ref a_md_begins, .ref a_md_goals, .ref a_md_ranks, .ref a_md_choiceCounts, .ref a_md_whens, .ref a_md_becomes, .ref a_md_guessCounts, .ref a_md_guesses, .ref a_md_unaryCounts, .ref a_md_stack, .ref a_md_nexts, .ref a_md_isBegin, .ref a_md_isGoal, .ref a_md_levels, .ref a_md_queue, .ref a_md_hasGuesses, .int md_keptBits, .ref a_md_rounds, .ref a_md_marked, .ref a_md_other, .ref a_md_heights])), (a_md_nexts, .inl (cI, 24576, .inl md_nexts)), (a_md_isGoal, .inl (cZ, 4096, .inl md_isGoal)), (a_md_hasGuesses, .inl (cI, 4096, .inl md_hasGuesses)), (a_md_marked, .inl (cZ, 4096, .inl md_marked)), (a_md_other, .inl (cZ, 4096, .inl md_other))] sz adK adV [.ref a_md, .int x1]) (va_Qv (fun (u : (Nat → Int32) × (Nat → Int32)) => post u.1 u.2) (fun (u : (Nat → Int32) × (Nat → Int32)) t => bw_ (dC, dI) [(cI, .int), (cB, .byte), (cZ, .boolean)] (va_A [(a_md, .inr (11, [.ref a_md_tape, .int md_size, .int md_at, .int md_token, .int md_tokenPlace, .int md_number, .int md_sign, .int md_bad, .int md_faultPlace, .int md_place, .ref a_md_acts, .ref a_md_actNumbers, .ref a_md_actCounts, .int md_bank, .int md_unaries, .int md_opens, .ref a_md_pile, .int md_piled, .int md_loop, .ref a_md_begins, .ref a_md_goals, .ref a_md_ranks, .ref a_md_choiceCounts, .ref a_md_whens, .ref a_md_becomes, .ref a_md_guessCounts, .ref a_md_guesses, .ref a_md_unaryCounts, .ref a_md_stack, .ref a_md_nexts, .ref a_md_isBegin, .ref a_md_isGoal, .ref a_md_levels, .ref a_md_queue, .ref a_md_hasGuesses, .int md_keptBits, .ref a_md_rounds, .ref a_md_marked, .ref a_md_other, .ref a_md_heights])), (a_md_nexts, .inl (cI, 24576, .inl md_nexts)), (a_md_isGoal, .inl (cZ, 4096, .inl md_isGoal)), (a_md_hasGuesses, .inl (cI, 4096, .inl md_hasGuesses)), (a_md_marked, .inl (cZ, 4096, .inl md_marked)), (a_md_other, .inl (cZ, 4096, .inl md_other))] sz) [(a_md, .inr (11, [.ref a_md_tape, .int md_size, .int md_at, .int md_token, .int md_tokenPlace, .int md_number, .int md_sign, .int md_bad, .int md_faultPlace, .int md_place, .ref a_md_acts, .ref a_md_actNumbers, .ref a_md_actCounts, .int md_bank, .int md_unaries, .int md_opens, .ref a_md_pile, .int md_piled, .int md_loop, .ref a_md_begins, .ref a_md_goals, .ref a_md_ranks, .ref a_md_choiceCounts, .ref a_md_whens, .ref a_md_becomes, .ref a_md_guessCounts, .ref a_md_guesses, .ref a_md_unaryCounts, .ref a_md_stack, .ref a_md_nexts, .ref a_md_isBegin, .ref a_md_isGoal, .ref a_md_levels, .ref a_md_queue, .ref a_md_hasGuesses, .int md_keptBits, .ref a_md_rounds, .ref a_md_marked, .ref a_md_other, .ref a_md_heights])), (a_md_nexts, .inl (cI, 24576, .inl md_nexts)), (a_md_isGoal, .inl (cZ, 4096, .inl md_isGoal)), (a_md_hasGuesses, .inl (cI, 4096, .inl md_hasGuesses)), (a_md_marked, .inl (cZ, 4096, .inl u.1)), (a_md_other, .inl (cZ, 4096, .inl u.2))] t) (va_A [(a_md, .inr (11, [.ref a_md_tape, .int md_size, .int md_at, .int md_token, .int md_tokenPlace, .int md_number, .int md_sign, .int md_bad, .int md_faultPlace, .int md_place, .ref a_md_acts, .ref a_md_actNumbers, .ref a_md_actCounts, .int md_bank, .int md_unaries, .int md_opens, .ref a_md_pile, .int md_piled, .int md_loop, .ref a_md_begins, .ref a_md_goals, .ref a_md_ranks, .ref a_md_choiceCounts, .ref a_md_whens, .ref a_md_becomes, .ref a_md_guessCounts, .ref a_md_guesses, .ref a_md_unaryCounts, .ref a_md_stack, .ref a_md_nexts, .ref a_md_isBegin, .ref a_md_isGoal, .ref a_md_levels, .ref a_md_queue, .ref a_md_hasGuesses, .int md_keptBits, .ref a_md_rounds, .ref a_md_marked, .ref a_md_other, .ref a_md_heights])), (a_md_nexts, .inl (cI, 24576, .inl md_nexts)), (a_md_isGoal, .inl (cZ, 4096, .inl md_isGoal)), (a_md_hasGuesses, .inl (cI, 4096, .inl md_hasGuesses)), (a_md_marked, .inl (cZ, 4096, .inl md_marked)), (a_md_other, .inl (cZ, 4096, .inl md_other))] sz)) 0 0 (va_A [(a_md, .inr (11, [.ref a_md_tape, .int md_size, .int md_at, .int md_token, .int md_tokenPlace, .int md_number, .int md_sign, .int md_bad, .int md_faultPlace, .int md_place, .ref a_md_acts, .ref a_md_actNumbers, .ref a_md_actCounts, .int md_bank, .int md_unaries, .int md_opens, .ref a_md_pile, .int md_piled, .int md_loop, .ref a_md_begins, .ref a_md_goals, .ref a_md_ranks, .ref a_md_choiceCounts, .ref a_md_whens, .ref a_md_becomes, .ref a_md_guessCounts, .ref a_md_guesses, .ref a_md_unaryCounts, .ref a_md_stack, .ref a_md_nexts, .ref a_md_isBegin, .ref a_md_isGoal, .ref a_md_levels, .ref a_md_queue, .ref a_md_hasGuesses, .int md_keptBits, .ref a_md_rounds, .ref a_md_marked, .ref a_md_other, .ref a_md_heights])), (a_md_nexts, .inl (cI, 24576, .inl md_nexts)), (a_md_isGoal, .inl (cZ, 4096, .inl md_isGoal)), (a_md_hasGuesses, .inl (cI, 4096, .inl md_hasGuesses)), (a_md_marked, .inl (cZ, 4096, .inl md_marked)), (a_md_other, .inl (cZ, 4096, .inl md_other))] sz) := by
  refine Met.ofW (cc := b_Md_goOn) (maxL := 5) (ret := none) (by decide) rfl ?_
  intro p e s m args below meth c s₁ B hml hv
  obtain ⟨rfl, hsz, hP, hK, hD0, hN, hT⟩ := hv
  have hx := B.exec
  have hb := B.bytes
  have hr := B.returns
  have hts := atoms_spec (ws := w_Md_goOn) B.pre
  have hown : s.vm.findClass "LoopInductionModel" = some m.cls := findClass_of_methodNamed B.named
  have hlocks := B.notSynchronized
  subst hsz
  have hD := hD0.self (sz := s.heap.size)
  generalize hAe : va_A [(a_md, .inr (11, [.ref a_md_tape, .int md_size, .int md_at, .int md_token, .int md_tokenPlace, .int md_number, .int md_sign, .int md_bad, .int md_faultPlace, .int md_place, .ref a_md_acts, .ref a_md_actNumbers, .ref a_md_actCounts, .int md_bank, .int md_unaries, .int md_opens, .ref a_md_pile, .int md_piled, .int md_loop, .ref a_md_begins, .ref a_md_goals, .ref a_md_ranks, .ref a_md_choiceCounts, .ref a_md_whens, .ref a_md_becomes, .ref a_md_guessCounts, .ref a_md_guesses, .ref a_md_unaryCounts, .ref a_md_stack, .ref a_md_nexts, .ref a_md_isBegin, .ref a_md_isGoal, .ref a_md_levels, .ref a_md_queue, .ref a_md_hasGuesses, .int md_keptBits, .ref a_md_rounds, .ref a_md_marked, .ref a_md_other, .ref a_md_heights])), (a_md_nexts, .inl (cI, 24576, .inl md_nexts)), (a_md_isGoal, .inl (cZ, 4096, .inl md_isGoal)), (a_md_hasGuesses, .inl (cI, 4096, .inl md_hasGuesses)), (a_md_marked, .inl (cZ, 4096, .inl md_marked)), (a_md_other, .inl (cZ, 4096, .inl md_other))] s.heap.size = A at hD hT ⊢
  have hA : ∀ q : Nat, s.heap.size ≤ q → A q := fun q h => by rw [← hAe]; exact Or.inr h
  have hS : va_S A s.heap s.heap [] := va_S.rf
  generalize hQ : MQ below _ _ s 0 0 _ = QQ
  have hl := lv_entry ([.ref a_md, .int x1]) (n := 5) (Nat.le_of_ble_eq_true rfl)
  rw [lg_entry_eq]
  generalize (lg_sl ([.ref a_md, .int x1]) ++ List.replicate (5 - (lg_sl ([.ref a_md, .int x1])).length) Slot.unset).toArray = ls at hl ⊢
  have hl : lv_has ls 5 [(0, .ref a_md), (1, .int x1)] := hl
  have fl_63 := (hts _ (List.mem_cons_of_mem _ m_1119))
  have fl_70 := (hts _ (List.mem_cons_of_mem _ m_1121))
  have fl_79 := (hts _ (List.mem_cons_of_mem _ m_1124))
  have fl_85 := (hts _ (List.mem_cons_of_mem _ m_1127))
  have fl_88 := (hts _ (List.mem_cons_of_mem _ m_1128))
  refine lv_iconst (v := 0) hx hb d_Md_goOn_0 (by decide) ?_
  refine lv_istore_n (lv' := [(2, .int 0), (0, .ref a_md), (1, .int x1)]) hx hb d_Md_goOn_1 rfl hl (by decide) rfl (fun ls hl => ?_)
  have L2_q_3 : ∀ (k22 : (Nat → Int32) → Prop) (hk22 : ∀ (md_other_4 : Nat → Int32), k22 md_other_4 → ∀ (H : Heap) (locs : List Loc), va_P (dC, dI) vwCl [(a_md, .inr (11, [.ref a_md_tape, .int md_size, .int md_at, .int md_token, .int md_tokenPlace, .int md_number, .int md_sign, .int md_bad, .int md_faultPlace, .int md_place, .ref a_md_acts, .ref a_md_actNumbers, .ref a_md_actCounts, .int md_bank, .int md_unaries, .int md_opens, .ref a_md_pile, .int md_piled, .int md_loop, .ref a_md_begins, .ref a_md_goals, .ref a_md_ranks, .ref a_md_choiceCounts, .ref a_md_whens, .ref a_md_becomes, .ref a_md_guessCounts, .ref a_md_guesses, .ref a_md_unaryCounts, .ref a_md_stack, .ref a_md_nexts, .ref a_md_isBegin, .ref a_md_isGoal, .ref a_md_levels, .ref a_md_queue, .ref a_md_hasGuesses, .int md_keptBits, .ref a_md_rounds, .ref a_md_marked, .ref a_md_other, .ref a_md_heights])), (a_md_nexts, .inl (cI, 24576, .inl md_nexts)), (a_md_isGoal, .inl (cZ, 4096, .inl md_isGoal)), (a_md_hasGuesses, .inl (cI, 4096, .inl md_hasGuesses)), (a_md_marked, .inl (cZ, 4096, .inl md_marked)), (a_md_other, .inl (cZ, 4096, .inl md_other_4))] H → va_D A [(a_md, .inr (11, [.ref a_md_tape, .int md_size, .int md_at, .int md_token, .int md_tokenPlace, .int md_number, .int md_sign, .int md_bad, .int md_faultPlace, .int md_place, .ref a_md_acts, .ref a_md_actNumbers, .ref a_md_actCounts, .int md_bank, .int md_unaries, .int md_opens, .ref a_md_pile, .int md_piled, .int md_loop, .ref a_md_begins, .ref a_md_goals, .ref a_md_ranks, .ref a_md_choiceCounts, .ref a_md_whens, .ref a_md_becomes, .ref a_md_guessCounts, .ref a_md_guesses, .ref a_md_unaryCounts, .ref a_md_stack, .ref a_md_nexts, .ref a_md_isBegin, .ref a_md_isGoal, .ref a_md_levels, .ref a_md_queue, .ref a_md_hasGuesses, .int md_keptBits, .ref a_md_rounds, .ref a_md_marked, .ref a_md_other, .ref a_md_heights])), (a_md_nexts, .inl (cI, 24576, .inl md_nexts)), (a_md_isGoal, .inl (cZ, 4096, .inl md_isGoal)), (a_md_hasGuesses, .inl (cI, 4096, .inl md_hasGuesses)), (a_md_marked, .inl (cZ, 4096, .inl md_marked)), (a_md_other, .inl (cZ, 4096, .inl md_other_4))] → va_S A s.heap H locs → ∀ ls : Array Slot, lv_has ls 5 [(0, .ref a_md), (1, .int x1)] → W p l e (headSpec w_Md_goOn ({ frames := 0, cells := 0, slots := 0, locals := 0 })).room s m (([.ref a_md, .int x1] : List Value).toArray) below meth c H locs 0 0 QQ (F0 m 22 ls [])) (n : Nat) (x2_1 : Int32) (md_other_2 : Nat → Int32), wp_Md_goOn_L2 x1 k22 n x2_1 md_other_2 → ∀ (H : Heap) (locs : List Loc), va_P (dC, dI) vwCl [(a_md, .inr (11, [.ref a_md_tape, .int md_size, .int md_at, .int md_token, .int md_tokenPlace, .int md_number, .int md_sign, .int md_bad, .int md_faultPlace, .int md_place, .ref a_md_acts, .ref a_md_actNumbers, .ref a_md_actCounts, .int md_bank, .int md_unaries, .int md_opens, .ref a_md_pile, .int md_piled, .int md_loop, .ref a_md_begins, .ref a_md_goals, .ref a_md_ranks, .ref a_md_choiceCounts, .ref a_md_whens, .ref a_md_becomes, .ref a_md_guessCounts, .ref a_md_guesses, .ref a_md_unaryCounts, .ref a_md_stack, .ref a_md_nexts, .ref a_md_isBegin, .ref a_md_isGoal, .ref a_md_levels, .ref a_md_queue, .ref a_md_hasGuesses, .int md_keptBits, .ref a_md_rounds, .ref a_md_marked, .ref a_md_other, .ref a_md_heights])), (a_md_nexts, .inl (cI, 24576, .inl md_nexts)), (a_md_isGoal, .inl (cZ, 4096, .inl md_isGoal)), (a_md_hasGuesses, .inl (cI, 4096, .inl md_hasGuesses)), (a_md_marked, .inl (cZ, 4096, .inl md_marked)), (a_md_other, .inl (cZ, 4096, .inl md_other_2))] H → va_D A [(a_md, .inr (11, [.ref a_md_tape, .int md_size, .int md_at, .int md_token, .int md_tokenPlace, .int md_number, .int md_sign, .int md_bad, .int md_faultPlace, .int md_place, .ref a_md_acts, .ref a_md_actNumbers, .ref a_md_actCounts, .int md_bank, .int md_unaries, .int md_opens, .ref a_md_pile, .int md_piled, .int md_loop, .ref a_md_begins, .ref a_md_goals, .ref a_md_ranks, .ref a_md_choiceCounts, .ref a_md_whens, .ref a_md_becomes, .ref a_md_guessCounts, .ref a_md_guesses, .ref a_md_unaryCounts, .ref a_md_stack, .ref a_md_nexts, .ref a_md_isBegin, .ref a_md_isGoal, .ref a_md_levels, .ref a_md_queue, .ref a_md_hasGuesses, .int md_keptBits, .ref a_md_rounds, .ref a_md_marked, .ref a_md_other, .ref a_md_heights])), (a_md_nexts, .inl (cI, 24576, .inl md_nexts)), (a_md_isGoal, .inl (cZ, 4096, .inl md_isGoal)), (a_md_hasGuesses, .inl (cI, 4096, .inl md_hasGuesses)), (a_md_marked, .inl (cZ, 4096, .inl md_marked)), (a_md_other, .inl (cZ, 4096, .inl md_other_2))] → va_S A s.heap H locs → ∀ ls : Array Slot, lv_has ls 5 [(0, .ref a_md), (1, .int x1), (2, .int x2_1)] → W p l e (headSpec w_Md_goOn ({ frames := 0, cells := 0, slots := 0, locals := 0 })).room s m (([.ref a_md, .int x1] : List Value).toArray) below meth c H locs 0 0 QQ (F0 m 2 ls []) := by
    intro k22 hk22 n
    induction n with
    | zero => intro x2_1 md_other_2 h; exact (show False from h).elim
    | succ n il =>
      intro x2_1 md_other_2 h H locs hP hD hS ls hl
      refine lv_iload_n hx hb d_Md_goOn_2 rfl (lv_at hl 2 rfl) ?_
      refine lv_sipush (v := 4096) hx hb d_Md_goOn_3 (by decide) ?_
      refine lv_icmp_ge (tgt := 22) hx hb d_Md_goOn_6 (by decide) (fun c_6 => ?_) (fun c_6 => ?_)
      · have h := And.left h c_6
        exact hk22 _ h _ _ hP hD hS _ (lv_sub hl [0, 1] rfl)
      · have h := And.right h c_6
        refine lv_aload_n hx hb d_Md_goOn_9 rfl (lv_at hl 0 rfl) ?_
        refine va_get (D := (dC, dI)) (ci := 11) (v := .ref a_md_other) (C := "LoopInductionModel") (T := F_Md) (N := 40) hx hb hts iC_Md hown hK hP 0 rfl rfl 38 (by decide) fl_88 (fun _ h9 => h9) rfl d_Md_goOn_10 ?_
        refine lv_iload_n hx hb d_Md_goOn_13 rfl (lv_at hl 2 rfl) ?_
        refine lv_iconst (v := 0) hx hb d_Md_goOn_14 (by decide) ?_
        obtain ⟨hin_15, h⟩ := h
        refine va_zast hx hb hK hP hD hS 5 2 rfl rfl hin_15 d_Md_goOn_15 (fun H locs hP hD hS => ?_)
        have hP : va_P (dC, dI) vwCl [(a_md, .inr (11, [.ref a_md_tape, .int md_size, .int md_at, .int md_token, .int md_tokenPlace, .int md_number, .int md_sign, .int md_bad, .int md_faultPlace, .int md_place, .ref a_md_acts, .ref a_md_actNumbers, .ref a_md_actCounts, .int md_bank, .int md_unaries, .int md_opens, .ref a_md_pile, .int md_piled, .int md_loop, .ref a_md_begins, .ref a_md_goals, .ref a_md_ranks, .ref a_md_choiceCounts, .ref a_md_whens, .ref a_md_becomes, .ref a_md_guessCounts, .ref a_md_guesses, .ref a_md_unaryCounts, .ref a_md_stack, .ref a_md_nexts, .ref a_md_isBegin, .ref a_md_isGoal, .ref a_md_levels, .ref a_md_queue, .ref a_md_hasGuesses, .int md_keptBits, .ref a_md_rounds, .ref a_md_marked, .ref a_md_other, .ref a_md_heights])), (a_md_nexts, .inl (cI, 24576, .inl md_nexts)), (a_md_isGoal, .inl (cZ, 4096, .inl md_isGoal)), (a_md_hasGuesses, .inl (cI, 4096, .inl md_hasGuesses)), (a_md_marked, .inl (cZ, 4096, .inl md_marked)), (a_md_other, .inl (cZ, 4096, .inl (upd md_other_2 (x2_1 : Int32).toNatClampNeg (vp_nar .boolean 0))))] H := hP
        have hD : va_D A [(a_md, .inr (11, [.ref a_md_tape, .int md_size, .int md_at, .int md_token, .int md_tokenPlace, .int md_number, .int md_sign, .int md_bad, .int md_faultPlace, .int md_place, .ref a_md_acts, .ref a_md_actNumbers, .ref a_md_actCounts, .int md_bank, .int md_unaries, .int md_opens, .ref a_md_pile, .int md_piled, .int md_loop, .ref a_md_begins, .ref a_md_goals, .ref a_md_ranks, .ref a_md_choiceCounts, .ref a_md_whens, .ref a_md_becomes, .ref a_md_guessCounts, .ref a_md_guesses, .ref a_md_unaryCounts, .ref a_md_stack, .ref a_md_nexts, .ref a_md_isBegin, .ref a_md_isGoal, .ref a_md_levels, .ref a_md_queue, .ref a_md_hasGuesses, .int md_keptBits, .ref a_md_rounds, .ref a_md_marked, .ref a_md_other, .ref a_md_heights])), (a_md_nexts, .inl (cI, 24576, .inl md_nexts)), (a_md_isGoal, .inl (cZ, 4096, .inl md_isGoal)), (a_md_hasGuesses, .inl (cI, 4096, .inl md_hasGuesses)), (a_md_marked, .inl (cZ, 4096, .inl md_marked)), (a_md_other, .inl (cZ, 4096, .inl (upd md_other_2 (x2_1 : Int32).toNatClampNeg (vp_nar .boolean 0))))] := hD
        refine lv_iinc (v := x2_1 + 1) (lv' := [(2, .int (x2_1 + 1)), (0, .ref a_md), (1, .int x1)]) hx hb d_Md_goOn_16 hl (k := 2) rfl rfl (by decide) rfl (fun ls hl => ?_)
        refine lv_goto (tgt := 2) hx hb d_Md_goOn_19 (by decide) ?_
        exact il _ _ h _ _ hP hD hS _ (lv_sub hl [1, 2, 0] rfl)
  obtain ⟨n_, h⟩ := h
  refine L2_q_3 _ ?_ n_ _ _ h _ _ hP hD hS _ (lv_sub hl [1, 2, 0] rfl)
  intro md_other_5 h H locs hP hD hS ls hl
  refine lv_iconst (v := 0) hx hb d_Md_goOn_22 (by decide) ?_
  refine lv_istore_n (lv' := [(2, .int 0), (0, .ref a_md), (1, .int x1)]) hx hb d_Md_goOn_23 rfl hl (by decide) rfl (fun ls hl => ?_)
  have L24_q_8 : ∀ (k109 : (Nat → Int32) → Prop) (hk109 : ∀ (md_other_9 : Nat → Int32), k109 md_other_9 → ∀ (H : Heap) (locs : List Loc), va_P (dC, dI) vwCl [(a_md, .inr (11, [.ref a_md_tape, .int md_size, .int md_at, .int md_token, .int md_tokenPlace, .int md_number, .int md_sign, .int md_bad, .int md_faultPlace, .int md_place, .ref a_md_acts, .ref a_md_actNumbers, .ref a_md_actCounts, .int md_bank, .int md_unaries, .int md_opens, .ref a_md_pile, .int md_piled, .int md_loop, .ref a_md_begins, .ref a_md_goals, .ref a_md_ranks, .ref a_md_choiceCounts, .ref a_md_whens, .ref a_md_becomes, .ref a_md_guessCounts, .ref a_md_guesses, .ref a_md_unaryCounts, .ref a_md_stack, .ref a_md_nexts, .ref a_md_isBegin, .ref a_md_isGoal, .ref a_md_levels, .ref a_md_queue, .ref a_md_hasGuesses, .int md_keptBits, .ref a_md_rounds, .ref a_md_marked, .ref a_md_other, .ref a_md_heights])), (a_md_nexts, .inl (cI, 24576, .inl md_nexts)), (a_md_isGoal, .inl (cZ, 4096, .inl md_isGoal)), (a_md_hasGuesses, .inl (cI, 4096, .inl md_hasGuesses)), (a_md_marked, .inl (cZ, 4096, .inl md_marked)), (a_md_other, .inl (cZ, 4096, .inl md_other_9))] H → va_D A [(a_md, .inr (11, [.ref a_md_tape, .int md_size, .int md_at, .int md_token, .int md_tokenPlace, .int md_number, .int md_sign, .int md_bad, .int md_faultPlace, .int md_place, .ref a_md_acts, .ref a_md_actNumbers, .ref a_md_actCounts, .int md_bank, .int md_unaries, .int md_opens, .ref a_md_pile, .int md_piled, .int md_loop, .ref a_md_begins, .ref a_md_goals, .ref a_md_ranks, .ref a_md_choiceCounts, .ref a_md_whens, .ref a_md_becomes, .ref a_md_guessCounts, .ref a_md_guesses, .ref a_md_unaryCounts, .ref a_md_stack, .ref a_md_nexts, .ref a_md_isBegin, .ref a_md_isGoal, .ref a_md_levels, .ref a_md_queue, .ref a_md_hasGuesses, .int md_keptBits, .ref a_md_rounds, .ref a_md_marked, .ref a_md_other, .ref a_md_heights])), (a_md_nexts, .inl (cI, 24576, .inl md_nexts)), (a_md_isGoal, .inl (cZ, 4096, .inl md_isGoal)), (a_md_hasGuesses, .inl (cI, 4096, .inl md_hasGuesses)), (a_md_marked, .inl (cZ, 4096, .inl md_marked)), (a_md_other, .inl (cZ, 4096, .inl md_other_9))] → va_S A s.heap H locs → ∀ ls : Array Slot, lv_has ls 5 [(0, .ref a_md)] → W p l e (headSpec w_Md_goOn ({ frames := 0, cells := 0, slots := 0, locals := 0 })).room s m (([.ref a_md, .int x1] : List Value).toArray) below meth c H locs 0 0 QQ (F0 m 109 ls [])) (n : Nat) (x2_6 : Int32) (md_other_7 : Nat → Int32), wp_Md_goOn_L24 x1 md_nexts md_isGoal md_hasGuesses md_marked k109 n x2_6 md_other_7 → ∀ (H : Heap) (locs : List Loc), va_P (dC, dI) vwCl [(a_md, .inr (11, [.ref a_md_tape, .int md_size, .int md_at, .int md_token, .int md_tokenPlace, .int md_number, .int md_sign, .int md_bad, .int md_faultPlace, .int md_place, .ref a_md_acts, .ref a_md_actNumbers, .ref a_md_actCounts, .int md_bank, .int md_unaries, .int md_opens, .ref a_md_pile, .int md_piled, .int md_loop, .ref a_md_begins, .ref a_md_goals, .ref a_md_ranks, .ref a_md_choiceCounts, .ref a_md_whens, .ref a_md_becomes, .ref a_md_guessCounts, .ref a_md_guesses, .ref a_md_unaryCounts, .ref a_md_stack, .ref a_md_nexts, .ref a_md_isBegin, .ref a_md_isGoal, .ref a_md_levels, .ref a_md_queue, .ref a_md_hasGuesses, .int md_keptBits, .ref a_md_rounds, .ref a_md_marked, .ref a_md_other, .ref a_md_heights])), (a_md_nexts, .inl (cI, 24576, .inl md_nexts)), (a_md_isGoal, .inl (cZ, 4096, .inl md_isGoal)), (a_md_hasGuesses, .inl (cI, 4096, .inl md_hasGuesses)), (a_md_marked, .inl (cZ, 4096, .inl md_marked)), (a_md_other, .inl (cZ, 4096, .inl md_other_7))] H → va_D A [(a_md, .inr (11, [.ref a_md_tape, .int md_size, .int md_at, .int md_token, .int md_tokenPlace, .int md_number, .int md_sign, .int md_bad, .int md_faultPlace, .int md_place, .ref a_md_acts, .ref a_md_actNumbers, .ref a_md_actCounts, .int md_bank, .int md_unaries, .int md_opens, .ref a_md_pile, .int md_piled, .int md_loop, .ref a_md_begins, .ref a_md_goals, .ref a_md_ranks, .ref a_md_choiceCounts, .ref a_md_whens, .ref a_md_becomes, .ref a_md_guessCounts, .ref a_md_guesses, .ref a_md_unaryCounts, .ref a_md_stack, .ref a_md_nexts, .ref a_md_isBegin, .ref a_md_isGoal, .ref a_md_levels, .ref a_md_queue, .ref a_md_hasGuesses, .int md_keptBits, .ref a_md_rounds, .ref a_md_marked, .ref a_md_other, .ref a_md_heights])), (a_md_nexts, .inl (cI, 24576, .inl md_nexts)), (a_md_isGoal, .inl (cZ, 4096, .inl md_isGoal)), (a_md_hasGuesses, .inl (cI, 4096, .inl md_hasGuesses)), (a_md_marked, .inl (cZ, 4096, .inl md_marked)), (a_md_other, .inl (cZ, 4096, .inl md_other_7))] → va_S A s.heap H locs → ∀ ls : Array Slot, lv_has ls 5 [(0, .ref a_md), (1, .int x1), (2, .int x2_6)] → W p l e (headSpec w_Md_goOn ({ frames := 0, cells := 0, slots := 0, locals := 0 })).room s m (([.ref a_md, .int x1] : List Value).toArray) below meth c H locs 0 0 QQ (F0 m 24 ls []) := by
    intro k109 hk109 n
    induction n with
    | zero => intro x2_6 md_other_7 h; exact (show False from h).elim
    | succ n il =>
      intro x2_6 md_other_7 h H locs hP hD hS ls hl
      refine lv_iload_n hx hb d_Md_goOn_24 rfl (lv_at hl 2 rfl) ?_
      refine lv_sipush (v := 4096) hx hb d_Md_goOn_25 (by decide) ?_
      refine lv_icmp_ge (tgt := 109) hx hb d_Md_goOn_28 (by decide) (fun c_28 => ?_) (fun c_28 => ?_)
      · have h := And.left h c_28
        exact hk109 _ h _ _ hP hD hS _ (lv_sub hl [0] rfl)
      · have h := And.right h c_28
        refine lv_iconst (v := 0) hx hb d_Md_goOn_31 (by decide) ?_
        refine lv_istore_n (lv' := [(3, .int 0), (0, .ref a_md), (1, .int x1), (2, .int x2_6)]) hx hb d_Md_goOn_32 rfl hl (by decide) rfl (fun ls hl => ?_)
        have L33_q_12 : ∀ (k103 : (Nat → Int32) → Prop) (hk103 : ∀ (md_other_13 : Nat → Int32), k103 md_other_13 → ∀ (H : Heap) (locs : List Loc), va_P (dC, dI) vwCl [(a_md, .inr (11, [.ref a_md_tape, .int md_size, .int md_at, .int md_token, .int md_tokenPlace, .int md_number, .int md_sign, .int md_bad, .int md_faultPlace, .int md_place, .ref a_md_acts, .ref a_md_actNumbers, .ref a_md_actCounts, .int md_bank, .int md_unaries, .int md_opens, .ref a_md_pile, .int md_piled, .int md_loop, .ref a_md_begins, .ref a_md_goals, .ref a_md_ranks, .ref a_md_choiceCounts, .ref a_md_whens, .ref a_md_becomes, .ref a_md_guessCounts, .ref a_md_guesses, .ref a_md_unaryCounts, .ref a_md_stack, .ref a_md_nexts, .ref a_md_isBegin, .ref a_md_isGoal, .ref a_md_levels, .ref a_md_queue, .ref a_md_hasGuesses, .int md_keptBits, .ref a_md_rounds, .ref a_md_marked, .ref a_md_other, .ref a_md_heights])), (a_md_nexts, .inl (cI, 24576, .inl md_nexts)), (a_md_isGoal, .inl (cZ, 4096, .inl md_isGoal)), (a_md_hasGuesses, .inl (cI, 4096, .inl md_hasGuesses)), (a_md_marked, .inl (cZ, 4096, .inl md_marked)), (a_md_other, .inl (cZ, 4096, .inl md_other_13))] H → va_D A [(a_md, .inr (11, [.ref a_md_tape, .int md_size, .int md_at, .int md_token, .int md_tokenPlace, .int md_number, .int md_sign, .int md_bad, .int md_faultPlace, .int md_place, .ref a_md_acts, .ref a_md_actNumbers, .ref a_md_actCounts, .int md_bank, .int md_unaries, .int md_opens, .ref a_md_pile, .int md_piled, .int md_loop, .ref a_md_begins, .ref a_md_goals, .ref a_md_ranks, .ref a_md_choiceCounts, .ref a_md_whens, .ref a_md_becomes, .ref a_md_guessCounts, .ref a_md_guesses, .ref a_md_unaryCounts, .ref a_md_stack, .ref a_md_nexts, .ref a_md_isBegin, .ref a_md_isGoal, .ref a_md_levels, .ref a_md_queue, .ref a_md_hasGuesses, .int md_keptBits, .ref a_md_rounds, .ref a_md_marked, .ref a_md_other, .ref a_md_heights])), (a_md_nexts, .inl (cI, 24576, .inl md_nexts)), (a_md_isGoal, .inl (cZ, 4096, .inl md_isGoal)), (a_md_hasGuesses, .inl (cI, 4096, .inl md_hasGuesses)), (a_md_marked, .inl (cZ, 4096, .inl md_marked)), (a_md_other, .inl (cZ, 4096, .inl md_other_13))] → va_S A s.heap H locs → ∀ ls : Array Slot, lv_has ls 5 [(0, .ref a_md), (1, .int x1), (2, .int x2_6)] → W p l e (headSpec w_Md_goOn ({ frames := 0, cells := 0, slots := 0, locals := 0 })).room s m (([.ref a_md, .int x1] : List Value).toArray) below meth c H locs 0 0 QQ (F0 m 103 ls [])) (n : Nat) (x3_10 : Int32) (md_other_11 : Nat → Int32), wp_Md_goOn_L33 x1 x2_6 md_nexts md_isGoal md_hasGuesses md_marked k103 n x3_10 md_other_11 → ∀ (H : Heap) (locs : List Loc), va_P (dC, dI) vwCl [(a_md, .inr (11, [.ref a_md_tape, .int md_size, .int md_at, .int md_token, .int md_tokenPlace, .int md_number, .int md_sign, .int md_bad, .int md_faultPlace, .int md_place, .ref a_md_acts, .ref a_md_actNumbers, .ref a_md_actCounts, .int md_bank, .int md_unaries, .int md_opens, .ref a_md_pile, .int md_piled, .int md_loop, .ref a_md_begins, .ref a_md_goals, .ref a_md_ranks, .ref a_md_choiceCounts, .ref a_md_whens, .ref a_md_becomes, .ref a_md_guessCounts, .ref a_md_guesses, .ref a_md_unaryCounts, .ref a_md_stack, .ref a_md_nexts, .ref a_md_isBegin, .ref a_md_isGoal, .ref a_md_levels, .ref a_md_queue, .ref a_md_hasGuesses, .int md_keptBits, .ref a_md_rounds, .ref a_md_marked, .ref a_md_other, .ref a_md_heights])), (a_md_nexts, .inl (cI, 24576, .inl md_nexts)), (a_md_isGoal, .inl (cZ, 4096, .inl md_isGoal)), (a_md_hasGuesses, .inl (cI, 4096, .inl md_hasGuesses)), (a_md_marked, .inl (cZ, 4096, .inl md_marked)), (a_md_other, .inl (cZ, 4096, .inl md_other_11))] H → va_D A [(a_md, .inr (11, [.ref a_md_tape, .int md_size, .int md_at, .int md_token, .int md_tokenPlace, .int md_number, .int md_sign, .int md_bad, .int md_faultPlace, .int md_place, .ref a_md_acts, .ref a_md_actNumbers, .ref a_md_actCounts, .int md_bank, .int md_unaries, .int md_opens, .ref a_md_pile, .int md_piled, .int md_loop, .ref a_md_begins, .ref a_md_goals, .ref a_md_ranks, .ref a_md_choiceCounts, .ref a_md_whens, .ref a_md_becomes, .ref a_md_guessCounts, .ref a_md_guesses, .ref a_md_unaryCounts, .ref a_md_stack, .ref a_md_nexts, .ref a_md_isBegin, .ref a_md_isGoal, .ref a_md_levels, .ref a_md_queue, .ref a_md_hasGuesses, .int md_keptBits, .ref a_md_rounds, .ref a_md_marked, .ref a_md_other, .ref a_md_heights])), (a_md_nexts, .inl (cI, 24576, .inl md_nexts)), (a_md_isGoal, .inl (cZ, 4096, .inl md_isGoal)), (a_md_hasGuesses, .inl (cI, 4096, .inl md_hasGuesses)), (a_md_marked, .inl (cZ, 4096, .inl md_marked)), (a_md_other, .inl (cZ, 4096, .inl md_other_11))] → va_S A s.heap H locs → ∀ ls : Array Slot, lv_has ls 5 [(0, .ref a_md), (1, .int x1), (2, .int x2_6), (3, .int x3_10)] → W p l e (headSpec w_Md_goOn ({ frames := 0, cells := 0, slots := 0, locals := 0 })).room s m (([.ref a_md, .int x1] : List Value).toArray) below meth c H locs 0 0 QQ (F0 m 33 ls []) := by
          intro k103 hk103 n
          induction n with
          | zero => intro x3_10 md_other_11 h; exact (show False from h).elim
          | succ n il =>
            intro x3_10 md_other_11 h H locs hP hD hS ls hl
            refine lv_iload_n hx hb d_Md_goOn_33 rfl (lv_at hl 3 rfl) ?_
            refine lv_bipush (v := 6) hx hb d_Md_goOn_34 (by decide) ?_
            refine lv_icmp_ge (tgt := 103) hx hb d_Md_goOn_36 (by decide) (fun c_36 => ?_) (fun c_36 => ?_)
            · have h := And.left h c_36
              exact hk103 _ h _ _ hP hD hS _ (lv_sub hl [0, 1, 2] rfl)
            · have h := And.right h c_36
              refine lv_aload_n hx hb d_Md_goOn_39 rfl (lv_at hl 0 rfl) ?_
              refine va_get (D := (dC, dI)) (ci := 11) (v := .ref a_md_marked) (C := "LoopInductionModel") (T := F_Md) (N := 40) hx hb hts iC_Md hown hK hP 0 rfl rfl 37 (by decide) fl_85 (fun _ h9 => h9) rfl d_Md_goOn_40 ?_
              refine lv_iload_n hx hb d_Md_goOn_43 rfl (lv_at hl 2 rfl) ?_
              obtain ⟨hin_44, h⟩ := h
              refine va_zald hx hb hK hP 4 2 rfl rfl hin_44 d_Md_goOn_44 ?_
              refine lv_if_eq (tgt := 103) hx hb d_Md_goOn_45 (by decide) (fun c_45 => ?_) (fun c_45 => ?_)
              · have h := And.left h c_45
                exact hk103 _ h _ _ hP hD hS _ (lv_sub hl [0, 1, 2] rfl)
              · have h := And.right h c_45
                refine lv_aload_n hx hb d_Md_goOn_48 rfl (lv_at hl 0 rfl) ?_
                refine va_get (D := (dC, dI)) (ci := 11) (v := .ref a_md_nexts) (C := "LoopInductionModel") (T := F_Md) (N := 40) hx hb hts iC_Md hown hK hP 0 rfl rfl 29 (by decide) fl_63 (fun _ h9 => h9) rfl d_Md_goOn_49 ?_
                refine lv_bipush (v := 6) hx hb d_Md_goOn_52 (by decide) ?_
                refine lv_iload_n hx hb d_Md_goOn_54 rfl (lv_at hl 2 rfl) ?_
                refine lv_imul hx hb d_Md_goOn_55 ?_
                refine lv_iload_n hx hb d_Md_goOn_56 rfl (lv_at hl 3 rfl) ?_
                refine lv_iadd hx hb d_Md_goOn_57 ?_
                obtain ⟨hin_58, h⟩ := h
                refine va_iald hx hb hK hP 1 0 rfl rfl hin_58 d_Md_goOn_58 ?_
                refine lv_topi (fun x4_14 ex4_14 => ?_)
                have h := h x4_14 ex4_14
                refine lv_istore (lv' := [(4, .int x4_14), (0, .ref a_md), (1, .int x1), (2, .int x2_6), (3, .int x3_10)]) hx hb d_Md_goOn_59 hl (by decide) rfl (fun ls hl => ?_)
                refine lv_iload hx hb d_Md_goOn_61 (lv_at hl 0 rfl) ?_
                refine lv_if_lt (tgt := 97) hx hb d_Md_goOn_63 (by decide) (fun c_63 => ?_) (fun c_63 => ?_)
                · have h := And.left h c_63
                  refine lv_iinc (v := x3_10 + 1) (lv' := [(3, .int (x3_10 + 1)), (4, .int x4_14), (0, .ref a_md), (1, .int x1), (2, .int x2_6)]) hx hb d_Md_goOn_97 hl (k := 4) rfl rfl (by decide) rfl (fun ls hl => ?_)
                  refine lv_goto (tgt := 33) hx hb d_Md_goOn_100 (by decide) ?_
                  exact il _ _ h _ _ hP hD hS _ (lv_sub hl [2, 3, 4, 0] rfl)
                · have h := And.right h c_63
                  refine lv_aload_n hx hb d_Md_goOn_66 rfl (lv_at hl 1 rfl) ?_
                  refine va_get (D := (dC, dI)) (ci := 11) (v := .ref a_md_isGoal) (C := "LoopInductionModel") (T := F_Md) (N := 40) hx hb hts iC_Md hown hK hP 0 rfl rfl 31 (by decide) fl_70 (fun _ h9 => h9) rfl d_Md_goOn_67 ?_
                  refine lv_iload hx hb d_Md_goOn_70 (lv_at hl 0 rfl) ?_
                  obtain ⟨hin_72, h⟩ := h
                  refine va_zald hx hb hK hP 2 2 rfl rfl hin_72 d_Md_goOn_72 ?_
                  refine lv_if_eq (tgt := 97) hx hb d_Md_goOn_73 (by decide) (fun c_73 => ?_) (fun c_73 => ?_)
                  · have h := And.left h c_73
                    refine lv_iinc (v := x3_10 + 1) (lv' := [(3, .int (x3_10 + 1)), (4, .int x4_14), (0, .ref a_md), (1, .int x1), (2, .int x2_6)]) hx hb d_Md_goOn_97 hl (k := 4) rfl rfl (by decide) rfl (fun ls hl => ?_)
                    refine lv_goto (tgt := 33) hx hb d_Md_goOn_100 (by decide) ?_
                    exact il _ _ h _ _ hP hD hS _ (lv_sub hl [2, 3, 4, 0] rfl)
                  · have h := And.right h c_73
                    refine lv_aload_n hx hb d_Md_goOn_76 rfl (lv_at hl 1 rfl) ?_
                    refine va_get (D := (dC, dI)) (ci := 11) (v := .ref a_md_hasGuesses) (C := "LoopInductionModel") (T := F_Md) (N := 40) hx hb hts iC_Md hown hK hP 0 rfl rfl 34 (by decide) fl_79 (fun _ h9 => h9) rfl d_Md_goOn_77 ?_
                    refine lv_iload hx hb d_Md_goOn_80 (lv_at hl 0 rfl) ?_
                    obtain ⟨hin_82, h⟩ := h
                    refine va_iald hx hb hK hP 3 0 rfl rfl hin_82 d_Md_goOn_82 ?_
                    refine lv_iload_n hx hb d_Md_goOn_83 rfl (lv_at hl 2 rfl) ?_
                    refine lv_iand hx hb d_Md_goOn_84 ?_
                    refine lv_iload_n hx hb d_Md_goOn_85 rfl (lv_at hl 2 rfl) ?_
                    refine lv_icmp_ne (tgt := 97) hx hb d_Md_goOn_86 (by decide) (fun c_86 => ?_) (fun c_86 => ?_)
                    · have h := And.left h c_86
                      refine lv_iinc (v := x3_10 + 1) (lv' := [(3, .int (x3_10 + 1)), (4, .int x4_14), (0, .ref a_md), (1, .int x1), (2, .int x2_6)]) hx hb d_Md_goOn_97 hl (k := 4) rfl rfl (by decide) rfl (fun ls hl => ?_)
                      refine lv_goto (tgt := 33) hx hb d_Md_goOn_100 (by decide) ?_
                      exact il _ _ h _ _ hP hD hS _ (lv_sub hl [2, 3, 4, 0] rfl)
                    · have h := And.right h c_86
                      refine lv_aload_n hx hb d_Md_goOn_89 rfl (lv_at hl 1 rfl) ?_
                      refine va_get (D := (dC, dI)) (ci := 11) (v := .ref a_md_other) (C := "LoopInductionModel") (T := F_Md) (N := 40) hx hb hts iC_Md hown hK hP 0 rfl rfl 38 (by decide) fl_88 (fun _ h9 => h9) rfl d_Md_goOn_90 ?_
                      refine lv_iload hx hb d_Md_goOn_93 (lv_at hl 0 rfl) ?_
                      refine lv_iconst (v := 1) hx hb d_Md_goOn_95 (by decide) ?_
                      obtain ⟨hin_96, h⟩ := h
                      refine va_zast hx hb hK hP hD hS 5 2 rfl rfl hin_96 d_Md_goOn_96 (fun H locs hP hD hS => ?_)
                      have hP : va_P (dC, dI) vwCl [(a_md, .inr (11, [.ref a_md_tape, .int md_size, .int md_at, .int md_token, .int md_tokenPlace, .int md_number, .int md_sign, .int md_bad, .int md_faultPlace, .int md_place, .ref a_md_acts, .ref a_md_actNumbers, .ref a_md_actCounts, .int md_bank, .int md_unaries, .int md_opens, .ref a_md_pile, .int md_piled, .int md_loop, .ref a_md_begins, .ref a_md_goals, .ref a_md_ranks, .ref a_md_choiceCounts, .ref a_md_whens, .ref a_md_becomes, .ref a_md_guessCounts, .ref a_md_guesses, .ref a_md_unaryCounts, .ref a_md_stack, .ref a_md_nexts, .ref a_md_isBegin, .ref a_md_isGoal, .ref a_md_levels, .ref a_md_queue, .ref a_md_hasGuesses, .int md_keptBits, .ref a_md_rounds, .ref a_md_marked, .ref a_md_other, .ref a_md_heights])), (a_md_nexts, .inl (cI, 24576, .inl md_nexts)), (a_md_isGoal, .inl (cZ, 4096, .inl md_isGoal)), (a_md_hasGuesses, .inl (cI, 4096, .inl md_hasGuesses)), (a_md_marked, .inl (cZ, 4096, .inl md_marked)), (a_md_other, .inl (cZ, 4096, .inl (upd md_other_11 (x4_14 : Int32).toNatClampNeg (vp_nar .boolean 1))))] H := hP
                      have hD : va_D A [(a_md, .inr (11, [.ref a_md_tape, .int md_size, .int md_at, .int md_token, .int md_tokenPlace, .int md_number, .int md_sign, .int md_bad, .int md_faultPlace, .int md_place, .ref a_md_acts, .ref a_md_actNumbers, .ref a_md_actCounts, .int md_bank, .int md_unaries, .int md_opens, .ref a_md_pile, .int md_piled, .int md_loop, .ref a_md_begins, .ref a_md_goals, .ref a_md_ranks, .ref a_md_choiceCounts, .ref a_md_whens, .ref a_md_becomes, .ref a_md_guessCounts, .ref a_md_guesses, .ref a_md_unaryCounts, .ref a_md_stack, .ref a_md_nexts, .ref a_md_isBegin, .ref a_md_isGoal, .ref a_md_levels, .ref a_md_queue, .ref a_md_hasGuesses, .int md_keptBits, .ref a_md_rounds, .ref a_md_marked, .ref a_md_other, .ref a_md_heights])), (a_md_nexts, .inl (cI, 24576, .inl md_nexts)), (a_md_isGoal, .inl (cZ, 4096, .inl md_isGoal)), (a_md_hasGuesses, .inl (cI, 4096, .inl md_hasGuesses)), (a_md_marked, .inl (cZ, 4096, .inl md_marked)), (a_md_other, .inl (cZ, 4096, .inl (upd md_other_11 (x4_14 : Int32).toNatClampNeg (vp_nar .boolean 1))))] := hD
                      refine lv_iinc (v := x3_10 + 1) (lv' := [(3, .int (x3_10 + 1)), (4, .int x4_14), (0, .ref a_md), (1, .int x1), (2, .int x2_6)]) hx hb d_Md_goOn_97 hl (k := 4) rfl rfl (by decide) rfl (fun ls hl => ?_)
                      refine lv_goto (tgt := 33) hx hb d_Md_goOn_100 (by decide) ?_
                      exact il _ _ h _ _ hP hD hS _ (lv_sub hl [2, 3, 4, 0] rfl)
        obtain ⟨n_, h⟩ := h
        refine L33_q_12 _ ?_ n_ _ _ h _ _ hP hD hS _ (lv_sub hl [1, 2, 3, 0] rfl)
        intro md_other_15 h H locs hP hD hS ls hl
        refine lv_iinc (v := x2_6 + 1) (lv' := [(2, .int (x2_6 + 1)), (0, .ref a_md), (1, .int x1)]) hx hb d_Md_goOn_103 hl (k := 2) rfl rfl (by decide) rfl (fun ls hl => ?_)
        refine lv_goto (tgt := 24) hx hb d_Md_goOn_106 (by decide) ?_
        exact il _ _ h _ _ hP hD hS _ (lv_sub hl [1, 2, 0] rfl)
  obtain ⟨n_, h⟩ := h
  refine L24_q_8 _ ?_ n_ _ _ h _ _ hP hD hS _ (lv_sub hl [1, 2, 0] rfl)
  intro md_other_16 h H locs hP hD hS ls hl
  refine lv_iconst (v := 0) hx hb d_Md_goOn_109 (by decide) ?_
  refine lv_istore_n (lv' := [(2, .int 0), (0, .ref a_md)]) hx hb d_Md_goOn_110 rfl hl (by decide) rfl (fun ls hl => ?_)
  have L111_q_19 : ∀ (k136 : (Nat → Int32) → Prop) (hk136 : ∀ (md_marked_20 : Nat → Int32), k136 md_marked_20 → ∀ (H : Heap) (locs : List Loc), va_P (dC, dI) vwCl [(a_md, .inr (11, [.ref a_md_tape, .int md_size, .int md_at, .int md_token, .int md_tokenPlace, .int md_number, .int md_sign, .int md_bad, .int md_faultPlace, .int md_place, .ref a_md_acts, .ref a_md_actNumbers, .ref a_md_actCounts, .int md_bank, .int md_unaries, .int md_opens, .ref a_md_pile, .int md_piled, .int md_loop, .ref a_md_begins, .ref a_md_goals, .ref a_md_ranks, .ref a_md_choiceCounts, .ref a_md_whens, .ref a_md_becomes, .ref a_md_guessCounts, .ref a_md_guesses, .ref a_md_unaryCounts, .ref a_md_stack, .ref a_md_nexts, .ref a_md_isBegin, .ref a_md_isGoal, .ref a_md_levels, .ref a_md_queue, .ref a_md_hasGuesses, .int md_keptBits, .ref a_md_rounds, .ref a_md_marked, .ref a_md_other, .ref a_md_heights])), (a_md_nexts, .inl (cI, 24576, .inl md_nexts)), (a_md_isGoal, .inl (cZ, 4096, .inl md_isGoal)), (a_md_hasGuesses, .inl (cI, 4096, .inl md_hasGuesses)), (a_md_marked, .inl (cZ, 4096, .inl md_marked_20)), (a_md_other, .inl (cZ, 4096, .inl md_other_16))] H → va_D A [(a_md, .inr (11, [.ref a_md_tape, .int md_size, .int md_at, .int md_token, .int md_tokenPlace, .int md_number, .int md_sign, .int md_bad, .int md_faultPlace, .int md_place, .ref a_md_acts, .ref a_md_actNumbers, .ref a_md_actCounts, .int md_bank, .int md_unaries, .int md_opens, .ref a_md_pile, .int md_piled, .int md_loop, .ref a_md_begins, .ref a_md_goals, .ref a_md_ranks, .ref a_md_choiceCounts, .ref a_md_whens, .ref a_md_becomes, .ref a_md_guessCounts, .ref a_md_guesses, .ref a_md_unaryCounts, .ref a_md_stack, .ref a_md_nexts, .ref a_md_isBegin, .ref a_md_isGoal, .ref a_md_levels, .ref a_md_queue, .ref a_md_hasGuesses, .int md_keptBits, .ref a_md_rounds, .ref a_md_marked, .ref a_md_other, .ref a_md_heights])), (a_md_nexts, .inl (cI, 24576, .inl md_nexts)), (a_md_isGoal, .inl (cZ, 4096, .inl md_isGoal)), (a_md_hasGuesses, .inl (cI, 4096, .inl md_hasGuesses)), (a_md_marked, .inl (cZ, 4096, .inl md_marked_20)), (a_md_other, .inl (cZ, 4096, .inl md_other_16))] → va_S A s.heap H locs → ∀ ls : Array Slot, lv_has ls 5 [] → W p l e (headSpec w_Md_goOn ({ frames := 0, cells := 0, slots := 0, locals := 0 })).room s m (([.ref a_md, .int x1] : List Value).toArray) below meth c H locs 0 0 QQ (F0 m 136 ls [])) (n : Nat) (x2_17 : Int32) (md_marked_18 : Nat → Int32), wp_Md_goOn_L111 md_other_16 k136 n x2_17 md_marked_18 → ∀ (H : Heap) (locs : List Loc), va_P (dC, dI) vwCl [(a_md, .inr (11, [.ref a_md_tape, .int md_size, .int md_at, .int md_token, .int md_tokenPlace, .int md_number, .int md_sign, .int md_bad, .int md_faultPlace, .int md_place, .ref a_md_acts, .ref a_md_actNumbers, .ref a_md_actCounts, .int md_bank, .int md_unaries, .int md_opens, .ref a_md_pile, .int md_piled, .int md_loop, .ref a_md_begins, .ref a_md_goals, .ref a_md_ranks, .ref a_md_choiceCounts, .ref a_md_whens, .ref a_md_becomes, .ref a_md_guessCounts, .ref a_md_guesses, .ref a_md_unaryCounts, .ref a_md_stack, .ref a_md_nexts, .ref a_md_isBegin, .ref a_md_isGoal, .ref a_md_levels, .ref a_md_queue, .ref a_md_hasGuesses, .int md_keptBits, .ref a_md_rounds, .ref a_md_marked, .ref a_md_other, .ref a_md_heights])), (a_md_nexts, .inl (cI, 24576, .inl md_nexts)), (a_md_isGoal, .inl (cZ, 4096, .inl md_isGoal)), (a_md_hasGuesses, .inl (cI, 4096, .inl md_hasGuesses)), (a_md_marked, .inl (cZ, 4096, .inl md_marked_18)), (a_md_other, .inl (cZ, 4096, .inl md_other_16))] H → va_D A [(a_md, .inr (11, [.ref a_md_tape, .int md_size, .int md_at, .int md_token, .int md_tokenPlace, .int md_number, .int md_sign, .int md_bad, .int md_faultPlace, .int md_place, .ref a_md_acts, .ref a_md_actNumbers, .ref a_md_actCounts, .int md_bank, .int md_unaries, .int md_opens, .ref a_md_pile, .int md_piled, .int md_loop, .ref a_md_begins, .ref a_md_goals, .ref a_md_ranks, .ref a_md_choiceCounts, .ref a_md_whens, .ref a_md_becomes, .ref a_md_guessCounts, .ref a_md_guesses, .ref a_md_unaryCounts, .ref a_md_stack, .ref a_md_nexts, .ref a_md_isBegin, .ref a_md_isGoal, .ref a_md_levels, .ref a_md_queue, .ref a_md_hasGuesses, .int md_keptBits, .ref a_md_rounds, .ref a_md_marked, .ref a_md_other, .ref a_md_heights])), (a_md_nexts, .inl (cI, 24576, .inl md_nexts)), (a_md_isGoal, .inl (cZ, 4096, .inl md_isGoal)), (a_md_hasGuesses, .inl (cI, 4096, .inl md_hasGuesses)), (a_md_marked, .inl (cZ, 4096, .inl md_marked_18)), (a_md_other, .inl (cZ, 4096, .inl md_other_16))] → va_S A s.heap H locs → ∀ ls : Array Slot, lv_has ls 5 [(0, .ref a_md), (2, .int x2_17)] → W p l e (headSpec w_Md_goOn ({ frames := 0, cells := 0, slots := 0, locals := 0 })).room s m (([.ref a_md, .int x1] : List Value).toArray) below meth c H locs 0 0 QQ (F0 m 111 ls []) := by
    intro k136 hk136 n
    induction n with
    | zero => intro x2_17 md_marked_18 h; exact (show False from h).elim
    | succ n il =>
      intro x2_17 md_marked_18 h H locs hP hD hS ls hl
      refine lv_iload_n hx hb d_Md_goOn_111 rfl (lv_at hl 1 rfl) ?_
      refine lv_sipush (v := 4096) hx hb d_Md_goOn_112 (by decide) ?_
      refine lv_icmp_ge (tgt := 136) hx hb d_Md_goOn_115 (by decide) (fun c_115 => ?_) (fun c_115 => ?_)
      · have h := And.left h c_115
        exact hk136 _ h _ _ hP hD hS _ (lv_sub hl [] rfl)
      · have h := And.right h c_115
        refine lv_aload_n hx hb d_Md_goOn_118 rfl (lv_at hl 0 rfl) ?_
        refine va_get (D := (dC, dI)) (ci := 11) (v := .ref a_md_marked) (C := "LoopInductionModel") (T := F_Md) (N := 40) hx hb hts iC_Md hown hK hP 0 rfl rfl 37 (by decide) fl_85 (fun _ h9 => h9) rfl d_Md_goOn_119 ?_
        refine lv_iload_n hx hb d_Md_goOn_122 rfl (lv_at hl 1 rfl) ?_
        refine lv_aload_n hx hb d_Md_goOn_123 rfl (lv_at hl 0 rfl) ?_
        refine va_get (D := (dC, dI)) (ci := 11) (v := .ref a_md_other) (C := "LoopInductionModel") (T := F_Md) (N := 40) hx hb hts iC_Md hown hK hP 0 rfl rfl 38 (by decide) fl_88 (fun _ h9 => h9) rfl d_Md_goOn_124 ?_
        refine lv_iload_n hx hb d_Md_goOn_127 rfl (lv_at hl 1 rfl) ?_
        obtain ⟨hin_128, h⟩ := h
        refine va_zald hx hb hK hP 5 2 rfl rfl hin_128 d_Md_goOn_128 ?_
        obtain ⟨hin_129, h⟩ := h
        refine va_zast hx hb hK hP hD hS 4 2 rfl rfl hin_129 d_Md_goOn_129 (fun H locs hP hD hS => ?_)
        have hP : va_P (dC, dI) vwCl [(a_md, .inr (11, [.ref a_md_tape, .int md_size, .int md_at, .int md_token, .int md_tokenPlace, .int md_number, .int md_sign, .int md_bad, .int md_faultPlace, .int md_place, .ref a_md_acts, .ref a_md_actNumbers, .ref a_md_actCounts, .int md_bank, .int md_unaries, .int md_opens, .ref a_md_pile, .int md_piled, .int md_loop, .ref a_md_begins, .ref a_md_goals, .ref a_md_ranks, .ref a_md_choiceCounts, .ref a_md_whens, .ref a_md_becomes, .ref a_md_guessCounts, .ref a_md_guesses, .ref a_md_unaryCounts, .ref a_md_stack, .ref a_md_nexts, .ref a_md_isBegin, .ref a_md_isGoal, .ref a_md_levels, .ref a_md_queue, .ref a_md_hasGuesses, .int md_keptBits, .ref a_md_rounds, .ref a_md_marked, .ref a_md_other, .ref a_md_heights])), (a_md_nexts, .inl (cI, 24576, .inl md_nexts)), (a_md_isGoal, .inl (cZ, 4096, .inl md_isGoal)), (a_md_hasGuesses, .inl (cI, 4096, .inl md_hasGuesses)), (a_md_marked, .inl (cZ, 4096, .inl (upd md_marked_18 (x2_17 : Int32).toNatClampNeg (vp_nar .boolean (md_other_16 (x2_17 : Int32).toNatClampNeg))))), (a_md_other, .inl (cZ, 4096, .inl md_other_16))] H := hP
        have hD : va_D A [(a_md, .inr (11, [.ref a_md_tape, .int md_size, .int md_at, .int md_token, .int md_tokenPlace, .int md_number, .int md_sign, .int md_bad, .int md_faultPlace, .int md_place, .ref a_md_acts, .ref a_md_actNumbers, .ref a_md_actCounts, .int md_bank, .int md_unaries, .int md_opens, .ref a_md_pile, .int md_piled, .int md_loop, .ref a_md_begins, .ref a_md_goals, .ref a_md_ranks, .ref a_md_choiceCounts, .ref a_md_whens, .ref a_md_becomes, .ref a_md_guessCounts, .ref a_md_guesses, .ref a_md_unaryCounts, .ref a_md_stack, .ref a_md_nexts, .ref a_md_isBegin, .ref a_md_isGoal, .ref a_md_levels, .ref a_md_queue, .ref a_md_hasGuesses, .int md_keptBits, .ref a_md_rounds, .ref a_md_marked, .ref a_md_other, .ref a_md_heights])), (a_md_nexts, .inl (cI, 24576, .inl md_nexts)), (a_md_isGoal, .inl (cZ, 4096, .inl md_isGoal)), (a_md_hasGuesses, .inl (cI, 4096, .inl md_hasGuesses)), (a_md_marked, .inl (cZ, 4096, .inl (upd md_marked_18 (x2_17 : Int32).toNatClampNeg (vp_nar .boolean (md_other_16 (x2_17 : Int32).toNatClampNeg))))), (a_md_other, .inl (cZ, 4096, .inl md_other_16))] := hD
        refine lv_iinc (v := x2_17 + 1) (lv' := [(2, .int (x2_17 + 1)), (0, .ref a_md)]) hx hb d_Md_goOn_130 hl (k := 1) rfl rfl (by decide) rfl (fun ls hl => ?_)
        refine lv_goto (tgt := 111) hx hb d_Md_goOn_133 (by decide) ?_
        exact il _ _ h _ _ hP hD hS _ (lv_sub hl [1, 0] rfl)
  obtain ⟨n_, h⟩ := h
  refine L111_q_19 _ ?_ n_ _ _ h _ _ hP hD hS _ (lv_sub hl [1, 0] rfl)
  intro md_marked_21 h H locs hP hD hS ls hl
  subst hQ
  have hP9 := hP
  have hD9 := hD
  exact W.vret hx hb hr (fun t ht hW => ⟨⟨(md_marked_21, md_other_16), rfl, h, by rw [ht]; exact hP9, va_K.moved hW.alike hK, hD9⟩, hS.F ht⟩) hS.2.2 d_Md_goOn_136
def wp_Md_induction_L34 (x2 : Int32) (md_isGoal : Nat → Int32) (md_hasGuesses : Nat → Int32) (k79 : (Nat → Int32) → Prop) : Nat → Int32 → (Nat → Int32) → Prop
  | 0, _, _ => False
  | n + 1, x3, md_marked =>
    (((4096 : Int32) ≤ (x3 : Int32) → k79 md_marked) ∧ (¬ (4096 : Int32) ≤ (x3 : Int32) → (vp_in x3 4096 ∧ (((md_isGoal (x3 : Int32).toNatClampNeg : Int32) = 0 → (vp_in x3 4096 ∧ wp_Md_induction_L34 x2 md_isGoal md_hasGuesses k79 n (x3 + 1) (upd md_marked (x3 : Int32).toNatClampNeg (vp_nar .boolean 0)))) ∧ (¬ (md_isGoal (x3 : Int32).toNatClampNeg : Int32) = 0 → (vp_in x3 4096 ∧ ((¬ ((md_hasGuesses (x3 : Int32).toNatClampNeg) &&& x2 : Int32) = (x2 : Int32) → (vp_in x3 4096 ∧ wp_Md_induction_L34 x2 md_isGoal md_hasGuesses k79 n (x3 + 1) (upd md_marked (x3 : Int32).toNatClampNeg (vp_nar .boolean 0)))) ∧ (((md_hasGuesses (x3 : Int32).toNatClampNeg) &&& x2 : Int32) = (x2 : Int32) → (vp_in x3 4096 ∧ wp_Md_induction_L34 x2 md_isGoal md_hasGuesses k79 n (x3 + 1) (upd md_marked (x3 : Int32).toNatClampNeg (vp_nar .boolean 1)))))))))))
def wp_Md_induction_L93 (x2 : Int32) (x3 : Int32) (md_isGoal : Nat → Int32) (md_levels : Nat → Int32) (k150 : Int32 → Prop) : Nat → Int32 → Int32 → Prop
  | 0, _, _ => False
  | n + 1, x4, x5 =>
    (((4096 : Int32) ≤ (x5 : Int32) → k150 x4) ∧ (¬ (4096 : Int32) ≤ (x5 : Int32) → (((x4 : Int32) = 0 → k150 x4) ∧ (¬ (x4 : Int32) = 0 → (vp_in x5 4096 ∧ (((md_levels (x5 : Int32).toNatClampNeg : Int32) < 0 → wp_Md_induction_L93 x2 x3 md_isGoal md_levels k150 n 1 (x5 + 1)) ∧ (¬ (md_levels (x5 : Int32).toNatClampNeg : Int32) < 0 → (vp_in x5 4096 ∧ (((x3 : Int32) ≤ (md_levels (x5 : Int32).toNatClampNeg : Int32) → wp_Md_induction_L93 x2 x3 md_isGoal md_levels k150 n 1 (x5 + 1)) ∧ (¬ (x3 : Int32) ≤ (md_levels (x5 : Int32).toNatClampNeg : Int32) → (vp_in x5 4096 ∧ (((md_isGoal (x5 : Int32).toNatClampNeg : Int32) = 0 → wp_Md_induction_L93 x2 x3 md_isGoal md_levels k150 n 0 (x5 + 1)) ∧ (¬ (md_isGoal (x5 : Int32).toNatClampNeg : Int32) = 0 → wp_Md_induction_L93 x2 x3 md_isGoal md_levels k150 n 1 (x5 + 1))))))))))))))
def wp_Md_induction_L169 (x2 : Int32) (x3 : Int32) (x5 : Int32) (md_nexts : Nat → Int32) (md_isGoal : Nat → Int32) (md_marked : Nat → Int32) (k234 : Int32 → Prop) : Nat → Int32 → Int32 → Prop
  | 0, _, _ => False
  | n + 1, x4, x6 =>
    (((6 : Int32) ≤ (x6 : Int32) → k234 x4) ∧ (¬ (6 : Int32) ≤ (x6 : Int32) → (vp_in x5 4096 ∧ (((md_marked (x5 : Int32).toNatClampNeg : Int32) = 0 → k234 x4) ∧ (¬ (md_marked (x5 : Int32).toNatClampNeg : Int32) = 0 → (vp_in ((6 * x5) + x6) 24576 ∧ (∀ x7_1 : Int32, x7_1 = (md_nexts ((6 * x5) + x6 : Int32).toNatClampNeg) → (((x4 : Int32) = 0 → wp_Md_induction_L169 x2 x3 x5 md_nexts md_isGoal md_marked k234 n 0 (x6 + 1)) ∧ (¬ (x4 : Int32) = 0 → (((x7_1 : Int32) < 0 → wp_Md_induction_L169 x2 x3 x5 md_nexts md_isGoal md_marked k234 n 1 (x6 + 1)) ∧ (¬ (x7_1 : Int32) < 0 → (vp_in x7_1 4096 ∧ (((md_isGoal (x7_1 : Int32).toNatClampNeg : Int32) = 0 → wp_Md_induction_L169 x2 x3 x5 md_nexts md_isGoal md_marked k234 n 0 (x6 + 1)) ∧ (¬ (md_isGoal (x7_1 : Int32).toNatClampNeg : Int32) = 0 → wp_Md_induction_L169 x2 x3 x5 md_nexts md_isGoal md_marked k234 n 1 (x6 + 1)))))))))))))))
def wp_Md_induction_L153 (x2 : Int32) (x3 : Int32) (md_nexts : Nat → Int32) (md_isGoal : Nat → Int32) (md_marked : Nat → Int32) (k240 : Int32 → Prop) : Nat → Int32 → Int32 → Prop
  | 0, _, _ => False
  | n + 1, x4, x5 =>
    (((4096 : Int32) ≤ (x5 : Int32) → k240 x4) ∧ (¬ (4096 : Int32) ≤ (x5 : Int32) → (((x4 : Int32) = 0 → k240 x4) ∧ (¬ (x4 : Int32) = 0 → ∃ n_3, wp_Md_induction_L169 x2 x3 x5 md_nexts md_isGoal md_marked (fun x4_2 => wp_Md_induction_L153 x2 x3 md_nexts md_isGoal md_marked k240 n x4_2 (x5 + 1)) n_3 x4 0))))
def wp_Md_induction_L81 (x2 : Int32) (md_nexts : Nat → Int32) (md_isGoal : Nat → Int32) (md_levels : Nat → Int32) (md_hasGuesses : Nat → Int32) (k258 : (Nat → Int32) → (Nat → Int32) → Prop) (k245 : Int32 → (Nat → Int32) → (Nat → Int32) → Prop) : Nat → Int32 → (Nat → Int32) → (Nat → Int32) → Prop
  | 0, _, _, _ => False
  | n + 1, x3, md_marked, md_other =>
    (((16 : Int32) < (x3 : Int32) → k258 md_marked md_other) ∧ (¬ (16 : Int32) < (x3 : Int32) → ∃ n_8, wp_Md_induction_L93 x2 x3 md_isGoal md_levels (fun x4_1 => ∃ n_7, wp_Md_induction_L153 x2 x3 md_nexts md_isGoal md_marked (fun x4_4 => (((x4_4 : Int32) = 0 → wp_Md_goOn x2 md_nexts md_isGoal md_hasGuesses md_marked md_other (fun md_marked_5 md_other_6 => wp_Md_induction_L81 x2 md_nexts md_isGoal md_levels md_hasGuesses k258 k245 n (x3 + 1) md_marked_5 md_other_6)) ∧ (¬ (x4_4 : Int32) = 0 → k245 x3 md_marked md_other))) n_7 x4_1 0) n_8 1 0))
def wp_Md_induction (x1 : Int32) (md_loop : Int32) (md_keptBits : Int32) (md_nexts : Nat → Int32) (md_isGoal : Nat → Int32) (md_levels : Nat → Int32) (md_hasGuesses : Nat → Int32) (md_marked : Nat → Int32) (md_other : Nat → Int32) (post : Int32 → (Nat → Int32) → (Nat → Int32) → Prop) : Prop :=
  (((md_loop : Int32) < 0 → post (-1) md_marked md_other) ∧ (¬ (md_loop : Int32) < 0 → (((x1 : Int32) < 0 → post (-1) md_marked md_other) ∧ (¬ (x1 : Int32) < 0 → (((x1 : Int32) ≤ (1 : Int32) → ((¬ (x1 : Int32) = (1 : Int32) → ∃ n_15, wp_Md_induction_L34 0 md_isGoal md_hasGuesses (fun md_marked_1 => ∃ n_14, wp_Md_induction_L81 0 md_nexts md_isGoal md_levels md_hasGuesses (fun md_marked_9 md_other_10 => post 0 md_marked_9 md_other_10) (fun x3_11 md_marked_12 md_other_13 => post x3_11 md_marked_12 md_other_13) n_14 1 md_marked_1 md_other) n_15 0 md_marked) ∧ ((x1 : Int32) = (1 : Int32) → ∃ n_23, wp_Md_induction_L34 md_keptBits md_isGoal md_hasGuesses (fun md_marked_16 => ∃ n_22, wp_Md_induction_L81 md_keptBits md_nexts md_isGoal md_levels md_hasGuesses (fun md_marked_17 md_other_18 => post 0 md_marked_17 md_other_18) (fun x3_19 md_marked_20 md_other_21 => post x3_19 md_marked_20 md_other_21) n_22 1 md_marked_16 md_other) n_23 0 md_marked))) ∧ (¬ (x1 : Int32) ≤ (1 : Int32) → post (-1) md_marked md_other))))))
set_option maxHeartbeats 4000000 in
set_option maxRecDepth 100000 in
theorem c_Md_induction (l : Launch) (dC : Nat → ClassId) (dI : Nat → Nat → Nat) (cI cB cZ : ClassId) (adK adV : Nat → Nat) (sz : Nat) (a_md a_md_tape a_md_acts a_md_actNumbers a_md_actCounts a_md_pile a_md_begins a_md_goals a_md_ranks a_md_choiceCounts a_md_whens a_md_becomes a_md_guessCounts a_md_guesses a_md_unaryCounts a_md_stack a_md_nexts a_md_isBegin a_md_isGoal a_md_levels a_md_queue a_md_hasGuesses a_md_rounds a_md_marked a_md_other a_md_heights : Nat) (md_size : Int32) (md_at : Int32) (md_token : Int32) (md_tokenPlace : Int32) (md_number : Int32) (md_sign : Int32) (md_bad : Int32) (md_faultPlace : Int32) (md_place : Int32) (md_bank : Int32) (md_unaries : Int32) (md_opens : Int32) (md_piled : Int32) (md_loop : Int32) (md_keptBits : Int32) (md_nexts : Nat → Int32) (md_isGoal : Nat → Int32) (md_levels : Nat → Int32) (md_hasGuesses : Nat → Int32) (md_marked : Nat → Int32) (md_other : Nat → Int32) (x1 : Int32) (post : Int32 → (Nat → Int32) → (Nat → Int32) → Prop) (h : wp_Md_induction x1 md_loop md_keptBits md_nexts md_isGoal md_levels md_hasGuesses md_marked md_other post) : Met l y_Md_induction w_Md_induction ({ frames := 1, cells := 0, slots := 0, locals := 24 }) (pc_ (dC, dI) [(cI, .int), (cB, .byte), (cZ, .boolean)] [(a_md, .inr (11, [.ref a_md_tape, .int md_size, .int md_at, .int md_token, .int md_tokenPlace, .int md_number, .int md_sign, .int md_bad, .int md_faultPlace, .int md_place, .ref a_md_acts, .ref a_md_actNumbers, .ref a_md_actCounts, .int md_bank, .int md_unaries, .int md_opens, .ref a_md_pile, .int md_piled, .int md_loop, .ref a_md_begins, .ref a_md_goals, .ref a_md_ranks, .ref a_md_choiceCounts, .ref a_md_whens, .ref a_md_becomes, .ref a_md_guessCounts, .ref a_md_guesses, .ref a_md_unaryCounts, .ref a_md_stack, .ref a_md_nexts, .ref a_md_isBegin, .ref a_md_isGoal, .ref a_md_levels, .ref a_md_queue, .ref a_md_hasGuesses, .int md_keptBits, .ref a_md_rounds, .ref a_md_marked, .ref a_md_other, .ref a_md_heights])), (a_md_nexts, .inl (cI, 24576, .inl md_nexts)), (a_md_isGoal, .inl (cZ, 4096, .inl md_isGoal)), (a_md_levels, .inl (cI, 4096, .inl md_levels)), (a_md_hasGuesses, .inl (cI, 4096, .inl md_hasGuesses)), (a_md_marked, .inl (cZ, 4096, .inl md_marked)), (a_md_other, .inl (cZ, 4096, .inl md_other))] sz adK adV [.ref a_md, .int x1]) (va_Qi (fun (r : Int32) (u : (Nat → Int32) × (Nat → Int32)) => post r u.1 u.2) (fun (u : (Nat → Int32) × (Nat → Int32)) t => bw_ (dC, dI) [(cI, .int), (cB, .byte), (cZ, .boolean)] (va_A [(a_md, .inr (11, [.ref a_md_tape, .int md_size, .int md_at, .int md_token, .int md_tokenPlace, .int md_number, .int md_sign, .int md_bad, .int md_faultPlace, .int md_place, .ref a_md_acts, .ref a_md_actNumbers, .ref a_md_actCounts, .int md_bank, .int md_unaries, .int md_opens, .ref a_md_pile, .int md_piled, .int md_loop, .ref a_md_begins, .ref a_md_goals, .ref a_md_ranks, .ref a_md_choiceCounts, .ref a_md_whens, .ref a_md_becomes, .ref a_md_guessCounts, .ref a_md_guesses, .ref a_md_unaryCounts, .ref a_md_stack, .ref a_md_nexts, .ref a_md_isBegin, .ref a_md_isGoal, .ref a_md_levels, .ref a_md_queue, .ref a_md_hasGuesses, .int md_keptBits, .ref a_md_rounds, .ref a_md_marked, .ref a_md_other, .ref a_md_heights])), (a_md_nexts, .inl (cI, 24576, .inl md_nexts)), (a_md_isGoal, .inl (cZ, 4096, .inl md_isGoal)), (a_md_levels, .inl (cI, 4096, .inl md_levels)), (a_md_hasGuesses, .inl (cI, 4096, .inl md_hasGuesses)), (a_md_marked, .inl (cZ, 4096, .inl md_marked)), (a_md_other, .inl (cZ, 4096, .inl md_other))] sz) [(a_md, .inr (11, [.ref a_md_tape, .int md_size, .int md_at, .int md_token, .int md_tokenPlace, .int md_number, .int md_sign, .int md_bad, .int md_faultPlace, .int md_place, .ref a_md_acts, .ref a_md_actNumbers, .ref a_md_actCounts, .int md_bank, .int md_unaries, .int md_opens, .ref a_md_pile, .int md_piled, .int md_loop, .ref a_md_begins, .ref a_md_goals, .ref a_md_ranks, .ref a_md_choiceCounts, .ref a_md_whens, .ref a_md_becomes, .ref a_md_guessCounts, .ref a_md_guesses, .ref a_md_unaryCounts, .ref a_md_stack, .ref a_md_nexts, .ref a_md_isBegin, .ref a_md_isGoal, .ref a_md_levels, .ref a_md_queue, .ref a_md_hasGuesses, .int md_keptBits, .ref a_md_rounds, .ref a_md_marked, .ref a_md_other, .ref a_md_heights])), (a_md_nexts, .inl (cI, 24576, .inl md_nexts)), (a_md_isGoal, .inl (cZ, 4096, .inl md_isGoal)), (a_md_levels, .inl (cI, 4096, .inl md_levels)), (a_md_hasGuesses, .inl (cI, 4096, .inl md_hasGuesses)), (a_md_marked, .inl (cZ, 4096, .inl u.1)), (a_md_other, .inl (cZ, 4096, .inl u.2))] t) (va_A [(a_md, .inr (11, [.ref a_md_tape, .int md_size, .int md_at, .int md_token, .int md_tokenPlace, .int md_number, .int md_sign, .int md_bad, .int md_faultPlace, .int md_place, .ref a_md_acts, .ref a_md_actNumbers, .ref a_md_actCounts, .int md_bank, .int md_unaries, .int md_opens, .ref a_md_pile, .int md_piled, .int md_loop, .ref a_md_begins, .ref a_md_goals, .ref a_md_ranks, .ref a_md_choiceCounts, .ref a_md_whens, .ref a_md_becomes, .ref a_md_guessCounts, .ref a_md_guesses, .ref a_md_unaryCounts, .ref a_md_stack, .ref a_md_nexts, .ref a_md_isBegin, .ref a_md_isGoal, .ref a_md_levels, .ref a_md_queue, .ref a_md_hasGuesses, .int md_keptBits, .ref a_md_rounds, .ref a_md_marked, .ref a_md_other, .ref a_md_heights])), (a_md_nexts, .inl (cI, 24576, .inl md_nexts)), (a_md_isGoal, .inl (cZ, 4096, .inl md_isGoal)), (a_md_levels, .inl (cI, 4096, .inl md_levels)), (a_md_hasGuesses, .inl (cI, 4096, .inl md_hasGuesses)), (a_md_marked, .inl (cZ, 4096, .inl md_marked)), (a_md_other, .inl (cZ, 4096, .inl md_other))] sz)) 0 0 (va_A [(a_md, .inr (11, [.ref a_md_tape, .int md_size, .int md_at, .int md_token, .int md_tokenPlace, .int md_number, .int md_sign, .int md_bad, .int md_faultPlace, .int md_place, .ref a_md_acts, .ref a_md_actNumbers, .ref a_md_actCounts, .int md_bank, .int md_unaries, .int md_opens, .ref a_md_pile, .int md_piled, .int md_loop, .ref a_md_begins, .ref a_md_goals, .ref a_md_ranks, .ref a_md_choiceCounts, .ref a_md_whens, .ref a_md_becomes, .ref a_md_guessCounts, .ref a_md_guesses, .ref a_md_unaryCounts, .ref a_md_stack, .ref a_md_nexts, .ref a_md_isBegin, .ref a_md_isGoal, .ref a_md_levels, .ref a_md_queue, .ref a_md_hasGuesses, .int md_keptBits, .ref a_md_rounds, .ref a_md_marked, .ref a_md_other, .ref a_md_heights])), (a_md_nexts, .inl (cI, 24576, .inl md_nexts)), (a_md_isGoal, .inl (cZ, 4096, .inl md_isGoal)), (a_md_levels, .inl (cI, 4096, .inl md_levels)), (a_md_hasGuesses, .inl (cI, 4096, .inl md_hasGuesses)), (a_md_marked, .inl (cZ, 4096, .inl md_marked)), (a_md_other, .inl (cZ, 4096, .inl md_other))] sz) := by
  refine Met.ofW (cc := b_Md_induction) (maxL := 8) (ret := (some .int)) (by decide) rfl ?_
  intro p e s m args below meth c s₁ B hml hv
  obtain ⟨rfl, hsz, hP, hK, hD0, hN, hT⟩ := hv
  have hx := B.exec
  have hb := B.bytes
  have hr := B.returns
  have hts := atoms_spec (ws := w_Md_induction) B.pre
  have hown : s.vm.findClass "LoopInductionModel" = some m.cls := findClass_of_methodNamed B.named
  have hlocks := B.notSynchronized
  subst hsz
  have hD := hD0.self (sz := s.heap.size)
  generalize hAe : va_A [(a_md, .inr (11, [.ref a_md_tape, .int md_size, .int md_at, .int md_token, .int md_tokenPlace, .int md_number, .int md_sign, .int md_bad, .int md_faultPlace, .int md_place, .ref a_md_acts, .ref a_md_actNumbers, .ref a_md_actCounts, .int md_bank, .int md_unaries, .int md_opens, .ref a_md_pile, .int md_piled, .int md_loop, .ref a_md_begins, .ref a_md_goals, .ref a_md_ranks, .ref a_md_choiceCounts, .ref a_md_whens, .ref a_md_becomes, .ref a_md_guessCounts, .ref a_md_guesses, .ref a_md_unaryCounts, .ref a_md_stack, .ref a_md_nexts, .ref a_md_isBegin, .ref a_md_isGoal, .ref a_md_levels, .ref a_md_queue, .ref a_md_hasGuesses, .int md_keptBits, .ref a_md_rounds, .ref a_md_marked, .ref a_md_other, .ref a_md_heights])), (a_md_nexts, .inl (cI, 24576, .inl md_nexts)), (a_md_isGoal, .inl (cZ, 4096, .inl md_isGoal)), (a_md_levels, .inl (cI, 4096, .inl md_levels)), (a_md_hasGuesses, .inl (cI, 4096, .inl md_hasGuesses)), (a_md_marked, .inl (cZ, 4096, .inl md_marked)), (a_md_other, .inl (cZ, 4096, .inl md_other))] s.heap.size = A at hD hT ⊢
  have hA : ∀ q : Nat, s.heap.size ≤ q → A q := fun q h => by rw [← hAe]; exact Or.inr h
  have hS : va_S A s.heap s.heap [] := va_S.rf
  generalize hQ : MQ below _ _ s 0 0 _ = QQ
  have hl := lv_entry ([.ref a_md, .int x1]) (n := 8) (Nat.le_of_ble_eq_true rfl)
  rw [lg_entry_eq]
  generalize (lg_sl ([.ref a_md, .int x1]) ++ List.replicate (8 - (lg_sl ([.ref a_md, .int x1])).length) Slot.unset).toArray = ls at hl ⊢
  have hl : lv_has ls 8 [(0, .ref a_md), (1, .int x1)] := hl
  have fl_30 := (hts _ (List.mem_cons_of_mem _ m_1108))
  have fl_63 := (hts _ (List.mem_cons_of_mem _ m_1119))
  have fl_70 := (hts _ (List.mem_cons_of_mem _ m_1121))
  have fl_73 := (hts _ (List.mem_cons_of_mem _ m_1122))
  have fl_79 := (hts _ (List.mem_cons_of_mem _ m_1124))
  have fl_85 := (hts _ (List.mem_cons_of_mem _ m_1127))
  have fl_264 := (hts _ (List.mem_cons_of_mem _ m_1125))
  refine lv_aload_n hx hb d_Md_induction_0 rfl (lv_at hl 0 rfl) ?_
  refine va_get (D := (dC, dI)) (ci := 11) (v := .int md_loop) (C := "LoopInductionModel") (T := F_Md) (N := 40) hx hb hts iC_Md hown hK hP 0 rfl rfl 18 (by decide) fl_30 (fun _ h9 => h9) rfl d_Md_induction_1 ?_
  refine lv_if_lt (tgt := 16) hx hb d_Md_induction_4 (by decide) (fun c_4 => ?_) (fun c_4 => ?_)
  · have h := And.left h c_4
    refine lv_iconst (v := (-1)) hx hb d_Md_induction_16 (by decide) ?_
    subst hQ
    have hP9 := hP
    have hD9 := hD
    exact W.iret (v := (-1)) hx hb hr (fun t ht hW => ⟨⟨(-1), (md_marked, md_other), rfl, h, by rw [ht]; exact hP9, va_K.moved hW.alike hK, hD9⟩, hS.F ht⟩) hS.2.2 d_Md_induction_17
  · have h := And.right h c_4
    refine lv_iload_n hx hb d_Md_induction_7 rfl (lv_at hl 1 rfl) ?_
    refine lv_if_lt (tgt := 16) hx hb d_Md_induction_8 (by decide) (fun c_8 => ?_) (fun c_8 => ?_)
    · have h := And.left h c_8
      refine lv_iconst (v := (-1)) hx hb d_Md_induction_16 (by decide) ?_
      subst hQ
      have hP9 := hP
      have hD9 := hD
      exact W.iret (v := (-1)) hx hb hr (fun t ht hW => ⟨⟨(-1), (md_marked, md_other), rfl, h, by rw [ht]; exact hP9, va_K.moved hW.alike hK, hD9⟩, hS.F ht⟩) hS.2.2 d_Md_induction_17
    · have h := And.right h c_8
      refine lv_iload_n hx hb d_Md_induction_11 rfl (lv_at hl 1 rfl) ?_
      refine lv_iconst (v := 1) hx hb d_Md_induction_12 (by decide) ?_
      refine lv_icmp_le (tgt := 18) hx hb d_Md_induction_13 (by decide) (fun c_13 => ?_) (fun c_13 => ?_)
      · have h := And.left h c_13
        refine lv_iload_n hx hb d_Md_induction_18 rfl (lv_at hl 1 rfl) ?_
        refine lv_iconst (v := 1) hx hb d_Md_induction_19 (by decide) ?_
        refine lv_icmp_ne (tgt := 30) hx hb d_Md_induction_20 (by decide) (fun c_20 => ?_) (fun c_20 => ?_)
        · have h := And.left h c_20
          refine lv_iconst (v := 0) hx hb d_Md_induction_30 (by decide) ?_
          refine lv_istore_n (lv' := [(2, .int 0), (0, .ref a_md), (1, .int x1)]) hx hb d_Md_induction_31 rfl hl (by decide) rfl (fun ls hl => ?_)
          refine lv_iconst (v := 0) hx hb d_Md_induction_32 (by decide) ?_
          refine lv_istore_n (lv' := [(3, .int 0), (2, .int 0), (0, .ref a_md), (1, .int x1)]) hx hb d_Md_induction_33 rfl hl (by decide) rfl (fun ls hl => ?_)
          have L34_q_3 : ∀ (k79 : (Nat → Int32) → Prop) (hk79 : ∀ (md_marked_4 : Nat → Int32), k79 md_marked_4 → ∀ (H : Heap) (locs : List Loc), va_P (dC, dI) vwCl [(a_md, .inr (11, [.ref a_md_tape, .int md_size, .int md_at, .int md_token, .int md_tokenPlace, .int md_number, .int md_sign, .int md_bad, .int md_faultPlace, .int md_place, .ref a_md_acts, .ref a_md_actNumbers, .ref a_md_actCounts, .int md_bank, .int md_unaries, .int md_opens, .ref a_md_pile, .int md_piled, .int md_loop, .ref a_md_begins, .ref a_md_goals, .ref a_md_ranks, .ref a_md_choiceCounts, .ref a_md_whens, .ref a_md_becomes, .ref a_md_guessCounts, .ref a_md_guesses, .ref a_md_unaryCounts, .ref a_md_stack, .ref a_md_nexts, .ref a_md_isBegin, .ref a_md_isGoal, .ref a_md_levels, .ref a_md_queue, .ref a_md_hasGuesses, .int md_keptBits, .ref a_md_rounds, .ref a_md_marked, .ref a_md_other, .ref a_md_heights])), (a_md_nexts, .inl (cI, 24576, .inl md_nexts)), (a_md_isGoal, .inl (cZ, 4096, .inl md_isGoal)), (a_md_levels, .inl (cI, 4096, .inl md_levels)), (a_md_hasGuesses, .inl (cI, 4096, .inl md_hasGuesses)), (a_md_marked, .inl (cZ, 4096, .inl md_marked_4)), (a_md_other, .inl (cZ, 4096, .inl md_other))] H → va_D A [(a_md, .inr (11, [.ref a_md_tape, .int md_size, .int md_at, .int md_token, .int md_tokenPlace, .int md_number, .int md_sign, .int md_bad, .int md_faultPlace, .int md_place, .ref a_md_acts, .ref a_md_actNumbers, .ref a_md_actCounts, .int md_bank, .int md_unaries, .int md_opens, .ref a_md_pile, .int md_piled, .int md_loop, .ref a_md_begins, .ref a_md_goals, .ref a_md_ranks, .ref a_md_choiceCounts, .ref a_md_whens, .ref a_md_becomes, .ref a_md_guessCounts, .ref a_md_guesses, .ref a_md_unaryCounts, .ref a_md_stack, .ref a_md_nexts, .ref a_md_isBegin, .ref a_md_isGoal, .ref a_md_levels, .ref a_md_queue, .ref a_md_hasGuesses, .int md_keptBits, .ref a_md_rounds, .ref a_md_marked, .ref a_md_other, .ref a_md_heights])), (a_md_nexts, .inl (cI, 24576, .inl md_nexts)), (a_md_isGoal, .inl (cZ, 4096, .inl md_isGoal)), (a_md_levels, .inl (cI, 4096, .inl md_levels)), (a_md_hasGuesses, .inl (cI, 4096, .inl md_hasGuesses)), (a_md_marked, .inl (cZ, 4096, .inl md_marked_4)), (a_md_other, .inl (cZ, 4096, .inl md_other))] → va_S A s.heap H locs → ∀ ls : Array Slot, lv_has ls 8 [(0, .ref a_md), (2, .int 0)] → W p l e (headSpec w_Md_induction ({ frames := 1, cells := 0, slots := 0, locals := 24 })).room s m (([.ref a_md, .int x1] : List Value).toArray) below meth c H locs 0 0 QQ (F0 m 79 ls [])) (n : Nat) (x3_1 : Int32) (md_marked_2 : Nat → Int32), wp_Md_induction_L34 0 md_isGoal md_hasGuesses k79 n x3_1 md_marked_2 → ∀ (H : Heap) (locs : List Loc), va_P (dC, dI) vwCl [(a_md, .inr (11, [.ref a_md_tape, .int md_size, .int md_at, .int md_token, .int md_tokenPlace, .int md_number, .int md_sign, .int md_bad, .int md_faultPlace, .int md_place, .ref a_md_acts, .ref a_md_actNumbers, .ref a_md_actCounts, .int md_bank, .int md_unaries, .int md_opens, .ref a_md_pile, .int md_piled, .int md_loop, .ref a_md_begins, .ref a_md_goals, .ref a_md_ranks, .ref a_md_choiceCounts, .ref a_md_whens, .ref a_md_becomes, .ref a_md_guessCounts, .ref a_md_guesses, .ref a_md_unaryCounts, .ref a_md_stack, .ref a_md_nexts, .ref a_md_isBegin, .ref a_md_isGoal, .ref a_md_levels, .ref a_md_queue, .ref a_md_hasGuesses, .int md_keptBits, .ref a_md_rounds, .ref a_md_marked, .ref a_md_other, .ref a_md_heights])), (a_md_nexts, .inl (cI, 24576, .inl md_nexts)), (a_md_isGoal, .inl (cZ, 4096, .inl md_isGoal)), (a_md_levels, .inl (cI, 4096, .inl md_levels)), (a_md_hasGuesses, .inl (cI, 4096, .inl md_hasGuesses)), (a_md_marked, .inl (cZ, 4096, .inl md_marked_2)), (a_md_other, .inl (cZ, 4096, .inl md_other))] H → va_D A [(a_md, .inr (11, [.ref a_md_tape, .int md_size, .int md_at, .int md_token, .int md_tokenPlace, .int md_number, .int md_sign, .int md_bad, .int md_faultPlace, .int md_place, .ref a_md_acts, .ref a_md_actNumbers, .ref a_md_actCounts, .int md_bank, .int md_unaries, .int md_opens, .ref a_md_pile, .int md_piled, .int md_loop, .ref a_md_begins, .ref a_md_goals, .ref a_md_ranks, .ref a_md_choiceCounts, .ref a_md_whens, .ref a_md_becomes, .ref a_md_guessCounts, .ref a_md_guesses, .ref a_md_unaryCounts, .ref a_md_stack, .ref a_md_nexts, .ref a_md_isBegin, .ref a_md_isGoal, .ref a_md_levels, .ref a_md_queue, .ref a_md_hasGuesses, .int md_keptBits, .ref a_md_rounds, .ref a_md_marked, .ref a_md_other, .ref a_md_heights])), (a_md_nexts, .inl (cI, 24576, .inl md_nexts)), (a_md_isGoal, .inl (cZ, 4096, .inl md_isGoal)), (a_md_levels, .inl (cI, 4096, .inl md_levels)), (a_md_hasGuesses, .inl (cI, 4096, .inl md_hasGuesses)), (a_md_marked, .inl (cZ, 4096, .inl md_marked_2)), (a_md_other, .inl (cZ, 4096, .inl md_other))] → va_S A s.heap H locs → ∀ ls : Array Slot, lv_has ls 8 [(0, .ref a_md), (2, .int 0), (3, .int x3_1)] → W p l e (headSpec w_Md_induction ({ frames := 1, cells := 0, slots := 0, locals := 24 })).room s m (([.ref a_md, .int x1] : List Value).toArray) below meth c H locs 0 0 QQ (F0 m 34 ls []) := by
            intro k79 hk79 n
            induction n with
            | zero => intro x3_1 md_marked_2 h; exact (show False from h).elim
            | succ n il =>
              intro x3_1 md_marked_2 h H locs hP hD hS ls hl
              refine lv_iload_n hx hb d_Md_induction_34 rfl (lv_at hl 2 rfl) ?_
              refine lv_sipush (v := 4096) hx hb d_Md_induction_35 (by decide) ?_
              refine lv_icmp_ge (tgt := 79) hx hb d_Md_induction_38 (by decide) (fun c_38 => ?_) (fun c_38 => ?_)
              · have h := And.left h c_38
                exact hk79 _ h _ _ hP hD hS _ (lv_sub hl [0, 1] rfl)
              · have h := And.right h c_38
                refine lv_aload_n hx hb d_Md_induction_41 rfl (lv_at hl 0 rfl) ?_
                refine va_get (D := (dC, dI)) (ci := 11) (v := .ref a_md_marked) (C := "LoopInductionModel") (T := F_Md) (N := 40) hx hb hts iC_Md hown hK hP 0 rfl rfl 37 (by decide) fl_85 (fun _ h9 => h9) rfl d_Md_induction_42 ?_
                refine lv_iload_n hx hb d_Md_induction_45 rfl (lv_at hl 2 rfl) ?_
                refine lv_aload_n hx hb d_Md_induction_46 rfl (lv_at hl 0 rfl) ?_
                refine va_get (D := (dC, dI)) (ci := 11) (v := .ref a_md_isGoal) (C := "LoopInductionModel") (T := F_Md) (N := 40) hx hb hts iC_Md hown hK hP 0 rfl rfl 31 (by decide) fl_70 (fun _ h9 => h9) rfl d_Md_induction_47 ?_
                refine lv_iload_n hx hb d_Md_induction_50 rfl (lv_at hl 2 rfl) ?_
                obtain ⟨hin_51, h⟩ := h
                refine va_zald hx hb hK hP 2 2 rfl rfl hin_51 d_Md_induction_51 ?_
                refine lv_if_eq (tgt := 71) hx hb d_Md_induction_52 (by decide) (fun c_52 => ?_) (fun c_52 => ?_)
                · have h := And.left h c_52
                  refine lv_iconst (v := 0) hx hb d_Md_induction_71 (by decide) ?_
                  obtain ⟨hin_72, h⟩ := h
                  refine va_zast hx hb hK hP hD hS 5 2 rfl rfl hin_72 d_Md_induction_72 (fun H locs hP hD hS => ?_)
                  have hP : va_P (dC, dI) vwCl [(a_md, .inr (11, [.ref a_md_tape, .int md_size, .int md_at, .int md_token, .int md_tokenPlace, .int md_number, .int md_sign, .int md_bad, .int md_faultPlace, .int md_place, .ref a_md_acts, .ref a_md_actNumbers, .ref a_md_actCounts, .int md_bank, .int md_unaries, .int md_opens, .ref a_md_pile, .int md_piled, .int md_loop, .ref a_md_begins, .ref a_md_goals, .ref a_md_ranks, .ref a_md_choiceCounts, .ref a_md_whens, .ref a_md_becomes, .ref a_md_guessCounts, .ref a_md_guesses, .ref a_md_unaryCounts, .ref a_md_stack, .ref a_md_nexts, .ref a_md_isBegin, .ref a_md_isGoal, .ref a_md_levels, .ref a_md_queue, .ref a_md_hasGuesses, .int md_keptBits, .ref a_md_rounds, .ref a_md_marked, .ref a_md_other, .ref a_md_heights])), (a_md_nexts, .inl (cI, 24576, .inl md_nexts)), (a_md_isGoal, .inl (cZ, 4096, .inl md_isGoal)), (a_md_levels, .inl (cI, 4096, .inl md_levels)), (a_md_hasGuesses, .inl (cI, 4096, .inl md_hasGuesses)), (a_md_marked, .inl (cZ, 4096, .inl (upd md_marked_2 (x3_1 : Int32).toNatClampNeg (vp_nar .boolean 0)))), (a_md_other, .inl (cZ, 4096, .inl md_other))] H := hP
                  have hD : va_D A [(a_md, .inr (11, [.ref a_md_tape, .int md_size, .int md_at, .int md_token, .int md_tokenPlace, .int md_number, .int md_sign, .int md_bad, .int md_faultPlace, .int md_place, .ref a_md_acts, .ref a_md_actNumbers, .ref a_md_actCounts, .int md_bank, .int md_unaries, .int md_opens, .ref a_md_pile, .int md_piled, .int md_loop, .ref a_md_begins, .ref a_md_goals, .ref a_md_ranks, .ref a_md_choiceCounts, .ref a_md_whens, .ref a_md_becomes, .ref a_md_guessCounts, .ref a_md_guesses, .ref a_md_unaryCounts, .ref a_md_stack, .ref a_md_nexts, .ref a_md_isBegin, .ref a_md_isGoal, .ref a_md_levels, .ref a_md_queue, .ref a_md_hasGuesses, .int md_keptBits, .ref a_md_rounds, .ref a_md_marked, .ref a_md_other, .ref a_md_heights])), (a_md_nexts, .inl (cI, 24576, .inl md_nexts)), (a_md_isGoal, .inl (cZ, 4096, .inl md_isGoal)), (a_md_levels, .inl (cI, 4096, .inl md_levels)), (a_md_hasGuesses, .inl (cI, 4096, .inl md_hasGuesses)), (a_md_marked, .inl (cZ, 4096, .inl (upd md_marked_2 (x3_1 : Int32).toNatClampNeg (vp_nar .boolean 0)))), (a_md_other, .inl (cZ, 4096, .inl md_other))] := hD
                  refine lv_iinc (v := x3_1 + 1) (lv' := [(3, .int (x3_1 + 1)), (0, .ref a_md), (2, .int 0)]) hx hb d_Md_induction_73 hl (k := 2) rfl rfl (by decide) rfl (fun ls hl => ?_)
                  refine lv_goto (tgt := 34) hx hb d_Md_induction_76 (by decide) ?_
                  exact il _ _ h _ _ hP hD hS _ (lv_sub hl [1, 2, 0] rfl)
                · have h := And.right h c_52
                  refine lv_aload_n hx hb d_Md_induction_55 rfl (lv_at hl 0 rfl) ?_
                  refine va_get (D := (dC, dI)) (ci := 11) (v := .ref a_md_hasGuesses) (C := "LoopInductionModel") (T := F_Md) (N := 40) hx hb hts iC_Md hown hK hP 0 rfl rfl 34 (by decide) fl_79 (fun _ h9 => h9) rfl d_Md_induction_56 ?_
                  refine lv_iload_n hx hb d_Md_induction_59 rfl (lv_at hl 2 rfl) ?_
                  obtain ⟨hin_60, h⟩ := h
                  refine va_iald hx hb hK hP 4 0 rfl rfl hin_60 d_Md_induction_60 ?_
                  refine lv_iload_n hx hb d_Md_induction_61 rfl (lv_at hl 1 rfl) ?_
                  refine lv_iand hx hb d_Md_induction_62 ?_
                  refine lv_iload_n hx hb d_Md_induction_63 rfl (lv_at hl 1 rfl) ?_
                  refine lv_icmp_ne (tgt := 71) hx hb d_Md_induction_64 (by decide) (fun c_64 => ?_) (fun c_64 => ?_)
                  · have h := And.left h c_64
                    refine lv_iconst (v := 0) hx hb d_Md_induction_71 (by decide) ?_
                    obtain ⟨hin_72, h⟩ := h
                    refine va_zast hx hb hK hP hD hS 5 2 rfl rfl hin_72 d_Md_induction_72 (fun H locs hP hD hS => ?_)
                    have hP : va_P (dC, dI) vwCl [(a_md, .inr (11, [.ref a_md_tape, .int md_size, .int md_at, .int md_token, .int md_tokenPlace, .int md_number, .int md_sign, .int md_bad, .int md_faultPlace, .int md_place, .ref a_md_acts, .ref a_md_actNumbers, .ref a_md_actCounts, .int md_bank, .int md_unaries, .int md_opens, .ref a_md_pile, .int md_piled, .int md_loop, .ref a_md_begins, .ref a_md_goals, .ref a_md_ranks, .ref a_md_choiceCounts, .ref a_md_whens, .ref a_md_becomes, .ref a_md_guessCounts, .ref a_md_guesses, .ref a_md_unaryCounts, .ref a_md_stack, .ref a_md_nexts, .ref a_md_isBegin, .ref a_md_isGoal, .ref a_md_levels, .ref a_md_queue, .ref a_md_hasGuesses, .int md_keptBits, .ref a_md_rounds, .ref a_md_marked, .ref a_md_other, .ref a_md_heights])), (a_md_nexts, .inl (cI, 24576, .inl md_nexts)), (a_md_isGoal, .inl (cZ, 4096, .inl md_isGoal)), (a_md_levels, .inl (cI, 4096, .inl md_levels)), (a_md_hasGuesses, .inl (cI, 4096, .inl md_hasGuesses)), (a_md_marked, .inl (cZ, 4096, .inl (upd md_marked_2 (x3_1 : Int32).toNatClampNeg (vp_nar .boolean 0)))), (a_md_other, .inl (cZ, 4096, .inl md_other))] H := hP
                    have hD : va_D A [(a_md, .inr (11, [.ref a_md_tape, .int md_size, .int md_at, .int md_token, .int md_tokenPlace, .int md_number, .int md_sign, .int md_bad, .int md_faultPlace, .int md_place, .ref a_md_acts, .ref a_md_actNumbers, .ref a_md_actCounts, .int md_bank, .int md_unaries, .int md_opens, .ref a_md_pile, .int md_piled, .int md_loop, .ref a_md_begins, .ref a_md_goals, .ref a_md_ranks, .ref a_md_choiceCounts, .ref a_md_whens, .ref a_md_becomes, .ref a_md_guessCounts, .ref a_md_guesses, .ref a_md_unaryCounts, .ref a_md_stack, .ref a_md_nexts, .ref a_md_isBegin, .ref a_md_isGoal, .ref a_md_levels, .ref a_md_queue, .ref a_md_hasGuesses, .int md_keptBits, .ref a_md_rounds, .ref a_md_marked, .ref a_md_other, .ref a_md_heights])), (a_md_nexts, .inl (cI, 24576, .inl md_nexts)), (a_md_isGoal, .inl (cZ, 4096, .inl md_isGoal)), (a_md_levels, .inl (cI, 4096, .inl md_levels)), (a_md_hasGuesses, .inl (cI, 4096, .inl md_hasGuesses)), (a_md_marked, .inl (cZ, 4096, .inl (upd md_marked_2 (x3_1 : Int32).toNatClampNeg (vp_nar .boolean 0)))), (a_md_other, .inl (cZ, 4096, .inl md_other))] := hD
                    refine lv_iinc (v := x3_1 + 1) (lv' := [(3, .int (x3_1 + 1)), (0, .ref a_md), (2, .int 0)]) hx hb d_Md_induction_73 hl (k := 2) rfl rfl (by decide) rfl (fun ls hl => ?_)
                    refine lv_goto (tgt := 34) hx hb d_Md_induction_76 (by decide) ?_
                    exact il _ _ h _ _ hP hD hS _ (lv_sub hl [1, 2, 0] rfl)
                  · have h := And.right h c_64
                    refine lv_iconst (v := 1) hx hb d_Md_induction_67 (by decide) ?_
                    refine lv_goto (tgt := 72) hx hb d_Md_induction_68 (by decide) ?_
                    obtain ⟨hin_72, h⟩ := h
                    refine va_zast hx hb hK hP hD hS 5 2 rfl rfl hin_72 d_Md_induction_72 (fun H locs hP hD hS => ?_)
                    have hP : va_P (dC, dI) vwCl [(a_md, .inr (11, [.ref a_md_tape, .int md_size, .int md_at, .int md_token, .int md_tokenPlace, .int md_number, .int md_sign, .int md_bad, .int md_faultPlace, .int md_place, .ref a_md_acts, .ref a_md_actNumbers, .ref a_md_actCounts, .int md_bank, .int md_unaries, .int md_opens, .ref a_md_pile, .int md_piled, .int md_loop, .ref a_md_begins, .ref a_md_goals, .ref a_md_ranks, .ref a_md_choiceCounts, .ref a_md_whens, .ref a_md_becomes, .ref a_md_guessCounts, .ref a_md_guesses, .ref a_md_unaryCounts, .ref a_md_stack, .ref a_md_nexts, .ref a_md_isBegin, .ref a_md_isGoal, .ref a_md_levels, .ref a_md_queue, .ref a_md_hasGuesses, .int md_keptBits, .ref a_md_rounds, .ref a_md_marked, .ref a_md_other, .ref a_md_heights])), (a_md_nexts, .inl (cI, 24576, .inl md_nexts)), (a_md_isGoal, .inl (cZ, 4096, .inl md_isGoal)), (a_md_levels, .inl (cI, 4096, .inl md_levels)), (a_md_hasGuesses, .inl (cI, 4096, .inl md_hasGuesses)), (a_md_marked, .inl (cZ, 4096, .inl (upd md_marked_2 (x3_1 : Int32).toNatClampNeg (vp_nar .boolean 1)))), (a_md_other, .inl (cZ, 4096, .inl md_other))] H := hP
                    have hD : va_D A [(a_md, .inr (11, [.ref a_md_tape, .int md_size, .int md_at, .int md_token, .int md_tokenPlace, .int md_number, .int md_sign, .int md_bad, .int md_faultPlace, .int md_place, .ref a_md_acts, .ref a_md_actNumbers, .ref a_md_actCounts, .int md_bank, .int md_unaries, .int md_opens, .ref a_md_pile, .int md_piled, .int md_loop, .ref a_md_begins, .ref a_md_goals, .ref a_md_ranks, .ref a_md_choiceCounts, .ref a_md_whens, .ref a_md_becomes, .ref a_md_guessCounts, .ref a_md_guesses, .ref a_md_unaryCounts, .ref a_md_stack, .ref a_md_nexts, .ref a_md_isBegin, .ref a_md_isGoal, .ref a_md_levels, .ref a_md_queue, .ref a_md_hasGuesses, .int md_keptBits, .ref a_md_rounds, .ref a_md_marked, .ref a_md_other, .ref a_md_heights])), (a_md_nexts, .inl (cI, 24576, .inl md_nexts)), (a_md_isGoal, .inl (cZ, 4096, .inl md_isGoal)), (a_md_levels, .inl (cI, 4096, .inl md_levels)), (a_md_hasGuesses, .inl (cI, 4096, .inl md_hasGuesses)), (a_md_marked, .inl (cZ, 4096, .inl (upd md_marked_2 (x3_1 : Int32).toNatClampNeg (vp_nar .boolean 1)))), (a_md_other, .inl (cZ, 4096, .inl md_other))] := hD
                    refine lv_iinc (v := x3_1 + 1) (lv' := [(3, .int (x3_1 + 1)), (0, .ref a_md), (2, .int 0)]) hx hb d_Md_induction_73 hl (k := 2) rfl rfl (by decide) rfl (fun ls hl => ?_)
                    refine lv_goto (tgt := 34) hx hb d_Md_induction_76 (by decide) ?_
                    exact il _ _ h _ _ hP hD hS _ (lv_sub hl [1, 2, 0] rfl)
          obtain ⟨n_, h⟩ := h
          refine L34_q_3 _ ?_ n_ _ _ h _ _ hP hD hS _ (lv_sub hl [2, 1, 0] rfl)
          intro md_marked_5 h H locs hP hD hS ls hl
          refine lv_iconst (v := 1) hx hb d_Md_induction_79 (by decide) ?_
          refine lv_istore_n (lv' := [(3, .int 1), (0, .ref a_md), (2, .int 0)]) hx hb d_Md_induction_80 rfl hl (by decide) rfl (fun ls hl => ?_)
          have L81_q_9 : ∀ (k258 : (Nat → Int32) → (Nat → Int32) → Prop) (hk258 : ∀ (md_marked_10 : Nat → Int32) (md_other_11 : Nat → Int32), k258 md_marked_10 md_other_11 → ∀ (H : Heap) (locs : List Loc), va_P (dC, dI) vwCl [(a_md, .inr (11, [.ref a_md_tape, .int md_size, .int md_at, .int md_token, .int md_tokenPlace, .int md_number, .int md_sign, .int md_bad, .int md_faultPlace, .int md_place, .ref a_md_acts, .ref a_md_actNumbers, .ref a_md_actCounts, .int md_bank, .int md_unaries, .int md_opens, .ref a_md_pile, .int md_piled, .int md_loop, .ref a_md_begins, .ref a_md_goals, .ref a_md_ranks, .ref a_md_choiceCounts, .ref a_md_whens, .ref a_md_becomes, .ref a_md_guessCounts, .ref a_md_guesses, .ref a_md_unaryCounts, .ref a_md_stack, .ref a_md_nexts, .ref a_md_isBegin, .ref a_md_isGoal, .ref a_md_levels, .ref a_md_queue, .ref a_md_hasGuesses, .int md_keptBits, .ref a_md_rounds, .ref a_md_marked, .ref a_md_other, .ref a_md_heights])), (a_md_nexts, .inl (cI, 24576, .inl md_nexts)), (a_md_isGoal, .inl (cZ, 4096, .inl md_isGoal)), (a_md_levels, .inl (cI, 4096, .inl md_levels)), (a_md_hasGuesses, .inl (cI, 4096, .inl md_hasGuesses)), (a_md_marked, .inl (cZ, 4096, .inl md_marked_10)), (a_md_other, .inl (cZ, 4096, .inl md_other_11))] H → va_D A [(a_md, .inr (11, [.ref a_md_tape, .int md_size, .int md_at, .int md_token, .int md_tokenPlace, .int md_number, .int md_sign, .int md_bad, .int md_faultPlace, .int md_place, .ref a_md_acts, .ref a_md_actNumbers, .ref a_md_actCounts, .int md_bank, .int md_unaries, .int md_opens, .ref a_md_pile, .int md_piled, .int md_loop, .ref a_md_begins, .ref a_md_goals, .ref a_md_ranks, .ref a_md_choiceCounts, .ref a_md_whens, .ref a_md_becomes, .ref a_md_guessCounts, .ref a_md_guesses, .ref a_md_unaryCounts, .ref a_md_stack, .ref a_md_nexts, .ref a_md_isBegin, .ref a_md_isGoal, .ref a_md_levels, .ref a_md_queue, .ref a_md_hasGuesses, .int md_keptBits, .ref a_md_rounds, .ref a_md_marked, .ref a_md_other, .ref a_md_heights])), (a_md_nexts, .inl (cI, 24576, .inl md_nexts)), (a_md_isGoal, .inl (cZ, 4096, .inl md_isGoal)), (a_md_levels, .inl (cI, 4096, .inl md_levels)), (a_md_hasGuesses, .inl (cI, 4096, .inl md_hasGuesses)), (a_md_marked, .inl (cZ, 4096, .inl md_marked_10)), (a_md_other, .inl (cZ, 4096, .inl md_other_11))] → va_S A s.heap H locs → ∀ ls : Array Slot, lv_has ls 8 [] → W p l e (headSpec w_Md_induction ({ frames := 1, cells := 0, slots := 0, locals := 24 })).room s m (([.ref a_md, .int x1] : List Value).toArray) below meth c H locs 0 0 QQ (F0 m 258 ls [])) (k245 : Int32 → (Nat → Int32) → (Nat → Int32) → Prop) (hk245 : ∀ (x3_12 : Int32) (md_marked_13 : Nat → Int32) (md_other_14 : Nat → Int32), k245 x3_12 md_marked_13 md_other_14 → ∀ (H : Heap) (locs : List Loc), va_P (dC, dI) vwCl [(a_md, .inr (11, [.ref a_md_tape, .int md_size, .int md_at, .int md_token, .int md_tokenPlace, .int md_number, .int md_sign, .int md_bad, .int md_faultPlace, .int md_place, .ref a_md_acts, .ref a_md_actNumbers, .ref a_md_actCounts, .int md_bank, .int md_unaries, .int md_opens, .ref a_md_pile, .int md_piled, .int md_loop, .ref a_md_begins, .ref a_md_goals, .ref a_md_ranks, .ref a_md_choiceCounts, .ref a_md_whens, .ref a_md_becomes, .ref a_md_guessCounts, .ref a_md_guesses, .ref a_md_unaryCounts, .ref a_md_stack, .ref a_md_nexts, .ref a_md_isBegin, .ref a_md_isGoal, .ref a_md_levels, .ref a_md_queue, .ref a_md_hasGuesses, .int md_keptBits, .ref a_md_rounds, .ref a_md_marked, .ref a_md_other, .ref a_md_heights])), (a_md_nexts, .inl (cI, 24576, .inl md_nexts)), (a_md_isGoal, .inl (cZ, 4096, .inl md_isGoal)), (a_md_levels, .inl (cI, 4096, .inl md_levels)), (a_md_hasGuesses, .inl (cI, 4096, .inl md_hasGuesses)), (a_md_marked, .inl (cZ, 4096, .inl md_marked_13)), (a_md_other, .inl (cZ, 4096, .inl md_other_14))] H → va_D A [(a_md, .inr (11, [.ref a_md_tape, .int md_size, .int md_at, .int md_token, .int md_tokenPlace, .int md_number, .int md_sign, .int md_bad, .int md_faultPlace, .int md_place, .ref a_md_acts, .ref a_md_actNumbers, .ref a_md_actCounts, .int md_bank, .int md_unaries, .int md_opens, .ref a_md_pile, .int md_piled, .int md_loop, .ref a_md_begins, .ref a_md_goals, .ref a_md_ranks, .ref a_md_choiceCounts, .ref a_md_whens, .ref a_md_becomes, .ref a_md_guessCounts, .ref a_md_guesses, .ref a_md_unaryCounts, .ref a_md_stack, .ref a_md_nexts, .ref a_md_isBegin, .ref a_md_isGoal, .ref a_md_levels, .ref a_md_queue, .ref a_md_hasGuesses, .int md_keptBits, .ref a_md_rounds, .ref a_md_marked, .ref a_md_other, .ref a_md_heights])), (a_md_nexts, .inl (cI, 24576, .inl md_nexts)), (a_md_isGoal, .inl (cZ, 4096, .inl md_isGoal)), (a_md_levels, .inl (cI, 4096, .inl md_levels)), (a_md_hasGuesses, .inl (cI, 4096, .inl md_hasGuesses)), (a_md_marked, .inl (cZ, 4096, .inl md_marked_13)), (a_md_other, .inl (cZ, 4096, .inl md_other_14))] → va_S A s.heap H locs → ∀ ls : Array Slot, lv_has ls 8 [(3, .int x3_12)] → W p l e (headSpec w_Md_induction ({ frames := 1, cells := 0, slots := 0, locals := 24 })).room s m (([.ref a_md, .int x1] : List Value).toArray) below meth c H locs 0 0 QQ (F0 m 245 ls [])) (n : Nat) (x3_6 : Int32) (md_marked_7 : Nat → Int32) (md_other_8 : Nat → Int32), wp_Md_induction_L81 0 md_nexts md_isGoal md_levels md_hasGuesses k258 k245 n x3_6 md_marked_7 md_other_8 → ∀ (H : Heap) (locs : List Loc), va_P (dC, dI) vwCl [(a_md, .inr (11, [.ref a_md_tape, .int md_size, .int md_at, .int md_token, .int md_tokenPlace, .int md_number, .int md_sign, .int md_bad, .int md_faultPlace, .int md_place, .ref a_md_acts, .ref a_md_actNumbers, .ref a_md_actCounts, .int md_bank, .int md_unaries, .int md_opens, .ref a_md_pile, .int md_piled, .int md_loop, .ref a_md_begins, .ref a_md_goals, .ref a_md_ranks, .ref a_md_choiceCounts, .ref a_md_whens, .ref a_md_becomes, .ref a_md_guessCounts, .ref a_md_guesses, .ref a_md_unaryCounts, .ref a_md_stack, .ref a_md_nexts, .ref a_md_isBegin, .ref a_md_isGoal, .ref a_md_levels, .ref a_md_queue, .ref a_md_hasGuesses, .int md_keptBits, .ref a_md_rounds, .ref a_md_marked, .ref a_md_other, .ref a_md_heights])), (a_md_nexts, .inl (cI, 24576, .inl md_nexts)), (a_md_isGoal, .inl (cZ, 4096, .inl md_isGoal)), (a_md_levels, .inl (cI, 4096, .inl md_levels)), (a_md_hasGuesses, .inl (cI, 4096, .inl md_hasGuesses)), (a_md_marked, .inl (cZ, 4096, .inl md_marked_7)), (a_md_other, .inl (cZ, 4096, .inl md_other_8))] H → va_D A [(a_md, .inr (11, [.ref a_md_tape, .int md_size, .int md_at, .int md_token, .int md_tokenPlace, .int md_number, .int md_sign, .int md_bad, .int md_faultPlace, .int md_place, .ref a_md_acts, .ref a_md_actNumbers, .ref a_md_actCounts, .int md_bank, .int md_unaries, .int md_opens, .ref a_md_pile, .int md_piled, .int md_loop, .ref a_md_begins, .ref a_md_goals, .ref a_md_ranks, .ref a_md_choiceCounts, .ref a_md_whens, .ref a_md_becomes, .ref a_md_guessCounts, .ref a_md_guesses, .ref a_md_unaryCounts, .ref a_md_stack, .ref a_md_nexts, .ref a_md_isBegin, .ref a_md_isGoal, .ref a_md_levels, .ref a_md_queue, .ref a_md_hasGuesses, .int md_keptBits, .ref a_md_rounds, .ref a_md_marked, .ref a_md_other, .ref a_md_heights])), (a_md_nexts, .inl (cI, 24576, .inl md_nexts)), (a_md_isGoal, .inl (cZ, 4096, .inl md_isGoal)), (a_md_levels, .inl (cI, 4096, .inl md_levels)), (a_md_hasGuesses, .inl (cI, 4096, .inl md_hasGuesses)), (a_md_marked, .inl (cZ, 4096, .inl md_marked_7)), (a_md_other, .inl (cZ, 4096, .inl md_other_8))] → va_S A s.heap H locs → ∀ ls : Array Slot, lv_has ls 8 [(0, .ref a_md), (2, .int 0), (3, .int x3_6)] → W p l e (headSpec w_Md_induction ({ frames := 1, cells := 0, slots := 0, locals := 24 })).room s m (([.ref a_md, .int x1] : List Value).toArray) below meth c H locs 0 0 QQ (F0 m 81 ls []) := by
            intro k258 hk258 k245 hk245 n
            induction n with
            | zero => intro x3_6 md_marked_7 md_other_8 h; exact (show False from h).elim
            | succ n il =>
              intro x3_6 md_marked_7 md_other_8 h H locs hP hD hS ls hl
              refine lv_iload_n hx hb d_Md_induction_81 rfl (lv_at hl 2 rfl) ?_
              refine lv_bipush (v := 16) hx hb d_Md_induction_82 (by decide) ?_
              refine lv_icmp_gt (tgt := 258) hx hb d_Md_induction_84 (by decide) (fun c_84 => ?_) (fun c_84 => ?_)
              · have h := And.left h c_84
                exact hk258 _ _ h _ _ hP hD hS _ (lv_sub hl [] rfl)
              · have h := And.right h c_84
                refine lv_iconst (v := 1) hx hb d_Md_induction_87 (by decide) ?_
                refine lv_istore (lv' := [(4, .int 1), (0, .ref a_md), (2, .int 0), (3, .int x3_6)]) hx hb d_Md_induction_88 hl (by decide) rfl (fun ls hl => ?_)
                refine lv_iconst (v := 0) hx hb d_Md_induction_90 (by decide) ?_
                refine lv_istore (lv' := [(5, .int 0), (4, .int 1), (0, .ref a_md), (2, .int 0), (3, .int x3_6)]) hx hb d_Md_induction_91 hl (by decide) rfl (fun ls hl => ?_)
                have L93_q_17 : ∀ (k150 : Int32 → Prop) (hk150 : ∀ (x4_18 : Int32), k150 x4_18 → ∀ (H : Heap) (locs : List Loc), va_P (dC, dI) vwCl [(a_md, .inr (11, [.ref a_md_tape, .int md_size, .int md_at, .int md_token, .int md_tokenPlace, .int md_number, .int md_sign, .int md_bad, .int md_faultPlace, .int md_place, .ref a_md_acts, .ref a_md_actNumbers, .ref a_md_actCounts, .int md_bank, .int md_unaries, .int md_opens, .ref a_md_pile, .int md_piled, .int md_loop, .ref a_md_begins, .ref a_md_goals, .ref a_md_ranks, .ref a_md_choiceCounts, .ref a_md_whens, .ref a_md_becomes, .ref a_md_guessCounts, .ref a_md_guesses, .ref a_md_unaryCounts, .ref a_md_stack, .ref a_md_nexts, .ref a_md_isBegin, .ref a_md_isGoal, .ref a_md_levels, .ref a_md_queue, .ref a_md_hasGuesses, .int md_keptBits, .ref a_md_rounds, .ref a_md_marked, .ref a_md_other, .ref a_md_heights])), (a_md_nexts, .inl (cI, 24576, .inl md_nexts)), (a_md_isGoal, .inl (cZ, 4096, .inl md_isGoal)), (a_md_levels, .inl (cI, 4096, .inl md_levels)), (a_md_hasGuesses, .inl (cI, 4096, .inl md_hasGuesses)), (a_md_marked, .inl (cZ, 4096, .inl md_marked_7)), (a_md_other, .inl (cZ, 4096, .inl md_other_8))] H → va_D A [(a_md, .inr (11, [.ref a_md_tape, .int md_size, .int md_at, .int md_token, .int md_tokenPlace, .int md_number, .int md_sign, .int md_bad, .int md_faultPlace, .int md_place, .ref a_md_acts, .ref a_md_actNumbers, .ref a_md_actCounts, .int md_bank, .int md_unaries, .int md_opens, .ref a_md_pile, .int md_piled, .int md_loop, .ref a_md_begins, .ref a_md_goals, .ref a_md_ranks, .ref a_md_choiceCounts, .ref a_md_whens, .ref a_md_becomes, .ref a_md_guessCounts, .ref a_md_guesses, .ref a_md_unaryCounts, .ref a_md_stack, .ref a_md_nexts, .ref a_md_isBegin, .ref a_md_isGoal, .ref a_md_levels, .ref a_md_queue, .ref a_md_hasGuesses, .int md_keptBits, .ref a_md_rounds, .ref a_md_marked, .ref a_md_other, .ref a_md_heights])), (a_md_nexts, .inl (cI, 24576, .inl md_nexts)), (a_md_isGoal, .inl (cZ, 4096, .inl md_isGoal)), (a_md_levels, .inl (cI, 4096, .inl md_levels)), (a_md_hasGuesses, .inl (cI, 4096, .inl md_hasGuesses)), (a_md_marked, .inl (cZ, 4096, .inl md_marked_7)), (a_md_other, .inl (cZ, 4096, .inl md_other_8))] → va_S A s.heap H locs → ∀ ls : Array Slot, lv_has ls 8 [(0, .ref a_md), (2, .int 0), (3, .int x3_6), (4, .int x4_18)] → W p l e (headSpec w_Md_induction ({ frames := 1, cells := 0, slots := 0, locals := 24 })).room s m (([.ref a_md, .int x1] : List Value).toArray) below meth c H locs 0 0 QQ (F0 m 150 ls [])) (n : Nat) (x4_15 : Int32) (x5_16 : Int32), wp_Md_induction_L93 0 x3_6 md_isGoal md_levels k150 n x4_15 x5_16 → ∀ (H : Heap) (locs : List Loc), va_P (dC, dI) vwCl [(a_md, .inr (11, [.ref a_md_tape, .int md_size, .int md_at, .int md_token, .int md_tokenPlace, .int md_number, .int md_sign, .int md_bad, .int md_faultPlace, .int md_place, .ref a_md_acts, .ref a_md_actNumbers, .ref a_md_actCounts, .int md_bank, .int md_unaries, .int md_opens, .ref a_md_pile, .int md_piled, .int md_loop, .ref a_md_begins, .ref a_md_goals, .ref a_md_ranks, .ref a_md_choiceCounts, .ref a_md_whens, .ref a_md_becomes, .ref a_md_guessCounts, .ref a_md_guesses, .ref a_md_unaryCounts, .ref a_md_stack, .ref a_md_nexts, .ref a_md_isBegin, .ref a_md_isGoal, .ref a_md_levels, .ref a_md_queue, .ref a_md_hasGuesses, .int md_keptBits, .ref a_md_rounds, .ref a_md_marked, .ref a_md_other, .ref a_md_heights])), (a_md_nexts, .inl (cI, 24576, .inl md_nexts)), (a_md_isGoal, .inl (cZ, 4096, .inl md_isGoal)), (a_md_levels, .inl (cI, 4096, .inl md_levels)), (a_md_hasGuesses, .inl (cI, 4096, .inl md_hasGuesses)), (a_md_marked, .inl (cZ, 4096, .inl md_marked_7)), (a_md_other, .inl (cZ, 4096, .inl md_other_8))] H → va_D A [(a_md, .inr (11, [.ref a_md_tape, .int md_size, .int md_at, .int md_token, .int md_tokenPlace, .int md_number, .int md_sign, .int md_bad, .int md_faultPlace, .int md_place, .ref a_md_acts, .ref a_md_actNumbers, .ref a_md_actCounts, .int md_bank, .int md_unaries, .int md_opens, .ref a_md_pile, .int md_piled, .int md_loop, .ref a_md_begins, .ref a_md_goals, .ref a_md_ranks, .ref a_md_choiceCounts, .ref a_md_whens, .ref a_md_becomes, .ref a_md_guessCounts, .ref a_md_guesses, .ref a_md_unaryCounts, .ref a_md_stack, .ref a_md_nexts, .ref a_md_isBegin, .ref a_md_isGoal, .ref a_md_levels, .ref a_md_queue, .ref a_md_hasGuesses, .int md_keptBits, .ref a_md_rounds, .ref a_md_marked, .ref a_md_other, .ref a_md_heights])), (a_md_nexts, .inl (cI, 24576, .inl md_nexts)), (a_md_isGoal, .inl (cZ, 4096, .inl md_isGoal)), (a_md_levels, .inl (cI, 4096, .inl md_levels)), (a_md_hasGuesses, .inl (cI, 4096, .inl md_hasGuesses)), (a_md_marked, .inl (cZ, 4096, .inl md_marked_7)), (a_md_other, .inl (cZ, 4096, .inl md_other_8))] → va_S A s.heap H locs → ∀ ls : Array Slot, lv_has ls 8 [(0, .ref a_md), (2, .int 0), (3, .int x3_6), (4, .int x4_15), (5, .int x5_16)] → W p l e (headSpec w_Md_induction ({ frames := 1, cells := 0, slots := 0, locals := 24 })).room s m (([.ref a_md, .int x1] : List Value).toArray) below meth c H locs 0 0 QQ (F0 m 93 ls []) := by
                  intro k150 hk150 n
                  induction n with
                  | zero => intro x4_15 x5_16 h; exact (show False from h).elim
                  | succ n il =>
                    intro x4_15 x5_16 h H locs hP hD hS ls hl
                    refine lv_iload hx hb d_Md_induction_93 (lv_at hl 4 rfl) ?_
                    refine lv_sipush (v := 4096) hx hb d_Md_induction_95 (by decide) ?_
                    refine lv_icmp_ge (tgt := 150) hx hb d_Md_induction_98 (by decide) (fun c_98 => ?_) (fun c_98 => ?_)
                    · have h := And.left h c_98
                      exact hk150 _ h _ _ hP hD hS _ (lv_sub hl [0, 1, 2, 3] rfl)
                    · have h := And.right h c_98
                      refine lv_iload hx hb d_Md_induction_101 (lv_at hl 3 rfl) ?_
                      refine lv_if_eq (tgt := 150) hx hb d_Md_induction_103 (by decide) (fun c_103 => ?_) (fun c_103 => ?_)
                      · have h := And.left h c_103
                        exact hk150 _ h _ _ hP hD hS _ (lv_sub hl [0, 1, 2, 3] rfl)
                      · have h := And.right h c_103
                        refine lv_aload_n hx hb d_Md_induction_106 rfl (lv_at hl 0 rfl) ?_
                        refine va_get (D := (dC, dI)) (ci := 11) (v := .ref a_md_levels) (C := "LoopInductionModel") (T := F_Md) (N := 40) hx hb hts iC_Md hown hK hP 0 rfl rfl 32 (by decide) fl_73 (fun _ h9 => h9) rfl d_Md_induction_107 ?_
                        refine lv_iload hx hb d_Md_induction_110 (lv_at hl 4 rfl) ?_
                        obtain ⟨hin_112, h⟩ := h
                        refine va_iald hx hb hK hP 3 0 rfl rfl hin_112 d_Md_induction_112 ?_
                        refine lv_if_lt (tgt := 137) hx hb d_Md_induction_113 (by decide) (fun c_113 => ?_) (fun c_113 => ?_)
                        · have h := And.left h c_113
                          refine lv_iconst (v := 1) hx hb d_Md_induction_137 (by decide) ?_
                          refine lv_goto (tgt := 142) hx hb d_Md_induction_138 (by decide) ?_
                          refine lv_istore (lv' := [(4, .int 1), (0, .ref a_md), (2, .int 0), (3, .int x3_6), (5, .int x5_16)]) hx hb d_Md_induction_142 hl (by decide) rfl (fun ls hl => ?_)
                          refine lv_iinc (v := x5_16 + 1) (lv' := [(5, .int (x5_16 + 1)), (4, .int 1), (0, .ref a_md), (2, .int 0), (3, .int x3_6)]) hx hb d_Md_induction_144 hl (k := 4) rfl rfl (by decide) rfl (fun ls hl => ?_)
                          refine lv_goto (tgt := 93) hx hb d_Md_induction_147 (by decide) ?_
                          exact il _ _ h _ _ hP hD hS _ (lv_sub hl [2, 3, 4, 1, 0] rfl)
                        · have h := And.right h c_113
                          refine lv_aload_n hx hb d_Md_induction_116 rfl (lv_at hl 0 rfl) ?_
                          refine va_get (D := (dC, dI)) (ci := 11) (v := .ref a_md_levels) (C := "LoopInductionModel") (T := F_Md) (N := 40) hx hb hts iC_Md hown hK hP 0 rfl rfl 32 (by decide) fl_73 (fun _ h9 => h9) rfl d_Md_induction_117 ?_
                          refine lv_iload hx hb d_Md_induction_120 (lv_at hl 4 rfl) ?_
                          obtain ⟨hin_122, h⟩ := h
                          refine va_iald hx hb hK hP 3 0 rfl rfl hin_122 d_Md_induction_122 ?_
                          refine lv_iload_n hx hb d_Md_induction_123 rfl (lv_at hl 2 rfl) ?_
                          refine lv_icmp_ge (tgt := 137) hx hb d_Md_induction_124 (by decide) (fun c_124 => ?_) (fun c_124 => ?_)
                          · have h := And.left h c_124
                            refine lv_iconst (v := 1) hx hb d_Md_induction_137 (by decide) ?_
                            refine lv_goto (tgt := 142) hx hb d_Md_induction_138 (by decide) ?_
                            refine lv_istore (lv' := [(4, .int 1), (0, .ref a_md), (2, .int 0), (3, .int x3_6), (5, .int x5_16)]) hx hb d_Md_induction_142 hl (by decide) rfl (fun ls hl => ?_)
                            refine lv_iinc (v := x5_16 + 1) (lv' := [(5, .int (x5_16 + 1)), (4, .int 1), (0, .ref a_md), (2, .int 0), (3, .int x3_6)]) hx hb d_Md_induction_144 hl (k := 4) rfl rfl (by decide) rfl (fun ls hl => ?_)
                            refine lv_goto (tgt := 93) hx hb d_Md_induction_147 (by decide) ?_
                            exact il _ _ h _ _ hP hD hS _ (lv_sub hl [2, 3, 4, 1, 0] rfl)
                          · have h := And.right h c_124
                            refine lv_aload_n hx hb d_Md_induction_127 rfl (lv_at hl 0 rfl) ?_
                            refine va_get (D := (dC, dI)) (ci := 11) (v := .ref a_md_isGoal) (C := "LoopInductionModel") (T := F_Md) (N := 40) hx hb hts iC_Md hown hK hP 0 rfl rfl 31 (by decide) fl_70 (fun _ h9 => h9) rfl d_Md_induction_128 ?_
                            refine lv_iload hx hb d_Md_induction_131 (lv_at hl 4 rfl) ?_
                            obtain ⟨hin_133, h⟩ := h
                            refine va_zald hx hb hK hP 2 2 rfl rfl hin_133 d_Md_induction_133 ?_
                            refine lv_if_eq (tgt := 141) hx hb d_Md_induction_134 (by decide) (fun c_134 => ?_) (fun c_134 => ?_)
                            · have h := And.left h c_134
                              refine lv_iconst (v := 0) hx hb d_Md_induction_141 (by decide) ?_
                              refine lv_istore (lv' := [(4, .int 0), (0, .ref a_md), (2, .int 0), (3, .int x3_6), (5, .int x5_16)]) hx hb d_Md_induction_142 hl (by decide) rfl (fun ls hl => ?_)
                              refine lv_iinc (v := x5_16 + 1) (lv' := [(5, .int (x5_16 + 1)), (4, .int 0), (0, .ref a_md), (2, .int 0), (3, .int x3_6)]) hx hb d_Md_induction_144 hl (k := 4) rfl rfl (by decide) rfl (fun ls hl => ?_)
                              refine lv_goto (tgt := 93) hx hb d_Md_induction_147 (by decide) ?_
                              exact il _ _ h _ _ hP hD hS _ (lv_sub hl [2, 3, 4, 1, 0] rfl)
                            · have h := And.right h c_134
                              refine lv_iconst (v := 1) hx hb d_Md_induction_137 (by decide) ?_
                              refine lv_goto (tgt := 142) hx hb d_Md_induction_138 (by decide) ?_
                              refine lv_istore (lv' := [(4, .int 1), (0, .ref a_md), (2, .int 0), (3, .int x3_6), (5, .int x5_16)]) hx hb d_Md_induction_142 hl (by decide) rfl (fun ls hl => ?_)
                              refine lv_iinc (v := x5_16 + 1) (lv' := [(5, .int (x5_16 + 1)), (4, .int 1), (0, .ref a_md), (2, .int 0), (3, .int x3_6)]) hx hb d_Md_induction_144 hl (k := 4) rfl rfl (by decide) rfl (fun ls hl => ?_)
                              refine lv_goto (tgt := 93) hx hb d_Md_induction_147 (by decide) ?_
                              exact il _ _ h _ _ hP hD hS _ (lv_sub hl [2, 3, 4, 1, 0] rfl)
                obtain ⟨n_, h⟩ := h
                refine L93_q_17 _ ?_ n_ _ _ h _ _ hP hD hS _ (lv_sub hl [2, 3, 4, 1, 0] rfl)
                intro x4_19 h H locs hP hD hS ls hl
                refine lv_iconst (v := 0) hx hb d_Md_induction_150 (by decide) ?_
                refine lv_istore (lv' := [(5, .int 0), (0, .ref a_md), (2, .int 0), (3, .int x3_6), (4, .int x4_19)]) hx hb d_Md_induction_151 hl (by decide) rfl (fun ls hl => ?_)
                have L153_q_22 : ∀ (k240 : Int32 → Prop) (hk240 : ∀ (x4_23 : Int32), k240 x4_23 → ∀ (H : Heap) (locs : List Loc), va_P (dC, dI) vwCl [(a_md, .inr (11, [.ref a_md_tape, .int md_size, .int md_at, .int md_token, .int md_tokenPlace, .int md_number, .int md_sign, .int md_bad, .int md_faultPlace, .int md_place, .ref a_md_acts, .ref a_md_actNumbers, .ref a_md_actCounts, .int md_bank, .int md_unaries, .int md_opens, .ref a_md_pile, .int md_piled, .int md_loop, .ref a_md_begins, .ref a_md_goals, .ref a_md_ranks, .ref a_md_choiceCounts, .ref a_md_whens, .ref a_md_becomes, .ref a_md_guessCounts, .ref a_md_guesses, .ref a_md_unaryCounts, .ref a_md_stack, .ref a_md_nexts, .ref a_md_isBegin, .ref a_md_isGoal, .ref a_md_levels, .ref a_md_queue, .ref a_md_hasGuesses, .int md_keptBits, .ref a_md_rounds, .ref a_md_marked, .ref a_md_other, .ref a_md_heights])), (a_md_nexts, .inl (cI, 24576, .inl md_nexts)), (a_md_isGoal, .inl (cZ, 4096, .inl md_isGoal)), (a_md_levels, .inl (cI, 4096, .inl md_levels)), (a_md_hasGuesses, .inl (cI, 4096, .inl md_hasGuesses)), (a_md_marked, .inl (cZ, 4096, .inl md_marked_7)), (a_md_other, .inl (cZ, 4096, .inl md_other_8))] H → va_D A [(a_md, .inr (11, [.ref a_md_tape, .int md_size, .int md_at, .int md_token, .int md_tokenPlace, .int md_number, .int md_sign, .int md_bad, .int md_faultPlace, .int md_place, .ref a_md_acts, .ref a_md_actNumbers, .ref a_md_actCounts, .int md_bank, .int md_unaries, .int md_opens, .ref a_md_pile, .int md_piled, .int md_loop, .ref a_md_begins, .ref a_md_goals, .ref a_md_ranks, .ref a_md_choiceCounts, .ref a_md_whens, .ref a_md_becomes, .ref a_md_guessCounts, .ref a_md_guesses, .ref a_md_unaryCounts, .ref a_md_stack, .ref a_md_nexts, .ref a_md_isBegin, .ref a_md_isGoal, .ref a_md_levels, .ref a_md_queue, .ref a_md_hasGuesses, .int md_keptBits, .ref a_md_rounds, .ref a_md_marked, .ref a_md_other, .ref a_md_heights])), (a_md_nexts, .inl (cI, 24576, .inl md_nexts)), (a_md_isGoal, .inl (cZ, 4096, .inl md_isGoal)), (a_md_levels, .inl (cI, 4096, .inl md_levels)), (a_md_hasGuesses, .inl (cI, 4096, .inl md_hasGuesses)), (a_md_marked, .inl (cZ, 4096, .inl md_marked_7)), (a_md_other, .inl (cZ, 4096, .inl md_other_8))] → va_S A s.heap H locs → ∀ ls : Array Slot, lv_has ls 8 [(0, .ref a_md), (2, .int 0), (3, .int x3_6), (4, .int x4_23)] → W p l e (headSpec w_Md_induction ({ frames := 1, cells := 0, slots := 0, locals := 24 })).room s m (([.ref a_md, .int x1] : List Value).toArray) below meth c H locs 0 0 QQ (F0 m 240 ls [])) (n : Nat) (x4_20 : Int32) (x5_21 : Int32), wp_Md_induction_L153 0 x3_6 md_nexts md_isGoal md_marked_7 k240 n x4_20 x5_21 → ∀ (H : Heap) (locs : List Loc), va_P (dC, dI) vwCl [(a_md, .inr (11, [.ref a_md_tape, .int md_size, .int md_at, .int md_token, .int md_tokenPlace, .int md_number, .int md_sign, .int md_bad, .int md_faultPlace, .int md_place, .ref a_md_acts, .ref a_md_actNumbers, .ref a_md_actCounts, .int md_bank, .int md_unaries, .int md_opens, .ref a_md_pile, .int md_piled, .int md_loop, .ref a_md_begins, .ref a_md_goals, .ref a_md_ranks, .ref a_md_choiceCounts, .ref a_md_whens, .ref a_md_becomes, .ref a_md_guessCounts, .ref a_md_guesses, .ref a_md_unaryCounts, .ref a_md_stack, .ref a_md_nexts, .ref a_md_isBegin, .ref a_md_isGoal, .ref a_md_levels, .ref a_md_queue, .ref a_md_hasGuesses, .int md_keptBits, .ref a_md_rounds, .ref a_md_marked, .ref a_md_other, .ref a_md_heights])), (a_md_nexts, .inl (cI, 24576, .inl md_nexts)), (a_md_isGoal, .inl (cZ, 4096, .inl md_isGoal)), (a_md_levels, .inl (cI, 4096, .inl md_levels)), (a_md_hasGuesses, .inl (cI, 4096, .inl md_hasGuesses)), (a_md_marked, .inl (cZ, 4096, .inl md_marked_7)), (a_md_other, .inl (cZ, 4096, .inl md_other_8))] H → va_D A [(a_md, .inr (11, [.ref a_md_tape, .int md_size, .int md_at, .int md_token, .int md_tokenPlace, .int md_number, .int md_sign, .int md_bad, .int md_faultPlace, .int md_place, .ref a_md_acts, .ref a_md_actNumbers, .ref a_md_actCounts, .int md_bank, .int md_unaries, .int md_opens, .ref a_md_pile, .int md_piled, .int md_loop, .ref a_md_begins, .ref a_md_goals, .ref a_md_ranks, .ref a_md_choiceCounts, .ref a_md_whens, .ref a_md_becomes, .ref a_md_guessCounts, .ref a_md_guesses, .ref a_md_unaryCounts, .ref a_md_stack, .ref a_md_nexts, .ref a_md_isBegin, .ref a_md_isGoal, .ref a_md_levels, .ref a_md_queue, .ref a_md_hasGuesses, .int md_keptBits, .ref a_md_rounds, .ref a_md_marked, .ref a_md_other, .ref a_md_heights])), (a_md_nexts, .inl (cI, 24576, .inl md_nexts)), (a_md_isGoal, .inl (cZ, 4096, .inl md_isGoal)), (a_md_levels, .inl (cI, 4096, .inl md_levels)), (a_md_hasGuesses, .inl (cI, 4096, .inl md_hasGuesses)), (a_md_marked, .inl (cZ, 4096, .inl md_marked_7)), (a_md_other, .inl (cZ, 4096, .inl md_other_8))] → va_S A s.heap H locs → ∀ ls : Array Slot, lv_has ls 8 [(0, .ref a_md), (2, .int 0), (3, .int x3_6), (4, .int x4_20), (5, .int x5_21)] → W p l e (headSpec w_Md_induction ({ frames := 1, cells := 0, slots := 0, locals := 24 })).room s m (([.ref a_md, .int x1] : List Value).toArray) below meth c H locs 0 0 QQ (F0 m 153 ls []) := by
                  intro k240 hk240 n
                  induction n with
                  | zero => intro x4_20 x5_21 h; exact (show False from h).elim
                  | succ n il =>
                    intro x4_20 x5_21 h H locs hP hD hS ls hl
                    refine lv_iload hx hb d_Md_induction_153 (lv_at hl 4 rfl) ?_
                    refine lv_sipush (v := 4096) hx hb d_Md_induction_155 (by decide) ?_
                    refine lv_icmp_ge (tgt := 240) hx hb d_Md_induction_158 (by decide) (fun c_158 => ?_) (fun c_158 => ?_)
                    · have h := And.left h c_158
                      exact hk240 _ h _ _ hP hD hS _ (lv_sub hl [0, 1, 2, 3] rfl)
                    · have h := And.right h c_158
                      refine lv_iload hx hb d_Md_induction_161 (lv_at hl 3 rfl) ?_
                      refine lv_if_eq (tgt := 240) hx hb d_Md_induction_163 (by decide) (fun c_163 => ?_) (fun c_163 => ?_)
                      · have h := And.left h c_163
                        exact hk240 _ h _ _ hP hD hS _ (lv_sub hl [0, 1, 2, 3] rfl)
                      · have h := And.right h c_163
                        refine lv_iconst (v := 0) hx hb d_Md_induction_166 (by decide) ?_
                        refine lv_istore (lv' := [(6, .int 0), (0, .ref a_md), (2, .int 0), (3, .int x3_6), (4, .int x4_20), (5, .int x5_21)]) hx hb d_Md_induction_167 hl (by decide) rfl (fun ls hl => ?_)
                        have L169_q_26 : ∀ (k234 : Int32 → Prop) (hk234 : ∀ (x4_27 : Int32), k234 x4_27 → ∀ (H : Heap) (locs : List Loc), va_P (dC, dI) vwCl [(a_md, .inr (11, [.ref a_md_tape, .int md_size, .int md_at, .int md_token, .int md_tokenPlace, .int md_number, .int md_sign, .int md_bad, .int md_faultPlace, .int md_place, .ref a_md_acts, .ref a_md_actNumbers, .ref a_md_actCounts, .int md_bank, .int md_unaries, .int md_opens, .ref a_md_pile, .int md_piled, .int md_loop, .ref a_md_begins, .ref a_md_goals, .ref a_md_ranks, .ref a_md_choiceCounts, .ref a_md_whens, .ref a_md_becomes, .ref a_md_guessCounts, .ref a_md_guesses, .ref a_md_unaryCounts, .ref a_md_stack, .ref a_md_nexts, .ref a_md_isBegin, .ref a_md_isGoal, .ref a_md_levels, .ref a_md_queue, .ref a_md_hasGuesses, .int md_keptBits, .ref a_md_rounds, .ref a_md_marked, .ref a_md_other, .ref a_md_heights])), (a_md_nexts, .inl (cI, 24576, .inl md_nexts)), (a_md_isGoal, .inl (cZ, 4096, .inl md_isGoal)), (a_md_levels, .inl (cI, 4096, .inl md_levels)), (a_md_hasGuesses, .inl (cI, 4096, .inl md_hasGuesses)), (a_md_marked, .inl (cZ, 4096, .inl md_marked_7)), (a_md_other, .inl (cZ, 4096, .inl md_other_8))] H → va_D A [(a_md, .inr (11, [.ref a_md_tape, .int md_size, .int md_at, .int md_token, .int md_tokenPlace, .int md_number, .int md_sign, .int md_bad, .int md_faultPlace, .int md_place, .ref a_md_acts, .ref a_md_actNumbers, .ref a_md_actCounts, .int md_bank, .int md_unaries, .int md_opens, .ref a_md_pile, .int md_piled, .int md_loop, .ref a_md_begins, .ref a_md_goals, .ref a_md_ranks, .ref a_md_choiceCounts, .ref a_md_whens, .ref a_md_becomes, .ref a_md_guessCounts, .ref a_md_guesses, .ref a_md_unaryCounts, .ref a_md_stack, .ref a_md_nexts, .ref a_md_isBegin, .ref a_md_isGoal, .ref a_md_levels, .ref a_md_queue, .ref a_md_hasGuesses, .int md_keptBits, .ref a_md_rounds, .ref a_md_marked, .ref a_md_other, .ref a_md_heights])), (a_md_nexts, .inl (cI, 24576, .inl md_nexts)), (a_md_isGoal, .inl (cZ, 4096, .inl md_isGoal)), (a_md_levels, .inl (cI, 4096, .inl md_levels)), (a_md_hasGuesses, .inl (cI, 4096, .inl md_hasGuesses)), (a_md_marked, .inl (cZ, 4096, .inl md_marked_7)), (a_md_other, .inl (cZ, 4096, .inl md_other_8))] → va_S A s.heap H locs → ∀ ls : Array Slot, lv_has ls 8 [(0, .ref a_md), (2, .int 0), (3, .int x3_6), (4, .int x4_27), (5, .int x5_21)] → W p l e (headSpec w_Md_induction ({ frames := 1, cells := 0, slots := 0, locals := 24 })).room s m (([.ref a_md, .int x1] : List Value).toArray) below meth c H locs 0 0 QQ (F0 m 234 ls [])) (n : Nat) (x4_24 : Int32) (x6_25 : Int32), wp_Md_induction_L169 0 x3_6 x5_21 md_nexts md_isGoal md_marked_7 k234 n x4_24 x6_25 → ∀ (H : Heap) (locs : List Loc), va_P (dC, dI) vwCl [(a_md, .inr (11, [.ref a_md_tape, .int md_size, .int md_at, .int md_token, .int md_tokenPlace, .int md_number, .int md_sign, .int md_bad, .int md_faultPlace, .int md_place, .ref a_md_acts, .ref a_md_actNumbers, .ref a_md_actCounts, .int md_bank, .int md_unaries, .int md_opens, .ref a_md_pile, .int md_piled, .int md_loop, .ref a_md_begins, .ref a_md_goals, .ref a_md_ranks, .ref a_md_choiceCounts, .ref a_md_whens, .ref a_md_becomes, .ref a_md_guessCounts, .ref a_md_guesses, .ref a_md_unaryCounts, .ref a_md_stack, .ref a_md_nexts, .ref a_md_isBegin, .ref a_md_isGoal, .ref a_md_levels, .ref a_md_queue, .ref a_md_hasGuesses, .int md_keptBits, .ref a_md_rounds, .ref a_md_marked, .ref a_md_other, .ref a_md_heights])), (a_md_nexts, .inl (cI, 24576, .inl md_nexts)), (a_md_isGoal, .inl (cZ, 4096, .inl md_isGoal)), (a_md_levels, .inl (cI, 4096, .inl md_levels)), (a_md_hasGuesses, .inl (cI, 4096, .inl md_hasGuesses)), (a_md_marked, .inl (cZ, 4096, .inl md_marked_7)), (a_md_other, .inl (cZ, 4096, .inl md_other_8))] H → va_D A [(a_md, .inr (11, [.ref a_md_tape, .int md_size, .int md_at, .int md_token, .int md_tokenPlace, .int md_number, .int md_sign, .int md_bad, .int md_faultPlace, .int md_place, .ref a_md_acts, .ref a_md_actNumbers, .ref a_md_actCounts, .int md_bank, .int md_unaries, .int md_opens, .ref a_md_pile, .int md_piled, .int md_loop, .ref a_md_begins, .ref a_md_goals, .ref a_md_ranks, .ref a_md_choiceCounts, .ref a_md_whens, .ref a_md_becomes, .ref a_md_guessCounts, .ref a_md_guesses, .ref a_md_unaryCounts, .ref a_md_stack, .ref a_md_nexts, .ref a_md_isBegin, .ref a_md_isGoal, .ref a_md_levels, .ref a_md_queue, .ref a_md_hasGuesses, .int md_keptBits, .ref a_md_rounds, .ref a_md_marked, .ref a_md_other, .ref a_md_heights])), (a_md_nexts, .inl (cI, 24576, .inl md_nexts)), (a_md_isGoal, .inl (cZ, 4096, .inl md_isGoal)), (a_md_levels, .inl (cI, 4096, .inl md_levels)), (a_md_hasGuesses, .inl (cI, 4096, .inl md_hasGuesses)), (a_md_marked, .inl (cZ, 4096, .inl md_marked_7)), (a_md_other, .inl (cZ, 4096, .inl md_other_8))] → va_S A s.heap H locs → ∀ ls : Array Slot, lv_has ls 8 [(0, .ref a_md), (2, .int 0), (3, .int x3_6), (4, .int x4_24), (5, .int x5_21), (6, .int x6_25)] → W p l e (headSpec w_Md_induction ({ frames := 1, cells := 0, slots := 0, locals := 24 })).room s m (([.ref a_md, .int x1] : List Value).toArray) below meth c H locs 0 0 QQ (F0 m 169 ls []) := by
                          intro k234 hk234 n
                          induction n with
                          | zero => intro x4_24 x6_25 h; exact (show False from h).elim
                          | succ n il =>
                            intro x4_24 x6_25 h H locs hP hD hS ls hl
                            refine lv_iload hx hb d_Md_induction_169 (lv_at hl 5 rfl) ?_
                            refine lv_bipush (v := 6) hx hb d_Md_induction_171 (by decide) ?_
                            refine lv_icmp_ge (tgt := 234) hx hb d_Md_induction_173 (by decide) (fun c_173 => ?_) (fun c_173 => ?_)
                            · have h := And.left h c_173
                              exact hk234 _ h _ _ hP hD hS _ (lv_sub hl [0, 1, 2, 3, 4] rfl)
                            · have h := And.right h c_173
                              refine lv_aload_n hx hb d_Md_induction_176 rfl (lv_at hl 0 rfl) ?_
                              refine va_get (D := (dC, dI)) (ci := 11) (v := .ref a_md_marked) (C := "LoopInductionModel") (T := F_Md) (N := 40) hx hb hts iC_Md hown hK hP 0 rfl rfl 37 (by decide) fl_85 (fun _ h9 => h9) rfl d_Md_induction_177 ?_
                              refine lv_iload hx hb d_Md_induction_180 (lv_at hl 4 rfl) ?_
                              obtain ⟨hin_182, h⟩ := h
                              refine va_zald hx hb hK hP 5 2 rfl rfl hin_182 d_Md_induction_182 ?_
                              refine lv_if_eq (tgt := 234) hx hb d_Md_induction_183 (by decide) (fun c_183 => ?_) (fun c_183 => ?_)
                              · have h := And.left h c_183
                                exact hk234 _ h _ _ hP hD hS _ (lv_sub hl [0, 1, 2, 3, 4] rfl)
                              · have h := And.right h c_183
                                refine lv_aload_n hx hb d_Md_induction_186 rfl (lv_at hl 0 rfl) ?_
                                refine va_get (D := (dC, dI)) (ci := 11) (v := .ref a_md_nexts) (C := "LoopInductionModel") (T := F_Md) (N := 40) hx hb hts iC_Md hown hK hP 0 rfl rfl 29 (by decide) fl_63 (fun _ h9 => h9) rfl d_Md_induction_187 ?_
                                refine lv_bipush (v := 6) hx hb d_Md_induction_190 (by decide) ?_
                                refine lv_iload hx hb d_Md_induction_192 (lv_at hl 4 rfl) ?_
                                refine lv_imul hx hb d_Md_induction_194 ?_
                                refine lv_iload hx hb d_Md_induction_195 (lv_at hl 5 rfl) ?_
                                refine lv_iadd hx hb d_Md_induction_197 ?_
                                obtain ⟨hin_198, h⟩ := h
                                refine va_iald hx hb hK hP 1 0 rfl rfl hin_198 d_Md_induction_198 ?_
                                refine lv_topi (fun x7_28 ex7_28 => ?_)
                                have h := h x7_28 ex7_28
                                refine lv_istore (lv' := [(7, .int x7_28), (0, .ref a_md), (2, .int 0), (3, .int x3_6), (4, .int x4_24), (5, .int x5_21), (6, .int x6_25)]) hx hb d_Md_induction_199 hl (by decide) rfl (fun ls hl => ?_)
                                refine lv_iload hx hb d_Md_induction_201 (lv_at hl 4 rfl) ?_
                                refine lv_if_eq (tgt := 225) hx hb d_Md_induction_203 (by decide) (fun c_203 => ?_) (fun c_203 => ?_)
                                · have h := And.left h c_203
                                  refine lv_iconst (v := 0) hx hb d_Md_induction_225 (by decide) ?_
                                  refine lv_istore (lv' := [(4, .int 0), (7, .int x7_28), (0, .ref a_md), (2, .int 0), (3, .int x3_6), (5, .int x5_21), (6, .int x6_25)]) hx hb d_Md_induction_226 hl (by decide) rfl (fun ls hl => ?_)
                                  refine lv_iinc (v := x6_25 + 1) (lv' := [(6, .int (x6_25 + 1)), (4, .int 0), (7, .int x7_28), (0, .ref a_md), (2, .int 0), (3, .int x3_6), (5, .int x5_21)]) hx hb d_Md_induction_228 hl (k := 6) rfl rfl (by decide) rfl (fun ls hl => ?_)
                                  refine lv_goto (tgt := 169) hx hb d_Md_induction_231 (by decide) ?_
                                  exact il _ _ h _ _ hP hD hS _ (lv_sub hl [3, 4, 5, 1, 6, 0] rfl)
                                · have h := And.right h c_203
                                  refine lv_iload hx hb d_Md_induction_206 (lv_at hl 0 rfl) ?_
                                  refine lv_if_lt (tgt := 221) hx hb d_Md_induction_208 (by decide) (fun c_208 => ?_) (fun c_208 => ?_)
                                  · have h := And.left h c_208
                                    refine lv_iconst (v := 1) hx hb d_Md_induction_221 (by decide) ?_
                                    refine lv_goto (tgt := 226) hx hb d_Md_induction_222 (by decide) ?_
                                    refine lv_istore (lv' := [(4, .int 1), (7, .int x7_28), (0, .ref a_md), (2, .int 0), (3, .int x3_6), (5, .int x5_21), (6, .int x6_25)]) hx hb d_Md_induction_226 hl (by decide) rfl (fun ls hl => ?_)
                                    refine lv_iinc (v := x6_25 + 1) (lv' := [(6, .int (x6_25 + 1)), (4, .int 1), (7, .int x7_28), (0, .ref a_md), (2, .int 0), (3, .int x3_6), (5, .int x5_21)]) hx hb d_Md_induction_228 hl (k := 6) rfl rfl (by decide) rfl (fun ls hl => ?_)
                                    refine lv_goto (tgt := 169) hx hb d_Md_induction_231 (by decide) ?_
                                    exact il _ _ h _ _ hP hD hS _ (lv_sub hl [3, 4, 5, 1, 6, 0] rfl)
                                  · have h := And.right h c_208
                                    refine lv_aload_n hx hb d_Md_induction_211 rfl (lv_at hl 1 rfl) ?_
                                    refine va_get (D := (dC, dI)) (ci := 11) (v := .ref a_md_isGoal) (C := "LoopInductionModel") (T := F_Md) (N := 40) hx hb hts iC_Md hown hK hP 0 rfl rfl 31 (by decide) fl_70 (fun _ h9 => h9) rfl d_Md_induction_212 ?_
                                    refine lv_iload hx hb d_Md_induction_215 (lv_at hl 0 rfl) ?_
                                    obtain ⟨hin_217, h⟩ := h
                                    refine va_zald hx hb hK hP 2 2 rfl rfl hin_217 d_Md_induction_217 ?_
                                    refine lv_if_eq (tgt := 225) hx hb d_Md_induction_218 (by decide) (fun c_218 => ?_) (fun c_218 => ?_)
                                    · have h := And.left h c_218
                                      refine lv_iconst (v := 0) hx hb d_Md_induction_225 (by decide) ?_
                                      refine lv_istore (lv' := [(4, .int 0), (7, .int x7_28), (0, .ref a_md), (2, .int 0), (3, .int x3_6), (5, .int x5_21), (6, .int x6_25)]) hx hb d_Md_induction_226 hl (by decide) rfl (fun ls hl => ?_)
                                      refine lv_iinc (v := x6_25 + 1) (lv' := [(6, .int (x6_25 + 1)), (4, .int 0), (7, .int x7_28), (0, .ref a_md), (2, .int 0), (3, .int x3_6), (5, .int x5_21)]) hx hb d_Md_induction_228 hl (k := 6) rfl rfl (by decide) rfl (fun ls hl => ?_)
                                      refine lv_goto (tgt := 169) hx hb d_Md_induction_231 (by decide) ?_
                                      exact il _ _ h _ _ hP hD hS _ (lv_sub hl [3, 4, 5, 1, 6, 0] rfl)
                                    · have h := And.right h c_218
                                      refine lv_iconst (v := 1) hx hb d_Md_induction_221 (by decide) ?_
                                      refine lv_goto (tgt := 226) hx hb d_Md_induction_222 (by decide) ?_
                                      refine lv_istore (lv' := [(4, .int 1), (7, .int x7_28), (0, .ref a_md), (2, .int 0), (3, .int x3_6), (5, .int x5_21), (6, .int x6_25)]) hx hb d_Md_induction_226 hl (by decide) rfl (fun ls hl => ?_)
                                      refine lv_iinc (v := x6_25 + 1) (lv' := [(6, .int (x6_25 + 1)), (4, .int 1), (7, .int x7_28), (0, .ref a_md), (2, .int 0), (3, .int x3_6), (5, .int x5_21)]) hx hb d_Md_induction_228 hl (k := 6) rfl rfl (by decide) rfl (fun ls hl => ?_)
                                      refine lv_goto (tgt := 169) hx hb d_Md_induction_231 (by decide) ?_
                                      exact il _ _ h _ _ hP hD hS _ (lv_sub hl [3, 4, 5, 1, 6, 0] rfl)
                        obtain ⟨n_, h⟩ := h
                        refine L169_q_26 _ ?_ n_ _ _ h _ _ hP hD hS _ (lv_sub hl [1, 2, 3, 4, 5, 0] rfl)
                        intro x4_29 h H locs hP hD hS ls hl
                        refine lv_iinc (v := x5_21 + 1) (lv' := [(5, .int (x5_21 + 1)), (0, .ref a_md), (2, .int 0), (3, .int x3_6), (4, .int x4_29)]) hx hb d_Md_induction_234 hl (k := 4) rfl rfl (by decide) rfl (fun ls hl => ?_)
                        refine lv_goto (tgt := 153) hx hb d_Md_induction_237 (by decide) ?_
                        exact il _ _ h _ _ hP hD hS _ (lv_sub hl [1, 2, 3, 4, 0] rfl)
                obtain ⟨n_, h⟩ := h
                refine L153_q_22 _ ?_ n_ _ _ h _ _ hP hD hS _ (lv_sub hl [1, 2, 3, 4, 0] rfl)
                intro x4_30 h H locs hP hD hS ls hl
                refine lv_iload hx hb d_Md_induction_240 (lv_at hl 3 rfl) ?_
                refine lv_if_eq (tgt := 247) hx hb d_Md_induction_242 (by decide) (fun c_242 => ?_) (fun c_242 => ?_)
                · have h := And.left h c_242
                  refine lv_aload_n hx hb d_Md_induction_247 rfl (lv_at hl 0 rfl) ?_
                  refine lv_iload_n hx hb d_Md_induction_248 rfl (lv_at hl 1 rfl) ?_
                  refine jn_v (wr := [(a_md_levels, .inl (cI, 4096, .inl md_levels))]) (va_runV (As := [.int 0]) (rest := []) ⟨hx, hb, hml, hown, hts⟩ (c_Md_goOn l dC dI cI cB cZ adK adV _ a_md a_md_tape a_md_acts a_md_actNumbers a_md_actCounts a_md_pile a_md_begins a_md_goals a_md_ranks a_md_choiceCounts a_md_whens a_md_becomes a_md_guessCounts a_md_guesses a_md_unaryCounts a_md_stack a_md_nexts a_md_isBegin a_md_isGoal a_md_levels a_md_queue a_md_hasGuesses a_md_rounds a_md_marked a_md_other a_md_heights md_size md_at md_token md_tokenPlace md_number md_sign md_bad md_faultPlace md_place md_bank md_unaries md_opens md_piled md_loop md_keptBits md_nexts md_isGoal md_hasGuesses md_marked_7 md_other_8 0 _ h) (cwV 1 hts (gv_ m_1413 m_1415 m_81 m_96 m_1416) rfl rfl rfl pd_Md_goOn ⟨Nat.le_of_ble_eq_true rfl, Nat.le_of_ble_eq_true rfl⟩) ⟨pc_blind, va_recv hK hP (ci := 11) (q0 := 0) rfl rfl, pc_of (hP.sub [0, 1, 2, 4, 5, 6] rfl) hK (hD.sub [0, 1, 2, 4, 5, 6] (by decide) rfl) hN hT hS hA⟩ rfl rfl hl.1 rfl (lv_room (Nat.le_of_ble_eq_true rfl)) d_Md_induction_249 ⟨Nat.zero_le _, Nat.zero_le _⟩) hP hD hS hA [0, 1, 2, 4, 5, 6] [3] rfl rfl (by decide) (by decide) (fun u_ H locs h hP hD hS => ?_)
                  obtain ⟨md_marked_31, md_other_32⟩ := u_
                  have hP : va_P (dC, dI) vwCl [(a_md_levels, .inl (cI, 4096, .inl md_levels)), (a_md, .inr (11, [.ref a_md_tape, .int md_size, .int md_at, .int md_token, .int md_tokenPlace, .int md_number, .int md_sign, .int md_bad, .int md_faultPlace, .int md_place, .ref a_md_acts, .ref a_md_actNumbers, .ref a_md_actCounts, .int md_bank, .int md_unaries, .int md_opens, .ref a_md_pile, .int md_piled, .int md_loop, .ref a_md_begins, .ref a_md_goals, .ref a_md_ranks, .ref a_md_choiceCounts, .ref a_md_whens, .ref a_md_becomes, .ref a_md_guessCounts, .ref a_md_guesses, .ref a_md_unaryCounts, .ref a_md_stack, .ref a_md_nexts, .ref a_md_isBegin, .ref a_md_isGoal, .ref a_md_levels, .ref a_md_queue, .ref a_md_hasGuesses, .int md_keptBits, .ref a_md_rounds, .ref a_md_marked, .ref a_md_other, .ref a_md_heights])), (a_md_nexts, .inl (cI, 24576, .inl md_nexts)), (a_md_isGoal, .inl (cZ, 4096, .inl md_isGoal)), (a_md_hasGuesses, .inl (cI, 4096, .inl md_hasGuesses)), (a_md_marked, .inl (cZ, 4096, .inl md_marked_31)), (a_md_other, .inl (cZ, 4096, .inl md_other_32))] H := hP
                  have hD : va_D A [(a_md_levels, .inl (cI, 4096, .inl md_levels)), (a_md, .inr (11, [.ref a_md_tape, .int md_size, .int md_at, .int md_token, .int md_tokenPlace, .int md_number, .int md_sign, .int md_bad, .int md_faultPlace, .int md_place, .ref a_md_acts, .ref a_md_actNumbers, .ref a_md_actCounts, .int md_bank, .int md_unaries, .int md_opens, .ref a_md_pile, .int md_piled, .int md_loop, .ref a_md_begins, .ref a_md_goals, .ref a_md_ranks, .ref a_md_choiceCounts, .ref a_md_whens, .ref a_md_becomes, .ref a_md_guessCounts, .ref a_md_guesses, .ref a_md_unaryCounts, .ref a_md_stack, .ref a_md_nexts, .ref a_md_isBegin, .ref a_md_isGoal, .ref a_md_levels, .ref a_md_queue, .ref a_md_hasGuesses, .int md_keptBits, .ref a_md_rounds, .ref a_md_marked, .ref a_md_other, .ref a_md_heights])), (a_md_nexts, .inl (cI, 24576, .inl md_nexts)), (a_md_isGoal, .inl (cZ, 4096, .inl md_isGoal)), (a_md_hasGuesses, .inl (cI, 4096, .inl md_hasGuesses)), (a_md_marked, .inl (cZ, 4096, .inl md_marked_31)), (a_md_other, .inl (cZ, 4096, .inl md_other_32))] := hD
                  refine lv_iinc (v := x3_6 + 1) (lv' := [(3, .int (x3_6 + 1)), (0, .ref a_md), (2, .int 0), (4, .int x4_30)]) hx hb d_Md_induction_252 hl (k := 2) rfl rfl (by decide) rfl (fun ls hl => ?_)
                  refine lv_goto (tgt := 81) hx hb d_Md_induction_255 (by decide) ?_
                  exact il _ _ _ h _ _ (hP.sub [1, 2, 3, 0, 4, 5, 6] rfl) (hD.sub [1, 2, 3, 0, 4, 5, 6] (by decide) rfl) hS _ (lv_sub hl [1, 2, 0] rfl)
                · have h := And.right h c_242
                  exact hk245 _ _ _ h _ _ hP hD hS _ (lv_sub hl [2] rfl)
          obtain ⟨n_, h⟩ := h
          refine L81_q_9 _ ?_ _ ?_ n_ _ _ _ h _ _ hP hD hS _ (lv_sub hl [1, 2, 0] rfl)
          · intro md_marked_33 md_other_34 h H locs hP hD hS ls hl
            refine lv_iconst (v := 0) hx hb d_Md_induction_258 (by decide) ?_
            subst hQ
            have hP9 := hP
            have hD9 := hD
            exact W.iret (v := 0) hx hb hr (fun t ht hW => ⟨⟨0, (md_marked_33, md_other_34), rfl, h, by rw [ht]; exact hP9, va_K.moved hW.alike hK, hD9⟩, hS.F ht⟩) hS.2.2 d_Md_induction_259
          · intro x3_35 md_marked_36 md_other_37 h H locs hP hD hS ls hl
            refine lv_iload_n hx hb d_Md_induction_245 rfl (lv_at hl 0 rfl) ?_
            subst hQ
            have hP9 := hP
            have hD9 := hD
            exact W.iret (v := x3_35) hx hb hr (fun t ht hW => ⟨⟨x3_35, (md_marked_36, md_other_37), rfl, h, by rw [ht]; exact hP9, va_K.moved hW.alike hK, hD9⟩, hS.F ht⟩) hS.2.2 d_Md_induction_246
        · have h := And.right h c_20
          refine lv_aload_n hx hb d_Md_induction_23 rfl (lv_at hl 0 rfl) ?_
          refine va_get (D := (dC, dI)) (ci := 11) (v := .int md_keptBits) (C := "LoopInductionModel") (T := F_Md) (N := 40) hx hb hts iC_Md hown hK hP 0 rfl rfl 35 (by decide) fl_264 (fun _ h9 => h9) rfl d_Md_induction_24 ?_
          refine lv_goto (tgt := 31) hx hb d_Md_induction_27 (by decide) ?_
          refine lv_istore_n (lv' := [(2, .int md_keptBits), (0, .ref a_md), (1, .int x1)]) hx hb d_Md_induction_31 rfl hl (by decide) rfl (fun ls hl => ?_)
          refine lv_iconst (v := 0) hx hb d_Md_induction_32 (by decide) ?_
          refine lv_istore_n (lv' := [(3, .int 0), (2, .int md_keptBits), (0, .ref a_md), (1, .int x1)]) hx hb d_Md_induction_33 rfl hl (by decide) rfl (fun ls hl => ?_)
          have L34_q_40 : ∀ (k79 : (Nat → Int32) → Prop) (hk79 : ∀ (md_marked_41 : Nat → Int32), k79 md_marked_41 → ∀ (H : Heap) (locs : List Loc), va_P (dC, dI) vwCl [(a_md, .inr (11, [.ref a_md_tape, .int md_size, .int md_at, .int md_token, .int md_tokenPlace, .int md_number, .int md_sign, .int md_bad, .int md_faultPlace, .int md_place, .ref a_md_acts, .ref a_md_actNumbers, .ref a_md_actCounts, .int md_bank, .int md_unaries, .int md_opens, .ref a_md_pile, .int md_piled, .int md_loop, .ref a_md_begins, .ref a_md_goals, .ref a_md_ranks, .ref a_md_choiceCounts, .ref a_md_whens, .ref a_md_becomes, .ref a_md_guessCounts, .ref a_md_guesses, .ref a_md_unaryCounts, .ref a_md_stack, .ref a_md_nexts, .ref a_md_isBegin, .ref a_md_isGoal, .ref a_md_levels, .ref a_md_queue, .ref a_md_hasGuesses, .int md_keptBits, .ref a_md_rounds, .ref a_md_marked, .ref a_md_other, .ref a_md_heights])), (a_md_nexts, .inl (cI, 24576, .inl md_nexts)), (a_md_isGoal, .inl (cZ, 4096, .inl md_isGoal)), (a_md_levels, .inl (cI, 4096, .inl md_levels)), (a_md_hasGuesses, .inl (cI, 4096, .inl md_hasGuesses)), (a_md_marked, .inl (cZ, 4096, .inl md_marked_41)), (a_md_other, .inl (cZ, 4096, .inl md_other))] H → va_D A [(a_md, .inr (11, [.ref a_md_tape, .int md_size, .int md_at, .int md_token, .int md_tokenPlace, .int md_number, .int md_sign, .int md_bad, .int md_faultPlace, .int md_place, .ref a_md_acts, .ref a_md_actNumbers, .ref a_md_actCounts, .int md_bank, .int md_unaries, .int md_opens, .ref a_md_pile, .int md_piled, .int md_loop, .ref a_md_begins, .ref a_md_goals, .ref a_md_ranks, .ref a_md_choiceCounts, .ref a_md_whens, .ref a_md_becomes, .ref a_md_guessCounts, .ref a_md_guesses, .ref a_md_unaryCounts, .ref a_md_stack, .ref a_md_nexts, .ref a_md_isBegin, .ref a_md_isGoal, .ref a_md_levels, .ref a_md_queue, .ref a_md_hasGuesses, .int md_keptBits, .ref a_md_rounds, .ref a_md_marked, .ref a_md_other, .ref a_md_heights])), (a_md_nexts, .inl (cI, 24576, .inl md_nexts)), (a_md_isGoal, .inl (cZ, 4096, .inl md_isGoal)), (a_md_levels, .inl (cI, 4096, .inl md_levels)), (a_md_hasGuesses, .inl (cI, 4096, .inl md_hasGuesses)), (a_md_marked, .inl (cZ, 4096, .inl md_marked_41)), (a_md_other, .inl (cZ, 4096, .inl md_other))] → va_S A s.heap H locs → ∀ ls : Array Slot, lv_has ls 8 [(0, .ref a_md), (2, .int md_keptBits)] → W p l e (headSpec w_Md_induction ({ frames := 1, cells := 0, slots := 0, locals := 24 })).room s m (([.ref a_md, .int x1] : List Value).toArray) below meth c H locs 0 0 QQ (F0 m 79 ls [])) (n : Nat) (x3_38 : Int32) (md_marked_39 : Nat → Int32), wp_Md_induction_L34 md_keptBits md_isGoal md_hasGuesses k79 n x3_38 md_marked_39 → ∀ (H : Heap) (locs : List Loc), va_P (dC, dI) vwCl [(a_md, .inr (11, [.ref a_md_tape, .int md_size, .int md_at, .int md_token, .int md_tokenPlace, .int md_number, .int md_sign, .int md_bad, .int md_faultPlace, .int md_place, .ref a_md_acts, .ref a_md_actNumbers, .ref a_md_actCounts, .int md_bank, .int md_unaries, .int md_opens, .ref a_md_pile, .int md_piled, .int md_loop, .ref a_md_begins, .ref a_md_goals, .ref a_md_ranks, .ref a_md_choiceCounts, .ref a_md_whens, .ref a_md_becomes, .ref a_md_guessCounts, .ref a_md_guesses, .ref a_md_unaryCounts, .ref a_md_stack, .ref a_md_nexts, .ref a_md_isBegin, .ref a_md_isGoal, .ref a_md_levels, .ref a_md_queue, .ref a_md_hasGuesses, .int md_keptBits, .ref a_md_rounds, .ref a_md_marked, .ref a_md_other, .ref a_md_heights])), (a_md_nexts, .inl (cI, 24576, .inl md_nexts)), (a_md_isGoal, .inl (cZ, 4096, .inl md_isGoal)), (a_md_levels, .inl (cI, 4096, .inl md_levels)), (a_md_hasGuesses, .inl (cI, 4096, .inl md_hasGuesses)), (a_md_marked, .inl (cZ, 4096, .inl md_marked_39)), (a_md_other, .inl (cZ, 4096, .inl md_other))] H → va_D A [(a_md, .inr (11, [.ref a_md_tape, .int md_size, .int md_at, .int md_token, .int md_tokenPlace, .int md_number, .int md_sign, .int md_bad, .int md_faultPlace, .int md_place, .ref a_md_acts, .ref a_md_actNumbers, .ref a_md_actCounts, .int md_bank, .int md_unaries, .int md_opens, .ref a_md_pile, .int md_piled, .int md_loop, .ref a_md_begins, .ref a_md_goals, .ref a_md_ranks, .ref a_md_choiceCounts, .ref a_md_whens, .ref a_md_becomes, .ref a_md_guessCounts, .ref a_md_guesses, .ref a_md_unaryCounts, .ref a_md_stack, .ref a_md_nexts, .ref a_md_isBegin, .ref a_md_isGoal, .ref a_md_levels, .ref a_md_queue, .ref a_md_hasGuesses, .int md_keptBits, .ref a_md_rounds, .ref a_md_marked, .ref a_md_other, .ref a_md_heights])), (a_md_nexts, .inl (cI, 24576, .inl md_nexts)), (a_md_isGoal, .inl (cZ, 4096, .inl md_isGoal)), (a_md_levels, .inl (cI, 4096, .inl md_levels)), (a_md_hasGuesses, .inl (cI, 4096, .inl md_hasGuesses)), (a_md_marked, .inl (cZ, 4096, .inl md_marked_39)), (a_md_other, .inl (cZ, 4096, .inl md_other))] → va_S A s.heap H locs → ∀ ls : Array Slot, lv_has ls 8 [(0, .ref a_md), (2, .int md_keptBits), (3, .int x3_38)] → W p l e (headSpec w_Md_induction ({ frames := 1, cells := 0, slots := 0, locals := 24 })).room s m (([.ref a_md, .int x1] : List Value).toArray) below meth c H locs 0 0 QQ (F0 m 34 ls []) := by
            intro k79 hk79 n
            induction n with
            | zero => intro x3_38 md_marked_39 h; exact (show False from h).elim
            | succ n il =>
              intro x3_38 md_marked_39 h H locs hP hD hS ls hl
              refine lv_iload_n hx hb d_Md_induction_34 rfl (lv_at hl 2 rfl) ?_
              refine lv_sipush (v := 4096) hx hb d_Md_induction_35 (by decide) ?_
              refine lv_icmp_ge (tgt := 79) hx hb d_Md_induction_38 (by decide) (fun c_38 => ?_) (fun c_38 => ?_)
              · have h := And.left h c_38
                exact hk79 _ h _ _ hP hD hS _ (lv_sub hl [0, 1] rfl)
              · have h := And.right h c_38
                refine lv_aload_n hx hb d_Md_induction_41 rfl (lv_at hl 0 rfl) ?_
                refine va_get (D := (dC, dI)) (ci := 11) (v := .ref a_md_marked) (C := "LoopInductionModel") (T := F_Md) (N := 40) hx hb hts iC_Md hown hK hP 0 rfl rfl 37 (by decide) fl_85 (fun _ h9 => h9) rfl d_Md_induction_42 ?_
                refine lv_iload_n hx hb d_Md_induction_45 rfl (lv_at hl 2 rfl) ?_
                refine lv_aload_n hx hb d_Md_induction_46 rfl (lv_at hl 0 rfl) ?_
                refine va_get (D := (dC, dI)) (ci := 11) (v := .ref a_md_isGoal) (C := "LoopInductionModel") (T := F_Md) (N := 40) hx hb hts iC_Md hown hK hP 0 rfl rfl 31 (by decide) fl_70 (fun _ h9 => h9) rfl d_Md_induction_47 ?_
                refine lv_iload_n hx hb d_Md_induction_50 rfl (lv_at hl 2 rfl) ?_
                obtain ⟨hin_51, h⟩ := h
                refine va_zald hx hb hK hP 2 2 rfl rfl hin_51 d_Md_induction_51 ?_
                refine lv_if_eq (tgt := 71) hx hb d_Md_induction_52 (by decide) (fun c_52 => ?_) (fun c_52 => ?_)
                · have h := And.left h c_52
                  refine lv_iconst (v := 0) hx hb d_Md_induction_71 (by decide) ?_
                  obtain ⟨hin_72, h⟩ := h
                  refine va_zast hx hb hK hP hD hS 5 2 rfl rfl hin_72 d_Md_induction_72 (fun H locs hP hD hS => ?_)
                  have hP : va_P (dC, dI) vwCl [(a_md, .inr (11, [.ref a_md_tape, .int md_size, .int md_at, .int md_token, .int md_tokenPlace, .int md_number, .int md_sign, .int md_bad, .int md_faultPlace, .int md_place, .ref a_md_acts, .ref a_md_actNumbers, .ref a_md_actCounts, .int md_bank, .int md_unaries, .int md_opens, .ref a_md_pile, .int md_piled, .int md_loop, .ref a_md_begins, .ref a_md_goals, .ref a_md_ranks, .ref a_md_choiceCounts, .ref a_md_whens, .ref a_md_becomes, .ref a_md_guessCounts, .ref a_md_guesses, .ref a_md_unaryCounts, .ref a_md_stack, .ref a_md_nexts, .ref a_md_isBegin, .ref a_md_isGoal, .ref a_md_levels, .ref a_md_queue, .ref a_md_hasGuesses, .int md_keptBits, .ref a_md_rounds, .ref a_md_marked, .ref a_md_other, .ref a_md_heights])), (a_md_nexts, .inl (cI, 24576, .inl md_nexts)), (a_md_isGoal, .inl (cZ, 4096, .inl md_isGoal)), (a_md_levels, .inl (cI, 4096, .inl md_levels)), (a_md_hasGuesses, .inl (cI, 4096, .inl md_hasGuesses)), (a_md_marked, .inl (cZ, 4096, .inl (upd md_marked_39 (x3_38 : Int32).toNatClampNeg (vp_nar .boolean 0)))), (a_md_other, .inl (cZ, 4096, .inl md_other))] H := hP
                  have hD : va_D A [(a_md, .inr (11, [.ref a_md_tape, .int md_size, .int md_at, .int md_token, .int md_tokenPlace, .int md_number, .int md_sign, .int md_bad, .int md_faultPlace, .int md_place, .ref a_md_acts, .ref a_md_actNumbers, .ref a_md_actCounts, .int md_bank, .int md_unaries, .int md_opens, .ref a_md_pile, .int md_piled, .int md_loop, .ref a_md_begins, .ref a_md_goals, .ref a_md_ranks, .ref a_md_choiceCounts, .ref a_md_whens, .ref a_md_becomes, .ref a_md_guessCounts, .ref a_md_guesses, .ref a_md_unaryCounts, .ref a_md_stack, .ref a_md_nexts, .ref a_md_isBegin, .ref a_md_isGoal, .ref a_md_levels, .ref a_md_queue, .ref a_md_hasGuesses, .int md_keptBits, .ref a_md_rounds, .ref a_md_marked, .ref a_md_other, .ref a_md_heights])), (a_md_nexts, .inl (cI, 24576, .inl md_nexts)), (a_md_isGoal, .inl (cZ, 4096, .inl md_isGoal)), (a_md_levels, .inl (cI, 4096, .inl md_levels)), (a_md_hasGuesses, .inl (cI, 4096, .inl md_hasGuesses)), (a_md_marked, .inl (cZ, 4096, .inl (upd md_marked_39 (x3_38 : Int32).toNatClampNeg (vp_nar .boolean 0)))), (a_md_other, .inl (cZ, 4096, .inl md_other))] := hD
                  refine lv_iinc (v := x3_38 + 1) (lv' := [(3, .int (x3_38 + 1)), (0, .ref a_md), (2, .int md_keptBits)]) hx hb d_Md_induction_73 hl (k := 2) rfl rfl (by decide) rfl (fun ls hl => ?_)
                  refine lv_goto (tgt := 34) hx hb d_Md_induction_76 (by decide) ?_
                  exact il _ _ h _ _ hP hD hS _ (lv_sub hl [1, 2, 0] rfl)
                · have h := And.right h c_52
                  refine lv_aload_n hx hb d_Md_induction_55 rfl (lv_at hl 0 rfl) ?_
                  refine va_get (D := (dC, dI)) (ci := 11) (v := .ref a_md_hasGuesses) (C := "LoopInductionModel") (T := F_Md) (N := 40) hx hb hts iC_Md hown hK hP 0 rfl rfl 34 (by decide) fl_79 (fun _ h9 => h9) rfl d_Md_induction_56 ?_
                  refine lv_iload_n hx hb d_Md_induction_59 rfl (lv_at hl 2 rfl) ?_
                  obtain ⟨hin_60, h⟩ := h
                  refine va_iald hx hb hK hP 4 0 rfl rfl hin_60 d_Md_induction_60 ?_
                  refine lv_iload_n hx hb d_Md_induction_61 rfl (lv_at hl 1 rfl) ?_
                  refine lv_iand hx hb d_Md_induction_62 ?_
                  refine lv_iload_n hx hb d_Md_induction_63 rfl (lv_at hl 1 rfl) ?_
                  refine lv_icmp_ne (tgt := 71) hx hb d_Md_induction_64 (by decide) (fun c_64 => ?_) (fun c_64 => ?_)
                  · have h := And.left h c_64
                    refine lv_iconst (v := 0) hx hb d_Md_induction_71 (by decide) ?_
                    obtain ⟨hin_72, h⟩ := h
                    refine va_zast hx hb hK hP hD hS 5 2 rfl rfl hin_72 d_Md_induction_72 (fun H locs hP hD hS => ?_)
                    have hP : va_P (dC, dI) vwCl [(a_md, .inr (11, [.ref a_md_tape, .int md_size, .int md_at, .int md_token, .int md_tokenPlace, .int md_number, .int md_sign, .int md_bad, .int md_faultPlace, .int md_place, .ref a_md_acts, .ref a_md_actNumbers, .ref a_md_actCounts, .int md_bank, .int md_unaries, .int md_opens, .ref a_md_pile, .int md_piled, .int md_loop, .ref a_md_begins, .ref a_md_goals, .ref a_md_ranks, .ref a_md_choiceCounts, .ref a_md_whens, .ref a_md_becomes, .ref a_md_guessCounts, .ref a_md_guesses, .ref a_md_unaryCounts, .ref a_md_stack, .ref a_md_nexts, .ref a_md_isBegin, .ref a_md_isGoal, .ref a_md_levels, .ref a_md_queue, .ref a_md_hasGuesses, .int md_keptBits, .ref a_md_rounds, .ref a_md_marked, .ref a_md_other, .ref a_md_heights])), (a_md_nexts, .inl (cI, 24576, .inl md_nexts)), (a_md_isGoal, .inl (cZ, 4096, .inl md_isGoal)), (a_md_levels, .inl (cI, 4096, .inl md_levels)), (a_md_hasGuesses, .inl (cI, 4096, .inl md_hasGuesses)), (a_md_marked, .inl (cZ, 4096, .inl (upd md_marked_39 (x3_38 : Int32).toNatClampNeg (vp_nar .boolean 0)))), (a_md_other, .inl (cZ, 4096, .inl md_other))] H := hP
                    have hD : va_D A [(a_md, .inr (11, [.ref a_md_tape, .int md_size, .int md_at, .int md_token, .int md_tokenPlace, .int md_number, .int md_sign, .int md_bad, .int md_faultPlace, .int md_place, .ref a_md_acts, .ref a_md_actNumbers, .ref a_md_actCounts, .int md_bank, .int md_unaries, .int md_opens, .ref a_md_pile, .int md_piled, .int md_loop, .ref a_md_begins, .ref a_md_goals, .ref a_md_ranks, .ref a_md_choiceCounts, .ref a_md_whens, .ref a_md_becomes, .ref a_md_guessCounts, .ref a_md_guesses, .ref a_md_unaryCounts, .ref a_md_stack, .ref a_md_nexts, .ref a_md_isBegin, .ref a_md_isGoal, .ref a_md_levels, .ref a_md_queue, .ref a_md_hasGuesses, .int md_keptBits, .ref a_md_rounds, .ref a_md_marked, .ref a_md_other, .ref a_md_heights])), (a_md_nexts, .inl (cI, 24576, .inl md_nexts)), (a_md_isGoal, .inl (cZ, 4096, .inl md_isGoal)), (a_md_levels, .inl (cI, 4096, .inl md_levels)), (a_md_hasGuesses, .inl (cI, 4096, .inl md_hasGuesses)), (a_md_marked, .inl (cZ, 4096, .inl (upd md_marked_39 (x3_38 : Int32).toNatClampNeg (vp_nar .boolean 0)))), (a_md_other, .inl (cZ, 4096, .inl md_other))] := hD
                    refine lv_iinc (v := x3_38 + 1) (lv' := [(3, .int (x3_38 + 1)), (0, .ref a_md), (2, .int md_keptBits)]) hx hb d_Md_induction_73 hl (k := 2) rfl rfl (by decide) rfl (fun ls hl => ?_)
                    refine lv_goto (tgt := 34) hx hb d_Md_induction_76 (by decide) ?_
                    exact il _ _ h _ _ hP hD hS _ (lv_sub hl [1, 2, 0] rfl)
                  · have h := And.right h c_64
                    refine lv_iconst (v := 1) hx hb d_Md_induction_67 (by decide) ?_
                    refine lv_goto (tgt := 72) hx hb d_Md_induction_68 (by decide) ?_
                    obtain ⟨hin_72, h⟩ := h
                    refine va_zast hx hb hK hP hD hS 5 2 rfl rfl hin_72 d_Md_induction_72 (fun H locs hP hD hS => ?_)
                    have hP : va_P (dC, dI) vwCl [(a_md, .inr (11, [.ref a_md_tape, .int md_size, .int md_at, .int md_token, .int md_tokenPlace, .int md_number, .int md_sign, .int md_bad, .int md_faultPlace, .int md_place, .ref a_md_acts, .ref a_md_actNumbers, .ref a_md_actCounts, .int md_bank, .int md_unaries, .int md_opens, .ref a_md_pile, .int md_piled, .int md_loop, .ref a_md_begins, .ref a_md_goals, .ref a_md_ranks, .ref a_md_choiceCounts, .ref a_md_whens, .ref a_md_becomes, .ref a_md_guessCounts, .ref a_md_guesses, .ref a_md_unaryCounts, .ref a_md_stack, .ref a_md_nexts, .ref a_md_isBegin, .ref a_md_isGoal, .ref a_md_levels, .ref a_md_queue, .ref a_md_hasGuesses, .int md_keptBits, .ref a_md_rounds, .ref a_md_marked, .ref a_md_other, .ref a_md_heights])), (a_md_nexts, .inl (cI, 24576, .inl md_nexts)), (a_md_isGoal, .inl (cZ, 4096, .inl md_isGoal)), (a_md_levels, .inl (cI, 4096, .inl md_levels)), (a_md_hasGuesses, .inl (cI, 4096, .inl md_hasGuesses)), (a_md_marked, .inl (cZ, 4096, .inl (upd md_marked_39 (x3_38 : Int32).toNatClampNeg (vp_nar .boolean 1)))), (a_md_other, .inl (cZ, 4096, .inl md_other))] H := hP
                    have hD : va_D A [(a_md, .inr (11, [.ref a_md_tape, .int md_size, .int md_at, .int md_token, .int md_tokenPlace, .int md_number, .int md_sign, .int md_bad, .int md_faultPlace, .int md_place, .ref a_md_acts, .ref a_md_actNumbers, .ref a_md_actCounts, .int md_bank, .int md_unaries, .int md_opens, .ref a_md_pile, .int md_piled, .int md_loop, .ref a_md_begins, .ref a_md_goals, .ref a_md_ranks, .ref a_md_choiceCounts, .ref a_md_whens, .ref a_md_becomes, .ref a_md_guessCounts, .ref a_md_guesses, .ref a_md_unaryCounts, .ref a_md_stack, .ref a_md_nexts, .ref a_md_isBegin, .ref a_md_isGoal, .ref a_md_levels, .ref a_md_queue, .ref a_md_hasGuesses, .int md_keptBits, .ref a_md_rounds, .ref a_md_marked, .ref a_md_other, .ref a_md_heights])), (a_md_nexts, .inl (cI, 24576, .inl md_nexts)), (a_md_isGoal, .inl (cZ, 4096, .inl md_isGoal)), (a_md_levels, .inl (cI, 4096, .inl md_levels)), (a_md_hasGuesses, .inl (cI, 4096, .inl md_hasGuesses)), (a_md_marked, .inl (cZ, 4096, .inl (upd md_marked_39 (x3_38 : Int32).toNatClampNeg (vp_nar .boolean 1)))), (a_md_other, .inl (cZ, 4096, .inl md_other))] := hD
                    refine lv_iinc (v := x3_38 + 1) (lv' := [(3, .int (x3_38 + 1)), (0, .ref a_md), (2, .int md_keptBits)]) hx hb d_Md_induction_73 hl (k := 2) rfl rfl (by decide) rfl (fun ls hl => ?_)
                    refine lv_goto (tgt := 34) hx hb d_Md_induction_76 (by decide) ?_
                    exact il _ _ h _ _ hP hD hS _ (lv_sub hl [1, 2, 0] rfl)
          obtain ⟨n_, h⟩ := h
          refine L34_q_40 _ ?_ n_ _ _ h _ _ hP hD hS _ (lv_sub hl [2, 1, 0] rfl)
          intro md_marked_42 h H locs hP hD hS ls hl
          refine lv_iconst (v := 1) hx hb d_Md_induction_79 (by decide) ?_
          refine lv_istore_n (lv' := [(3, .int 1), (0, .ref a_md), (2, .int md_keptBits)]) hx hb d_Md_induction_80 rfl hl (by decide) rfl (fun ls hl => ?_)
          have L81_q_46 : ∀ (k258 : (Nat → Int32) → (Nat → Int32) → Prop) (hk258 : ∀ (md_marked_47 : Nat → Int32) (md_other_48 : Nat → Int32), k258 md_marked_47 md_other_48 → ∀ (H : Heap) (locs : List Loc), va_P (dC, dI) vwCl [(a_md, .inr (11, [.ref a_md_tape, .int md_size, .int md_at, .int md_token, .int md_tokenPlace, .int md_number, .int md_sign, .int md_bad, .int md_faultPlace, .int md_place, .ref a_md_acts, .ref a_md_actNumbers, .ref a_md_actCounts, .int md_bank, .int md_unaries, .int md_opens, .ref a_md_pile, .int md_piled, .int md_loop, .ref a_md_begins, .ref a_md_goals, .ref a_md_ranks, .ref a_md_choiceCounts, .ref a_md_whens, .ref a_md_becomes, .ref a_md_guessCounts, .ref a_md_guesses, .ref a_md_unaryCounts, .ref a_md_stack, .ref a_md_nexts, .ref a_md_isBegin, .ref a_md_isGoal, .ref a_md_levels, .ref a_md_queue, .ref a_md_hasGuesses, .int md_keptBits, .ref a_md_rounds, .ref a_md_marked, .ref a_md_other, .ref a_md_heights])), (a_md_nexts, .inl (cI, 24576, .inl md_nexts)), (a_md_isGoal, .inl (cZ, 4096, .inl md_isGoal)), (a_md_levels, .inl (cI, 4096, .inl md_levels)), (a_md_hasGuesses, .inl (cI, 4096, .inl md_hasGuesses)), (a_md_marked, .inl (cZ, 4096, .inl md_marked_47)), (a_md_other, .inl (cZ, 4096, .inl md_other_48))] H → va_D A [(a_md, .inr (11, [.ref a_md_tape, .int md_size, .int md_at, .int md_token, .int md_tokenPlace, .int md_number, .int md_sign, .int md_bad, .int md_faultPlace, .int md_place, .ref a_md_acts, .ref a_md_actNumbers, .ref a_md_actCounts, .int md_bank, .int md_unaries, .int md_opens, .ref a_md_pile, .int md_piled, .int md_loop, .ref a_md_begins, .ref a_md_goals, .ref a_md_ranks, .ref a_md_choiceCounts, .ref a_md_whens, .ref a_md_becomes, .ref a_md_guessCounts, .ref a_md_guesses, .ref a_md_unaryCounts, .ref a_md_stack, .ref a_md_nexts, .ref a_md_isBegin, .ref a_md_isGoal, .ref a_md_levels, .ref a_md_queue, .ref a_md_hasGuesses, .int md_keptBits, .ref a_md_rounds, .ref a_md_marked, .ref a_md_other, .ref a_md_heights])), (a_md_nexts, .inl (cI, 24576, .inl md_nexts)), (a_md_isGoal, .inl (cZ, 4096, .inl md_isGoal)), (a_md_levels, .inl (cI, 4096, .inl md_levels)), (a_md_hasGuesses, .inl (cI, 4096, .inl md_hasGuesses)), (a_md_marked, .inl (cZ, 4096, .inl md_marked_47)), (a_md_other, .inl (cZ, 4096, .inl md_other_48))] → va_S A s.heap H locs → ∀ ls : Array Slot, lv_has ls 8 [] → W p l e (headSpec w_Md_induction ({ frames := 1, cells := 0, slots := 0, locals := 24 })).room s m (([.ref a_md, .int x1] : List Value).toArray) below meth c H locs 0 0 QQ (F0 m 258 ls [])) (k245 : Int32 → (Nat → Int32) → (Nat → Int32) → Prop) (hk245 : ∀ (x3_49 : Int32) (md_marked_50 : Nat → Int32) (md_other_51 : Nat → Int32), k245 x3_49 md_marked_50 md_other_51 → ∀ (H : Heap) (locs : List Loc), va_P (dC, dI) vwCl [(a_md, .inr (11, [.ref a_md_tape, .int md_size, .int md_at, .int md_token, .int md_tokenPlace, .int md_number, .int md_sign, .int md_bad, .int md_faultPlace, .int md_place, .ref a_md_acts, .ref a_md_actNumbers, .ref a_md_actCounts, .int md_bank, .int md_unaries, .int md_opens, .ref a_md_pile, .int md_piled, .int md_loop, .ref a_md_begins, .ref a_md_goals, .ref a_md_ranks, .ref a_md_choiceCounts, .ref a_md_whens, .ref a_md_becomes, .ref a_md_guessCounts, .ref a_md_guesses, .ref a_md_unaryCounts, .ref a_md_stack, .ref a_md_nexts, .ref a_md_isBegin, .ref a_md_isGoal, .ref a_md_levels, .ref a_md_queue, .ref a_md_hasGuesses, .int md_keptBits, .ref a_md_rounds, .ref a_md_marked, .ref a_md_other, .ref a_md_heights])), (a_md_nexts, .inl (cI, 24576, .inl md_nexts)), (a_md_isGoal, .inl (cZ, 4096, .inl md_isGoal)), (a_md_levels, .inl (cI, 4096, .inl md_levels)), (a_md_hasGuesses, .inl (cI, 4096, .inl md_hasGuesses)), (a_md_marked, .inl (cZ, 4096, .inl md_marked_50)), (a_md_other, .inl (cZ, 4096, .inl md_other_51))] H → va_D A [(a_md, .inr (11, [.ref a_md_tape, .int md_size, .int md_at, .int md_token, .int md_tokenPlace, .int md_number, .int md_sign, .int md_bad, .int md_faultPlace, .int md_place, .ref a_md_acts, .ref a_md_actNumbers, .ref a_md_actCounts, .int md_bank, .int md_unaries, .int md_opens, .ref a_md_pile, .int md_piled, .int md_loop, .ref a_md_begins, .ref a_md_goals, .ref a_md_ranks, .ref a_md_choiceCounts, .ref a_md_whens, .ref a_md_becomes, .ref a_md_guessCounts, .ref a_md_guesses, .ref a_md_unaryCounts, .ref a_md_stack, .ref a_md_nexts, .ref a_md_isBegin, .ref a_md_isGoal, .ref a_md_levels, .ref a_md_queue, .ref a_md_hasGuesses, .int md_keptBits, .ref a_md_rounds, .ref a_md_marked, .ref a_md_other, .ref a_md_heights])), (a_md_nexts, .inl (cI, 24576, .inl md_nexts)), (a_md_isGoal, .inl (cZ, 4096, .inl md_isGoal)), (a_md_levels, .inl (cI, 4096, .inl md_levels)), (a_md_hasGuesses, .inl (cI, 4096, .inl md_hasGuesses)), (a_md_marked, .inl (cZ, 4096, .inl md_marked_50)), (a_md_other, .inl (cZ, 4096, .inl md_other_51))] → va_S A s.heap H locs → ∀ ls : Array Slot, lv_has ls 8 [(3, .int x3_49)] → W p l e (headSpec w_Md_induction ({ frames := 1, cells := 0, slots := 0, locals := 24 })).room s m (([.ref a_md, .int x1] : List Value).toArray) below meth c H locs 0 0 QQ (F0 m 245 ls [])) (n : Nat) (x3_43 : Int32) (md_marked_44 : Nat → Int32) (md_other_45 : Nat → Int32), wp_Md_induction_L81 md_keptBits md_nexts md_isGoal md_levels md_hasGuesses k258 k245 n x3_43 md_marked_44 md_other_45 → ∀ (H : Heap) (locs : List Loc), va_P (dC, dI) vwCl [(a_md, .inr (11, [.ref a_md_tape, .int md_size, .int md_at, .int md_token, .int md_tokenPlace, .int md_number, .int md_sign, .int md_bad, .int md_faultPlace, .int md_place, .ref a_md_acts, .ref a_md_actNumbers, .ref a_md_actCounts, .int md_bank, .int md_unaries, .int md_opens, .ref a_md_pile, .int md_piled, .int md_loop, .ref a_md_begins, .ref a_md_goals, .ref a_md_ranks, .ref a_md_choiceCounts, .ref a_md_whens, .ref a_md_becomes, .ref a_md_guessCounts, .ref a_md_guesses, .ref a_md_unaryCounts, .ref a_md_stack, .ref a_md_nexts, .ref a_md_isBegin, .ref a_md_isGoal, .ref a_md_levels, .ref a_md_queue, .ref a_md_hasGuesses, .int md_keptBits, .ref a_md_rounds, .ref a_md_marked, .ref a_md_other, .ref a_md_heights])), (a_md_nexts, .inl (cI, 24576, .inl md_nexts)), (a_md_isGoal, .inl (cZ, 4096, .inl md_isGoal)), (a_md_levels, .inl (cI, 4096, .inl md_levels)), (a_md_hasGuesses, .inl (cI, 4096, .inl md_hasGuesses)), (a_md_marked, .inl (cZ, 4096, .inl md_marked_44)), (a_md_other, .inl (cZ, 4096, .inl md_other_45))] H → va_D A [(a_md, .inr (11, [.ref a_md_tape, .int md_size, .int md_at, .int md_token, .int md_tokenPlace, .int md_number, .int md_sign, .int md_bad, .int md_faultPlace, .int md_place, .ref a_md_acts, .ref a_md_actNumbers, .ref a_md_actCounts, .int md_bank, .int md_unaries, .int md_opens, .ref a_md_pile, .int md_piled, .int md_loop, .ref a_md_begins, .ref a_md_goals, .ref a_md_ranks, .ref a_md_choiceCounts, .ref a_md_whens, .ref a_md_becomes, .ref a_md_guessCounts, .ref a_md_guesses, .ref a_md_unaryCounts, .ref a_md_stack, .ref a_md_nexts, .ref a_md_isBegin, .ref a_md_isGoal, .ref a_md_levels, .ref a_md_queue, .ref a_md_hasGuesses, .int md_keptBits, .ref a_md_rounds, .ref a_md_marked, .ref a_md_other, .ref a_md_heights])), (a_md_nexts, .inl (cI, 24576, .inl md_nexts)), (a_md_isGoal, .inl (cZ, 4096, .inl md_isGoal)), (a_md_levels, .inl (cI, 4096, .inl md_levels)), (a_md_hasGuesses, .inl (cI, 4096, .inl md_hasGuesses)), (a_md_marked, .inl (cZ, 4096, .inl md_marked_44)), (a_md_other, .inl (cZ, 4096, .inl md_other_45))] → va_S A s.heap H locs → ∀ ls : Array Slot, lv_has ls 8 [(0, .ref a_md), (2, .int md_keptBits), (3, .int x3_43)] → W p l e (headSpec w_Md_induction ({ frames := 1, cells := 0, slots := 0, locals := 24 })).room s m (([.ref a_md, .int x1] : List Value).toArray) below meth c H locs 0 0 QQ (F0 m 81 ls []) := by
            intro k258 hk258 k245 hk245 n
            induction n with
            | zero => intro x3_43 md_marked_44 md_other_45 h; exact (show False from h).elim
            | succ n il =>
              intro x3_43 md_marked_44 md_other_45 h H locs hP hD hS ls hl
              refine lv_iload_n hx hb d_Md_induction_81 rfl (lv_at hl 2 rfl) ?_
              refine lv_bipush (v := 16) hx hb d_Md_induction_82 (by decide) ?_
              refine lv_icmp_gt (tgt := 258) hx hb d_Md_induction_84 (by decide) (fun c_84 => ?_) (fun c_84 => ?_)
              · have h := And.left h c_84
                exact hk258 _ _ h _ _ hP hD hS _ (lv_sub hl [] rfl)
              · have h := And.right h c_84
                refine lv_iconst (v := 1) hx hb d_Md_induction_87 (by decide) ?_
                refine lv_istore (lv' := [(4, .int 1), (0, .ref a_md), (2, .int md_keptBits), (3, .int x3_43)]) hx hb d_Md_induction_88 hl (by decide) rfl (fun ls hl => ?_)
                refine lv_iconst (v := 0) hx hb d_Md_induction_90 (by decide) ?_
                refine lv_istore (lv' := [(5, .int 0), (4, .int 1), (0, .ref a_md), (2, .int md_keptBits), (3, .int x3_43)]) hx hb d_Md_induction_91 hl (by decide) rfl (fun ls hl => ?_)
                have L93_q_54 : ∀ (k150 : Int32 → Prop) (hk150 : ∀ (x4_55 : Int32), k150 x4_55 → ∀ (H : Heap) (locs : List Loc), va_P (dC, dI) vwCl [(a_md, .inr (11, [.ref a_md_tape, .int md_size, .int md_at, .int md_token, .int md_tokenPlace, .int md_number, .int md_sign, .int md_bad, .int md_faultPlace, .int md_place, .ref a_md_acts, .ref a_md_actNumbers, .ref a_md_actCounts, .int md_bank, .int md_unaries, .int md_opens, .ref a_md_pile, .int md_piled, .int md_loop, .ref a_md_begins, .ref a_md_goals, .ref a_md_ranks, .ref a_md_choiceCounts, .ref a_md_whens, .ref a_md_becomes, .ref a_md_guessCounts, .ref a_md_guesses, .ref a_md_unaryCounts, .ref a_md_stack, .ref a_md_nexts, .ref a_md_isBegin, .ref a_md_isGoal, .ref a_md_levels, .ref a_md_queue, .ref a_md_hasGuesses, .int md_keptBits, .ref a_md_rounds, .ref a_md_marked, .ref a_md_other, .ref a_md_heights])), (a_md_nexts, .inl (cI, 24576, .inl md_nexts)), (a_md_isGoal, .inl (cZ, 4096, .inl md_isGoal)), (a_md_levels, .inl (cI, 4096, .inl md_levels)), (a_md_hasGuesses, .inl (cI, 4096, .inl md_hasGuesses)), (a_md_marked, .inl (cZ, 4096, .inl md_marked_44)), (a_md_other, .inl (cZ, 4096, .inl md_other_45))] H → va_D A [(a_md, .inr (11, [.ref a_md_tape, .int md_size, .int md_at, .int md_token, .int md_tokenPlace, .int md_number, .int md_sign, .int md_bad, .int md_faultPlace, .int md_place, .ref a_md_acts, .ref a_md_actNumbers, .ref a_md_actCounts, .int md_bank, .int md_unaries, .int md_opens, .ref a_md_pile, .int md_piled, .int md_loop, .ref a_md_begins, .ref a_md_goals, .ref a_md_ranks, .ref a_md_choiceCounts, .ref a_md_whens, .ref a_md_becomes, .ref a_md_guessCounts, .ref a_md_guesses, .ref a_md_unaryCounts, .ref a_md_stack, .ref a_md_nexts, .ref a_md_isBegin, .ref a_md_isGoal, .ref a_md_levels, .ref a_md_queue, .ref a_md_hasGuesses, .int md_keptBits, .ref a_md_rounds, .ref a_md_marked, .ref a_md_other, .ref a_md_heights])), (a_md_nexts, .inl (cI, 24576, .inl md_nexts)), (a_md_isGoal, .inl (cZ, 4096, .inl md_isGoal)), (a_md_levels, .inl (cI, 4096, .inl md_levels)), (a_md_hasGuesses, .inl (cI, 4096, .inl md_hasGuesses)), (a_md_marked, .inl (cZ, 4096, .inl md_marked_44)), (a_md_other, .inl (cZ, 4096, .inl md_other_45))] → va_S A s.heap H locs → ∀ ls : Array Slot, lv_has ls 8 [(0, .ref a_md), (2, .int md_keptBits), (3, .int x3_43), (4, .int x4_55)] → W p l e (headSpec w_Md_induction ({ frames := 1, cells := 0, slots := 0, locals := 24 })).room s m (([.ref a_md, .int x1] : List Value).toArray) below meth c H locs 0 0 QQ (F0 m 150 ls [])) (n : Nat) (x4_52 : Int32) (x5_53 : Int32), wp_Md_induction_L93 md_keptBits x3_43 md_isGoal md_levels k150 n x4_52 x5_53 → ∀ (H : Heap) (locs : List Loc), va_P (dC, dI) vwCl [(a_md, .inr (11, [.ref a_md_tape, .int md_size, .int md_at, .int md_token, .int md_tokenPlace, .int md_number, .int md_sign, .int md_bad, .int md_faultPlace, .int md_place, .ref a_md_acts, .ref a_md_actNumbers, .ref a_md_actCounts, .int md_bank, .int md_unaries, .int md_opens, .ref a_md_pile, .int md_piled, .int md_loop, .ref a_md_begins, .ref a_md_goals, .ref a_md_ranks, .ref a_md_choiceCounts, .ref a_md_whens, .ref a_md_becomes, .ref a_md_guessCounts, .ref a_md_guesses, .ref a_md_unaryCounts, .ref a_md_stack, .ref a_md_nexts, .ref a_md_isBegin, .ref a_md_isGoal, .ref a_md_levels, .ref a_md_queue, .ref a_md_hasGuesses, .int md_keptBits, .ref a_md_rounds, .ref a_md_marked, .ref a_md_other, .ref a_md_heights])), (a_md_nexts, .inl (cI, 24576, .inl md_nexts)), (a_md_isGoal, .inl (cZ, 4096, .inl md_isGoal)), (a_md_levels, .inl (cI, 4096, .inl md_levels)), (a_md_hasGuesses, .inl (cI, 4096, .inl md_hasGuesses)), (a_md_marked, .inl (cZ, 4096, .inl md_marked_44)), (a_md_other, .inl (cZ, 4096, .inl md_other_45))] H → va_D A [(a_md, .inr (11, [.ref a_md_tape, .int md_size, .int md_at, .int md_token, .int md_tokenPlace, .int md_number, .int md_sign, .int md_bad, .int md_faultPlace, .int md_place, .ref a_md_acts, .ref a_md_actNumbers, .ref a_md_actCounts, .int md_bank, .int md_unaries, .int md_opens, .ref a_md_pile, .int md_piled, .int md_loop, .ref a_md_begins, .ref a_md_goals, .ref a_md_ranks, .ref a_md_choiceCounts, .ref a_md_whens, .ref a_md_becomes, .ref a_md_guessCounts, .ref a_md_guesses, .ref a_md_unaryCounts, .ref a_md_stack, .ref a_md_nexts, .ref a_md_isBegin, .ref a_md_isGoal, .ref a_md_levels, .ref a_md_queue, .ref a_md_hasGuesses, .int md_keptBits, .ref a_md_rounds, .ref a_md_marked, .ref a_md_other, .ref a_md_heights])), (a_md_nexts, .inl (cI, 24576, .inl md_nexts)), (a_md_isGoal, .inl (cZ, 4096, .inl md_isGoal)), (a_md_levels, .inl (cI, 4096, .inl md_levels)), (a_md_hasGuesses, .inl (cI, 4096, .inl md_hasGuesses)), (a_md_marked, .inl (cZ, 4096, .inl md_marked_44)), (a_md_other, .inl (cZ, 4096, .inl md_other_45))] → va_S A s.heap H locs → ∀ ls : Array Slot, lv_has ls 8 [(0, .ref a_md), (2, .int md_keptBits), (3, .int x3_43), (4, .int x4_52), (5, .int x5_53)] → W p l e (headSpec w_Md_induction ({ frames := 1, cells := 0, slots := 0, locals := 24 })).room s m (([.ref a_md, .int x1] : List Value).toArray) below meth c H locs 0 0 QQ (F0 m 93 ls []) := by
                  intro k150 hk150 n
                  induction n with
                  | zero => intro x4_52 x5_53 h; exact (show False from h).elim
                  | succ n il =>
                    intro x4_52 x5_53 h H locs hP hD hS ls hl
                    refine lv_iload hx hb d_Md_induction_93 (lv_at hl 4 rfl) ?_
                    refine lv_sipush (v := 4096) hx hb d_Md_induction_95 (by decide) ?_
                    refine lv_icmp_ge (tgt := 150) hx hb d_Md_induction_98 (by decide) (fun c_98 => ?_) (fun c_98 => ?_)
                    · have h := And.left h c_98
                      exact hk150 _ h _ _ hP hD hS _ (lv_sub hl [0, 1, 2, 3] rfl)
                    · have h := And.right h c_98
                      refine lv_iload hx hb d_Md_induction_101 (lv_at hl 3 rfl) ?_
                      refine lv_if_eq (tgt := 150) hx hb d_Md_induction_103 (by decide) (fun c_103 => ?_) (fun c_103 => ?_)
                      · have h := And.left h c_103
                        exact hk150 _ h _ _ hP hD hS _ (lv_sub hl [0, 1, 2, 3] rfl)
                      · have h := And.right h c_103
                        refine lv_aload_n hx hb d_Md_induction_106 rfl (lv_at hl 0 rfl) ?_
                        refine va_get (D := (dC, dI)) (ci := 11) (v := .ref a_md_levels) (C := "LoopInductionModel") (T := F_Md) (N := 40) hx hb hts iC_Md hown hK hP 0 rfl rfl 32 (by decide) fl_73 (fun _ h9 => h9) rfl d_Md_induction_107 ?_
                        refine lv_iload hx hb d_Md_induction_110 (lv_at hl 4 rfl) ?_
                        obtain ⟨hin_112, h⟩ := h
                        refine va_iald hx hb hK hP 3 0 rfl rfl hin_112 d_Md_induction_112 ?_
                        refine lv_if_lt (tgt := 137) hx hb d_Md_induction_113 (by decide) (fun c_113 => ?_) (fun c_113 => ?_)
                        · have h := And.left h c_113
                          refine lv_iconst (v := 1) hx hb d_Md_induction_137 (by decide) ?_
                          refine lv_goto (tgt := 142) hx hb d_Md_induction_138 (by decide) ?_
                          refine lv_istore (lv' := [(4, .int 1), (0, .ref a_md), (2, .int md_keptBits), (3, .int x3_43), (5, .int x5_53)]) hx hb d_Md_induction_142 hl (by decide) rfl (fun ls hl => ?_)
                          refine lv_iinc (v := x5_53 + 1) (lv' := [(5, .int (x5_53 + 1)), (4, .int 1), (0, .ref a_md), (2, .int md_keptBits), (3, .int x3_43)]) hx hb d_Md_induction_144 hl (k := 4) rfl rfl (by decide) rfl (fun ls hl => ?_)
                          refine lv_goto (tgt := 93) hx hb d_Md_induction_147 (by decide) ?_
                          exact il _ _ h _ _ hP hD hS _ (lv_sub hl [2, 3, 4, 1, 0] rfl)
                        · have h := And.right h c_113
                          refine lv_aload_n hx hb d_Md_induction_116 rfl (lv_at hl 0 rfl) ?_
                          refine va_get (D := (dC, dI)) (ci := 11) (v := .ref a_md_levels) (C := "LoopInductionModel") (T := F_Md) (N := 40) hx hb hts iC_Md hown hK hP 0 rfl rfl 32 (by decide) fl_73 (fun _ h9 => h9) rfl d_Md_induction_117 ?_
                          refine lv_iload hx hb d_Md_induction_120 (lv_at hl 4 rfl) ?_
                          obtain ⟨hin_122, h⟩ := h
                          refine va_iald hx hb hK hP 3 0 rfl rfl hin_122 d_Md_induction_122 ?_
                          refine lv_iload_n hx hb d_Md_induction_123 rfl (lv_at hl 2 rfl) ?_
                          refine lv_icmp_ge (tgt := 137) hx hb d_Md_induction_124 (by decide) (fun c_124 => ?_) (fun c_124 => ?_)
                          · have h := And.left h c_124
                            refine lv_iconst (v := 1) hx hb d_Md_induction_137 (by decide) ?_
                            refine lv_goto (tgt := 142) hx hb d_Md_induction_138 (by decide) ?_
                            refine lv_istore (lv' := [(4, .int 1), (0, .ref a_md), (2, .int md_keptBits), (3, .int x3_43), (5, .int x5_53)]) hx hb d_Md_induction_142 hl (by decide) rfl (fun ls hl => ?_)
                            refine lv_iinc (v := x5_53 + 1) (lv' := [(5, .int (x5_53 + 1)), (4, .int 1), (0, .ref a_md), (2, .int md_keptBits), (3, .int x3_43)]) hx hb d_Md_induction_144 hl (k := 4) rfl rfl (by decide) rfl (fun ls hl => ?_)
                            refine lv_goto (tgt := 93) hx hb d_Md_induction_147 (by decide) ?_
                            exact il _ _ h _ _ hP hD hS _ (lv_sub hl [2, 3, 4, 1, 0] rfl)
                          · have h := And.right h c_124
                            refine lv_aload_n hx hb d_Md_induction_127 rfl (lv_at hl 0 rfl) ?_
                            refine va_get (D := (dC, dI)) (ci := 11) (v := .ref a_md_isGoal) (C := "LoopInductionModel") (T := F_Md) (N := 40) hx hb hts iC_Md hown hK hP 0 rfl rfl 31 (by decide) fl_70 (fun _ h9 => h9) rfl d_Md_induction_128 ?_
                            refine lv_iload hx hb d_Md_induction_131 (lv_at hl 4 rfl) ?_
                            obtain ⟨hin_133, h⟩ := h
                            refine va_zald hx hb hK hP 2 2 rfl rfl hin_133 d_Md_induction_133 ?_
                            refine lv_if_eq (tgt := 141) hx hb d_Md_induction_134 (by decide) (fun c_134 => ?_) (fun c_134 => ?_)
                            · have h := And.left h c_134
                              refine lv_iconst (v := 0) hx hb d_Md_induction_141 (by decide) ?_
                              refine lv_istore (lv' := [(4, .int 0), (0, .ref a_md), (2, .int md_keptBits), (3, .int x3_43), (5, .int x5_53)]) hx hb d_Md_induction_142 hl (by decide) rfl (fun ls hl => ?_)
                              refine lv_iinc (v := x5_53 + 1) (lv' := [(5, .int (x5_53 + 1)), (4, .int 0), (0, .ref a_md), (2, .int md_keptBits), (3, .int x3_43)]) hx hb d_Md_induction_144 hl (k := 4) rfl rfl (by decide) rfl (fun ls hl => ?_)
                              refine lv_goto (tgt := 93) hx hb d_Md_induction_147 (by decide) ?_
                              exact il _ _ h _ _ hP hD hS _ (lv_sub hl [2, 3, 4, 1, 0] rfl)
                            · have h := And.right h c_134
                              refine lv_iconst (v := 1) hx hb d_Md_induction_137 (by decide) ?_
                              refine lv_goto (tgt := 142) hx hb d_Md_induction_138 (by decide) ?_
                              refine lv_istore (lv' := [(4, .int 1), (0, .ref a_md), (2, .int md_keptBits), (3, .int x3_43), (5, .int x5_53)]) hx hb d_Md_induction_142 hl (by decide) rfl (fun ls hl => ?_)
                              refine lv_iinc (v := x5_53 + 1) (lv' := [(5, .int (x5_53 + 1)), (4, .int 1), (0, .ref a_md), (2, .int md_keptBits), (3, .int x3_43)]) hx hb d_Md_induction_144 hl (k := 4) rfl rfl (by decide) rfl (fun ls hl => ?_)
                              refine lv_goto (tgt := 93) hx hb d_Md_induction_147 (by decide) ?_
                              exact il _ _ h _ _ hP hD hS _ (lv_sub hl [2, 3, 4, 1, 0] rfl)
                obtain ⟨n_, h⟩ := h
                refine L93_q_54 _ ?_ n_ _ _ h _ _ hP hD hS _ (lv_sub hl [2, 3, 4, 1, 0] rfl)
                intro x4_56 h H locs hP hD hS ls hl
                refine lv_iconst (v := 0) hx hb d_Md_induction_150 (by decide) ?_
                refine lv_istore (lv' := [(5, .int 0), (0, .ref a_md), (2, .int md_keptBits), (3, .int x3_43), (4, .int x4_56)]) hx hb d_Md_induction_151 hl (by decide) rfl (fun ls hl => ?_)
                have L153_q_59 : ∀ (k240 : Int32 → Prop) (hk240 : ∀ (x4_60 : Int32), k240 x4_60 → ∀ (H : Heap) (locs : List Loc), va_P (dC, dI) vwCl [(a_md, .inr (11, [.ref a_md_tape, .int md_size, .int md_at, .int md_token, .int md_tokenPlace, .int md_number, .int md_sign, .int md_bad, .int md_faultPlace, .int md_place, .ref a_md_acts, .ref a_md_actNumbers, .ref a_md_actCounts, .int md_bank, .int md_unaries, .int md_opens, .ref a_md_pile, .int md_piled, .int md_loop, .ref a_md_begins, .ref a_md_goals, .ref a_md_ranks, .ref a_md_choiceCounts, .ref a_md_whens, .ref a_md_becomes, .ref a_md_guessCounts, .ref a_md_guesses, .ref a_md_unaryCounts, .ref a_md_stack, .ref a_md_nexts, .ref a_md_isBegin, .ref a_md_isGoal, .ref a_md_levels, .ref a_md_queue, .ref a_md_hasGuesses, .int md_keptBits, .ref a_md_rounds, .ref a_md_marked, .ref a_md_other, .ref a_md_heights])), (a_md_nexts, .inl (cI, 24576, .inl md_nexts)), (a_md_isGoal, .inl (cZ, 4096, .inl md_isGoal)), (a_md_levels, .inl (cI, 4096, .inl md_levels)), (a_md_hasGuesses, .inl (cI, 4096, .inl md_hasGuesses)), (a_md_marked, .inl (cZ, 4096, .inl md_marked_44)), (a_md_other, .inl (cZ, 4096, .inl md_other_45))] H → va_D A [(a_md, .inr (11, [.ref a_md_tape, .int md_size, .int md_at, .int md_token, .int md_tokenPlace, .int md_number, .int md_sign, .int md_bad, .int md_faultPlace, .int md_place, .ref a_md_acts, .ref a_md_actNumbers, .ref a_md_actCounts, .int md_bank, .int md_unaries, .int md_opens, .ref a_md_pile, .int md_piled, .int md_loop, .ref a_md_begins, .ref a_md_goals, .ref a_md_ranks, .ref a_md_choiceCounts, .ref a_md_whens, .ref a_md_becomes, .ref a_md_guessCounts, .ref a_md_guesses, .ref a_md_unaryCounts, .ref a_md_stack, .ref a_md_nexts, .ref a_md_isBegin, .ref a_md_isGoal, .ref a_md_levels, .ref a_md_queue, .ref a_md_hasGuesses, .int md_keptBits, .ref a_md_rounds, .ref a_md_marked, .ref a_md_other, .ref a_md_heights])), (a_md_nexts, .inl (cI, 24576, .inl md_nexts)), (a_md_isGoal, .inl (cZ, 4096, .inl md_isGoal)), (a_md_levels, .inl (cI, 4096, .inl md_levels)), (a_md_hasGuesses, .inl (cI, 4096, .inl md_hasGuesses)), (a_md_marked, .inl (cZ, 4096, .inl md_marked_44)), (a_md_other, .inl (cZ, 4096, .inl md_other_45))] → va_S A s.heap H locs → ∀ ls : Array Slot, lv_has ls 8 [(0, .ref a_md), (2, .int md_keptBits), (3, .int x3_43), (4, .int x4_60)] → W p l e (headSpec w_Md_induction ({ frames := 1, cells := 0, slots := 0, locals := 24 })).room s m (([.ref a_md, .int x1] : List Value).toArray) below meth c H locs 0 0 QQ (F0 m 240 ls [])) (n : Nat) (x4_57 : Int32) (x5_58 : Int32), wp_Md_induction_L153 md_keptBits x3_43 md_nexts md_isGoal md_marked_44 k240 n x4_57 x5_58 → ∀ (H : Heap) (locs : List Loc), va_P (dC, dI) vwCl [(a_md, .inr (11, [.ref a_md_tape, .int md_size, .int md_at, .int md_token, .int md_tokenPlace, .int md_number, .int md_sign, .int md_bad, .int md_faultPlace, .int md_place, .ref a_md_acts, .ref a_md_actNumbers, .ref a_md_actCounts, .int md_bank, .int md_unaries, .int md_opens, .ref a_md_pile, .int md_piled, .int md_loop, .ref a_md_begins, .ref a_md_goals, .ref a_md_ranks, .ref a_md_choiceCounts, .ref a_md_whens, .ref a_md_becomes, .ref a_md_guessCounts, .ref a_md_guesses, .ref a_md_unaryCounts, .ref a_md_stack, .ref a_md_nexts, .ref a_md_isBegin, .ref a_md_isGoal, .ref a_md_levels, .ref a_md_queue, .ref a_md_hasGuesses, .int md_keptBits, .ref a_md_rounds, .ref a_md_marked, .ref a_md_other, .ref a_md_heights])), (a_md_nexts, .inl (cI, 24576, .inl md_nexts)), (a_md_isGoal, .inl (cZ, 4096, .inl md_isGoal)), (a_md_levels, .inl (cI, 4096, .inl md_levels)), (a_md_hasGuesses, .inl (cI, 4096, .inl md_hasGuesses)), (a_md_marked, .inl (cZ, 4096, .inl md_marked_44)), (a_md_other, .inl (cZ, 4096, .inl md_other_45))] H → va_D A [(a_md, .inr (11, [.ref a_md_tape, .int md_size, .int md_at, .int md_token, .int md_tokenPlace, .int md_number, .int md_sign, .int md_bad, .int md_faultPlace, .int md_place, .ref a_md_acts, .ref a_md_actNumbers, .ref a_md_actCounts, .int md_bank, .int md_unaries, .int md_opens, .ref a_md_pile, .int md_piled, .int md_loop, .ref a_md_begins, .ref a_md_goals, .ref a_md_ranks, .ref a_md_choiceCounts, .ref a_md_whens, .ref a_md_becomes, .ref a_md_guessCounts, .ref a_md_guesses, .ref a_md_unaryCounts, .ref a_md_stack, .ref a_md_nexts, .ref a_md_isBegin, .ref a_md_isGoal, .ref a_md_levels, .ref a_md_queue, .ref a_md_hasGuesses, .int md_keptBits, .ref a_md_rounds, .ref a_md_marked, .ref a_md_other, .ref a_md_heights])), (a_md_nexts, .inl (cI, 24576, .inl md_nexts)), (a_md_isGoal, .inl (cZ, 4096, .inl md_isGoal)), (a_md_levels, .inl (cI, 4096, .inl md_levels)), (a_md_hasGuesses, .inl (cI, 4096, .inl md_hasGuesses)), (a_md_marked, .inl (cZ, 4096, .inl md_marked_44)), (a_md_other, .inl (cZ, 4096, .inl md_other_45))] → va_S A s.heap H locs → ∀ ls : Array Slot, lv_has ls 8 [(0, .ref a_md), (2, .int md_keptBits), (3, .int x3_43), (4, .int x4_57), (5, .int x5_58)] → W p l e (headSpec w_Md_induction ({ frames := 1, cells := 0, slots := 0, locals := 24 })).room s m (([.ref a_md, .int x1] : List Value).toArray) below meth c H locs 0 0 QQ (F0 m 153 ls []) := by
                  intro k240 hk240 n
                  induction n with
                  | zero => intro x4_57 x5_58 h; exact (show False from h).elim
                  | succ n il =>
                    intro x4_57 x5_58 h H locs hP hD hS ls hl
                    refine lv_iload hx hb d_Md_induction_153 (lv_at hl 4 rfl) ?_
                    refine lv_sipush (v := 4096) hx hb d_Md_induction_155 (by decide) ?_
                    refine lv_icmp_ge (tgt := 240) hx hb d_Md_induction_158 (by decide) (fun c_158 => ?_) (fun c_158 => ?_)
                    · have h := And.left h c_158
                      exact hk240 _ h _ _ hP hD hS _ (lv_sub hl [0, 1, 2, 3] rfl)
                    · have h := And.right h c_158
                      refine lv_iload hx hb d_Md_induction_161 (lv_at hl 3 rfl) ?_
                      refine lv_if_eq (tgt := 240) hx hb d_Md_induction_163 (by decide) (fun c_163 => ?_) (fun c_163 => ?_)
                      · have h := And.left h c_163
                        exact hk240 _ h _ _ hP hD hS _ (lv_sub hl [0, 1, 2, 3] rfl)
                      · have h := And.right h c_163
                        refine lv_iconst (v := 0) hx hb d_Md_induction_166 (by decide) ?_
                        refine lv_istore (lv' := [(6, .int 0), (0, .ref a_md), (2, .int md_keptBits), (3, .int x3_43), (4, .int x4_57), (5, .int x5_58)]) hx hb d_Md_induction_167 hl (by decide) rfl (fun ls hl => ?_)
                        have L169_q_63 : ∀ (k234 : Int32 → Prop) (hk234 : ∀ (x4_64 : Int32), k234 x4_64 → ∀ (H : Heap) (locs : List Loc), va_P (dC, dI) vwCl [(a_md, .inr (11, [.ref a_md_tape, .int md_size, .int md_at, .int md_token, .int md_tokenPlace, .int md_number, .int md_sign, .int md_bad, .int md_faultPlace, .int md_place, .ref a_md_acts, .ref a_md_actNumbers, .ref a_md_actCounts, .int md_bank, .int md_unaries, .int md_opens, .ref a_md_pile, .int md_piled, .int md_loop, .ref a_md_begins, .ref a_md_goals, .ref a_md_ranks, .ref a_md_choiceCounts, .ref a_md_whens, .ref a_md_becomes, .ref a_md_guessCounts, .ref a_md_guesses, .ref a_md_unaryCounts, .ref a_md_stack, .ref a_md_nexts, .ref a_md_isBegin, .ref a_md_isGoal, .ref a_md_levels, .ref a_md_queue, .ref a_md_hasGuesses, .int md_keptBits, .ref a_md_rounds, .ref a_md_marked, .ref a_md_other, .ref a_md_heights])), (a_md_nexts, .inl (cI, 24576, .inl md_nexts)), (a_md_isGoal, .inl (cZ, 4096, .inl md_isGoal)), (a_md_levels, .inl (cI, 4096, .inl md_levels)), (a_md_hasGuesses, .inl (cI, 4096, .inl md_hasGuesses)), (a_md_marked, .inl (cZ, 4096, .inl md_marked_44)), (a_md_other, .inl (cZ, 4096, .inl md_other_45))] H → va_D A [(a_md, .inr (11, [.ref a_md_tape, .int md_size, .int md_at, .int md_token, .int md_tokenPlace, .int md_number, .int md_sign, .int md_bad, .int md_faultPlace, .int md_place, .ref a_md_acts, .ref a_md_actNumbers, .ref a_md_actCounts, .int md_bank, .int md_unaries, .int md_opens, .ref a_md_pile, .int md_piled, .int md_loop, .ref a_md_begins, .ref a_md_goals, .ref a_md_ranks, .ref a_md_choiceCounts, .ref a_md_whens, .ref a_md_becomes, .ref a_md_guessCounts, .ref a_md_guesses, .ref a_md_unaryCounts, .ref a_md_stack, .ref a_md_nexts, .ref a_md_isBegin, .ref a_md_isGoal, .ref a_md_levels, .ref a_md_queue, .ref a_md_hasGuesses, .int md_keptBits, .ref a_md_rounds, .ref a_md_marked, .ref a_md_other, .ref a_md_heights])), (a_md_nexts, .inl (cI, 24576, .inl md_nexts)), (a_md_isGoal, .inl (cZ, 4096, .inl md_isGoal)), (a_md_levels, .inl (cI, 4096, .inl md_levels)), (a_md_hasGuesses, .inl (cI, 4096, .inl md_hasGuesses)), (a_md_marked, .inl (cZ, 4096, .inl md_marked_44)), (a_md_other, .inl (cZ, 4096, .inl md_other_45))] → va_S A s.heap H locs → ∀ ls : Array Slot, lv_has ls 8 [(0, .ref a_md), (2, .int md_keptBits), (3, .int x3_43), (4, .int x4_64), (5, .int x5_58)] → W p l e (headSpec w_Md_induction ({ frames := 1, cells := 0, slots := 0, locals := 24 })).room s m (([.ref a_md, .int x1] : List Value).toArray) below meth c H locs 0 0 QQ (F0 m 234 ls [])) (n : Nat) (x4_61 : Int32) (x6_62 : Int32), wp_Md_induction_L169 md_keptBits x3_43 x5_58 md_nexts md_isGoal md_marked_44 k234 n x4_61 x6_62 → ∀ (H : Heap) (locs : List Loc), va_P (dC, dI) vwCl [(a_md, .inr (11, [.ref a_md_tape, .int md_size, .int md_at, .int md_token, .int md_tokenPlace, .int md_number, .int md_sign, .int md_bad, .int md_faultPlace, .int md_place, .ref a_md_acts, .ref a_md_actNumbers, .ref a_md_actCounts, .int md_bank, .int md_unaries, .int md_opens, .ref a_md_pile, .int md_piled, .int md_loop, .ref a_md_begins, .ref a_md_goals, .ref a_md_ranks, .ref a_md_choiceCounts, .ref a_md_whens, .ref a_md_becomes, .ref a_md_guessCounts, .ref a_md_guesses, .ref a_md_unaryCounts, .ref a_md_stack, .ref a_md_nexts, .ref a_md_isBegin, .ref a_md_isGoal, .ref a_md_levels, .ref a_md_queue, .ref a_md_hasGuesses, .int md_keptBits, .ref a_md_rounds, .ref a_md_marked, .ref a_md_other, .ref a_md_heights])), (a_md_nexts, .inl (cI, 24576, .inl md_nexts)), (a_md_isGoal, .inl (cZ, 4096, .inl md_isGoal)), (a_md_levels, .inl (cI, 4096, .inl md_levels)), (a_md_hasGuesses, .inl (cI, 4096, .inl md_hasGuesses)), (a_md_marked, .inl (cZ, 4096, .inl md_marked_44)), (a_md_other, .inl (cZ, 4096, .inl md_other_45))] H → va_D A [(a_md, .inr (11, [.ref a_md_tape, .int md_size, .int md_at, .int md_token, .int md_tokenPlace, .int md_number, .int md_sign, .int md_bad, .int md_faultPlace, .int md_place, .ref a_md_acts, .ref a_md_actNumbers, .ref a_md_actCounts, .int md_bank, .int md_unaries, .int md_opens, .ref a_md_pile, .int md_piled, .int md_loop, .ref a_md_begins, .ref a_md_goals, .ref a_md_ranks, .ref a_md_choiceCounts, .ref a_md_whens, .ref a_md_becomes, .ref a_md_guessCounts, .ref a_md_guesses, .ref a_md_unaryCounts, .ref a_md_stack, .ref a_md_nexts, .ref a_md_isBegin, .ref a_md_isGoal, .ref a_md_levels, .ref a_md_queue, .ref a_md_hasGuesses, .int md_keptBits, .ref a_md_rounds, .ref a_md_marked, .ref a_md_other, .ref a_md_heights])), (a_md_nexts, .inl (cI, 24576, .inl md_nexts)), (a_md_isGoal, .inl (cZ, 4096, .inl md_isGoal)), (a_md_levels, .inl (cI, 4096, .inl md_levels)), (a_md_hasGuesses, .inl (cI, 4096, .inl md_hasGuesses)), (a_md_marked, .inl (cZ, 4096, .inl md_marked_44)), (a_md_other, .inl (cZ, 4096, .inl md_other_45))] → va_S A s.heap H locs → ∀ ls : Array Slot, lv_has ls 8 [(0, .ref a_md), (2, .int md_keptBits), (3, .int x3_43), (4, .int x4_61), (5, .int x5_58), (6, .int x6_62)] → W p l e (headSpec w_Md_induction ({ frames := 1, cells := 0, slots := 0, locals := 24 })).room s m (([.ref a_md, .int x1] : List Value).toArray) below meth c H locs 0 0 QQ (F0 m 169 ls []) := by
                          intro k234 hk234 n
                          induction n with
                          | zero => intro x4_61 x6_62 h; exact (show False from h).elim
                          | succ n il =>
                            intro x4_61 x6_62 h H locs hP hD hS ls hl
                            refine lv_iload hx hb d_Md_induction_169 (lv_at hl 5 rfl) ?_
                            refine lv_bipush (v := 6) hx hb d_Md_induction_171 (by decide) ?_
                            refine lv_icmp_ge (tgt := 234) hx hb d_Md_induction_173 (by decide) (fun c_173 => ?_) (fun c_173 => ?_)
                            · have h := And.left h c_173
                              exact hk234 _ h _ _ hP hD hS _ (lv_sub hl [0, 1, 2, 3, 4] rfl)
                            · have h := And.right h c_173
                              refine lv_aload_n hx hb d_Md_induction_176 rfl (lv_at hl 0 rfl) ?_
                              refine va_get (D := (dC, dI)) (ci := 11) (v := .ref a_md_marked) (C := "LoopInductionModel") (T := F_Md) (N := 40) hx hb hts iC_Md hown hK hP 0 rfl rfl 37 (by decide) fl_85 (fun _ h9 => h9) rfl d_Md_induction_177 ?_
                              refine lv_iload hx hb d_Md_induction_180 (lv_at hl 4 rfl) ?_
                              obtain ⟨hin_182, h⟩ := h
                              refine va_zald hx hb hK hP 5 2 rfl rfl hin_182 d_Md_induction_182 ?_
                              refine lv_if_eq (tgt := 234) hx hb d_Md_induction_183 (by decide) (fun c_183 => ?_) (fun c_183 => ?_)
                              · have h := And.left h c_183
                                exact hk234 _ h _ _ hP hD hS _ (lv_sub hl [0, 1, 2, 3, 4] rfl)
                              · have h := And.right h c_183
                                refine lv_aload_n hx hb d_Md_induction_186 rfl (lv_at hl 0 rfl) ?_
                                refine va_get (D := (dC, dI)) (ci := 11) (v := .ref a_md_nexts) (C := "LoopInductionModel") (T := F_Md) (N := 40) hx hb hts iC_Md hown hK hP 0 rfl rfl 29 (by decide) fl_63 (fun _ h9 => h9) rfl d_Md_induction_187 ?_
                                refine lv_bipush (v := 6) hx hb d_Md_induction_190 (by decide) ?_
                                refine lv_iload hx hb d_Md_induction_192 (lv_at hl 4 rfl) ?_
                                refine lv_imul hx hb d_Md_induction_194 ?_
                                refine lv_iload hx hb d_Md_induction_195 (lv_at hl 5 rfl) ?_
                                refine lv_iadd hx hb d_Md_induction_197 ?_
                                obtain ⟨hin_198, h⟩ := h
                                refine va_iald hx hb hK hP 1 0 rfl rfl hin_198 d_Md_induction_198 ?_
                                refine lv_topi (fun x7_65 ex7_65 => ?_)
                                have h := h x7_65 ex7_65
                                refine lv_istore (lv' := [(7, .int x7_65), (0, .ref a_md), (2, .int md_keptBits), (3, .int x3_43), (4, .int x4_61), (5, .int x5_58), (6, .int x6_62)]) hx hb d_Md_induction_199 hl (by decide) rfl (fun ls hl => ?_)
                                refine lv_iload hx hb d_Md_induction_201 (lv_at hl 4 rfl) ?_
                                refine lv_if_eq (tgt := 225) hx hb d_Md_induction_203 (by decide) (fun c_203 => ?_) (fun c_203 => ?_)
                                · have h := And.left h c_203
                                  refine lv_iconst (v := 0) hx hb d_Md_induction_225 (by decide) ?_
                                  refine lv_istore (lv' := [(4, .int 0), (7, .int x7_65), (0, .ref a_md), (2, .int md_keptBits), (3, .int x3_43), (5, .int x5_58), (6, .int x6_62)]) hx hb d_Md_induction_226 hl (by decide) rfl (fun ls hl => ?_)
                                  refine lv_iinc (v := x6_62 + 1) (lv' := [(6, .int (x6_62 + 1)), (4, .int 0), (7, .int x7_65), (0, .ref a_md), (2, .int md_keptBits), (3, .int x3_43), (5, .int x5_58)]) hx hb d_Md_induction_228 hl (k := 6) rfl rfl (by decide) rfl (fun ls hl => ?_)
                                  refine lv_goto (tgt := 169) hx hb d_Md_induction_231 (by decide) ?_
                                  exact il _ _ h _ _ hP hD hS _ (lv_sub hl [3, 4, 5, 1, 6, 0] rfl)
                                · have h := And.right h c_203
                                  refine lv_iload hx hb d_Md_induction_206 (lv_at hl 0 rfl) ?_
                                  refine lv_if_lt (tgt := 221) hx hb d_Md_induction_208 (by decide) (fun c_208 => ?_) (fun c_208 => ?_)
                                  · have h := And.left h c_208
                                    refine lv_iconst (v := 1) hx hb d_Md_induction_221 (by decide) ?_
                                    refine lv_goto (tgt := 226) hx hb d_Md_induction_222 (by decide) ?_
                                    refine lv_istore (lv' := [(4, .int 1), (7, .int x7_65), (0, .ref a_md), (2, .int md_keptBits), (3, .int x3_43), (5, .int x5_58), (6, .int x6_62)]) hx hb d_Md_induction_226 hl (by decide) rfl (fun ls hl => ?_)
                                    refine lv_iinc (v := x6_62 + 1) (lv' := [(6, .int (x6_62 + 1)), (4, .int 1), (7, .int x7_65), (0, .ref a_md), (2, .int md_keptBits), (3, .int x3_43), (5, .int x5_58)]) hx hb d_Md_induction_228 hl (k := 6) rfl rfl (by decide) rfl (fun ls hl => ?_)
                                    refine lv_goto (tgt := 169) hx hb d_Md_induction_231 (by decide) ?_
                                    exact il _ _ h _ _ hP hD hS _ (lv_sub hl [3, 4, 5, 1, 6, 0] rfl)
                                  · have h := And.right h c_208
                                    refine lv_aload_n hx hb d_Md_induction_211 rfl (lv_at hl 1 rfl) ?_
                                    refine va_get (D := (dC, dI)) (ci := 11) (v := .ref a_md_isGoal) (C := "LoopInductionModel") (T := F_Md) (N := 40) hx hb hts iC_Md hown hK hP 0 rfl rfl 31 (by decide) fl_70 (fun _ h9 => h9) rfl d_Md_induction_212 ?_
                                    refine lv_iload hx hb d_Md_induction_215 (lv_at hl 0 rfl) ?_
                                    obtain ⟨hin_217, h⟩ := h
                                    refine va_zald hx hb hK hP 2 2 rfl rfl hin_217 d_Md_induction_217 ?_
                                    refine lv_if_eq (tgt := 225) hx hb d_Md_induction_218 (by decide) (fun c_218 => ?_) (fun c_218 => ?_)
                                    · have h := And.left h c_218
                                      refine lv_iconst (v := 0) hx hb d_Md_induction_225 (by decide) ?_
                                      refine lv_istore (lv' := [(4, .int 0), (7, .int x7_65), (0, .ref a_md), (2, .int md_keptBits), (3, .int x3_43), (5, .int x5_58), (6, .int x6_62)]) hx hb d_Md_induction_226 hl (by decide) rfl (fun ls hl => ?_)
                                      refine lv_iinc (v := x6_62 + 1) (lv' := [(6, .int (x6_62 + 1)), (4, .int 0), (7, .int x7_65), (0, .ref a_md), (2, .int md_keptBits), (3, .int x3_43), (5, .int x5_58)]) hx hb d_Md_induction_228 hl (k := 6) rfl rfl (by decide) rfl (fun ls hl => ?_)
                                      refine lv_goto (tgt := 169) hx hb d_Md_induction_231 (by decide) ?_
                                      exact il _ _ h _ _ hP hD hS _ (lv_sub hl [3, 4, 5, 1, 6, 0] rfl)
                                    · have h := And.right h c_218
                                      refine lv_iconst (v := 1) hx hb d_Md_induction_221 (by decide) ?_
                                      refine lv_goto (tgt := 226) hx hb d_Md_induction_222 (by decide) ?_
                                      refine lv_istore (lv' := [(4, .int 1), (7, .int x7_65), (0, .ref a_md), (2, .int md_keptBits), (3, .int x3_43), (5, .int x5_58), (6, .int x6_62)]) hx hb d_Md_induction_226 hl (by decide) rfl (fun ls hl => ?_)
                                      refine lv_iinc (v := x6_62 + 1) (lv' := [(6, .int (x6_62 + 1)), (4, .int 1), (7, .int x7_65), (0, .ref a_md), (2, .int md_keptBits), (3, .int x3_43), (5, .int x5_58)]) hx hb d_Md_induction_228 hl (k := 6) rfl rfl (by decide) rfl (fun ls hl => ?_)
                                      refine lv_goto (tgt := 169) hx hb d_Md_induction_231 (by decide) ?_
                                      exact il _ _ h _ _ hP hD hS _ (lv_sub hl [3, 4, 5, 1, 6, 0] rfl)
                        obtain ⟨n_, h⟩ := h
                        refine L169_q_63 _ ?_ n_ _ _ h _ _ hP hD hS _ (lv_sub hl [1, 2, 3, 4, 5, 0] rfl)
                        intro x4_66 h H locs hP hD hS ls hl
                        refine lv_iinc (v := x5_58 + 1) (lv' := [(5, .int (x5_58 + 1)), (0, .ref a_md), (2, .int md_keptBits), (3, .int x3_43), (4, .int x4_66)]) hx hb d_Md_induction_234 hl (k := 4) rfl rfl (by decide) rfl (fun ls hl => ?_)
                        refine lv_goto (tgt := 153) hx hb d_Md_induction_237 (by decide) ?_
                        exact il _ _ h _ _ hP hD hS _ (lv_sub hl [1, 2, 3, 4, 0] rfl)
                obtain ⟨n_, h⟩ := h
                refine L153_q_59 _ ?_ n_ _ _ h _ _ hP hD hS _ (lv_sub hl [1, 2, 3, 4, 0] rfl)
                intro x4_67 h H locs hP hD hS ls hl
                refine lv_iload hx hb d_Md_induction_240 (lv_at hl 3 rfl) ?_
                refine lv_if_eq (tgt := 247) hx hb d_Md_induction_242 (by decide) (fun c_242 => ?_) (fun c_242 => ?_)
                · have h := And.left h c_242
                  refine lv_aload_n hx hb d_Md_induction_247 rfl (lv_at hl 0 rfl) ?_
                  refine lv_iload_n hx hb d_Md_induction_248 rfl (lv_at hl 1 rfl) ?_
                  refine jn_v (wr := [(a_md_levels, .inl (cI, 4096, .inl md_levels))]) (va_runV (As := [.int md_keptBits]) (rest := []) ⟨hx, hb, hml, hown, hts⟩ (c_Md_goOn l dC dI cI cB cZ adK adV _ a_md a_md_tape a_md_acts a_md_actNumbers a_md_actCounts a_md_pile a_md_begins a_md_goals a_md_ranks a_md_choiceCounts a_md_whens a_md_becomes a_md_guessCounts a_md_guesses a_md_unaryCounts a_md_stack a_md_nexts a_md_isBegin a_md_isGoal a_md_levels a_md_queue a_md_hasGuesses a_md_rounds a_md_marked a_md_other a_md_heights md_size md_at md_token md_tokenPlace md_number md_sign md_bad md_faultPlace md_place md_bank md_unaries md_opens md_piled md_loop md_keptBits md_nexts md_isGoal md_hasGuesses md_marked_44 md_other_45 md_keptBits _ h) (cwV 1 hts (gv_ m_1413 m_1415 m_81 m_96 m_1416) rfl rfl rfl pd_Md_goOn ⟨Nat.le_of_ble_eq_true rfl, Nat.le_of_ble_eq_true rfl⟩) ⟨pc_blind, va_recv hK hP (ci := 11) (q0 := 0) rfl rfl, pc_of (hP.sub [0, 1, 2, 4, 5, 6] rfl) hK (hD.sub [0, 1, 2, 4, 5, 6] (by decide) rfl) hN hT hS hA⟩ rfl rfl hl.1 rfl (lv_room (Nat.le_of_ble_eq_true rfl)) d_Md_induction_249 ⟨Nat.zero_le _, Nat.zero_le _⟩) hP hD hS hA [0, 1, 2, 4, 5, 6] [3] rfl rfl (by decide) (by decide) (fun u_ H locs h hP hD hS => ?_)
                  obtain ⟨md_marked_68, md_other_69⟩ := u_
                  have hP : va_P (dC, dI) vwCl [(a_md_levels, .inl (cI, 4096, .inl md_levels)), (a_md, .inr (11, [.ref a_md_tape, .int md_size, .int md_at, .int md_token, .int md_tokenPlace, .int md_number, .int md_sign, .int md_bad, .int md_faultPlace, .int md_place, .ref a_md_acts, .ref a_md_actNumbers, .ref a_md_actCounts, .int md_bank, .int md_unaries, .int md_opens, .ref a_md_pile, .int md_piled, .int md_loop, .ref a_md_begins, .ref a_md_goals, .ref a_md_ranks, .ref a_md_choiceCounts, .ref a_md_whens, .ref a_md_becomes, .ref a_md_guessCounts, .ref a_md_guesses, .ref a_md_unaryCounts, .ref a_md_stack, .ref a_md_nexts, .ref a_md_isBegin, .ref a_md_isGoal, .ref a_md_levels, .ref a_md_queue, .ref a_md_hasGuesses, .int md_keptBits, .ref a_md_rounds, .ref a_md_marked, .ref a_md_other, .ref a_md_heights])), (a_md_nexts, .inl (cI, 24576, .inl md_nexts)), (a_md_isGoal, .inl (cZ, 4096, .inl md_isGoal)), (a_md_hasGuesses, .inl (cI, 4096, .inl md_hasGuesses)), (a_md_marked, .inl (cZ, 4096, .inl md_marked_68)), (a_md_other, .inl (cZ, 4096, .inl md_other_69))] H := hP
                  have hD : va_D A [(a_md_levels, .inl (cI, 4096, .inl md_levels)), (a_md, .inr (11, [.ref a_md_tape, .int md_size, .int md_at, .int md_token, .int md_tokenPlace, .int md_number, .int md_sign, .int md_bad, .int md_faultPlace, .int md_place, .ref a_md_acts, .ref a_md_actNumbers, .ref a_md_actCounts, .int md_bank, .int md_unaries, .int md_opens, .ref a_md_pile, .int md_piled, .int md_loop, .ref a_md_begins, .ref a_md_goals, .ref a_md_ranks, .ref a_md_choiceCounts, .ref a_md_whens, .ref a_md_becomes, .ref a_md_guessCounts, .ref a_md_guesses, .ref a_md_unaryCounts, .ref a_md_stack, .ref a_md_nexts, .ref a_md_isBegin, .ref a_md_isGoal, .ref a_md_levels, .ref a_md_queue, .ref a_md_hasGuesses, .int md_keptBits, .ref a_md_rounds, .ref a_md_marked, .ref a_md_other, .ref a_md_heights])), (a_md_nexts, .inl (cI, 24576, .inl md_nexts)), (a_md_isGoal, .inl (cZ, 4096, .inl md_isGoal)), (a_md_hasGuesses, .inl (cI, 4096, .inl md_hasGuesses)), (a_md_marked, .inl (cZ, 4096, .inl md_marked_68)), (a_md_other, .inl (cZ, 4096, .inl md_other_69))] := hD
                  refine lv_iinc (v := x3_43 + 1) (lv' := [(3, .int (x3_43 + 1)), (0, .ref a_md), (2, .int md_keptBits), (4, .int x4_67)]) hx hb d_Md_induction_252 hl (k := 2) rfl rfl (by decide) rfl (fun ls hl => ?_)
                  refine lv_goto (tgt := 81) hx hb d_Md_induction_255 (by decide) ?_
                  exact il _ _ _ h _ _ (hP.sub [1, 2, 3, 0, 4, 5, 6] rfl) (hD.sub [1, 2, 3, 0, 4, 5, 6] (by decide) rfl) hS _ (lv_sub hl [1, 2, 0] rfl)
                · have h := And.right h c_242
                  exact hk245 _ _ _ h _ _ hP hD hS _ (lv_sub hl [2] rfl)
          obtain ⟨n_, h⟩ := h
          refine L81_q_46 _ ?_ _ ?_ n_ _ _ _ h _ _ hP hD hS _ (lv_sub hl [1, 2, 0] rfl)
          · intro md_marked_70 md_other_71 h H locs hP hD hS ls hl
            refine lv_iconst (v := 0) hx hb d_Md_induction_258 (by decide) ?_
            subst hQ
            have hP9 := hP
            have hD9 := hD
            exact W.iret (v := 0) hx hb hr (fun t ht hW => ⟨⟨0, (md_marked_70, md_other_71), rfl, h, by rw [ht]; exact hP9, va_K.moved hW.alike hK, hD9⟩, hS.F ht⟩) hS.2.2 d_Md_induction_259
          · intro x3_72 md_marked_73 md_other_74 h H locs hP hD hS ls hl
            refine lv_iload_n hx hb d_Md_induction_245 rfl (lv_at hl 0 rfl) ?_
            subst hQ
            have hP9 := hP
            have hD9 := hD
            exact W.iret (v := x3_72) hx hb hr (fun t ht hW => ⟨⟨x3_72, (md_marked_73, md_other_74), rfl, h, by rw [ht]; exact hP9, va_K.moved hW.alike hK, hD9⟩, hS.F ht⟩) hS.2.2 d_Md_induction_246
      · have h := And.right h c_13
        refine lv_iconst (v := (-1)) hx hb d_Md_induction_16 (by decide) ?_
        subst hQ
        have hP9 := hP
        have hD9 := hD
        exact W.iret (v := (-1)) hx hb hr (fun t ht hW => ⟨⟨(-1), (md_marked, md_other), rfl, h, by rw [ht]; exact hP9, va_K.moved hW.alike hK, hD9⟩, hS.F ht⟩) hS.2.2 d_Md_induction_17
def wp_Md_kept (md_loop : Int32) (md_keptBits : Int32) (post : Int32 → Prop) : Prop :=
  ((0 ≤ (md_loop : Int32) → post md_keptBits) ∧ (¬ 0 ≤ (md_loop : Int32) → post (-1)))
set_option maxHeartbeats 4000000 in
set_option maxRecDepth 100000 in
theorem c_Md_kept (l : Launch) (dC : Nat → ClassId) (dI : Nat → Nat → Nat) (cI cB cZ : ClassId) (adK adV : Nat → Nat) (sz : Nat) (a_md a_md_tape a_md_acts a_md_actNumbers a_md_actCounts a_md_pile a_md_begins a_md_goals a_md_ranks a_md_choiceCounts a_md_whens a_md_becomes a_md_guessCounts a_md_guesses a_md_unaryCounts a_md_stack a_md_nexts a_md_isBegin a_md_isGoal a_md_levels a_md_queue a_md_hasGuesses a_md_rounds a_md_marked a_md_other a_md_heights : Nat) (md_size : Int32) (md_at : Int32) (md_token : Int32) (md_tokenPlace : Int32) (md_number : Int32) (md_sign : Int32) (md_bad : Int32) (md_faultPlace : Int32) (md_place : Int32) (md_bank : Int32) (md_unaries : Int32) (md_opens : Int32) (md_piled : Int32) (md_loop : Int32) (md_keptBits : Int32) (post : Int32 → Prop) (h : wp_Md_kept md_loop md_keptBits post) : Met l y_Md_kept w_Md_kept ({ frames := 0, cells := 0, slots := 0, locals := 0 }) (pc_ (dC, dI) [(cI, .int), (cB, .byte), (cZ, .boolean)] [(a_md, .inr (11, [.ref a_md_tape, .int md_size, .int md_at, .int md_token, .int md_tokenPlace, .int md_number, .int md_sign, .int md_bad, .int md_faultPlace, .int md_place, .ref a_md_acts, .ref a_md_actNumbers, .ref a_md_actCounts, .int md_bank, .int md_unaries, .int md_opens, .ref a_md_pile, .int md_piled, .int md_loop, .ref a_md_begins, .ref a_md_goals, .ref a_md_ranks, .ref a_md_choiceCounts, .ref a_md_whens, .ref a_md_becomes, .ref a_md_guessCounts, .ref a_md_guesses, .ref a_md_unaryCounts, .ref a_md_stack, .ref a_md_nexts, .ref a_md_isBegin, .ref a_md_isGoal, .ref a_md_levels, .ref a_md_queue, .ref a_md_hasGuesses, .int md_keptBits, .ref a_md_rounds, .ref a_md_marked, .ref a_md_other, .ref a_md_heights]))] sz adK adV [.ref a_md]) (va_Qi (fun (r : Int32) (u : Unit) => post r ) (fun (u : Unit) t => bw_ (dC, dI) [(cI, .int), (cB, .byte), (cZ, .boolean)] (va_A [(a_md, .inr (11, [.ref a_md_tape, .int md_size, .int md_at, .int md_token, .int md_tokenPlace, .int md_number, .int md_sign, .int md_bad, .int md_faultPlace, .int md_place, .ref a_md_acts, .ref a_md_actNumbers, .ref a_md_actCounts, .int md_bank, .int md_unaries, .int md_opens, .ref a_md_pile, .int md_piled, .int md_loop, .ref a_md_begins, .ref a_md_goals, .ref a_md_ranks, .ref a_md_choiceCounts, .ref a_md_whens, .ref a_md_becomes, .ref a_md_guessCounts, .ref a_md_guesses, .ref a_md_unaryCounts, .ref a_md_stack, .ref a_md_nexts, .ref a_md_isBegin, .ref a_md_isGoal, .ref a_md_levels, .ref a_md_queue, .ref a_md_hasGuesses, .int md_keptBits, .ref a_md_rounds, .ref a_md_marked, .ref a_md_other, .ref a_md_heights]))] sz) [(a_md, .inr (11, [.ref a_md_tape, .int md_size, .int md_at, .int md_token, .int md_tokenPlace, .int md_number, .int md_sign, .int md_bad, .int md_faultPlace, .int md_place, .ref a_md_acts, .ref a_md_actNumbers, .ref a_md_actCounts, .int md_bank, .int md_unaries, .int md_opens, .ref a_md_pile, .int md_piled, .int md_loop, .ref a_md_begins, .ref a_md_goals, .ref a_md_ranks, .ref a_md_choiceCounts, .ref a_md_whens, .ref a_md_becomes, .ref a_md_guessCounts, .ref a_md_guesses, .ref a_md_unaryCounts, .ref a_md_stack, .ref a_md_nexts, .ref a_md_isBegin, .ref a_md_isGoal, .ref a_md_levels, .ref a_md_queue, .ref a_md_hasGuesses, .int md_keptBits, .ref a_md_rounds, .ref a_md_marked, .ref a_md_other, .ref a_md_heights]))] t) (va_A [(a_md, .inr (11, [.ref a_md_tape, .int md_size, .int md_at, .int md_token, .int md_tokenPlace, .int md_number, .int md_sign, .int md_bad, .int md_faultPlace, .int md_place, .ref a_md_acts, .ref a_md_actNumbers, .ref a_md_actCounts, .int md_bank, .int md_unaries, .int md_opens, .ref a_md_pile, .int md_piled, .int md_loop, .ref a_md_begins, .ref a_md_goals, .ref a_md_ranks, .ref a_md_choiceCounts, .ref a_md_whens, .ref a_md_becomes, .ref a_md_guessCounts, .ref a_md_guesses, .ref a_md_unaryCounts, .ref a_md_stack, .ref a_md_nexts, .ref a_md_isBegin, .ref a_md_isGoal, .ref a_md_levels, .ref a_md_queue, .ref a_md_hasGuesses, .int md_keptBits, .ref a_md_rounds, .ref a_md_marked, .ref a_md_other, .ref a_md_heights]))] sz)) 0 0 (va_A [(a_md, .inr (11, [.ref a_md_tape, .int md_size, .int md_at, .int md_token, .int md_tokenPlace, .int md_number, .int md_sign, .int md_bad, .int md_faultPlace, .int md_place, .ref a_md_acts, .ref a_md_actNumbers, .ref a_md_actCounts, .int md_bank, .int md_unaries, .int md_opens, .ref a_md_pile, .int md_piled, .int md_loop, .ref a_md_begins, .ref a_md_goals, .ref a_md_ranks, .ref a_md_choiceCounts, .ref a_md_whens, .ref a_md_becomes, .ref a_md_guessCounts, .ref a_md_guesses, .ref a_md_unaryCounts, .ref a_md_stack, .ref a_md_nexts, .ref a_md_isBegin, .ref a_md_isGoal, .ref a_md_levels, .ref a_md_queue, .ref a_md_hasGuesses, .int md_keptBits, .ref a_md_rounds, .ref a_md_marked, .ref a_md_other, .ref a_md_heights]))] sz) := by
  refine Met.ofW (cc := b_Md_kept) (maxL := 1) (ret := (some .int)) (by decide) rfl ?_
  intro p e s m args below meth c s₁ B hml hv
  obtain ⟨rfl, hsz, hP, hK, hD0, hN, hT⟩ := hv
  have hx := B.exec
  have hb := B.bytes
  have hr := B.returns
  have hts := atoms_spec (ws := w_Md_kept) B.pre
  have hown : s.vm.findClass "LoopInductionModel" = some m.cls := findClass_of_methodNamed B.named
  have hlocks := B.notSynchronized
  subst hsz
  have hD := hD0.self (sz := s.heap.size)
  generalize hAe : va_A [(a_md, .inr (11, [.ref a_md_tape, .int md_size, .int md_at, .int md_token, .int md_tokenPlace, .int md_number, .int md_sign, .int md_bad, .int md_faultPlace, .int md_place, .ref a_md_acts, .ref a_md_actNumbers, .ref a_md_actCounts, .int md_bank, .int md_unaries, .int md_opens, .ref a_md_pile, .int md_piled, .int md_loop, .ref a_md_begins, .ref a_md_goals, .ref a_md_ranks, .ref a_md_choiceCounts, .ref a_md_whens, .ref a_md_becomes, .ref a_md_guessCounts, .ref a_md_guesses, .ref a_md_unaryCounts, .ref a_md_stack, .ref a_md_nexts, .ref a_md_isBegin, .ref a_md_isGoal, .ref a_md_levels, .ref a_md_queue, .ref a_md_hasGuesses, .int md_keptBits, .ref a_md_rounds, .ref a_md_marked, .ref a_md_other, .ref a_md_heights]))] s.heap.size = A at hD hT ⊢
  have hA : ∀ q : Nat, s.heap.size ≤ q → A q := fun q h => by rw [← hAe]; exact Or.inr h
  have hS : va_S A s.heap s.heap [] := va_S.rf
  generalize hQ : MQ below _ _ s 0 0 _ = QQ
  have hl := lv_entry ([.ref a_md]) (n := 1) (Nat.le_of_ble_eq_true rfl)
  rw [lg_entry_eq]
  generalize (lg_sl ([.ref a_md]) ++ List.replicate (1 - (lg_sl ([.ref a_md])).length) Slot.unset).toArray = ls at hl ⊢
  have hl : lv_has ls 1 [(0, .ref a_md)] := hl
  have fl_30 := (hts _ (List.mem_cons_of_mem _ m_1108))
  have fl_264 := (hts _ (List.mem_cons_of_mem _ m_1125))
  refine lv_aload_n hx hb d_Md_kept_0 rfl (lv_at hl 0 rfl) ?_
  refine va_get (D := (dC, dI)) (ci := 11) (v := .int md_loop) (C := "LoopInductionModel") (T := F_Md) (N := 40) hx hb hts iC_Md hown hK hP 0 rfl rfl 18 (by decide) fl_30 (fun _ h9 => h9) rfl d_Md_kept_1 ?_
  refine lv_if_ge (tgt := 11) hx hb d_Md_kept_4 (by decide) (fun c_4 => ?_) (fun c_4 => ?_)
  · have h := And.left h c_4
    refine lv_aload_n hx hb d_Md_kept_11 rfl (lv_at hl 0 rfl) ?_
    refine va_get (D := (dC, dI)) (ci := 11) (v := .int md_keptBits) (C := "LoopInductionModel") (T := F_Md) (N := 40) hx hb hts iC_Md hown hK hP 0 rfl rfl 35 (by decide) fl_264 (fun _ h9 => h9) rfl d_Md_kept_12 ?_
    subst hQ
    have hP9 := hP
    have hD9 := hD
    exact W.iret (v := md_keptBits) hx hb hr (fun t ht hW => ⟨⟨md_keptBits, (), rfl, h, by rw [ht]; exact hP9, va_K.moved hW.alike hK, hD9⟩, hS.F ht⟩) hS.2.2 d_Md_kept_15
  · have h := And.right h c_4
    refine lv_iconst (v := (-1)) hx hb d_Md_kept_7 (by decide) ?_
    refine lv_goto (tgt := 15) hx hb d_Md_kept_8 (by decide) ?_
    subst hQ
    have hP9 := hP
    have hD9 := hD
    exact W.iret (v := (-1)) hx hb hr (fun t ht hW => ⟨⟨(-1), (), rfl, h, by rw [ht]; exact hP9, va_K.moved hW.alike hK, hD9⟩, hS.F ht⟩) hS.2.2 d_Md_kept_15
def wp_Md_gone (x1 : Int32) (md_loop : Int32) (md_guessCounts : Nat → Int32) (md_rounds : Nat → Int32) (post : Int32 → Prop) : Prop :=
  (((md_loop : Int32) < 0 → post (-1)) ∧ (¬ (md_loop : Int32) < 0 → (((x1 : Int32) < 0 → post (-1)) ∧ (¬ (x1 : Int32) < 0 → (vp_in md_loop 2 ∧ (((x1 : Int32) < (md_guessCounts (md_loop : Int32).toNatClampNeg : Int32) → (vp_in x1 12 ∧ post (md_rounds (x1 : Int32).toNatClampNeg))) ∧ (¬ (x1 : Int32) < (md_guessCounts (md_loop : Int32).toNatClampNeg : Int32) → post (-1))))))))
set_option maxHeartbeats 4000000 in
set_option maxRecDepth 100000 in
theorem c_Md_gone (l : Launch) (dC : Nat → ClassId) (dI : Nat → Nat → Nat) (cI cB cZ : ClassId) (adK adV : Nat → Nat) (sz : Nat) (a_md a_md_tape a_md_acts a_md_actNumbers a_md_actCounts a_md_pile a_md_begins a_md_goals a_md_ranks a_md_choiceCounts a_md_whens a_md_becomes a_md_guessCounts a_md_guesses a_md_unaryCounts a_md_stack a_md_nexts a_md_isBegin a_md_isGoal a_md_levels a_md_queue a_md_hasGuesses a_md_rounds a_md_marked a_md_other a_md_heights : Nat) (md_size : Int32) (md_at : Int32) (md_token : Int32) (md_tokenPlace : Int32) (md_number : Int32) (md_sign : Int32) (md_bad : Int32) (md_faultPlace : Int32) (md_place : Int32) (md_bank : Int32) (md_unaries : Int32) (md_opens : Int32) (md_piled : Int32) (md_loop : Int32) (md_keptBits : Int32) (md_guessCounts : Nat → Int32) (md_rounds : Nat → Int32) (x1 : Int32) (post : Int32 → Prop) (h : wp_Md_gone x1 md_loop md_guessCounts md_rounds post) : Met l y_Md_gone w_Md_gone ({ frames := 0, cells := 0, slots := 0, locals := 0 }) (pc_ (dC, dI) [(cI, .int), (cB, .byte), (cZ, .boolean)] [(a_md, .inr (11, [.ref a_md_tape, .int md_size, .int md_at, .int md_token, .int md_tokenPlace, .int md_number, .int md_sign, .int md_bad, .int md_faultPlace, .int md_place, .ref a_md_acts, .ref a_md_actNumbers, .ref a_md_actCounts, .int md_bank, .int md_unaries, .int md_opens, .ref a_md_pile, .int md_piled, .int md_loop, .ref a_md_begins, .ref a_md_goals, .ref a_md_ranks, .ref a_md_choiceCounts, .ref a_md_whens, .ref a_md_becomes, .ref a_md_guessCounts, .ref a_md_guesses, .ref a_md_unaryCounts, .ref a_md_stack, .ref a_md_nexts, .ref a_md_isBegin, .ref a_md_isGoal, .ref a_md_levels, .ref a_md_queue, .ref a_md_hasGuesses, .int md_keptBits, .ref a_md_rounds, .ref a_md_marked, .ref a_md_other, .ref a_md_heights])), (a_md_guessCounts, .inl (cI, 2, .inl md_guessCounts)), (a_md_rounds, .inl (cI, 12, .inl md_rounds))] sz adK adV [.ref a_md, .int x1]) (va_Qi (fun (r : Int32) (u : Unit) => post r ) (fun (u : Unit) t => bw_ (dC, dI) [(cI, .int), (cB, .byte), (cZ, .boolean)] (va_A [(a_md, .inr (11, [.ref a_md_tape, .int md_size, .int md_at, .int md_token, .int md_tokenPlace, .int md_number, .int md_sign, .int md_bad, .int md_faultPlace, .int md_place, .ref a_md_acts, .ref a_md_actNumbers, .ref a_md_actCounts, .int md_bank, .int md_unaries, .int md_opens, .ref a_md_pile, .int md_piled, .int md_loop, .ref a_md_begins, .ref a_md_goals, .ref a_md_ranks, .ref a_md_choiceCounts, .ref a_md_whens, .ref a_md_becomes, .ref a_md_guessCounts, .ref a_md_guesses, .ref a_md_unaryCounts, .ref a_md_stack, .ref a_md_nexts, .ref a_md_isBegin, .ref a_md_isGoal, .ref a_md_levels, .ref a_md_queue, .ref a_md_hasGuesses, .int md_keptBits, .ref a_md_rounds, .ref a_md_marked, .ref a_md_other, .ref a_md_heights])), (a_md_guessCounts, .inl (cI, 2, .inl md_guessCounts)), (a_md_rounds, .inl (cI, 12, .inl md_rounds))] sz) [(a_md, .inr (11, [.ref a_md_tape, .int md_size, .int md_at, .int md_token, .int md_tokenPlace, .int md_number, .int md_sign, .int md_bad, .int md_faultPlace, .int md_place, .ref a_md_acts, .ref a_md_actNumbers, .ref a_md_actCounts, .int md_bank, .int md_unaries, .int md_opens, .ref a_md_pile, .int md_piled, .int md_loop, .ref a_md_begins, .ref a_md_goals, .ref a_md_ranks, .ref a_md_choiceCounts, .ref a_md_whens, .ref a_md_becomes, .ref a_md_guessCounts, .ref a_md_guesses, .ref a_md_unaryCounts, .ref a_md_stack, .ref a_md_nexts, .ref a_md_isBegin, .ref a_md_isGoal, .ref a_md_levels, .ref a_md_queue, .ref a_md_hasGuesses, .int md_keptBits, .ref a_md_rounds, .ref a_md_marked, .ref a_md_other, .ref a_md_heights])), (a_md_guessCounts, .inl (cI, 2, .inl md_guessCounts)), (a_md_rounds, .inl (cI, 12, .inl md_rounds))] t) (va_A [(a_md, .inr (11, [.ref a_md_tape, .int md_size, .int md_at, .int md_token, .int md_tokenPlace, .int md_number, .int md_sign, .int md_bad, .int md_faultPlace, .int md_place, .ref a_md_acts, .ref a_md_actNumbers, .ref a_md_actCounts, .int md_bank, .int md_unaries, .int md_opens, .ref a_md_pile, .int md_piled, .int md_loop, .ref a_md_begins, .ref a_md_goals, .ref a_md_ranks, .ref a_md_choiceCounts, .ref a_md_whens, .ref a_md_becomes, .ref a_md_guessCounts, .ref a_md_guesses, .ref a_md_unaryCounts, .ref a_md_stack, .ref a_md_nexts, .ref a_md_isBegin, .ref a_md_isGoal, .ref a_md_levels, .ref a_md_queue, .ref a_md_hasGuesses, .int md_keptBits, .ref a_md_rounds, .ref a_md_marked, .ref a_md_other, .ref a_md_heights])), (a_md_guessCounts, .inl (cI, 2, .inl md_guessCounts)), (a_md_rounds, .inl (cI, 12, .inl md_rounds))] sz)) 0 0 (va_A [(a_md, .inr (11, [.ref a_md_tape, .int md_size, .int md_at, .int md_token, .int md_tokenPlace, .int md_number, .int md_sign, .int md_bad, .int md_faultPlace, .int md_place, .ref a_md_acts, .ref a_md_actNumbers, .ref a_md_actCounts, .int md_bank, .int md_unaries, .int md_opens, .ref a_md_pile, .int md_piled, .int md_loop, .ref a_md_begins, .ref a_md_goals, .ref a_md_ranks, .ref a_md_choiceCounts, .ref a_md_whens, .ref a_md_becomes, .ref a_md_guessCounts, .ref a_md_guesses, .ref a_md_unaryCounts, .ref a_md_stack, .ref a_md_nexts, .ref a_md_isBegin, .ref a_md_isGoal, .ref a_md_levels, .ref a_md_queue, .ref a_md_hasGuesses, .int md_keptBits, .ref a_md_rounds, .ref a_md_marked, .ref a_md_other, .ref a_md_heights])), (a_md_guessCounts, .inl (cI, 2, .inl md_guessCounts)), (a_md_rounds, .inl (cI, 12, .inl md_rounds))] sz) := by
  refine Met.ofW (cc := b_Md_gone) (maxL := 2) (ret := (some .int)) (by decide) rfl ?_
  intro p e s m args below meth c s₁ B hml hv
  obtain ⟨rfl, hsz, hP, hK, hD0, hN, hT⟩ := hv
  have hx := B.exec
  have hb := B.bytes
  have hr := B.returns
  have hts := atoms_spec (ws := w_Md_gone) B.pre
  have hown : s.vm.findClass "LoopInductionModel" = some m.cls := findClass_of_methodNamed B.named
  have hlocks := B.notSynchronized
  subst hsz
  have hD := hD0.self (sz := s.heap.size)
  generalize hAe : va_A [(a_md, .inr (11, [.ref a_md_tape, .int md_size, .int md_at, .int md_token, .int md_tokenPlace, .int md_number, .int md_sign, .int md_bad, .int md_faultPlace, .int md_place, .ref a_md_acts, .ref a_md_actNumbers, .ref a_md_actCounts, .int md_bank, .int md_unaries, .int md_opens, .ref a_md_pile, .int md_piled, .int md_loop, .ref a_md_begins, .ref a_md_goals, .ref a_md_ranks, .ref a_md_choiceCounts, .ref a_md_whens, .ref a_md_becomes, .ref a_md_guessCounts, .ref a_md_guesses, .ref a_md_unaryCounts, .ref a_md_stack, .ref a_md_nexts, .ref a_md_isBegin, .ref a_md_isGoal, .ref a_md_levels, .ref a_md_queue, .ref a_md_hasGuesses, .int md_keptBits, .ref a_md_rounds, .ref a_md_marked, .ref a_md_other, .ref a_md_heights])), (a_md_guessCounts, .inl (cI, 2, .inl md_guessCounts)), (a_md_rounds, .inl (cI, 12, .inl md_rounds))] s.heap.size = A at hD hT ⊢
  have hA : ∀ q : Nat, s.heap.size ≤ q → A q := fun q h => by rw [← hAe]; exact Or.inr h
  have hS : va_S A s.heap s.heap [] := va_S.rf
  generalize hQ : MQ below _ _ s 0 0 _ = QQ
  have hl := lv_entry ([.ref a_md, .int x1]) (n := 2) (Nat.le_of_ble_eq_true rfl)
  rw [lg_entry_eq]
  generalize (lg_sl ([.ref a_md, .int x1]) ++ List.replicate (2 - (lg_sl ([.ref a_md, .int x1])).length) Slot.unset).toArray = ls at hl ⊢
  have hl : lv_has ls 2 [(0, .ref a_md), (1, .int x1)] := hl
  have fl_30 := (hts _ (List.mem_cons_of_mem _ m_1108))
  have fl_51 := (hts _ (List.mem_cons_of_mem _ m_1115))
  have fl_82 := (hts _ (List.mem_cons_of_mem _ m_1126))
  refine lv_aload_n hx hb d_Md_gone_0 rfl (lv_at hl 0 rfl) ?_
  refine va_get (D := (dC, dI)) (ci := 11) (v := .int md_loop) (C := "LoopInductionModel") (T := F_Md) (N := 40) hx hb hts iC_Md hown hK hP 0 rfl rfl 18 (by decide) fl_30 (fun _ h9 => h9) rfl d_Md_gone_1 ?_
  refine lv_if_lt (tgt := 24) hx hb d_Md_gone_4 (by decide) (fun c_4 => ?_) (fun c_4 => ?_)
  · have h := And.left h c_4
    refine lv_iconst (v := (-1)) hx hb d_Md_gone_24 (by decide) ?_
    refine lv_goto (tgt := 34) hx hb d_Md_gone_25 (by decide) ?_
    subst hQ
    have hP9 := hP
    have hD9 := hD
    exact W.iret (v := (-1)) hx hb hr (fun t ht hW => ⟨⟨(-1), (), rfl, h, by rw [ht]; exact hP9, va_K.moved hW.alike hK, hD9⟩, hS.F ht⟩) hS.2.2 d_Md_gone_34
  · have h := And.right h c_4
    refine lv_iload_n hx hb d_Md_gone_7 rfl (lv_at hl 1 rfl) ?_
    refine lv_if_lt (tgt := 24) hx hb d_Md_gone_8 (by decide) (fun c_8 => ?_) (fun c_8 => ?_)
    · have h := And.left h c_8
      refine lv_iconst (v := (-1)) hx hb d_Md_gone_24 (by decide) ?_
      refine lv_goto (tgt := 34) hx hb d_Md_gone_25 (by decide) ?_
      subst hQ
      have hP9 := hP
      have hD9 := hD
      exact W.iret (v := (-1)) hx hb hr (fun t ht hW => ⟨⟨(-1), (), rfl, h, by rw [ht]; exact hP9, va_K.moved hW.alike hK, hD9⟩, hS.F ht⟩) hS.2.2 d_Md_gone_34
    · have h := And.right h c_8
      refine lv_iload_n hx hb d_Md_gone_11 rfl (lv_at hl 1 rfl) ?_
      refine lv_aload_n hx hb d_Md_gone_12 rfl (lv_at hl 0 rfl) ?_
      refine va_get (D := (dC, dI)) (ci := 11) (v := .ref a_md_guessCounts) (C := "LoopInductionModel") (T := F_Md) (N := 40) hx hb hts iC_Md hown hK hP 0 rfl rfl 25 (by decide) fl_51 (fun _ h9 => h9) rfl d_Md_gone_13 ?_
      refine lv_aload_n hx hb d_Md_gone_16 rfl (lv_at hl 0 rfl) ?_
      refine va_get (D := (dC, dI)) (ci := 11) (v := .int md_loop) (C := "LoopInductionModel") (T := F_Md) (N := 40) hx hb hts iC_Md hown hK hP 0 rfl rfl 18 (by decide) fl_30 (fun _ h9 => h9) rfl d_Md_gone_17 ?_
      obtain ⟨hin_20, h⟩ := h
      refine va_iald hx hb hK hP 1 0 rfl rfl hin_20 d_Md_gone_20 ?_
      refine lv_icmp_lt (tgt := 28) hx hb d_Md_gone_21 (by decide) (fun c_21 => ?_) (fun c_21 => ?_)
      · have h := And.left h c_21
        refine lv_aload_n hx hb d_Md_gone_28 rfl (lv_at hl 0 rfl) ?_
        refine va_get (D := (dC, dI)) (ci := 11) (v := .ref a_md_rounds) (C := "LoopInductionModel") (T := F_Md) (N := 40) hx hb hts iC_Md hown hK hP 0 rfl rfl 36 (by decide) fl_82 (fun _ h9 => h9) rfl d_Md_gone_29 ?_
        refine lv_iload_n hx hb d_Md_gone_32 rfl (lv_at hl 1 rfl) ?_
        obtain ⟨hin_33, h⟩ := h
        refine va_iald hx hb hK hP 2 0 rfl rfl hin_33 d_Md_gone_33 ?_
        subst hQ
        have hP9 := hP
        have hD9 := hD
        exact W.iret (v := md_rounds (x1 : Int32).toNatClampNeg) hx hb hr (fun t ht hW => ⟨⟨(md_rounds (x1 : Int32).toNatClampNeg), (), rfl, h, by rw [ht]; exact hP9, va_K.moved hW.alike hK, hD9⟩, hS.F ht⟩) hS.2.2 d_Md_gone_34
      · have h := And.right h c_21
        refine lv_iconst (v := (-1)) hx hb d_Md_gone_24 (by decide) ?_
        refine lv_goto (tgt := 34) hx hb d_Md_gone_25 (by decide) ?_
        subst hQ
        have hP9 := hP
        have hD9 := hD
        exact W.iret (v := (-1)) hx hb hr (fun t ht hW => ⟨⟨(-1), (), rfl, h, by rw [ht]; exact hP9, va_K.moved hW.alike hK, hD9⟩, hS.F ht⟩) hS.2.2 d_Md_gone_34
