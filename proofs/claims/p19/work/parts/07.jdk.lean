/-! the library's text methods over the class's constants -/
abbrev b_Scoder : ByteArray := prog_16_method_152_code
abbrev y_Scoder : MethodName := ⟨"java/lang/String", "coder", "()B"⟩
abbrev w_Scoder : List Cond := .code y_Scoder b_Scoder 1 (some .byte) :: allW
theorem pn_Scoder : y_Scoder.cls ≠ "java/lang/invoke/MethodHandle" ∧ y_Scoder.cls ≠ "java/lang/invoke/VarHandle" ∧ (parseMethodDescriptor y_Scoder.desc).map (fun d => d.parameters.length) = some 0 := by decide +kernel
theorem pd_Scoder : y_Scoder.cls = "java/lang/String" ∧ y_Scoder.cls ≠ "java/lang/invoke/MethodHandle" ∧ y_Scoder.cls ≠ "java/lang/invoke/VarHandle" ∧ (parseMethodDescriptor y_Scoder.desc).map (fun d => d.parameters.length) = some 0 := by decide +kernel
theorem d_Scoder_0 : decode b_Scoder 0 = .ok (.getstatic 38, 3) := by decide +kernel
theorem d_Scoder_3 : decode b_Scoder 3 = .ok (.ifCond .eq 10, 3) := by decide +kernel
theorem d_Scoder_6 : decode b_Scoder 6 = .ok (.aload_n 0, 1) := by decide +kernel
theorem d_Scoder_7 : decode b_Scoder 7 = .ok (.getfield 15, 3) := by decide +kernel
theorem d_Scoder_10 : decode b_Scoder 10 = .ok (.goto 4, 3) := by decide +kernel
theorem d_Scoder_13 : decode b_Scoder 13 = .ok (.iconst 1, 1) := by decide +kernel
theorem d_Scoder_14 : decode b_Scoder 14 = .ok (.ireturn, 1) := by decide +kernel
abbrev b_SisLatin1 : ByteArray := prog_16_method_154_code
abbrev y_SisLatin1 : MethodName := ⟨"java/lang/String", "isLatin1", "()Z"⟩
abbrev w_SisLatin1 : List Cond := .code y_SisLatin1 b_SisLatin1 1 (some .boolean) :: allW
theorem pn_SisLatin1 : y_SisLatin1.cls ≠ "java/lang/invoke/MethodHandle" ∧ y_SisLatin1.cls ≠ "java/lang/invoke/VarHandle" ∧ (parseMethodDescriptor y_SisLatin1.desc).map (fun d => d.parameters.length) = some 0 := by decide +kernel
theorem pd_SisLatin1 : y_SisLatin1.cls = "java/lang/String" ∧ y_SisLatin1.cls ≠ "java/lang/invoke/MethodHandle" ∧ y_SisLatin1.cls ≠ "java/lang/invoke/VarHandle" ∧ (parseMethodDescriptor y_SisLatin1.desc).map (fun d => d.parameters.length) = some 0 := by decide +kernel
theorem d_SisLatin1_0 : decode b_SisLatin1 0 = .ok (.getstatic 38, 3) := by decide +kernel
theorem d_SisLatin1_3 : decode b_SisLatin1 3 = .ok (.ifCond .eq 14, 3) := by decide +kernel
theorem d_SisLatin1_6 : decode b_SisLatin1 6 = .ok (.aload_n 0, 1) := by decide +kernel
theorem d_SisLatin1_7 : decode b_SisLatin1 7 = .ok (.getfield 15, 3) := by decide +kernel
theorem d_SisLatin1_10 : decode b_SisLatin1 10 = .ok (.ifCond .ne 7, 3) := by decide +kernel
theorem d_SisLatin1_13 : decode b_SisLatin1 13 = .ok (.iconst 1, 1) := by decide +kernel
theorem d_SisLatin1_14 : decode b_SisLatin1 14 = .ok (.goto 4, 3) := by decide +kernel
theorem d_SisLatin1_17 : decode b_SisLatin1 17 = .ok (.iconst 0, 1) := by decide +kernel
theorem d_SisLatin1_18 : decode b_SisLatin1 18 = .ok (.ireturn, 1) := by decide +kernel
abbrev b_Slength : ByteArray := prog_16_method_54_code
abbrev y_Slength : MethodName := ⟨"java/lang/String", "length", "()I"⟩
abbrev w_Slength : List Cond := .code y_Slength b_Slength 1 (some .int) :: allW
theorem pn_Slength : y_Slength.cls ≠ "java/lang/invoke/MethodHandle" ∧ y_Slength.cls ≠ "java/lang/invoke/VarHandle" ∧ (parseMethodDescriptor y_Slength.desc).map (fun d => d.parameters.length) = some 0 := by decide +kernel
theorem pd_Slength : y_Slength.cls = "java/lang/String" ∧ y_Slength.cls ≠ "java/lang/invoke/MethodHandle" ∧ y_Slength.cls ≠ "java/lang/invoke/VarHandle" ∧ (parseMethodDescriptor y_Slength.desc).map (fun d => d.parameters.length) = some 0 := by decide +kernel
theorem d_Slength_0 : decode b_Slength 0 = .ok (.aload_n 0, 1) := by decide +kernel
theorem d_Slength_1 : decode b_Slength 1 = .ok (.getfield 9, 3) := by decide +kernel
theorem d_Slength_4 : decode b_Slength 4 = .ok (.arraylength, 1) := by decide +kernel
theorem d_Slength_5 : decode b_Slength 5 = .ok (.aload_n 0, 1) := by decide +kernel
theorem d_Slength_6 : decode b_Slength 6 = .ok (.invokevirtual 335, 3) := by decide +kernel
theorem d_Slength_9 : decode b_Slength 9 = .ok (.ishr, 1) := by decide +kernel
theorem d_Slength_10 : decode b_Slength 10 = .ok (.ireturn, 1) := by decide +kernel
abbrev b_Spcheck : ByteArray := prog_21_method_11_code
abbrev y_Spcheck : MethodName := ⟨"jdk/internal/util/Preconditions", "checkIndex", "(IILjava/util/function/BiFunction;)I"⟩
abbrev w_Spcheck : List Cond := .code y_Spcheck b_Spcheck 3 (some .int) :: allW
theorem pn_Spcheck : y_Spcheck.cls ≠ "java/lang/invoke/MethodHandle" ∧ y_Spcheck.cls ≠ "java/lang/invoke/VarHandle" ∧ (parseMethodDescriptor y_Spcheck.desc).map (fun d => d.parameters.length) = some 3 := by decide +kernel
theorem pd_Spcheck : y_Spcheck.cls = "jdk/internal/util/Preconditions" ∧ y_Spcheck.cls ≠ "java/lang/invoke/MethodHandle" ∧ y_Spcheck.cls ≠ "java/lang/invoke/VarHandle" ∧ (parseMethodDescriptor y_Spcheck.desc).map (fun d => d.parameters.length) = some 3 := by decide +kernel
theorem d_Spcheck_0 : decode b_Spcheck 0 = .ok (.iload_n 0, 1) := by decide +kernel
theorem d_Spcheck_1 : decode b_Spcheck 1 = .ok (.ifCond .lt 8, 3) := by decide +kernel
theorem d_Spcheck_4 : decode b_Spcheck 4 = .ok (.iload_n 0, 1) := by decide +kernel
theorem d_Spcheck_5 : decode b_Spcheck 5 = .ok (.iload_n 1, 1) := by decide +kernel
theorem d_Spcheck_6 : decode b_Spcheck 6 = .ok (.if_icmp .lt 10, 3) := by decide +kernel
theorem d_Spcheck_9 : decode b_Spcheck 9 = .ok (.aload_n 2, 1) := by decide +kernel
theorem d_Spcheck_10 : decode b_Spcheck 10 = .ok (.iload_n 0, 1) := by decide +kernel
theorem d_Spcheck_11 : decode b_Spcheck 11 = .ok (.iload_n 1, 1) := by decide +kernel
theorem d_Spcheck_12 : decode b_Spcheck 12 = .ok (.invokestatic 95, 3) := by decide +kernel
theorem d_Spcheck_16 : decode b_Spcheck 16 = .ok (.iload_n 0, 1) := by decide +kernel
theorem d_Spcheck_17 : decode b_Spcheck 17 = .ok (.ireturn, 1) := by decide +kernel
abbrev b_Sscheck : ByteArray := prog_16_method_155_code
abbrev y_Sscheck : MethodName := ⟨"java/lang/String", "checkIndex", "(II)V"⟩
abbrev w_Sscheck : List Cond := .code y_Sscheck b_Sscheck 2 none :: allW
theorem pn_Sscheck : y_Sscheck.cls ≠ "java/lang/invoke/MethodHandle" ∧ y_Sscheck.cls ≠ "java/lang/invoke/VarHandle" ∧ (parseMethodDescriptor y_Sscheck.desc).map (fun d => d.parameters.length) = some 2 := by decide +kernel
theorem pd_Sscheck : y_Sscheck.cls = "java/lang/String" ∧ y_Sscheck.cls ≠ "java/lang/invoke/MethodHandle" ∧ y_Sscheck.cls ≠ "java/lang/invoke/VarHandle" ∧ (parseMethodDescriptor y_Sscheck.desc).map (fun d => d.parameters.length) = some 2 := by decide +kernel
theorem d_Sscheck_0 : decode b_Sscheck 0 = .ok (.iload_n 0, 1) := by decide +kernel
theorem d_Sscheck_1 : decode b_Sscheck 1 = .ok (.iload_n 1, 1) := by decide +kernel
theorem d_Sscheck_2 : decode b_Sscheck 2 = .ok (.getstatic 1053, 3) := by decide +kernel
theorem d_Sscheck_5 : decode b_Sscheck 5 = .ok (.invokestatic 1059, 3) := by decide +kernel
theorem d_Sscheck_8 : decode b_Sscheck 8 = .ok (.pop, 1) := by decide +kernel
theorem d_Sscheck_9 : decode b_Sscheck 9 = .ok (.return_, 1) := by decide +kernel
abbrev b_SlcharAt : ByteArray := prog_17_method_2_code
abbrev y_SlcharAt : MethodName := ⟨"java/lang/StringLatin1", "charAt", "([BI)C"⟩
abbrev w_SlcharAt : List Cond := .code y_SlcharAt b_SlcharAt 2 (some .char) :: allW
theorem pn_SlcharAt : y_SlcharAt.cls ≠ "java/lang/invoke/MethodHandle" ∧ y_SlcharAt.cls ≠ "java/lang/invoke/VarHandle" ∧ (parseMethodDescriptor y_SlcharAt.desc).map (fun d => d.parameters.length) = some 2 := by decide +kernel
theorem pd_SlcharAt : y_SlcharAt.cls = "java/lang/StringLatin1" ∧ y_SlcharAt.cls ≠ "java/lang/invoke/MethodHandle" ∧ y_SlcharAt.cls ≠ "java/lang/invoke/VarHandle" ∧ (parseMethodDescriptor y_SlcharAt.desc).map (fun d => d.parameters.length) = some 2 := by decide +kernel
theorem d_SlcharAt_0 : decode b_SlcharAt 0 = .ok (.iload_n 1, 1) := by decide +kernel
theorem d_SlcharAt_1 : decode b_SlcharAt 1 = .ok (.aload_n 0, 1) := by decide +kernel
theorem d_SlcharAt_2 : decode b_SlcharAt 2 = .ok (.arraylength, 1) := by decide +kernel
theorem d_SlcharAt_3 : decode b_SlcharAt 3 = .ok (.invokestatic 9, 3) := by decide +kernel
theorem d_SlcharAt_6 : decode b_SlcharAt 6 = .ok (.aload_n 0, 1) := by decide +kernel
theorem d_SlcharAt_7 : decode b_SlcharAt 7 = .ok (.iload_n 1, 1) := by decide +kernel
theorem d_SlcharAt_8 : decode b_SlcharAt 8 = .ok (.baload, 1) := by decide +kernel
theorem d_SlcharAt_9 : decode b_SlcharAt 9 = .ok (.sipush 255, 3) := by decide +kernel
theorem d_SlcharAt_12 : decode b_SlcharAt 12 = .ok (.iand, 1) := by decide +kernel
theorem d_SlcharAt_13 : decode b_SlcharAt 13 = .ok (.i2c, 1) := by decide +kernel
theorem d_SlcharAt_14 : decode b_SlcharAt 14 = .ok (.ireturn, 1) := by decide +kernel
abbrev b_ScharAt : ByteArray := prog_16_method_56_code
abbrev y_ScharAt : MethodName := ⟨"java/lang/String", "charAt", "(I)C"⟩
abbrev w_ScharAt : List Cond := .code y_ScharAt b_ScharAt 2 (some .char) :: allW
theorem pn_ScharAt : y_ScharAt.cls ≠ "java/lang/invoke/MethodHandle" ∧ y_ScharAt.cls ≠ "java/lang/invoke/VarHandle" ∧ (parseMethodDescriptor y_ScharAt.desc).map (fun d => d.parameters.length) = some 1 := by decide +kernel
theorem pd_ScharAt : y_ScharAt.cls = "java/lang/String" ∧ y_ScharAt.cls ≠ "java/lang/invoke/MethodHandle" ∧ y_ScharAt.cls ≠ "java/lang/invoke/VarHandle" ∧ (parseMethodDescriptor y_ScharAt.desc).map (fun d => d.parameters.length) = some 1 := by decide +kernel
theorem d_ScharAt_0 : decode b_ScharAt 0 = .ok (.aload_n 0, 1) := by decide +kernel
theorem d_ScharAt_1 : decode b_ScharAt 1 = .ok (.invokevirtual 492, 3) := by decide +kernel
theorem d_ScharAt_4 : decode b_ScharAt 4 = .ok (.ifCond .eq 12, 3) := by decide +kernel
theorem d_ScharAt_7 : decode b_ScharAt 7 = .ok (.aload_n 0, 1) := by decide +kernel
theorem d_ScharAt_8 : decode b_ScharAt 8 = .ok (.getfield 9, 3) := by decide +kernel
theorem d_ScharAt_11 : decode b_ScharAt 11 = .ok (.iload_n 1, 1) := by decide +kernel
theorem d_ScharAt_12 : decode b_ScharAt 12 = .ok (.invokestatic 495, 3) := by decide +kernel
theorem d_ScharAt_15 : decode b_ScharAt 15 = .ok (.ireturn, 1) := by decide +kernel
theorem d_ScharAt_16 : decode b_ScharAt 16 = .ok (.aload_n 0, 1) := by decide +kernel
theorem d_ScharAt_17 : decode b_ScharAt 17 = .ok (.getfield 9, 3) := by decide +kernel
theorem d_ScharAt_20 : decode b_ScharAt 20 = .ok (.iload_n 1, 1) := by decide +kernel
theorem d_ScharAt_21 : decode b_ScharAt 21 = .ok (.invokestatic 498, 3) := by decide +kernel
theorem d_ScharAt_24 : decode b_ScharAt 24 = .ok (.ireturn, 1) := by decide +kernel
abbrev b_ScanEnc : ByteArray := prog_17_method_4_code
abbrev y_ScanEnc : MethodName := ⟨"java/lang/StringLatin1", "canEncode", "(I)Z"⟩
abbrev w_ScanEnc : List Cond := .code y_ScanEnc b_ScanEnc 1 (some .boolean) :: allW
theorem pn_ScanEnc : y_ScanEnc.cls ≠ "java/lang/invoke/MethodHandle" ∧ y_ScanEnc.cls ≠ "java/lang/invoke/VarHandle" ∧ (parseMethodDescriptor y_ScanEnc.desc).map (fun d => d.parameters.length) = some 1 := by decide +kernel
theorem pd_ScanEnc : y_ScanEnc.cls = "java/lang/StringLatin1" ∧ y_ScanEnc.cls ≠ "java/lang/invoke/MethodHandle" ∧ y_ScanEnc.cls ≠ "java/lang/invoke/VarHandle" ∧ (parseMethodDescriptor y_ScanEnc.desc).map (fun d => d.parameters.length) = some 1 := by decide +kernel
theorem d_ScanEnc_0 : decode b_ScanEnc 0 = .ok (.iload_n 0, 1) := by decide +kernel
theorem d_ScanEnc_1 : decode b_ScanEnc 1 = .ok (.ifCond .lt 14, 3) := by decide +kernel
theorem d_ScanEnc_4 : decode b_ScanEnc 4 = .ok (.iload_n 0, 1) := by decide +kernel
theorem d_ScanEnc_5 : decode b_ScanEnc 5 = .ok (.sipush 255, 3) := by decide +kernel
theorem d_ScanEnc_8 : decode b_ScanEnc 8 = .ok (.if_icmp .gt 7, 3) := by decide +kernel
theorem d_ScanEnc_11 : decode b_ScanEnc 11 = .ok (.iconst 1, 1) := by decide +kernel
theorem d_ScanEnc_12 : decode b_ScanEnc 12 = .ok (.goto 4, 3) := by decide +kernel
theorem d_ScanEnc_15 : decode b_ScanEnc 15 = .ok (.iconst 0, 1) := by decide +kernel
theorem d_ScanEnc_16 : decode b_ScanEnc 16 = .ok (.ireturn, 1) := by decide +kernel
abbrev b_Slixc : ByteArray := prog_17_method_23_code
abbrev y_Slixc : MethodName := ⟨"java/lang/StringLatin1", "indexOfChar", "([BIII)I"⟩
abbrev w_Slixc : List Cond := .code y_Slixc b_Slixc 6 (some .int) :: allW
theorem pn_Slixc : y_Slixc.cls ≠ "java/lang/invoke/MethodHandle" ∧ y_Slixc.cls ≠ "java/lang/invoke/VarHandle" ∧ (parseMethodDescriptor y_Slixc.desc).map (fun d => d.parameters.length) = some 4 := by decide +kernel
theorem pd_Slixc : y_Slixc.cls = "java/lang/StringLatin1" ∧ y_Slixc.cls ≠ "java/lang/invoke/MethodHandle" ∧ y_Slixc.cls ≠ "java/lang/invoke/VarHandle" ∧ (parseMethodDescriptor y_Slixc.desc).map (fun d => d.parameters.length) = some 4 := by decide +kernel
theorem d_Slixc_0 : decode b_Slixc 0 = .ok (.iload_n 1, 1) := by decide +kernel
theorem d_Slixc_1 : decode b_Slixc 1 = .ok (.i2b, 1) := by decide +kernel
theorem d_Slixc_2 : decode b_Slixc 2 = .ok (.istore 4, 2) := by decide +kernel
theorem d_Slixc_4 : decode b_Slixc 4 = .ok (.iload_n 2, 1) := by decide +kernel
theorem d_Slixc_5 : decode b_Slixc 5 = .ok (.istore 5, 2) := by decide +kernel
theorem d_Slixc_7 : decode b_Slixc 7 = .ok (.iload 5, 2) := by decide +kernel
theorem d_Slixc_9 : decode b_Slixc 9 = .ok (.iload_n 3, 1) := by decide +kernel
theorem d_Slixc_10 : decode b_Slixc 10 = .ok (.if_icmp .ge 21, 3) := by decide +kernel
theorem d_Slixc_13 : decode b_Slixc 13 = .ok (.aload_n 0, 1) := by decide +kernel
theorem d_Slixc_14 : decode b_Slixc 14 = .ok (.iload 5, 2) := by decide +kernel
theorem d_Slixc_16 : decode b_Slixc 16 = .ok (.baload, 1) := by decide +kernel
theorem d_Slixc_17 : decode b_Slixc 17 = .ok (.iload 4, 2) := by decide +kernel
theorem d_Slixc_19 : decode b_Slixc 19 = .ok (.if_icmp .ne 6, 3) := by decide +kernel
theorem d_Slixc_22 : decode b_Slixc 22 = .ok (.iload 5, 2) := by decide +kernel
theorem d_Slixc_24 : decode b_Slixc 24 = .ok (.ireturn, 1) := by decide +kernel
theorem d_Slixc_25 : decode b_Slixc 25 = .ok (.iinc 5 1, 3) := by decide +kernel
theorem d_Slixc_28 : decode b_Slixc 28 = .ok (.goto (-21), 3) := by decide +kernel
theorem d_Slixc_31 : decode b_Slixc 31 = .ok (.iconst (-1), 1) := by decide +kernel
theorem d_Slixc_32 : decode b_Slixc 32 = .ok (.ireturn, 1) := by decide +kernel
abbrev b_Slix : ByteArray := prog_17_method_22_code
abbrev y_Slix : MethodName := ⟨"java/lang/StringLatin1", "indexOf", "([BIII)I"⟩
abbrev w_Slix : List Cond := .code y_Slix b_Slix 4 (some .int) :: allW
theorem pn_Slix : y_Slix.cls ≠ "java/lang/invoke/MethodHandle" ∧ y_Slix.cls ≠ "java/lang/invoke/VarHandle" ∧ (parseMethodDescriptor y_Slix.desc).map (fun d => d.parameters.length) = some 4 := by decide +kernel
theorem pd_Slix : y_Slix.cls = "java/lang/StringLatin1" ∧ y_Slix.cls ≠ "java/lang/invoke/MethodHandle" ∧ y_Slix.cls ≠ "java/lang/invoke/VarHandle" ∧ (parseMethodDescriptor y_Slix.desc).map (fun d => d.parameters.length) = some 4 := by decide +kernel
theorem d_Slix_0 : decode b_Slix 0 = .ok (.iload_n 1, 1) := by decide +kernel
theorem d_Slix_1 : decode b_Slix 1 = .ok (.invokestatic 88, 3) := by decide +kernel
theorem d_Slix_4 : decode b_Slix 4 = .ok (.ifCond .ne 5, 3) := by decide +kernel
theorem d_Slix_7 : decode b_Slix 7 = .ok (.iconst (-1), 1) := by decide +kernel
theorem d_Slix_8 : decode b_Slix 8 = .ok (.ireturn, 1) := by decide +kernel
theorem d_Slix_9 : decode b_Slix 9 = .ok (.iload_n 2, 1) := by decide +kernel
theorem d_Slix_10 : decode b_Slix 10 = .ok (.iconst 0, 1) := by decide +kernel
theorem d_Slix_11 : decode b_Slix 11 = .ok (.invokestatic 92, 3) := by decide +kernel
theorem d_Slix_14 : decode b_Slix 14 = .ok (.istore_n 2, 1) := by decide +kernel
theorem d_Slix_15 : decode b_Slix 15 = .ok (.iload_n 3, 1) := by decide +kernel
theorem d_Slix_16 : decode b_Slix 16 = .ok (.aload_n 0, 1) := by decide +kernel
theorem d_Slix_17 : decode b_Slix 17 = .ok (.arraylength, 1) := by decide +kernel
theorem d_Slix_18 : decode b_Slix 18 = .ok (.invokestatic 38, 3) := by decide +kernel
theorem d_Slix_21 : decode b_Slix 21 = .ok (.istore_n 3, 1) := by decide +kernel
theorem d_Slix_22 : decode b_Slix 22 = .ok (.iload_n 2, 1) := by decide +kernel
theorem d_Slix_23 : decode b_Slix 23 = .ok (.iload_n 3, 1) := by decide +kernel
theorem d_Slix_24 : decode b_Slix 24 = .ok (.if_icmp .lt 5, 3) := by decide +kernel
theorem d_Slix_27 : decode b_Slix 27 = .ok (.iconst (-1), 1) := by decide +kernel
theorem d_Slix_28 : decode b_Slix 28 = .ok (.ireturn, 1) := by decide +kernel
theorem d_Slix_29 : decode b_Slix 29 = .ok (.aload_n 0, 1) := by decide +kernel
theorem d_Slix_30 : decode b_Slix 30 = .ok (.iload_n 1, 1) := by decide +kernel
theorem d_Slix_31 : decode b_Slix 31 = .ok (.iload_n 2, 1) := by decide +kernel
theorem d_Slix_32 : decode b_Slix 32 = .ok (.iload_n 3, 1) := by decide +kernel
theorem d_Slix_33 : decode b_Slix 33 = .ok (.invokestatic 95, 3) := by decide +kernel
theorem d_Slix_36 : decode b_Slix 36 = .ok (.ireturn, 1) := by decide +kernel
abbrev b_Six2 : ByteArray := prog_16_method_80_code
abbrev y_Six2 : MethodName := ⟨"java/lang/String", "indexOf", "(II)I"⟩
abbrev w_Six2 : List Cond := .code y_Six2 b_Six2 3 (some .int) :: allW
theorem pn_Six2 : y_Six2.cls ≠ "java/lang/invoke/MethodHandle" ∧ y_Six2.cls ≠ "java/lang/invoke/VarHandle" ∧ (parseMethodDescriptor y_Six2.desc).map (fun d => d.parameters.length) = some 2 := by decide +kernel
theorem pd_Six2 : y_Six2.cls = "java/lang/String" ∧ y_Six2.cls ≠ "java/lang/invoke/MethodHandle" ∧ y_Six2.cls ≠ "java/lang/invoke/VarHandle" ∧ (parseMethodDescriptor y_Six2.desc).map (fun d => d.parameters.length) = some 2 := by decide +kernel
theorem d_Six2_0 : decode b_Six2 0 = .ok (.aload_n 0, 1) := by decide +kernel
theorem d_Six2_1 : decode b_Six2 1 = .ok (.invokevirtual 492, 3) := by decide +kernel
theorem d_Six2_4 : decode b_Six2 4 = .ok (.ifCond .eq 19, 3) := by decide +kernel
theorem d_Six2_7 : decode b_Six2 7 = .ok (.aload_n 0, 1) := by decide +kernel
theorem d_Six2_8 : decode b_Six2 8 = .ok (.getfield 9, 3) := by decide +kernel
theorem d_Six2_11 : decode b_Six2 11 = .ok (.iload_n 1, 1) := by decide +kernel
theorem d_Six2_12 : decode b_Six2 12 = .ok (.iload_n 2, 1) := by decide +kernel
theorem d_Six2_13 : decode b_Six2 13 = .ok (.aload_n 0, 1) := by decide +kernel
theorem d_Six2_14 : decode b_Six2 14 = .ok (.invokevirtual 505, 3) := by decide +kernel
theorem d_Six2_17 : decode b_Six2 17 = .ok (.invokestatic 637, 3) := by decide +kernel
theorem d_Six2_20 : decode b_Six2 20 = .ok (.goto 16, 3) := by decide +kernel
theorem d_Six2_23 : decode b_Six2 23 = .ok (.aload_n 0, 1) := by decide +kernel
theorem d_Six2_24 : decode b_Six2 24 = .ok (.getfield 9, 3) := by decide +kernel
theorem d_Six2_27 : decode b_Six2 27 = .ok (.iload_n 1, 1) := by decide +kernel
theorem d_Six2_28 : decode b_Six2 28 = .ok (.iload_n 2, 1) := by decide +kernel
theorem d_Six2_29 : decode b_Six2 29 = .ok (.aload_n 0, 1) := by decide +kernel
theorem d_Six2_30 : decode b_Six2 30 = .ok (.invokevirtual 505, 3) := by decide +kernel
theorem d_Six2_33 : decode b_Six2 33 = .ok (.invokestatic 640, 3) := by decide +kernel
theorem d_Six2_36 : decode b_Six2 36 = .ok (.ireturn, 1) := by decide +kernel
abbrev b_Six1 : ByteArray := prog_16_method_79_code
abbrev y_Six1 : MethodName := ⟨"java/lang/String", "indexOf", "(I)I"⟩
abbrev w_Six1 : List Cond := .code y_Six1 b_Six1 2 (some .int) :: allW
theorem pn_Six1 : y_Six1.cls ≠ "java/lang/invoke/MethodHandle" ∧ y_Six1.cls ≠ "java/lang/invoke/VarHandle" ∧ (parseMethodDescriptor y_Six1.desc).map (fun d => d.parameters.length) = some 1 := by decide +kernel
theorem pd_Six1 : y_Six1.cls = "java/lang/String" ∧ y_Six1.cls ≠ "java/lang/invoke/MethodHandle" ∧ y_Six1.cls ≠ "java/lang/invoke/VarHandle" ∧ (parseMethodDescriptor y_Six1.desc).map (fun d => d.parameters.length) = some 1 := by decide +kernel
theorem d_Six1_0 : decode b_Six1 0 = .ok (.aload_n 0, 1) := by decide +kernel
theorem d_Six1_1 : decode b_Six1 1 = .ok (.iload_n 1, 1) := by decide +kernel
theorem d_Six1_2 : decode b_Six1 2 = .ok (.iconst 0, 1) := by decide +kernel
theorem d_Six1_3 : decode b_Six1 3 = .ok (.invokevirtual 633, 3) := by decide +kernel
theorem d_Six1_6 : decode b_Six1 6 = .ok (.ireturn, 1) := by decide +kernel
/-- every text: its length is its byte list's, every entry is a byte -/
theorem sS_all : ∀ i, i < nS → (lenS.getD i 0 = (bytS.getD i []).length ∧ (bytS.getD i []).length < 2 ^ 31 ∧ ∀ b ∈ bytS.getD i [], b.toInt8.toInt32 = b) := by decide +kernel
/-- the char at k -/
def sS_ch (i k : Nat) : Int32 := (bytS.getD i []).getD k 0 &&& 255
/-- indexOf on what is left of a text, from place k on -/
def sS_ixF (c : Int32) : List Int32 → Nat → Int32
  | [], _ => -1
  | b :: l, k => if b &&& 255 = c then nI k else sS_ixF c l (k + 1)
def sS_ix (i : Nat) (c : Int32) : Int32 := sS_ixF c (bytS.getD i []) 0
set_option maxHeartbeats 4000000 in
set_option maxRecDepth 100000 in
theorem c_Scoder (l : Launch) (dC : Nat → ClassId) (dI : Nat → Nat → Nat) (cI cB cZ : ClassId) (adK adV : Nat → Nat) (sz : Nat) (k : Nat) (hk : k < nS) : Met l y_Scoder w_Scoder ({ frames := 0, cells := 0, slots := 0, locals := 0 }) (pc_ (dC, dI) [(cI, .int), (cB, .byte), (cZ, .boolean)] [] sz adK adV [.ref (adK k)]) (va_Qi (fun (r : Int32) (_ : Unit) => r = 0) (fun _ t => bw_ (dC, dI) [(cI, .int), (cB, .byte), (cZ, .boolean)] (va_A [] sz) [] t) (va_A [] sz)) 0 0 (va_A [] sz) := by
  refine Met.ofW (cc := b_Scoder) (maxL := 1) (ret := (some .byte)) (by decide) rfl ?_
  intro p e s m args below meth c s₁ B hml hv
  obtain ⟨rfl, hsz, hP, hK, hD0, hN, hT⟩ := hv
  have hx := B.exec
  have hb := B.bytes
  have hr := B.returns
  have hts := atoms_spec (ws := w_Scoder) B.pre
  have hown : s.vm.findClass "java/lang/String" = some m.cls := findClass_of_methodNamed B.named
  have hlocks := B.notSynchronized
  subst hsz
  have hD := hD0.self (sz := s.heap.size)
  generalize hAe : va_A [] s.heap.size = A at hD hT ⊢
  have hA : ∀ q : Nat, s.heap.size ≤ q → A q := fun q h => by rw [← hAe]; exact Or.inr h
  have hS : va_S A s.heap s.heap [] := va_S.rf
  have hl := lv_entry ([.ref (adK k)]) (n := 1) (Nat.le_of_ble_eq_true rfl)
  rw [lg_entry_eq]
  generalize (lg_sl ([.ref (adK k)]) ++ List.replicate (1 - (lg_sl ([.ref (adK k)])).length) Slot.unset).toArray = ls at hl ⊢
  have hl : lv_has ls 1 [(0, .ref (adK k))] := hl
  refine va_gets (v := .int 1) hx hb hT.2.1 hS hown (hts _ (List.mem_cons_of_mem _ m_478)) (fun _ h => h) d_Scoder_0 ?_
  refine lv_if_eq (tgt := 13) hx hb d_Scoder_3 (by decide) (fun c3 => absurd c3 (by decide)) (fun c3 => ?_)
  refine lv_aload_n hx hb d_Scoder_6 rfl (lv_at hl 0 rfl) ?_
  refine vk_getf hx hb (hT.1.1 k hk).2.1 hS hown (hts _ (List.mem_cons_of_mem _ m_1451)) (fun _ h => h) d_Scoder_7 ?_
  refine lv_goto (tgt := 14) hx hb d_Scoder_10 (by decide) ?_
  exact W.zret (v := 0) hx hb hr rfl (fun t ht hW => ⟨⟨0, (), rfl, rfl, by rw [ht]; exact hP, va_K.moved hW.alike hK, hD⟩, hS.F ht⟩) hS.2.2 d_Scoder_14
set_option maxHeartbeats 4000000 in
set_option maxRecDepth 100000 in
theorem c_SisLatin1 (l : Launch) (dC : Nat → ClassId) (dI : Nat → Nat → Nat) (cI cB cZ : ClassId) (adK adV : Nat → Nat) (sz : Nat) (k : Nat) (hk : k < nS) : Met l y_SisLatin1 w_SisLatin1 ({ frames := 0, cells := 0, slots := 0, locals := 0 }) (pc_ (dC, dI) [(cI, .int), (cB, .byte), (cZ, .boolean)] [] sz adK adV [.ref (adK k)]) (va_Qi (fun (r : Int32) (_ : Unit) => r = 1) (fun _ t => bw_ (dC, dI) [(cI, .int), (cB, .byte), (cZ, .boolean)] (va_A [] sz) [] t) (va_A [] sz)) 0 0 (va_A [] sz) := by
  refine Met.ofW (cc := b_SisLatin1) (maxL := 1) (ret := (some .boolean)) (by decide) rfl ?_
  intro p e s m args below meth c s₁ B hml hv
  obtain ⟨rfl, hsz, hP, hK, hD0, hN, hT⟩ := hv
  have hx := B.exec
  have hb := B.bytes
  have hr := B.returns
  have hts := atoms_spec (ws := w_SisLatin1) B.pre
  have hown : s.vm.findClass "java/lang/String" = some m.cls := findClass_of_methodNamed B.named
  have hlocks := B.notSynchronized
  subst hsz
  have hD := hD0.self (sz := s.heap.size)
  generalize hAe : va_A [] s.heap.size = A at hD hT ⊢
  have hA : ∀ q : Nat, s.heap.size ≤ q → A q := fun q h => by rw [← hAe]; exact Or.inr h
  have hS : va_S A s.heap s.heap [] := va_S.rf
  have hl := lv_entry ([.ref (adK k)]) (n := 1) (Nat.le_of_ble_eq_true rfl)
  rw [lg_entry_eq]
  generalize (lg_sl ([.ref (adK k)]) ++ List.replicate (1 - (lg_sl ([.ref (adK k)])).length) Slot.unset).toArray = ls at hl ⊢
  have hl : lv_has ls 1 [(0, .ref (adK k))] := hl
  refine va_gets (v := .int 1) hx hb hT.2.1 hS hown (hts _ (List.mem_cons_of_mem _ m_478)) (fun _ h => h) d_SisLatin1_0 ?_
  refine lv_if_eq (tgt := 17) hx hb d_SisLatin1_3 (by decide) (fun c3 => absurd c3 (by decide)) (fun c3 => ?_)
  refine lv_aload_n hx hb d_SisLatin1_6 rfl (lv_at hl 0 rfl) ?_
  refine vk_getf hx hb (hT.1.1 k hk).2.1 hS hown (hts _ (List.mem_cons_of_mem _ m_1451)) (fun _ h => h) d_SisLatin1_7 ?_
  refine lv_if_ne (tgt := 17) hx hb d_SisLatin1_10 (by decide) (fun c3 => absurd rfl c3) (fun c3 => ?_)
  refine lv_iconst (v := 1) hx hb d_SisLatin1_13 (by decide) ?_
  refine lv_goto (tgt := 18) hx hb d_SisLatin1_14 (by decide) ?_
  exact W.zret (v := 1) hx hb hr rfl (fun t ht hW => ⟨⟨1, (), rfl, rfl, by rw [ht]; exact hP, va_K.moved hW.alike hK, hD⟩, hS.F ht⟩) hS.2.2 d_SisLatin1_18
set_option maxHeartbeats 4000000 in
set_option maxRecDepth 100000 in
theorem c_Slength (l : Launch) (dC : Nat → ClassId) (dI : Nat → Nat → Nat) (cI cB cZ : ClassId) (adK adV : Nat → Nat) (sz : Nat) (k : Nat) (hk : k < nS) : Met l y_Slength w_Slength ({ frames := 1, cells := 0, slots := 0, locals := 20 }) (pc_ (dC, dI) [(cI, .int), (cB, .byte), (cZ, .boolean)] [] sz adK adV [.ref (adK k)]) (va_Qi (fun (r : Int32) (_ : Unit) => r = nI (lenS.getD k 0)) (fun _ t => bw_ (dC, dI) [(cI, .int), (cB, .byte), (cZ, .boolean)] (va_A [] sz) [] t) (va_A [] sz)) 0 0 (va_A [] sz) := by
  refine Met.ofW (cc := b_Slength) (maxL := 1) (ret := (some .int)) (by decide) rfl ?_
  intro p e s m args below meth c s₁ B hml hv
  obtain ⟨rfl, hsz, hP, hK, hD0, hN, hT⟩ := hv
  have hx := B.exec
  have hb := B.bytes
  have hr := B.returns
  have hts := atoms_spec (ws := w_Slength) B.pre
  have hown : s.vm.findClass "java/lang/String" = some m.cls := findClass_of_methodNamed B.named
  have hlocks := B.notSynchronized
  subst hsz
  have hD := hD0.self (sz := s.heap.size)
  generalize hAe : va_A [] s.heap.size = A at hD hT ⊢
  have hA : ∀ q : Nat, s.heap.size ≤ q → A q := fun q h => by rw [← hAe]; exact Or.inr h
  have hS : va_S A s.heap s.heap [] := va_S.rf
  have hl := lv_entry ([.ref (adK k)]) (n := 1) (Nat.le_of_ble_eq_true rfl)
  rw [lg_entry_eq]
  generalize (lg_sl ([.ref (adK k)]) ++ List.replicate (1 - (lg_sl ([.ref (adK k)])).length) Slot.unset).toArray = ls at hl ⊢
  have hl : lv_has ls 1 [(0, .ref (adK k))] := hl
  refine lv_aload_n hx hb d_Slength_0 rfl (lv_at hl 0 rfl) ?_
  refine vk_getf hx hb (hT.1.1 k hk).2.2.1 hS hown (hts _ (List.mem_cons_of_mem _ m_1450)) (fun _ h => h) d_Slength_1 ?_
  refine va_tlen (v := nI (lenS.getD k 0)) hx hb (hT.1.1 k hk).2.2.2 hS rfl d_Slength_4 ?_
  refine lv_aload_n hx hb d_Slength_5 rfl (lv_at hl 0 rfl) ?_
  refine jn_i (wr := []) (va_runV (As := []) (rest := [.int (nI (lenS.getD k 0))]) ⟨hx, hb, hml, hown, hts⟩ (c_Scoder l dC dI cI cB cZ adK adV _ k hk) (cwV 0 hts (gv_ m_474 m_475 m_476 m_97 m_477) rfl rfl rfl pd_Scoder ⟨Nat.le_of_ble_eq_true rfl, Nat.le_of_ble_eq_true rfl⟩) ⟨pc_blind, vk_recv hT.1 hk hS, pc_of (hP.sub [] rfl) hK (hD.sub [] (by decide) rfl) hN hT hS hA⟩ rfl rfl hl.1 rfl (lv_room (Nat.le_of_ble_eq_true rfl)) d_Slength_6 ⟨Nat.zero_le _, Nat.zero_le _⟩) hP hD hS hA [] [] rfl rfl (by decide) (by decide) (fun r _ H locs e_6 hP hD hS => ?_)
  subst e_6
  refine lv_ishr hx hb d_Slength_9 ?_
  have eS : nI (lenS.getD k 0) >>> ((0 : Int32) &&& 31) = nI (lenS.getD k 0) := sc_shr0 (by have := sS_all k hk; omega)
  rw [eS]
  exact W.iret (v := nI (lenS.getD k 0)) hx hb hr (fun t ht hW => ⟨⟨nI (lenS.getD k 0), (), rfl, rfl, by rw [ht]; exact hP, va_K.moved hW.alike hK, hD⟩, hS.F ht⟩) hS.2.2 d_Slength_10
set_option maxHeartbeats 4000000 in
set_option maxRecDepth 100000 in
theorem c_Spcheck0 (l : Launch) (dC : Nat → ClassId) (dI : Nat → Nat → Nat) (cI cB cZ : ClassId) (adK adV : Nat → Nat) (sz : Nat) (i n : Int32) (h1 : ¬ i < 0) (h2 : i < n) : Met l y_Spcheck w_Spcheck ({ frames := 0, cells := 0, slots := 0, locals := 0 }) (pc_ (dC, dI) [(cI, .int), (cB, .byte), (cZ, .boolean)] [] sz adK adV [.int i, .int n, .null]) (va_Qi (fun (r : Int32) (_ : Unit) => r = i) (fun _ t => bw_ (dC, dI) [(cI, .int), (cB, .byte), (cZ, .boolean)] (va_A [] sz) [] t) (va_A [] sz)) 0 0 (va_A [] sz) := by
  refine Met.ofW (cc := b_Spcheck) (maxL := 3) (ret := (some .int)) (by decide) rfl ?_
  intro p e s m args below meth c s₁ B hml hv
  obtain ⟨rfl, hsz, hP, hK, hD0, hN, hT⟩ := hv
  have hx := B.exec
  have hb := B.bytes
  have hr := B.returns
  have hts := atoms_spec (ws := w_Spcheck) B.pre
  have hown : s.vm.findClass "jdk/internal/util/Preconditions" = some m.cls := findClass_of_methodNamed B.named
  have hlocks := B.notSynchronized
  subst hsz
  have hD := hD0.self (sz := s.heap.size)
  generalize hAe : va_A [] s.heap.size = A at hD hT ⊢
  have hA : ∀ q : Nat, s.heap.size ≤ q → A q := fun q h => by rw [← hAe]; exact Or.inr h
  have hS : va_S A s.heap s.heap [] := va_S.rf
  have hl := lv_entry ([.int i, .int n, .null]) (n := 3) (Nat.le_of_ble_eq_true rfl)
  rw [lg_entry_eq]
  generalize (lg_sl ([.int i, .int n, .null]) ++ List.replicate (3 - (lg_sl ([.int i, .int n, .null])).length) Slot.unset).toArray = ls at hl ⊢
  have hl : lv_has ls 3 [(0, .int i), (1, .int n), (2, .null)] := hl
  refine lv_iload_n hx hb d_Spcheck_0 rfl (lv_at hl 0 rfl) ?_
  refine lv_if_lt (tgt := 9) hx hb d_Spcheck_1 (by decide) (fun c1 => absurd c1 h1) (fun c1 => ?_)
  refine lv_iload_n hx hb d_Spcheck_4 rfl (lv_at hl 0 rfl) ?_
  refine lv_iload_n hx hb d_Spcheck_5 rfl (lv_at hl 1 rfl) ?_
  refine lv_icmp_lt (tgt := 16) hx hb d_Spcheck_6 (by decide) (fun c6 => ?_) (fun c6 => absurd h2 c6)
  refine lv_iload_n hx hb d_Spcheck_16 rfl (lv_at hl 0 rfl) ?_
  exact W.iret (v := i) hx hb hr (fun t ht hW => ⟨⟨i, (), rfl, rfl, by rw [ht]; exact hP, va_K.moved hW.alike hK, hD⟩, hS.F ht⟩) hS.2.2 d_Spcheck_17
set_option maxHeartbeats 4000000 in
set_option maxRecDepth 100000 in
theorem c_SpcheckR (l : Launch) (dC : Nat → ClassId) (dI : Nat → Nat → Nat) (cI cB cZ : ClassId) (adK adV : Nat → Nat) (sz : Nat) (t0 : Nat) (i n : Int32) (h1 : ¬ i < 0) (h2 : i < n) : Met l y_Spcheck w_Spcheck ({ frames := 0, cells := 0, slots := 0, locals := 0 }) (pc_ (dC, dI) [(cI, .int), (cB, .byte), (cZ, .boolean)] [] sz adK adV [.int i, .int n, .ref t0]) (va_Qi (fun (r : Int32) (_ : Unit) => r = i) (fun _ t => bw_ (dC, dI) [(cI, .int), (cB, .byte), (cZ, .boolean)] (va_A [] sz) [] t) (va_A [] sz)) 0 0 (va_A [] sz) := by
  refine Met.ofW (cc := b_Spcheck) (maxL := 3) (ret := (some .int)) (by decide) rfl ?_
  intro p e s m args below meth c s₁ B hml hv
  obtain ⟨rfl, hsz, hP, hK, hD0, hN, hT⟩ := hv
  have hx := B.exec
  have hb := B.bytes
  have hr := B.returns
  have hts := atoms_spec (ws := w_Spcheck) B.pre
  have hown : s.vm.findClass "jdk/internal/util/Preconditions" = some m.cls := findClass_of_methodNamed B.named
  have hlocks := B.notSynchronized
  subst hsz
  have hD := hD0.self (sz := s.heap.size)
  generalize hAe : va_A [] s.heap.size = A at hD hT ⊢
  have hA : ∀ q : Nat, s.heap.size ≤ q → A q := fun q h => by rw [← hAe]; exact Or.inr h
  have hS : va_S A s.heap s.heap [] := va_S.rf
  have hl := lv_entry ([.int i, .int n, .ref t0]) (n := 3) (Nat.le_of_ble_eq_true rfl)
  rw [lg_entry_eq]
  generalize (lg_sl ([.int i, .int n, .ref t0]) ++ List.replicate (3 - (lg_sl ([.int i, .int n, .ref t0])).length) Slot.unset).toArray = ls at hl ⊢
  have hl : lv_has ls 3 [(0, .int i), (1, .int n), (2, .ref t0)] := hl
  refine lv_iload_n hx hb d_Spcheck_0 rfl (lv_at hl 0 rfl) ?_
  refine lv_if_lt (tgt := 9) hx hb d_Spcheck_1 (by decide) (fun c1 => absurd c1 h1) (fun c1 => ?_)
  refine lv_iload_n hx hb d_Spcheck_4 rfl (lv_at hl 0 rfl) ?_
  refine lv_iload_n hx hb d_Spcheck_5 rfl (lv_at hl 1 rfl) ?_
  refine lv_icmp_lt (tgt := 16) hx hb d_Spcheck_6 (by decide) (fun c6 => ?_) (fun c6 => absurd h2 c6)
  refine lv_iload_n hx hb d_Spcheck_16 rfl (lv_at hl 0 rfl) ?_
  exact W.iret (v := i) hx hb hr (fun t ht hW => ⟨⟨i, (), rfl, rfl, by rw [ht]; exact hP, va_K.moved hW.alike hK, hD⟩, hS.F ht⟩) hS.2.2 d_Spcheck_17
set_option maxHeartbeats 4000000 in
set_option maxRecDepth 100000 in
theorem c_Sscheck (l : Launch) (dC : Nat → ClassId) (dI : Nat → Nat → Nat) (cI cB cZ : ClassId) (adK adV : Nat → Nat) (sz : Nat) (i n : Int32) (h1 : ¬ i < 0) (h2 : i < n) : Met l y_Sscheck w_Sscheck ({ frames := 1, cells := 0, slots := 0, locals := 22 }) (pc_ (dC, dI) [(cI, .int), (cB, .byte), (cZ, .boolean)] [] sz adK adV [.int i, .int n]) (va_Qv (fun (_ : Unit) => True) (fun _ t => bw_ (dC, dI) [(cI, .int), (cB, .byte), (cZ, .boolean)] (va_A [] sz) [] t) (va_A [] sz)) 0 0 (va_A [] sz) := by
  refine Met.ofW (cc := b_Sscheck) (maxL := 2) (ret := none) (by decide) rfl ?_
  intro p e s m args below meth c s₁ B hml hv
  obtain ⟨rfl, hsz, hP, hK, hD0, hN, hT⟩ := hv
  have hx := B.exec
  have hb := B.bytes
  have hr := B.returns
  have hts := atoms_spec (ws := w_Sscheck) B.pre
  have hown : s.vm.findClass "java/lang/String" = some m.cls := findClass_of_methodNamed B.named
  have hlocks := B.notSynchronized
  subst hsz
  have hD := hD0.self (sz := s.heap.size)
  generalize hAe : va_A [] s.heap.size = A at hD hT ⊢
  have hA : ∀ q : Nat, s.heap.size ≤ q → A q := fun q h => by rw [← hAe]; exact Or.inr h
  have hS : va_S A s.heap s.heap [] := va_S.rf
  have hl := lv_entry ([.int i, .int n]) (n := 2) (Nat.le_of_ble_eq_true rfl)
  rw [lg_entry_eq]
  generalize (lg_sl ([.int i, .int n]) ++ List.replicate (2 - (lg_sl ([.int i, .int n])).length) Slot.unset).toArray = ls at hl ⊢
  have hl : lv_has ls 2 [(0, .int i), (1, .int n)] := hl
  refine lv_iload_n hx hb d_Sscheck_0 rfl (lv_at hl 0 rfl) ?_
  refine lv_iload_n hx hb d_Sscheck_1 rfl (lv_at hl 1 rfl) ?_
  rcases hT.2.2.1 with hZ | ⟨t0, hZ⟩
  · refine va_gets (v := .null) hx hb hZ hS hown (hts _ (List.mem_cons_of_mem _ m_494)) (fun _ h => h) d_Sscheck_2 ?_
    refine jn_i (wr := []) (va_runS (As := [.int i, .int n, .null]) (rest := []) ⟨hx, hb, hml, hown, hts⟩ (c_Spcheck0 l dC dI cI cB cZ adK adV _ i n h1 h2) ⟨callB_of 3 hts (ga_ m_498) rfl rfl rfl (hts _ (List.mem_cons_of_mem _ m_99)) (hts _ (List.mem_cons_of_mem _ m_496)) pn_Spcheck ⟨Nat.le_of_ble_eq_true rfl, Nat.le_of_ble_eq_true rfl⟩, (hts _ (List.mem_cons_of_mem _ m_497))⟩ ⟨pc_blind, pc_of (hP.sub [] rfl) hK (hD.sub [] (by decide) rfl) hN hT hS hA⟩ rfl rfl hl.1 rfl (lv_room (Nat.le_of_ble_eq_true rfl)) d_Sscheck_5 ⟨Nat.zero_le _, Nat.zero_le _⟩) hP hD hS hA [] [] rfl rfl (by decide) (by decide) (fun r _ H locs e_5 hP hD hS => ?_)
    subst e_5
    refine lv_pop hx hb d_Sscheck_8 rfl ?_
    exact W.vret hx hb hr (fun t ht hW => ⟨⟨(), rfl, trivial, by rw [ht]; exact hP, va_K.moved hW.alike hK, hD⟩, hS.F ht⟩) hS.2.2 d_Sscheck_9
  · refine va_gets (v := .ref t0) hx hb hZ hS hown (hts _ (List.mem_cons_of_mem _ m_494)) (fun _ h => h) d_Sscheck_2 ?_
    refine jn_i (wr := []) (va_runS (As := [.int i, .int n, .ref t0]) (rest := []) ⟨hx, hb, hml, hown, hts⟩ (c_SpcheckR l dC dI cI cB cZ adK adV _ t0 i n h1 h2) ⟨callB_of 3 hts (ga_ m_498) rfl rfl rfl (hts _ (List.mem_cons_of_mem _ m_99)) (hts _ (List.mem_cons_of_mem _ m_496)) pn_Spcheck ⟨Nat.le_of_ble_eq_true rfl, Nat.le_of_ble_eq_true rfl⟩, (hts _ (List.mem_cons_of_mem _ m_497))⟩ ⟨pc_blind, pc_of (hP.sub [] rfl) hK (hD.sub [] (by decide) rfl) hN hT hS hA⟩ rfl rfl hl.1 rfl (lv_room (Nat.le_of_ble_eq_true rfl)) d_Sscheck_5 ⟨Nat.zero_le _, Nat.zero_le _⟩) hP hD hS hA [] [] rfl rfl (by decide) (by decide) (fun r _ H locs e_5 hP hD hS => ?_)
    subst e_5
    refine lv_pop hx hb d_Sscheck_8 rfl ?_
    exact W.vret hx hb hr (fun t ht hW => ⟨⟨(), rfl, trivial, by rw [ht]; exact hP, va_K.moved hW.alike hK, hD⟩, hS.F ht⟩) hS.2.2 d_Sscheck_9
set_option maxHeartbeats 4000000 in
set_option maxRecDepth 100000 in
theorem c_SlcharAt (l : Launch) (dC : Nat → ClassId) (dI : Nat → Nat → Nat) (cI cB cZ : ClassId) (adK adV : Nat → Nat) (sz : Nat) (k j : Nat) (hk : k < nS) (hj : j < lenS.getD k 0) : Met l y_SlcharAt w_SlcharAt ({ frames := 2, cells := 0, slots := 0, locals := 43 }) (pc_ (dC, dI) [(cI, .int), (cB, .byte), (cZ, .boolean)] [] sz adK adV [.ref (adV k), .int (nI j)]) (va_Qi (fun (r : Int32) (_ : Unit) => r = sS_ch k j) (fun _ t => bw_ (dC, dI) [(cI, .int), (cB, .byte), (cZ, .boolean)] (va_A [] sz) [] t) (va_A [] sz)) 0 0 (va_A [] sz) := by
  refine Met.ofW (cc := b_SlcharAt) (maxL := 2) (ret := (some .char)) (by decide) rfl ?_
  intro p e s m args below meth c s₁ B hml hv
  obtain ⟨rfl, hsz, hP, hK, hD0, hN, hT⟩ := hv
  have hx := B.exec
  have hb := B.bytes
  have hr := B.returns
  have hts := atoms_spec (ws := w_SlcharAt) B.pre
  have hown : s.vm.findClass "java/lang/StringLatin1" = some m.cls := findClass_of_methodNamed B.named
  have hlocks := B.notSynchronized
  subst hsz
  have hD := hD0.self (sz := s.heap.size)
  generalize hAe : va_A [] s.heap.size = A at hD hT ⊢
  have hA : ∀ q : Nat, s.heap.size ≤ q → A q := fun q h => by rw [← hAe]; exact Or.inr h
  have hS : va_S A s.heap s.heap [] := va_S.rf
  have hl := lv_entry ([.ref (adV k), .int (nI j)]) (n := 2) (Nat.le_of_ble_eq_true rfl)
  rw [lg_entry_eq]
  generalize (lg_sl ([.ref (adV k), .int (nI j)]) ++ List.replicate (2 - (lg_sl ([.ref (adV k), .int (nI j)])).length) Slot.unset).toArray = ls at hl ⊢
  have hl : lv_has ls 2 [(0, .ref (adV k)), (1, .int (nI j))] := hl
  have hL : lenS.getD k 0 < 2 ^ 31 := by have := sS_all k hk; omega
  refine lv_iload_n hx hb d_SlcharAt_0 rfl (lv_at hl 1 rfl) ?_
  refine lv_aload_n hx hb d_SlcharAt_1 rfl (lv_at hl 0 rfl) ?_
  refine va_tlen (v := nI (lenS.getD k 0)) hx hb (hT.1.1 k hk).2.2.2 hS rfl d_SlcharAt_2 ?_
  refine jn_v (wr := []) (va_runS (As := [.int (nI j), .int (nI (lenS.getD k 0))]) (rest := []) ⟨hx, hb, hml, hown, hts⟩ (c_Sscheck l dC dI cI cB cZ adK adV _ (nI j) (nI (lenS.getD k 0)) (nI_pos (by omega)) (nI_lt hj hL)) ⟨callB_of 2 hts (ga_ m_493) rfl rfl rfl (hts _ (List.mem_cons_of_mem _ m_97)) (hts _ (List.mem_cons_of_mem _ m_491)) pn_Sscheck ⟨Nat.le_of_ble_eq_true rfl, Nat.le_of_ble_eq_true rfl⟩, (hts _ (List.mem_cons_of_mem _ m_492))⟩ ⟨pc_blind, pc_of (hP.sub [] rfl) hK (hD.sub [] (by decide) rfl) hN hT hS hA⟩ rfl rfl hl.1 rfl (lv_room (Nat.le_of_ble_eq_true rfl)) d_SlcharAt_3 ⟨Nat.zero_le _, Nat.zero_le _⟩) hP hD hS hA [] [] rfl rfl (by decide) (by decide) (fun  _ H locs e_3 hP hD hS => ?_)
  refine lv_aload_n hx hb d_SlcharAt_6 rfl (lv_at hl 0 rfl) ?_
  refine lv_iload_n hx hb d_SlcharAt_7 rfl (lv_at hl 1 rfl) ?_
  refine va_tb (v := .int ((bytS.getD k []).getD j 0)) hx hb (hT.1.1 k hk).2.2.2 hS (vp_in_nI hj hL) (by rw [nI_clamp (by omega)]) d_SlcharAt_8 ?_
  refine lv_sipush (v := 255) hx hb d_SlcharAt_9 (by decide) ?_
  refine lv_iand hx hb d_SlcharAt_12 ?_
  refine lv_i2c (v := sS_ch k j) hx hb d_SlcharAt_13 (sc_c2 _) ?_
  exact W.zret (v := sS_ch k j) hx hb hr (sc_nar _) (fun t ht hW => ⟨⟨sS_ch k j, (), rfl, rfl, by rw [ht]; exact hP, va_K.moved hW.alike hK, hD⟩, hS.F ht⟩) hS.2.2 d_SlcharAt_14
set_option maxHeartbeats 4000000 in
set_option maxRecDepth 100000 in
theorem c_ScharAt (l : Launch) (dC : Nat → ClassId) (dI : Nat → Nat → Nat) (cI cB cZ : ClassId) (adK adV : Nat → Nat) (sz : Nat) (k j : Nat) (hk : k < nS) (hj : j < lenS.getD k 0) : Met l y_ScharAt w_ScharAt ({ frames := 3, cells := 0, slots := 0, locals := 64 }) (pc_ (dC, dI) [(cI, .int), (cB, .byte), (cZ, .boolean)] [] sz adK adV [.ref (adK k), .int (nI j)]) (va_Qi (fun (r : Int32) (_ : Unit) => r = sS_ch k j) (fun _ t => bw_ (dC, dI) [(cI, .int), (cB, .byte), (cZ, .boolean)] (va_A [] sz) [] t) (va_A [] sz)) 0 0 (va_A [] sz) := by
  refine Met.ofW (cc := b_ScharAt) (maxL := 2) (ret := (some .char)) (by decide) rfl ?_
  intro p e s m args below meth c s₁ B hml hv
  obtain ⟨rfl, hsz, hP, hK, hD0, hN, hT⟩ := hv
  have hx := B.exec
  have hb := B.bytes
  have hr := B.returns
  have hts := atoms_spec (ws := w_ScharAt) B.pre
  have hown : s.vm.findClass "java/lang/String" = some m.cls := findClass_of_methodNamed B.named
  have hlocks := B.notSynchronized
  subst hsz
  have hD := hD0.self (sz := s.heap.size)
  generalize hAe : va_A [] s.heap.size = A at hD hT ⊢
  have hA : ∀ q : Nat, s.heap.size ≤ q → A q := fun q h => by rw [← hAe]; exact Or.inr h
  have hS : va_S A s.heap s.heap [] := va_S.rf
  have hl := lv_entry ([.ref (adK k), .int (nI j)]) (n := 2) (Nat.le_of_ble_eq_true rfl)
  rw [lg_entry_eq]
  generalize (lg_sl ([.ref (adK k), .int (nI j)]) ++ List.replicate (2 - (lg_sl ([.ref (adK k), .int (nI j)])).length) Slot.unset).toArray = ls at hl ⊢
  have hl : lv_has ls 2 [(0, .ref (adK k)), (1, .int (nI j))] := hl
  refine lv_aload_n hx hb d_ScharAt_0 rfl (lv_at hl 0 rfl) ?_
  refine jn_i (wr := []) (va_runV (As := []) (rest := []) ⟨hx, hb, hml, hown, hts⟩ (c_SisLatin1 l dC dI cI cB cZ adK adV _ k hk) (cwV 0 hts (gv_ m_484 m_485 m_486 m_97 m_487) rfl rfl rfl pd_SisLatin1 ⟨Nat.le_of_ble_eq_true rfl, Nat.le_of_ble_eq_true rfl⟩) ⟨pc_blind, vk_recv hT.1 hk hS, pc_of (hP.sub [] rfl) hK (hD.sub [] (by decide) rfl) hN hT hS hA⟩ rfl rfl hl.1 rfl (lv_room (Nat.le_of_ble_eq_true rfl)) d_ScharAt_1 ⟨Nat.zero_le _, Nat.zero_le _⟩) hP hD hS hA [] [] rfl rfl (by decide) (by decide) (fun r _ H locs e_1 hP hD hS => ?_)
  subst e_1
  refine lv_if_eq (tgt := 16) hx hb d_ScharAt_4 (by decide) (fun c3 => absurd c3 (by decide)) (fun c3 => ?_)
  refine lv_aload_n hx hb d_ScharAt_7 rfl (lv_at hl 0 rfl) ?_
  refine vk_getf hx hb (hT.1.1 k hk).2.2.1 hS hown (hts _ (List.mem_cons_of_mem _ m_1450)) (fun _ h => h) d_ScharAt_8 ?_
  refine lv_iload_n hx hb d_ScharAt_11 rfl (lv_at hl 1 rfl) ?_
  refine jn_i (wr := []) (va_runS (As := [.ref (adV k), .int (nI j)]) (rest := []) ⟨hx, hb, hml, hown, hts⟩ (c_SlcharAt l dC dI cI cB cZ adK adV _ k j hk hj) ⟨callB_of 2 hts (ga_ m_490) rfl rfl rfl (hts _ (List.mem_cons_of_mem _ m_98)) (hts _ (List.mem_cons_of_mem _ m_488)) pn_SlcharAt ⟨Nat.le_of_ble_eq_true rfl, Nat.le_of_ble_eq_true rfl⟩, (hts _ (List.mem_cons_of_mem _ m_489))⟩ ⟨pc_blind, pc_of (hP.sub [] rfl) hK (hD.sub [] (by decide) rfl) hN hT hS hA⟩ rfl rfl hl.1 rfl (lv_room (Nat.le_of_ble_eq_true rfl)) d_ScharAt_12 ⟨Nat.zero_le _, Nat.zero_le _⟩) hP hD hS hA [] [] rfl rfl (by decide) (by decide) (fun r _ H locs e_12 hP hD hS => ?_)
  subst e_12
  exact W.zret (v := sS_ch k j) hx hb hr (sc_nar _) (fun t ht hW => ⟨⟨sS_ch k j, (), rfl, rfl, by rw [ht]; exact hP, va_K.moved hW.alike hK, hD⟩, hS.F ht⟩) hS.2.2 d_ScharAt_15
set_option maxHeartbeats 4000000 in
set_option maxRecDepth 100000 in
theorem c_ScanEnc (l : Launch) (dC : Nat → ClassId) (dI : Nat → Nat → Nat) (cI cB cZ : ClassId) (adK adV : Nat → Nat) (sz : Nat) (n : Nat) (hn : n < 256) : Met l y_ScanEnc w_ScanEnc ({ frames := 0, cells := 0, slots := 0, locals := 0 }) (pc_ (dC, dI) [(cI, .int), (cB, .byte), (cZ, .boolean)] [] sz adK adV [.int (nI n)]) (va_Qi (fun (r : Int32) (_ : Unit) => r = 1) (fun _ t => bw_ (dC, dI) [(cI, .int), (cB, .byte), (cZ, .boolean)] (va_A [] sz) [] t) (va_A [] sz)) 0 0 (va_A [] sz) := by
  refine Met.ofW (cc := b_ScanEnc) (maxL := 1) (ret := (some .boolean)) (by decide) rfl ?_
  intro p e s m args below meth c s₁ B hml hv
  obtain ⟨rfl, hsz, hP, hK, hD0, hN, hT⟩ := hv
  have hx := B.exec
  have hb := B.bytes
  have hr := B.returns
  have hts := atoms_spec (ws := w_ScanEnc) B.pre
  have hown : s.vm.findClass "java/lang/StringLatin1" = some m.cls := findClass_of_methodNamed B.named
  have hlocks := B.notSynchronized
  subst hsz
  have hD := hD0.self (sz := s.heap.size)
  generalize hAe : va_A [] s.heap.size = A at hD hT ⊢
  have hA : ∀ q : Nat, s.heap.size ≤ q → A q := fun q h => by rw [← hAe]; exact Or.inr h
  have hS : va_S A s.heap s.heap [] := va_S.rf
  have hl := lv_entry ([.int (nI n)]) (n := 1) (Nat.le_of_ble_eq_true rfl)
  rw [lg_entry_eq]
  generalize (lg_sl ([.int (nI n)]) ++ List.replicate (1 - (lg_sl ([.int (nI n)])).length) Slot.unset).toArray = ls at hl ⊢
  have hl : lv_has ls 1 [(0, .int (nI n))] := hl
  refine lv_iload_n hx hb d_ScanEnc_0 rfl (lv_at hl 0 rfl) ?_
  refine lv_if_lt (tgt := 15) hx hb d_ScanEnc_1 (by decide) (fun c1 => absurd c1 (nI_pos (by omega))) (fun c1 => ?_)
  refine lv_iload_n hx hb d_ScanEnc_4 rfl (lv_at hl 0 rfl) ?_
  refine lv_sipush (v := 255) hx hb d_ScanEnc_5 (by decide) ?_
  refine lv_icmp_gt (tgt := 15) hx hb d_ScanEnc_8 (by decide) (fun c8 => absurd c8 (nI_nlt (a := 255) (b := n) (by omega) (by omega))) (fun c8 => ?_)
  refine lv_iconst (v := 1) hx hb d_ScanEnc_11 (by decide) ?_
  refine lv_goto (tgt := 16) hx hb d_ScanEnc_12 (by decide) ?_
  exact W.zret (v := 1) hx hb hr rfl (fun t ht hW => ⟨⟨1, (), rfl, rfl, by rw [ht]; exact hP, va_K.moved hW.alike hK, hD⟩, hS.F ht⟩) hS.2.2 d_ScanEnc_16
set_option maxHeartbeats 4000000 in
set_option maxRecDepth 100000 in
theorem c_Slixc (l : Launch) (dC : Nat → ClassId) (dI : Nat → Nat → Nat) (cI cB cZ : ClassId) (adK adV : Nat → Nat) (sz : Nat) (k n : Nat) (hk : k < nS) (hn : n < 256) : Met l y_Slixc w_Slixc ({ frames := 0, cells := 0, slots := 0, locals := 0 }) (pc_ (dC, dI) [(cI, .int), (cB, .byte), (cZ, .boolean)] [] sz adK adV [.ref (adV k), .int (nI n), .int 0, .int (nI (lenS.getD k 0))]) (va_Qi (fun (r : Int32) (_ : Unit) => r = sS_ix k (nI n)) (fun _ t => bw_ (dC, dI) [(cI, .int), (cB, .byte), (cZ, .boolean)] (va_A [] sz) [] t) (va_A [] sz)) 0 0 (va_A [] sz) := by
  refine Met.ofW (cc := b_Slixc) (maxL := 6) (ret := (some .int)) (by decide) rfl ?_
  intro p e s m args below meth c s₁ B hml hv
  obtain ⟨rfl, hsz, hP, hK, hD0, hN, hT⟩ := hv
  have hx := B.exec
  have hb := B.bytes
  have hr := B.returns
  have hts := atoms_spec (ws := w_Slixc) B.pre
  have hown : s.vm.findClass "java/lang/StringLatin1" = some m.cls := findClass_of_methodNamed B.named
  have hlocks := B.notSynchronized
  subst hsz
  have hD := hD0.self (sz := s.heap.size)
  generalize hAe : va_A [] s.heap.size = A at hD hT ⊢
  have hA : ∀ q : Nat, s.heap.size ≤ q → A q := fun q h => by rw [← hAe]; exact Or.inr h
  have hS : va_S A s.heap s.heap [] := va_S.rf
  have hl := lv_entry ([.ref (adV k), .int (nI n), .int 0, .int (nI (lenS.getD k 0))]) (n := 6) (Nat.le_of_ble_eq_true rfl)
  rw [lg_entry_eq]
  generalize (lg_sl ([.ref (adV k), .int (nI n), .int 0, .int (nI (lenS.getD k 0))]) ++ List.replicate (6 - (lg_sl ([.ref (adV k), .int (nI n), .int 0, .int (nI (lenS.getD k 0))])).length) Slot.unset).toArray = ls at hl ⊢
  have hl : lv_has ls 6 [(0, .ref (adV k)), (1, .int (nI n)), (2, .int 0), (3, .int (nI (lenS.getD k 0)))] := hl
  obtain ⟨hLe, hL2, hby⟩ := sS_all k hk
  have hL : lenS.getD k 0 < 2 ^ 31 := by omega
  generalize hQ : MQ below _ _ s 0 0 _ = QQ
  have L7 : ∀ (ll : List Int32) (j : Nat), (bytS.getD k []).drop j = ll → j ≤ lenS.getD k 0 → sS_ixF (nI n) ll j = sS_ix k (nI n) → ∀ ls : Array Slot, lv_has ls 6 [(0, .ref (adV k)), (1, .int (nI n)), (2, .int 0), (3, .int (nI (lenS.getD k 0))), (4, .int (nI n).toInt8.toInt32), (5, .int (nI j))] → W p l e (headSpec w_Slixc ({ frames := 0, cells := 0, slots := 0, locals := 0 })).room s m (([.ref (adV k), .int (nI n), .int 0, .int (nI (lenS.getD k 0))] : List Value).toArray) below meth c s.heap [] 0 0 QQ (F0 m 7 ls []) := by
    intro ll
    induction ll with
    | nil =>
      intro j hd hj hr0 ls hl
      have hjl : (bytS.getD k []).length ≤ j := List.drop_eq_nil_iff.mp hd
      refine lv_iload hx hb d_Slixc_7 (lv_at hl 5 rfl) ?_
      refine lv_iload_n hx hb d_Slixc_9 rfl (lv_at hl 3 rfl) ?_
      refine lv_icmp_ge (tgt := 31) hx hb d_Slixc_10 (by decide) (fun c10 => ?_) (fun c10 => absurd (nI_le (by omega) (by omega)) c10)
      refine lv_iconst (v := (-1)) hx hb d_Slixc_31 (by decide) ?_
      subst hQ
      exact W.iret (v := (-1)) hx hb hr (fun t ht hW => ⟨⟨-1, (), rfl, hr0, by rw [ht]; exact hP, va_K.moved hW.alike hK, hD⟩, hS.F ht⟩) hS.2.2 d_Slixc_32
    | cons b ll ik =>
      intro j hd hj hr0 ls hl
      obtain ⟨h1, h2, h3, h4⟩ := sc_dropC hd
      refine lv_iload hx hb d_Slixc_7 (lv_at hl 5 rfl) ?_
      refine lv_iload_n hx hb d_Slixc_9 rfl (lv_at hl 3 rfl) ?_
      refine lv_icmp_ge (tgt := 31) hx hb d_Slixc_10 (by decide) (fun c10 => absurd c10 (nI_ge (by omega) (by omega))) (fun c10 => ?_)
      refine lv_aload_n hx hb d_Slixc_13 rfl (lv_at hl 0 rfl) ?_
      refine lv_iload hx hb d_Slixc_14 (lv_at hl 5 rfl) ?_
      refine va_tb (v := .int b) hx hb (hT.1.1 k hk).2.2.2 hS (vp_in_nI (by omega) (by omega)) (by rw [nI_clamp (by omega), h2]) d_Slixc_16 ?_
      refine lv_iload hx hb d_Slixc_17 (lv_at hl 4 rfl) ?_
      rw [sS_ixF] at hr0
      refine lv_icmp_ne (tgt := 25) hx hb d_Slixc_19 (by decide) (fun c19 => ?_) (fun c19 => ?_)
      · rw [if_neg (fun z => c19 ((sc_eq (hby b h4) hn).mpr z))] at hr0
        refine lv_iinc (v := nI (j + 1)) (lv' := [(5, .int (nI (j + 1))), (0, .ref (adV k)), (1, .int (nI n)), (2, .int 0), (3, .int (nI (lenS.getD k 0))), (4, .int (nI n).toInt8.toInt32)]) hx hb d_Slixc_25 hl (k := 5) rfl (nI_1 j) (by decide) rfl (fun ls hl => ?_)
        refine lv_goto (tgt := 7) hx hb d_Slixc_28 (by decide) ?_
        exact ik (j + 1) h3 (by omega) hr0 ls (lv_sub hl [1, 2, 3, 4, 5, 0] rfl)
      · rw [if_pos ((sc_eq (hby b h4) hn).mp c19)] at hr0
        refine lv_iload hx hb d_Slixc_22 (lv_at hl 5 rfl) ?_
        subst hQ
        exact W.iret (v := nI j) hx hb hr (fun t ht hW => ⟨⟨nI j, (), rfl, hr0, by rw [ht]; exact hP, va_K.moved hW.alike hK, hD⟩, hS.F ht⟩) hS.2.2 d_Slixc_24
  refine lv_iload_n hx hb d_Slixc_0 rfl (lv_at hl 1 rfl) ?_
  refine lv_i2b (v := (nI n).toInt8.toInt32) hx hb d_Slixc_1 rfl ?_
  refine lv_istore (lv' := [(4, .int (nI n).toInt8.toInt32), (0, .ref (adV k)), (1, .int (nI n)), (2, .int 0), (3, .int (nI (lenS.getD k 0)))]) hx hb d_Slixc_2 hl (by decide) rfl (fun ls hl => ?_)
  refine lv_iload_n hx hb d_Slixc_4 rfl (lv_at hl 3 rfl) ?_
  refine lv_istore (lv' := [(5, .int 0), (4, .int (nI n).toInt8.toInt32), (0, .ref (adV k)), (1, .int (nI n)), (2, .int 0), (3, .int (nI (lenS.getD k 0)))]) hx hb d_Slixc_5 hl (by decide) rfl (fun ls hl => ?_)
  exact L7 _ 0 rfl (Nat.zero_le _) rfl ls (lv_sub hl [2, 3, 4, 5, 1, 0] rfl)
set_option maxHeartbeats 4000000 in
set_option maxRecDepth 100000 in
theorem c_Slix (l : Launch) (dC : Nat → ClassId) (dI : Nat → Nat → Nat) (cI cB cZ : ClassId) (adK adV : Nat → Nat) (sz : Nat) (k n : Nat) (hk : k < nS) (hn : n < 256) : Met l y_Slix w_Slix ({ frames := 1, cells := 0, slots := 0, locals := 25 }) (pc_ (dC, dI) [(cI, .int), (cB, .byte), (cZ, .boolean)] [] sz adK adV [.ref (adV k), .int (nI n), .int 0, .int (nI (lenS.getD k 0))]) (va_Qi (fun (r : Int32) (_ : Unit) => r = sS_ix k (nI n)) (fun _ t => bw_ (dC, dI) [(cI, .int), (cB, .byte), (cZ, .boolean)] (va_A [] sz) [] t) (va_A [] sz)) 0 0 (va_A [] sz) := by
  refine Met.ofW (cc := b_Slix) (maxL := 4) (ret := (some .int)) (by decide) rfl ?_
  intro p e s m args below meth c s₁ B hml hv
  obtain ⟨rfl, hsz, hP, hK, hD0, hN, hT⟩ := hv
  have hx := B.exec
  have hb := B.bytes
  have hr := B.returns
  have hts := atoms_spec (ws := w_Slix) B.pre
  have hown : s.vm.findClass "java/lang/StringLatin1" = some m.cls := findClass_of_methodNamed B.named
  have hlocks := B.notSynchronized
  subst hsz
  have hD := hD0.self (sz := s.heap.size)
  generalize hAe : va_A [] s.heap.size = A at hD hT ⊢
  have hA : ∀ q : Nat, s.heap.size ≤ q → A q := fun q h => by rw [← hAe]; exact Or.inr h
  have hS : va_S A s.heap s.heap [] := va_S.rf
  have hl := lv_entry ([.ref (adV k), .int (nI n), .int 0, .int (nI (lenS.getD k 0))]) (n := 4) (Nat.le_of_ble_eq_true rfl)
  rw [lg_entry_eq]
  generalize (lg_sl ([.ref (adV k), .int (nI n), .int 0, .int (nI (lenS.getD k 0))]) ++ List.replicate (4 - (lg_sl ([.ref (adV k), .int (nI n), .int 0, .int (nI (lenS.getD k 0))])).length) Slot.unset).toArray = ls at hl ⊢
  have hl : lv_has ls 4 [(0, .ref (adV k)), (1, .int (nI n)), (2, .int 0), (3, .int (nI (lenS.getD k 0)))] := hl
  have hp : 0 < lenS.getD k 0 ∧ lenS.getD k 0 < 2 ^ 31 := (by decide +kernel : ∀ k, k < nS → 0 < lenS.getD k 0 ∧ lenS.getD k 0 < 2 ^ 31) k hk
  refine lv_iload_n hx hb d_Slix_0 rfl (lv_at hl 1 rfl) ?_
  refine jn_i (wr := []) (va_runS (As := [.int (nI n)]) (rest := []) ⟨hx, hb, hml, hown, hts⟩ (c_ScanEnc l dC dI cI cB cZ adK adV _ n hn) ⟨callB_of 1 hts (ga_ m_551) rfl rfl rfl (hts _ (List.mem_cons_of_mem _ m_98)) (hts _ (List.mem_cons_of_mem _ m_549)) pn_ScanEnc ⟨Nat.le_of_ble_eq_true rfl, Nat.le_of_ble_eq_true rfl⟩, (hts _ (List.mem_cons_of_mem _ m_550))⟩ ⟨pc_blind, pc_of (hP.sub [] rfl) hK (hD.sub [] (by decide) rfl) hN hT hS hA⟩ rfl rfl hl.1 rfl (lv_room (Nat.le_of_ble_eq_true rfl)) d_Slix_1 ⟨Nat.zero_le _, Nat.zero_le _⟩) hP hD hS hA [] [] rfl rfl (by decide) (by decide) (fun r _ H locs e_1 hP hD hS => ?_)
  subst e_1
  refine lv_if_ne (tgt := 9) hx hb d_Slix_4 (by decide) (fun c4 => ?_) (fun c4 => absurd c4 (by decide))
  refine lv_iload_n hx hb d_Slix_9 rfl (lv_at hl 2 rfl) ?_
  refine lv_iconst (v := 0) hx hb d_Slix_10 (by decide) ?_
  refine va_mmax hx hb (by rw [hml]; exact hl.1.symm) hown (hts _ (List.mem_cons_of_mem _ m_552)) (hts _ (List.mem_cons_of_mem _ m_553)) (hts _ (List.mem_cons_of_mem _ m_101)) (hts _ (List.mem_cons_of_mem _ m_554)) (Nat.le_of_ble_eq_true rfl) (Nat.le_of_ble_eq_true rfl) (Nat.zero_le _) (Nat.zero_le _) d_Slix_11 ?_
  rw [show (if (0 : Int32) < 0 then (0 : Int32) else 0) = 0 from rfl]
  refine lv_istore_n (lv' := [(2, .int 0), (0, .ref (adV k)), (1, .int (nI n)), (3, .int (nI (lenS.getD k 0)))]) hx hb d_Slix_14 rfl hl (by decide) rfl (fun ls hl => ?_)
  refine lv_iload_n hx hb d_Slix_15 rfl (lv_at hl 3 rfl) ?_
  refine lv_aload_n hx hb d_Slix_16 rfl (lv_at hl 1 rfl) ?_
  refine va_tlen (v := nI (lenS.getD k 0)) hx hb (hT.1.1 k hk).2.2.2 hS rfl d_Slix_17 ?_
  refine va_mmin hx hb (by rw [hml]; exact hl.1.symm) hown (hts _ (List.mem_cons_of_mem _ m_555)) (hts _ (List.mem_cons_of_mem _ m_534)) (hts _ (List.mem_cons_of_mem _ m_101)) (hts _ (List.mem_cons_of_mem _ m_535)) (Nat.le_of_ble_eq_true rfl) (Nat.le_of_ble_eq_true rfl) (Nat.zero_le _) (Nat.zero_le _) d_Slix_18 ?_
  rw [ite_self]
  refine lv_istore_n (lv' := [(3, .int (nI (lenS.getD k 0))), (2, .int 0), (0, .ref (adV k)), (1, .int (nI n))]) hx hb d_Slix_21 rfl hl (by decide) rfl (fun ls hl => ?_)
  refine lv_iload_n hx hb d_Slix_22 rfl (lv_at hl 1 rfl) ?_
  refine lv_iload_n hx hb d_Slix_23 rfl (lv_at hl 0 rfl) ?_
  refine lv_icmp_lt (tgt := 29) hx hb d_Slix_24 (by decide) (fun c24 => ?_) (fun c24 => absurd (nI_0 ▸ nI_lt hp.1 hp.2) c24)
  refine lv_aload_n hx hb d_Slix_29 rfl (lv_at hl 2 rfl) ?_
  refine lv_iload_n hx hb d_Slix_30 rfl (lv_at hl 3 rfl) ?_
  refine lv_iload_n hx hb d_Slix_31 rfl (lv_at hl 1 rfl) ?_
  refine lv_iload_n hx hb d_Slix_32 rfl (lv_at hl 0 rfl) ?_
  refine jn_i (wr := []) (va_runS (As := [.ref (adV k), .int (nI n), .int 0, .int (nI (lenS.getD k 0))]) (rest := []) ⟨hx, hb, hml, hown, hts⟩ (c_Slixc l dC dI cI cB cZ adK adV _ k n hk hn) ⟨callB_of 4 hts (ga_ m_558) rfl rfl rfl (hts _ (List.mem_cons_of_mem _ m_98)) (hts _ (List.mem_cons_of_mem _ m_556)) pn_Slixc ⟨Nat.le_of_ble_eq_true rfl, Nat.le_of_ble_eq_true rfl⟩, (hts _ (List.mem_cons_of_mem _ m_557))⟩ ⟨pc_blind, pc_of (hP.sub [] rfl) hK (hD.sub [] (by decide) rfl) hN hT hS hA⟩ rfl rfl hl.1 rfl (lv_room (Nat.le_of_ble_eq_true rfl)) d_Slix_33 ⟨Nat.zero_le _, Nat.zero_le _⟩) hP hD hS hA [] [] rfl rfl (by decide) (by decide) (fun r _ H locs e_33 hP hD hS => ?_)
  subst e_33
  exact W.iret (v := sS_ix k (nI n)) hx hb hr (fun t ht hW => ⟨⟨sS_ix k (nI n), (), rfl, rfl, by rw [ht]; exact hP, va_K.moved hW.alike hK, hD⟩, hS.F ht⟩) hS.2.2 d_Slix_36
set_option maxHeartbeats 4000000 in
set_option maxRecDepth 100000 in
theorem c_Six2 (l : Launch) (dC : Nat → ClassId) (dI : Nat → Nat → Nat) (cI cB cZ : ClassId) (adK adV : Nat → Nat) (sz : Nat) (k n : Nat) (hk : k < nS) (hn : n < 256) : Met l y_Six2 w_Six2 ({ frames := 2, cells := 0, slots := 0, locals := 48 }) (pc_ (dC, dI) [(cI, .int), (cB, .byte), (cZ, .boolean)] [] sz adK adV [.ref (adK k), .int (nI n), .int 0]) (va_Qi (fun (r : Int32) (_ : Unit) => r = sS_ix k (nI n)) (fun _ t => bw_ (dC, dI) [(cI, .int), (cB, .byte), (cZ, .boolean)] (va_A [] sz) [] t) (va_A [] sz)) 0 0 (va_A [] sz) := by
  refine Met.ofW (cc := b_Six2) (maxL := 3) (ret := (some .int)) (by decide) rfl ?_
  intro p e s m args below meth c s₁ B hml hv
  obtain ⟨rfl, hsz, hP, hK, hD0, hN, hT⟩ := hv
  have hx := B.exec
  have hb := B.bytes
  have hr := B.returns
  have hts := atoms_spec (ws := w_Six2) B.pre
  have hown : s.vm.findClass "java/lang/String" = some m.cls := findClass_of_methodNamed B.named
  have hlocks := B.notSynchronized
  subst hsz
  have hD := hD0.self (sz := s.heap.size)
  generalize hAe : va_A [] s.heap.size = A at hD hT ⊢
  have hA : ∀ q : Nat, s.heap.size ≤ q → A q := fun q h => by rw [← hAe]; exact Or.inr h
  have hS : va_S A s.heap s.heap [] := va_S.rf
  have hl := lv_entry ([.ref (adK k), .int (nI n), .int 0]) (n := 3) (Nat.le_of_ble_eq_true rfl)
  rw [lg_entry_eq]
  generalize (lg_sl ([.ref (adK k), .int (nI n), .int 0]) ++ List.replicate (3 - (lg_sl ([.ref (adK k), .int (nI n), .int 0])).length) Slot.unset).toArray = ls at hl ⊢
  have hl : lv_has ls 3 [(0, .ref (adK k)), (1, .int (nI n)), (2, .int 0)] := hl
  refine lv_aload_n hx hb d_Six2_0 rfl (lv_at hl 0 rfl) ?_
  refine jn_i (wr := []) (va_runV (As := []) (rest := []) ⟨hx, hb, hml, hown, hts⟩ (c_SisLatin1 l dC dI cI cB cZ adK adV _ k hk) (cwV 0 hts (gv_ m_484 m_485 m_486 m_97 m_487) rfl rfl rfl pd_SisLatin1 ⟨Nat.le_of_ble_eq_true rfl, Nat.le_of_ble_eq_true rfl⟩) ⟨pc_blind, vk_recv hT.1 hk hS, pc_of (hP.sub [] rfl) hK (hD.sub [] (by decide) rfl) hN hT hS hA⟩ rfl rfl hl.1 rfl (lv_room (Nat.le_of_ble_eq_true rfl)) d_Six2_1 ⟨Nat.zero_le _, Nat.zero_le _⟩) hP hD hS hA [] [] rfl rfl (by decide) (by decide) (fun r _ H locs e_1 hP hD hS => ?_)
  subst e_1
  refine lv_if_eq (tgt := 23) hx hb d_Six2_4 (by decide) (fun c3 => absurd c3 (by decide)) (fun c3 => ?_)
  refine lv_aload_n hx hb d_Six2_7 rfl (lv_at hl 0 rfl) ?_
  refine vk_getf hx hb (hT.1.1 k hk).2.2.1 hS hown (hts _ (List.mem_cons_of_mem _ m_1450)) (fun _ h => h) d_Six2_8 ?_
  refine lv_iload_n hx hb d_Six2_11 rfl (lv_at hl 1 rfl) ?_
  refine lv_iload_n hx hb d_Six2_12 rfl (lv_at hl 2 rfl) ?_
  refine lv_aload_n hx hb d_Six2_13 rfl (lv_at hl 0 rfl) ?_
  refine jn_i (wr := []) (va_runV (As := []) (rest := [.int 0, .int (nI n), .ref (adV k)]) ⟨hx, hb, hml, hown, hts⟩ (c_Slength l dC dI cI cB cZ adK adV _ k hk) (cwV 0 hts (gv_ m_545 m_471 m_472 m_97 m_473) rfl rfl rfl pd_Slength ⟨Nat.le_of_ble_eq_true rfl, Nat.le_of_ble_eq_true rfl⟩) ⟨pc_blind, vk_recv hT.1 hk hS, pc_of (hP.sub [] rfl) hK (hD.sub [] (by decide) rfl) hN hT hS hA⟩ rfl rfl hl.1 rfl (lv_room (Nat.le_of_ble_eq_true rfl)) d_Six2_14 ⟨Nat.zero_le _, Nat.zero_le _⟩) hP hD hS hA [] [] rfl rfl (by decide) (by decide) (fun r _ H locs e_14 hP hD hS => ?_)
  subst e_14
  refine jn_i (wr := []) (va_runS (As := [.ref (adV k), .int (nI n), .int 0, .int (nI (lenS.getD k 0))]) (rest := []) ⟨hx, hb, hml, hown, hts⟩ (c_Slix l dC dI cI cB cZ adK adV _ k n hk hn) ⟨callB_of 4 hts (ga_ m_548) rfl rfl rfl (hts _ (List.mem_cons_of_mem _ m_98)) (hts _ (List.mem_cons_of_mem _ m_546)) pn_Slix ⟨Nat.le_of_ble_eq_true rfl, Nat.le_of_ble_eq_true rfl⟩, (hts _ (List.mem_cons_of_mem _ m_547))⟩ ⟨pc_blind, pc_of (hP.sub [] rfl) hK (hD.sub [] (by decide) rfl) hN hT hS hA⟩ rfl rfl hl.1 rfl (lv_room (Nat.le_of_ble_eq_true rfl)) d_Six2_17 ⟨Nat.zero_le _, Nat.zero_le _⟩) hP hD hS hA [] [] rfl rfl (by decide) (by decide) (fun r _ H locs e_17 hP hD hS => ?_)
  subst e_17
  refine lv_goto (tgt := 36) hx hb d_Six2_20 (by decide) ?_
  exact W.iret (v := sS_ix k (nI n)) hx hb hr (fun t ht hW => ⟨⟨sS_ix k (nI n), (), rfl, rfl, by rw [ht]; exact hP, va_K.moved hW.alike hK, hD⟩, hS.F ht⟩) hS.2.2 d_Six2_36
set_option maxHeartbeats 4000000 in
set_option maxRecDepth 100000 in
theorem c_Six1 (l : Launch) (dC : Nat → ClassId) (dI : Nat → Nat → Nat) (cI cB cZ : ClassId) (adK adV : Nat → Nat) (sz : Nat) (k n : Nat) (hk : k < nS) (hn : n < 256) : Met l y_Six1 w_Six1 ({ frames := 3, cells := 0, slots := 0, locals := 70 }) (pc_ (dC, dI) [(cI, .int), (cB, .byte), (cZ, .boolean)] [] sz adK adV [.ref (adK k), .int (nI n)]) (va_Qi (fun (r : Int32) (_ : Unit) => r = sS_ix k (nI n)) (fun _ t => bw_ (dC, dI) [(cI, .int), (cB, .byte), (cZ, .boolean)] (va_A [] sz) [] t) (va_A [] sz)) 0 0 (va_A [] sz) := by
  refine Met.ofW (cc := b_Six1) (maxL := 2) (ret := (some .int)) (by decide) rfl ?_
  intro p e s m args below meth c s₁ B hml hv
  obtain ⟨rfl, hsz, hP, hK, hD0, hN, hT⟩ := hv
  have hx := B.exec
  have hb := B.bytes
  have hr := B.returns
  have hts := atoms_spec (ws := w_Six1) B.pre
  have hown : s.vm.findClass "java/lang/String" = some m.cls := findClass_of_methodNamed B.named
  have hlocks := B.notSynchronized
  subst hsz
  have hD := hD0.self (sz := s.heap.size)
  generalize hAe : va_A [] s.heap.size = A at hD hT ⊢
  have hA : ∀ q : Nat, s.heap.size ≤ q → A q := fun q h => by rw [← hAe]; exact Or.inr h
  have hS : va_S A s.heap s.heap [] := va_S.rf
  have hl := lv_entry ([.ref (adK k), .int (nI n)]) (n := 2) (Nat.le_of_ble_eq_true rfl)
  rw [lg_entry_eq]
  generalize (lg_sl ([.ref (adK k), .int (nI n)]) ++ List.replicate (2 - (lg_sl ([.ref (adK k), .int (nI n)])).length) Slot.unset).toArray = ls at hl ⊢
  have hl : lv_has ls 2 [(0, .ref (adK k)), (1, .int (nI n))] := hl
  refine lv_aload_n hx hb d_Six1_0 rfl (lv_at hl 0 rfl) ?_
  refine lv_iload_n hx hb d_Six1_1 rfl (lv_at hl 1 rfl) ?_
  refine lv_iconst (v := 0) hx hb d_Six1_2 (by decide) ?_
  refine jn_i (wr := []) (va_runV (As := [.int (nI n), .int 0]) (rest := []) ⟨hx, hb, hml, hown, hts⟩ (c_Six2 l dC dI cI cB cZ adK adV _ k n hk hn) (cwV 2 hts (gv_ m_541 m_542 m_543 m_97 m_544) rfl rfl rfl pd_Six2 ⟨Nat.le_of_ble_eq_true rfl, Nat.le_of_ble_eq_true rfl⟩) ⟨pc_blind, vk_recv hT.1 hk hS, pc_of (hP.sub [] rfl) hK (hD.sub [] (by decide) rfl) hN hT hS hA⟩ rfl rfl hl.1 rfl (lv_room (Nat.le_of_ble_eq_true rfl)) d_Six1_3 ⟨Nat.zero_le _, Nat.zero_le _⟩) hP hD hS hA [] [] rfl rfl (by decide) (by decide) (fun r _ H locs e_3 hP hD hS => ?_)
  subst e_3
  exact W.iret (v := sS_ix k (nI n)) hx hb hr (fun t ht hW => ⟨⟨sS_ix k (nI n), (), rfl, rfl, by rw [ht]; exact hP, va_K.moved hW.alike hK, hD⟩, hS.F ht⟩) hS.2.2 d_Six1_6
