abbrev b_Tok_isBlank : ByteArray := prog_10_method_13_code
abbrev y_Tok_isBlank : MethodName := ⟨"LoopInduction$Tokens", "isBlank", "(I)Z"⟩
abbrev w_Tok_isBlank : List Cond := .code y_Tok_isBlank b_Tok_isBlank 1 (some .boolean) :: allW
theorem pn_Tok_isBlank : y_Tok_isBlank.cls ≠ "java/lang/invoke/MethodHandle" ∧ y_Tok_isBlank.cls ≠ "java/lang/invoke/VarHandle" ∧ (parseMethodDescriptor y_Tok_isBlank.desc).map (fun d => d.parameters.length) = some 1 := by decide +kernel
theorem pd_Tok_isBlank : y_Tok_isBlank.cls = "LoopInduction$Tokens" ∧ y_Tok_isBlank.cls ≠ "java/lang/invoke/MethodHandle" ∧ y_Tok_isBlank.cls ≠ "java/lang/invoke/VarHandle" ∧ (parseMethodDescriptor y_Tok_isBlank.desc).map (fun d => d.parameters.length) = some 1 := by decide +kernel
abbrev b_Tok_skipBlanks : ByteArray := prog_10_method_7_code
abbrev y_Tok_skipBlanks : MethodName := ⟨"LoopInduction$Tokens", "skipBlanks", "()V"⟩
abbrev w_Tok_skipBlanks : List Cond := .code y_Tok_skipBlanks b_Tok_skipBlanks 1 none :: allW
theorem pn_Tok_skipBlanks : y_Tok_skipBlanks.cls ≠ "java/lang/invoke/MethodHandle" ∧ y_Tok_skipBlanks.cls ≠ "java/lang/invoke/VarHandle" ∧ (parseMethodDescriptor y_Tok_skipBlanks.desc).map (fun d => d.parameters.length) = some 0 := by decide +kernel
theorem pd_Tok_skipBlanks : y_Tok_skipBlanks.cls = "LoopInduction$Tokens" ∧ y_Tok_skipBlanks.cls ≠ "java/lang/invoke/MethodHandle" ∧ y_Tok_skipBlanks.cls ≠ "java/lang/invoke/VarHandle" ∧ (parseMethodDescriptor y_Tok_skipBlanks.desc).map (fun d => d.parameters.length) = some 0 := by decide +kernel
abbrev b_Tok_isLetter : ByteArray := prog_10_method_14_code
abbrev y_Tok_isLetter : MethodName := ⟨"LoopInduction$Tokens", "isLetter", "(I)Z"⟩
abbrev w_Tok_isLetter : List Cond := .code y_Tok_isLetter b_Tok_isLetter 1 (some .boolean) :: allW
theorem pn_Tok_isLetter : y_Tok_isLetter.cls ≠ "java/lang/invoke/MethodHandle" ∧ y_Tok_isLetter.cls ≠ "java/lang/invoke/VarHandle" ∧ (parseMethodDescriptor y_Tok_isLetter.desc).map (fun d => d.parameters.length) = some 1 := by decide +kernel
theorem pd_Tok_isLetter : y_Tok_isLetter.cls = "LoopInduction$Tokens" ∧ y_Tok_isLetter.cls ≠ "java/lang/invoke/MethodHandle" ∧ y_Tok_isLetter.cls ≠ "java/lang/invoke/VarHandle" ∧ (parseMethodDescriptor y_Tok_isLetter.desc).map (fun d => d.parameters.length) = some 1 := by decide +kernel
abbrev b_Tok_put : ByteArray := prog_10_method_6_code
abbrev y_Tok_put : MethodName := ⟨"LoopInduction$Tokens", "put", "(II)V"⟩
abbrev w_Tok_put : List Cond := .code y_Tok_put b_Tok_put 3 none :: allW
theorem pn_Tok_put : y_Tok_put.cls ≠ "java/lang/invoke/MethodHandle" ∧ y_Tok_put.cls ≠ "java/lang/invoke/VarHandle" ∧ (parseMethodDescriptor y_Tok_put.desc).map (fun d => d.parameters.length) = some 2 := by decide +kernel
theorem pd_Tok_put : y_Tok_put.cls = "LoopInduction$Tokens" ∧ y_Tok_put.cls ≠ "java/lang/invoke/MethodHandle" ∧ y_Tok_put.cls ≠ "java/lang/invoke/VarHandle" ∧ (parseMethodDescriptor y_Tok_put.desc).map (fun d => d.parameters.length) = some 2 := by decide +kernel
abbrev b_Tok_spells : ByteArray := prog_10_method_11_code
abbrev y_Tok_spells : MethodName := ⟨"LoopInduction$Tokens", "spells", "(Ljava/lang/String;)Z"⟩
abbrev w_Tok_spells : List Cond := .code y_Tok_spells b_Tok_spells 3 (some .boolean) :: allW
theorem pn_Tok_spells : y_Tok_spells.cls ≠ "java/lang/invoke/MethodHandle" ∧ y_Tok_spells.cls ≠ "java/lang/invoke/VarHandle" ∧ (parseMethodDescriptor y_Tok_spells.desc).map (fun d => d.parameters.length) = some 1 := by decide +kernel
theorem pd_Tok_spells : y_Tok_spells.cls = "LoopInduction$Tokens" ∧ y_Tok_spells.cls ≠ "java/lang/invoke/MethodHandle" ∧ y_Tok_spells.cls ≠ "java/lang/invoke/VarHandle" ∧ (parseMethodDescriptor y_Tok_spells.desc).map (fun d => d.parameters.length) = some 1 := by decide +kernel
abbrev b_Tok_wordKind : ByteArray := prog_10_method_10_code
abbrev y_Tok_wordKind : MethodName := ⟨"LoopInduction$Tokens", "wordKind", "()I"⟩
abbrev w_Tok_wordKind : List Cond := .code y_Tok_wordKind b_Tok_wordKind 1 (some .int) :: allW
theorem pn_Tok_wordKind : y_Tok_wordKind.cls ≠ "java/lang/invoke/MethodHandle" ∧ y_Tok_wordKind.cls ≠ "java/lang/invoke/VarHandle" ∧ (parseMethodDescriptor y_Tok_wordKind.desc).map (fun d => d.parameters.length) = some 0 := by decide +kernel
theorem pd_Tok_wordKind : y_Tok_wordKind.cls = "LoopInduction$Tokens" ∧ y_Tok_wordKind.cls ≠ "java/lang/invoke/MethodHandle" ∧ y_Tok_wordKind.cls ≠ "java/lang/invoke/VarHandle" ∧ (parseMethodDescriptor y_Tok_wordKind.desc).map (fun d => d.parameters.length) = some 0 := by decide +kernel
abbrev b_Tok_readWord : ByteArray := prog_10_method_9_code
abbrev y_Tok_readWord : MethodName := ⟨"LoopInduction$Tokens", "readWord", "()V"⟩
abbrev w_Tok_readWord : List Cond := .code y_Tok_readWord b_Tok_readWord 2 none :: allW
theorem pn_Tok_readWord : y_Tok_readWord.cls ≠ "java/lang/invoke/MethodHandle" ∧ y_Tok_readWord.cls ≠ "java/lang/invoke/VarHandle" ∧ (parseMethodDescriptor y_Tok_readWord.desc).map (fun d => d.parameters.length) = some 0 := by decide +kernel
theorem pd_Tok_readWord : y_Tok_readWord.cls = "LoopInduction$Tokens" ∧ y_Tok_readWord.cls ≠ "java/lang/invoke/MethodHandle" ∧ y_Tok_readWord.cls ≠ "java/lang/invoke/VarHandle" ∧ (parseMethodDescriptor y_Tok_readWord.desc).map (fun d => d.parameters.length) = some 0 := by decide +kernel
abbrev b_Tok_isDigit : ByteArray := prog_10_method_15_code
abbrev y_Tok_isDigit : MethodName := ⟨"LoopInduction$Tokens", "isDigit", "(I)Z"⟩
abbrev w_Tok_isDigit : List Cond := .code y_Tok_isDigit b_Tok_isDigit 1 (some .boolean) :: allW
theorem pn_Tok_isDigit : y_Tok_isDigit.cls ≠ "java/lang/invoke/MethodHandle" ∧ y_Tok_isDigit.cls ≠ "java/lang/invoke/VarHandle" ∧ (parseMethodDescriptor y_Tok_isDigit.desc).map (fun d => d.parameters.length) = some 1 := by decide +kernel
theorem pd_Tok_isDigit : y_Tok_isDigit.cls = "LoopInduction$Tokens" ∧ y_Tok_isDigit.cls ≠ "java/lang/invoke/MethodHandle" ∧ y_Tok_isDigit.cls ≠ "java/lang/invoke/VarHandle" ∧ (parseMethodDescriptor y_Tok_isDigit.desc).map (fun d => d.parameters.length) = some 1 := by decide +kernel
abbrev b_Tok_readNumber : ByteArray := prog_10_method_12_code
abbrev y_Tok_readNumber : MethodName := ⟨"LoopInduction$Tokens", "readNumber", "()V"⟩
abbrev w_Tok_readNumber : List Cond := .code y_Tok_readNumber b_Tok_readNumber 3 none :: allW
theorem pn_Tok_readNumber : y_Tok_readNumber.cls ≠ "java/lang/invoke/MethodHandle" ∧ y_Tok_readNumber.cls ≠ "java/lang/invoke/VarHandle" ∧ (parseMethodDescriptor y_Tok_readNumber.desc).map (fun d => d.parameters.length) = some 0 := by decide +kernel
theorem pd_Tok_readNumber : y_Tok_readNumber.cls = "LoopInduction$Tokens" ∧ y_Tok_readNumber.cls ≠ "java/lang/invoke/MethodHandle" ∧ y_Tok_readNumber.cls ≠ "java/lang/invoke/VarHandle" ∧ (parseMethodDescriptor y_Tok_readNumber.desc).map (fun d => d.parameters.length) = some 0 := by decide +kernel
abbrev b_Tok_readToken : ByteArray := prog_10_method_8_code
abbrev y_Tok_readToken : MethodName := ⟨"LoopInduction$Tokens", "readToken", "()V"⟩
abbrev w_Tok_readToken : List Cond := .code y_Tok_readToken b_Tok_readToken 2 none :: allW
theorem pn_Tok_readToken : y_Tok_readToken.cls ≠ "java/lang/invoke/MethodHandle" ∧ y_Tok_readToken.cls ≠ "java/lang/invoke/VarHandle" ∧ (parseMethodDescriptor y_Tok_readToken.desc).map (fun d => d.parameters.length) = some 0 := by decide +kernel
theorem pd_Tok_readToken : y_Tok_readToken.cls = "LoopInduction$Tokens" ∧ y_Tok_readToken.cls ≠ "java/lang/invoke/MethodHandle" ∧ y_Tok_readToken.cls ≠ "java/lang/invoke/VarHandle" ∧ (parseMethodDescriptor y_Tok_readToken.desc).map (fun d => d.parameters.length) = some 0 := by decide +kernel
abbrev b_Tok_readAll : ByteArray := prog_10_method_2_code
abbrev y_Tok_readAll : MethodName := ⟨"LoopInduction$Tokens", "readAll", "()V"⟩
abbrev w_Tok_readAll : List Cond := .code y_Tok_readAll b_Tok_readAll 2 none :: allW
theorem pn_Tok_readAll : y_Tok_readAll.cls ≠ "java/lang/invoke/MethodHandle" ∧ y_Tok_readAll.cls ≠ "java/lang/invoke/VarHandle" ∧ (parseMethodDescriptor y_Tok_readAll.desc).map (fun d => d.parameters.length) = some 0 := by decide +kernel
theorem pd_Tok_readAll : y_Tok_readAll.cls = "LoopInduction$Tokens" ∧ y_Tok_readAll.cls ≠ "java/lang/invoke/MethodHandle" ∧ y_Tok_readAll.cls ≠ "java/lang/invoke/VarHandle" ∧ (parseMethodDescriptor y_Tok_readAll.desc).map (fun d => d.parameters.length) = some 0 := by decide +kernel
abbrev b_Tok_kindAt : ByteArray := prog_10_method_3_code
abbrev y_Tok_kindAt : MethodName := ⟨"LoopInduction$Tokens", "kindAt", "(I)I"⟩
abbrev w_Tok_kindAt : List Cond := .code y_Tok_kindAt b_Tok_kindAt 2 (some .int) :: allW
theorem pn_Tok_kindAt : y_Tok_kindAt.cls ≠ "java/lang/invoke/MethodHandle" ∧ y_Tok_kindAt.cls ≠ "java/lang/invoke/VarHandle" ∧ (parseMethodDescriptor y_Tok_kindAt.desc).map (fun d => d.parameters.length) = some 1 := by decide +kernel
theorem pd_Tok_kindAt : y_Tok_kindAt.cls = "LoopInduction$Tokens" ∧ y_Tok_kindAt.cls ≠ "java/lang/invoke/MethodHandle" ∧ y_Tok_kindAt.cls ≠ "java/lang/invoke/VarHandle" ∧ (parseMethodDescriptor y_Tok_kindAt.desc).map (fun d => d.parameters.length) = some 1 := by decide +kernel
abbrev b_Tok_valueAt : ByteArray := prog_10_method_4_code
abbrev y_Tok_valueAt : MethodName := ⟨"LoopInduction$Tokens", "valueAt", "(I)I"⟩
abbrev w_Tok_valueAt : List Cond := .code y_Tok_valueAt b_Tok_valueAt 2 (some .int) :: allW
theorem pn_Tok_valueAt : y_Tok_valueAt.cls ≠ "java/lang/invoke/MethodHandle" ∧ y_Tok_valueAt.cls ≠ "java/lang/invoke/VarHandle" ∧ (parseMethodDescriptor y_Tok_valueAt.desc).map (fun d => d.parameters.length) = some 1 := by decide +kernel
theorem pd_Tok_valueAt : y_Tok_valueAt.cls = "LoopInduction$Tokens" ∧ y_Tok_valueAt.cls ≠ "java/lang/invoke/MethodHandle" ∧ y_Tok_valueAt.cls ≠ "java/lang/invoke/VarHandle" ∧ (parseMethodDescriptor y_Tok_valueAt.desc).map (fun d => d.parameters.length) = some 1 := by decide +kernel
abbrev b_Tok_placeAt : ByteArray := prog_10_method_5_code
abbrev y_Tok_placeAt : MethodName := ⟨"LoopInduction$Tokens", "placeAt", "(I)I"⟩
abbrev w_Tok_placeAt : List Cond := .code y_Tok_placeAt b_Tok_placeAt 2 (some .int) :: allW
theorem pn_Tok_placeAt : y_Tok_placeAt.cls ≠ "java/lang/invoke/MethodHandle" ∧ y_Tok_placeAt.cls ≠ "java/lang/invoke/VarHandle" ∧ (parseMethodDescriptor y_Tok_placeAt.desc).map (fun d => d.parameters.length) = some 1 := by decide +kernel
theorem pd_Tok_placeAt : y_Tok_placeAt.cls = "LoopInduction$Tokens" ∧ y_Tok_placeAt.cls ≠ "java/lang/invoke/MethodHandle" ∧ y_Tok_placeAt.cls ≠ "java/lang/invoke/VarHandle" ∧ (parseMethodDescriptor y_Tok_placeAt.desc).map (fun d => d.parameters.length) = some 1 := by decide +kernel
theorem d_Tok_isBlank_0 : decode b_Tok_isBlank 0 = .ok (.iload_n 0, 1) := by decide +kernel
theorem d_Tok_isBlank_1 : decode b_Tok_isBlank 1 = .ok (.bipush 32, 2) := by decide +kernel
theorem d_Tok_isBlank_3 : decode b_Tok_isBlank 3 = .ok (.if_icmp .eq 9, 3) := by decide +kernel
theorem d_Tok_isBlank_6 : decode b_Tok_isBlank 6 = .ok (.iload_n 0, 1) := by decide +kernel
theorem d_Tok_isBlank_7 : decode b_Tok_isBlank 7 = .ok (.bipush 10, 2) := by decide +kernel
theorem d_Tok_isBlank_9 : decode b_Tok_isBlank 9 = .ok (.if_icmp .ne 7, 3) := by decide +kernel
theorem d_Tok_isBlank_12 : decode b_Tok_isBlank 12 = .ok (.iconst 1, 1) := by decide +kernel
theorem d_Tok_isBlank_13 : decode b_Tok_isBlank 13 = .ok (.goto 4, 3) := by decide +kernel
theorem d_Tok_isBlank_16 : decode b_Tok_isBlank 16 = .ok (.iconst 0, 1) := by decide +kernel
theorem d_Tok_isBlank_17 : decode b_Tok_isBlank 17 = .ok (.ireturn, 1) := by decide +kernel
theorem d_Tok_skipBlanks_0 : decode b_Tok_skipBlanks 0 = .ok (.aload_n 0, 1) := by decide +kernel
theorem d_Tok_skipBlanks_1 : decode b_Tok_skipBlanks 1 = .ok (.getfield 30, 3) := by decide +kernel
theorem d_Tok_skipBlanks_4 : decode b_Tok_skipBlanks 4 = .ok (.aload_n 0, 1) := by decide +kernel
theorem d_Tok_skipBlanks_5 : decode b_Tok_skipBlanks 5 = .ok (.getfield 33, 3) := by decide +kernel
theorem d_Tok_skipBlanks_8 : decode b_Tok_skipBlanks 8 = .ok (.invokevirtual 40, 3) := by decide +kernel
theorem d_Tok_skipBlanks_11 : decode b_Tok_skipBlanks 11 = .ok (.if_icmp .ge 33, 3) := by decide +kernel
theorem d_Tok_skipBlanks_14 : decode b_Tok_skipBlanks 14 = .ok (.aload_n 0, 1) := by decide +kernel
theorem d_Tok_skipBlanks_15 : decode b_Tok_skipBlanks 15 = .ok (.getfield 33, 3) := by decide +kernel
theorem d_Tok_skipBlanks_18 : decode b_Tok_skipBlanks 18 = .ok (.aload_n 0, 1) := by decide +kernel
theorem d_Tok_skipBlanks_19 : decode b_Tok_skipBlanks 19 = .ok (.getfield 30, 3) := by decide +kernel
theorem d_Tok_skipBlanks_22 : decode b_Tok_skipBlanks 22 = .ok (.invokevirtual 51, 3) := by decide +kernel
theorem d_Tok_skipBlanks_25 : decode b_Tok_skipBlanks 25 = .ok (.invokestatic 55, 3) := by decide +kernel
theorem d_Tok_skipBlanks_28 : decode b_Tok_skipBlanks 28 = .ok (.ifCond .eq 16, 3) := by decide +kernel
theorem d_Tok_skipBlanks_31 : decode b_Tok_skipBlanks 31 = .ok (.aload_n 0, 1) := by decide +kernel
theorem d_Tok_skipBlanks_32 : decode b_Tok_skipBlanks 32 = .ok (.dup, 1) := by decide +kernel
theorem d_Tok_skipBlanks_33 : decode b_Tok_skipBlanks 33 = .ok (.getfield 30, 3) := by decide +kernel
theorem d_Tok_skipBlanks_36 : decode b_Tok_skipBlanks 36 = .ok (.iconst 1, 1) := by decide +kernel
theorem d_Tok_skipBlanks_37 : decode b_Tok_skipBlanks 37 = .ok (.iadd, 1) := by decide +kernel
theorem d_Tok_skipBlanks_38 : decode b_Tok_skipBlanks 38 = .ok (.putfield 30, 3) := by decide +kernel
theorem d_Tok_skipBlanks_41 : decode b_Tok_skipBlanks 41 = .ok (.goto (-41), 3) := by decide +kernel
theorem d_Tok_skipBlanks_44 : decode b_Tok_skipBlanks 44 = .ok (.return_, 1) := by decide +kernel
theorem d_Tok_isLetter_0 : decode b_Tok_isLetter 0 = .ok (.iload_n 0, 1) := by decide +kernel
theorem d_Tok_isLetter_1 : decode b_Tok_isLetter 1 = .ok (.bipush 97, 2) := by decide +kernel
theorem d_Tok_isLetter_3 : decode b_Tok_isLetter 3 = .ok (.if_icmp .lt 9, 3) := by decide +kernel
theorem d_Tok_isLetter_6 : decode b_Tok_isLetter 6 = .ok (.iload_n 0, 1) := by decide +kernel
theorem d_Tok_isLetter_7 : decode b_Tok_isLetter 7 = .ok (.bipush 122, 2) := by decide +kernel
theorem d_Tok_isLetter_9 : decode b_Tok_isLetter 9 = .ok (.if_icmp .le 15, 3) := by decide +kernel
theorem d_Tok_isLetter_12 : decode b_Tok_isLetter 12 = .ok (.iload_n 0, 1) := by decide +kernel
theorem d_Tok_isLetter_13 : decode b_Tok_isLetter 13 = .ok (.bipush 65, 2) := by decide +kernel
theorem d_Tok_isLetter_15 : decode b_Tok_isLetter 15 = .ok (.if_icmp .lt 13, 3) := by decide +kernel
theorem d_Tok_isLetter_18 : decode b_Tok_isLetter 18 = .ok (.iload_n 0, 1) := by decide +kernel
theorem d_Tok_isLetter_19 : decode b_Tok_isLetter 19 = .ok (.bipush 90, 2) := by decide +kernel
theorem d_Tok_isLetter_21 : decode b_Tok_isLetter 21 = .ok (.if_icmp .gt 7, 3) := by decide +kernel
theorem d_Tok_isLetter_24 : decode b_Tok_isLetter 24 = .ok (.iconst 1, 1) := by decide +kernel
theorem d_Tok_isLetter_25 : decode b_Tok_isLetter 25 = .ok (.goto 4, 3) := by decide +kernel
theorem d_Tok_isLetter_28 : decode b_Tok_isLetter 28 = .ok (.iconst 0, 1) := by decide +kernel
theorem d_Tok_isLetter_29 : decode b_Tok_isLetter 29 = .ok (.ireturn, 1) := by decide +kernel
theorem d_Tok_put_0 : decode b_Tok_put 0 = .ok (.aload_n 0, 1) := by decide +kernel
theorem d_Tok_put_1 : decode b_Tok_put 1 = .ok (.getfield 23, 3) := by decide +kernel
theorem d_Tok_put_4 : decode b_Tok_put 4 = .ok (.aload_n 0, 1) := by decide +kernel
theorem d_Tok_put_5 : decode b_Tok_put 5 = .ok (.getfield 11, 3) := by decide +kernel
theorem d_Tok_put_8 : decode b_Tok_put 8 = .ok (.arraylength, 1) := by decide +kernel
theorem d_Tok_put_9 : decode b_Tok_put 9 = .ok (.if_icmp .ge 46, 3) := by decide +kernel
theorem d_Tok_put_12 : decode b_Tok_put 12 = .ok (.aload_n 0, 1) := by decide +kernel
theorem d_Tok_put_13 : decode b_Tok_put 13 = .ok (.getfield 11, 3) := by decide +kernel
theorem d_Tok_put_16 : decode b_Tok_put 16 = .ok (.aload_n 0, 1) := by decide +kernel
theorem d_Tok_put_17 : decode b_Tok_put 17 = .ok (.getfield 23, 3) := by decide +kernel
theorem d_Tok_put_20 : decode b_Tok_put 20 = .ok (.iload_n 1, 1) := by decide +kernel
theorem d_Tok_put_21 : decode b_Tok_put 21 = .ok (.iastore, 1) := by decide +kernel
theorem d_Tok_put_22 : decode b_Tok_put 22 = .ok (.aload_n 0, 1) := by decide +kernel
theorem d_Tok_put_23 : decode b_Tok_put 23 = .ok (.getfield 17, 3) := by decide +kernel
theorem d_Tok_put_26 : decode b_Tok_put 26 = .ok (.aload_n 0, 1) := by decide +kernel
theorem d_Tok_put_27 : decode b_Tok_put 27 = .ok (.getfield 23, 3) := by decide +kernel
theorem d_Tok_put_30 : decode b_Tok_put 30 = .ok (.iload_n 2, 1) := by decide +kernel
theorem d_Tok_put_31 : decode b_Tok_put 31 = .ok (.iastore, 1) := by decide +kernel
theorem d_Tok_put_32 : decode b_Tok_put 32 = .ok (.aload_n 0, 1) := by decide +kernel
theorem d_Tok_put_33 : decode b_Tok_put 33 = .ok (.getfield 20, 3) := by decide +kernel
theorem d_Tok_put_36 : decode b_Tok_put 36 = .ok (.aload_n 0, 1) := by decide +kernel
theorem d_Tok_put_37 : decode b_Tok_put 37 = .ok (.getfield 23, 3) := by decide +kernel
theorem d_Tok_put_40 : decode b_Tok_put 40 = .ok (.aload_n 0, 1) := by decide +kernel
theorem d_Tok_put_41 : decode b_Tok_put 41 = .ok (.getfield 27, 3) := by decide +kernel
theorem d_Tok_put_44 : decode b_Tok_put 44 = .ok (.iastore, 1) := by decide +kernel
theorem d_Tok_put_45 : decode b_Tok_put 45 = .ok (.aload_n 0, 1) := by decide +kernel
theorem d_Tok_put_46 : decode b_Tok_put 46 = .ok (.dup, 1) := by decide +kernel
theorem d_Tok_put_47 : decode b_Tok_put 47 = .ok (.getfield 23, 3) := by decide +kernel
theorem d_Tok_put_50 : decode b_Tok_put 50 = .ok (.iconst 1, 1) := by decide +kernel
theorem d_Tok_put_51 : decode b_Tok_put 51 = .ok (.iadd, 1) := by decide +kernel
theorem d_Tok_put_52 : decode b_Tok_put 52 = .ok (.putfield 23, 3) := by decide +kernel
theorem d_Tok_put_55 : decode b_Tok_put 55 = .ok (.return_, 1) := by decide +kernel
theorem d_Tok_spells_0 : decode b_Tok_spells 0 = .ok (.aload_n 0, 1) := by decide +kernel
theorem d_Tok_spells_1 : decode b_Tok_spells 1 = .ok (.getfield 30, 3) := by decide +kernel
theorem d_Tok_spells_4 : decode b_Tok_spells 4 = .ok (.aload_n 0, 1) := by decide +kernel
theorem d_Tok_spells_5 : decode b_Tok_spells 5 = .ok (.getfield 27, 3) := by decide +kernel
theorem d_Tok_spells_8 : decode b_Tok_spells 8 = .ok (.isub, 1) := by decide +kernel
theorem d_Tok_spells_9 : decode b_Tok_spells 9 = .ok (.aload_n 1, 1) := by decide +kernel
theorem d_Tok_spells_10 : decode b_Tok_spells 10 = .ok (.invokevirtual 103, 3) := by decide +kernel
theorem d_Tok_spells_13 : decode b_Tok_spells 13 = .ok (.if_icmp .eq 5, 3) := by decide +kernel
theorem d_Tok_spells_16 : decode b_Tok_spells 16 = .ok (.iconst 0, 1) := by decide +kernel
theorem d_Tok_spells_17 : decode b_Tok_spells 17 = .ok (.ireturn, 1) := by decide +kernel
theorem d_Tok_spells_18 : decode b_Tok_spells 18 = .ok (.iconst 0, 1) := by decide +kernel
theorem d_Tok_spells_19 : decode b_Tok_spells 19 = .ok (.istore_n 2, 1) := by decide +kernel
theorem d_Tok_spells_20 : decode b_Tok_spells 20 = .ok (.iload_n 2, 1) := by decide +kernel
theorem d_Tok_spells_21 : decode b_Tok_spells 21 = .ok (.aload_n 1, 1) := by decide +kernel
theorem d_Tok_spells_22 : decode b_Tok_spells 22 = .ok (.invokevirtual 103, 3) := by decide +kernel
theorem d_Tok_spells_25 : decode b_Tok_spells 25 = .ok (.if_icmp .ge 32, 3) := by decide +kernel
theorem d_Tok_spells_28 : decode b_Tok_spells 28 = .ok (.aload_n 0, 1) := by decide +kernel
theorem d_Tok_spells_29 : decode b_Tok_spells 29 = .ok (.getfield 33, 3) := by decide +kernel
theorem d_Tok_spells_32 : decode b_Tok_spells 32 = .ok (.aload_n 0, 1) := by decide +kernel
theorem d_Tok_spells_33 : decode b_Tok_spells 33 = .ok (.getfield 27, 3) := by decide +kernel
theorem d_Tok_spells_36 : decode b_Tok_spells 36 = .ok (.iload_n 2, 1) := by decide +kernel
theorem d_Tok_spells_37 : decode b_Tok_spells 37 = .ok (.iadd, 1) := by decide +kernel
theorem d_Tok_spells_38 : decode b_Tok_spells 38 = .ok (.invokevirtual 51, 3) := by decide +kernel
theorem d_Tok_spells_41 : decode b_Tok_spells 41 = .ok (.aload_n 1, 1) := by decide +kernel
theorem d_Tok_spells_42 : decode b_Tok_spells 42 = .ok (.iload_n 2, 1) := by decide +kernel
theorem d_Tok_spells_43 : decode b_Tok_spells 43 = .ok (.invokevirtual 106, 3) := by decide +kernel
theorem d_Tok_spells_46 : decode b_Tok_spells 46 = .ok (.if_icmp .eq 5, 3) := by decide +kernel
theorem d_Tok_spells_49 : decode b_Tok_spells 49 = .ok (.iconst 0, 1) := by decide +kernel
theorem d_Tok_spells_50 : decode b_Tok_spells 50 = .ok (.ireturn, 1) := by decide +kernel
theorem d_Tok_spells_51 : decode b_Tok_spells 51 = .ok (.iinc 2 1, 3) := by decide +kernel
theorem d_Tok_spells_54 : decode b_Tok_spells 54 = .ok (.goto (-34), 3) := by decide +kernel
theorem d_Tok_spells_57 : decode b_Tok_spells 57 = .ok (.iconst 1, 1) := by decide +kernel
theorem d_Tok_spells_58 : decode b_Tok_spells 58 = .ok (.ireturn, 1) := by decide +kernel
theorem d_Tok_wordKind_0 : decode b_Tok_wordKind 0 = .ok (.aload_n 0, 1) := by decide +kernel
theorem d_Tok_wordKind_1 : decode b_Tok_wordKind 1 = .ok (.ldc 81, 2) := by decide +kernel
theorem d_Tok_wordKind_3 : decode b_Tok_wordKind 3 = .ok (.invokevirtual 83, 3) := by decide +kernel
theorem d_Tok_wordKind_6 : decode b_Tok_wordKind 6 = .ok (.ifCond .eq 7, 3) := by decide +kernel
theorem d_Tok_wordKind_9 : decode b_Tok_wordKind 9 = .ok (.sipush 260, 3) := by decide +kernel
theorem d_Tok_wordKind_12 : decode b_Tok_wordKind 12 = .ok (.ireturn, 1) := by decide +kernel
theorem d_Tok_wordKind_13 : decode b_Tok_wordKind 13 = .ok (.aload_n 0, 1) := by decide +kernel
theorem d_Tok_wordKind_14 : decode b_Tok_wordKind 14 = .ok (.ldc 87, 2) := by decide +kernel
theorem d_Tok_wordKind_16 : decode b_Tok_wordKind 16 = .ok (.invokevirtual 83, 3) := by decide +kernel
theorem d_Tok_wordKind_19 : decode b_Tok_wordKind 19 = .ok (.ifCond .eq 7, 3) := by decide +kernel
theorem d_Tok_wordKind_22 : decode b_Tok_wordKind 22 = .ok (.sipush 261, 3) := by decide +kernel
theorem d_Tok_wordKind_25 : decode b_Tok_wordKind 25 = .ok (.ireturn, 1) := by decide +kernel
theorem d_Tok_wordKind_26 : decode b_Tok_wordKind 26 = .ok (.aload_n 0, 1) := by decide +kernel
theorem d_Tok_wordKind_27 : decode b_Tok_wordKind 27 = .ok (.ldc 89, 2) := by decide +kernel
theorem d_Tok_wordKind_29 : decode b_Tok_wordKind 29 = .ok (.invokevirtual 83, 3) := by decide +kernel
theorem d_Tok_wordKind_32 : decode b_Tok_wordKind 32 = .ok (.ifCond .eq 7, 3) := by decide +kernel
theorem d_Tok_wordKind_35 : decode b_Tok_wordKind 35 = .ok (.sipush 262, 3) := by decide +kernel
theorem d_Tok_wordKind_38 : decode b_Tok_wordKind 38 = .ok (.ireturn, 1) := by decide +kernel
theorem d_Tok_wordKind_39 : decode b_Tok_wordKind 39 = .ok (.aload_n 0, 1) := by decide +kernel
theorem d_Tok_wordKind_40 : decode b_Tok_wordKind 40 = .ok (.ldc 91, 2) := by decide +kernel
theorem d_Tok_wordKind_42 : decode b_Tok_wordKind 42 = .ok (.invokevirtual 83, 3) := by decide +kernel
theorem d_Tok_wordKind_45 : decode b_Tok_wordKind 45 = .ok (.ifCond .eq 7, 3) := by decide +kernel
theorem d_Tok_wordKind_48 : decode b_Tok_wordKind 48 = .ok (.sipush 263, 3) := by decide +kernel
theorem d_Tok_wordKind_51 : decode b_Tok_wordKind 51 = .ok (.ireturn, 1) := by decide +kernel
theorem d_Tok_wordKind_52 : decode b_Tok_wordKind 52 = .ok (.aload_n 0, 1) := by decide +kernel
theorem d_Tok_wordKind_53 : decode b_Tok_wordKind 53 = .ok (.ldc 93, 2) := by decide +kernel
theorem d_Tok_wordKind_55 : decode b_Tok_wordKind 55 = .ok (.invokevirtual 83, 3) := by decide +kernel
theorem d_Tok_wordKind_58 : decode b_Tok_wordKind 58 = .ok (.ifCond .eq 7, 3) := by decide +kernel
theorem d_Tok_wordKind_61 : decode b_Tok_wordKind 61 = .ok (.sipush 264, 3) := by decide +kernel
theorem d_Tok_wordKind_64 : decode b_Tok_wordKind 64 = .ok (.ireturn, 1) := by decide +kernel
theorem d_Tok_wordKind_65 : decode b_Tok_wordKind 65 = .ok (.aload_n 0, 1) := by decide +kernel
theorem d_Tok_wordKind_66 : decode b_Tok_wordKind 66 = .ok (.ldc 95, 2) := by decide +kernel
theorem d_Tok_wordKind_68 : decode b_Tok_wordKind 68 = .ok (.invokevirtual 83, 3) := by decide +kernel
theorem d_Tok_wordKind_71 : decode b_Tok_wordKind 71 = .ok (.ifCond .eq 7, 3) := by decide +kernel
theorem d_Tok_wordKind_74 : decode b_Tok_wordKind 74 = .ok (.sipush 265, 3) := by decide +kernel
theorem d_Tok_wordKind_77 : decode b_Tok_wordKind 77 = .ok (.ireturn, 1) := by decide +kernel
theorem d_Tok_wordKind_78 : decode b_Tok_wordKind 78 = .ok (.aload_n 0, 1) := by decide +kernel
theorem d_Tok_wordKind_79 : decode b_Tok_wordKind 79 = .ok (.ldc 97, 2) := by decide +kernel
theorem d_Tok_wordKind_81 : decode b_Tok_wordKind 81 = .ok (.invokevirtual 83, 3) := by decide +kernel
theorem d_Tok_wordKind_84 : decode b_Tok_wordKind 84 = .ok (.ifCond .eq 7, 3) := by decide +kernel
theorem d_Tok_wordKind_87 : decode b_Tok_wordKind 87 = .ok (.sipush 266, 3) := by decide +kernel
theorem d_Tok_wordKind_90 : decode b_Tok_wordKind 90 = .ok (.ireturn, 1) := by decide +kernel
theorem d_Tok_wordKind_91 : decode b_Tok_wordKind 91 = .ok (.aload_n 0, 1) := by decide +kernel
theorem d_Tok_wordKind_92 : decode b_Tok_wordKind 92 = .ok (.ldc 99, 2) := by decide +kernel
theorem d_Tok_wordKind_94 : decode b_Tok_wordKind 94 = .ok (.invokevirtual 83, 3) := by decide +kernel
theorem d_Tok_wordKind_97 : decode b_Tok_wordKind 97 = .ok (.ifCond .eq 7, 3) := by decide +kernel
theorem d_Tok_wordKind_100 : decode b_Tok_wordKind 100 = .ok (.sipush 267, 3) := by decide +kernel
theorem d_Tok_wordKind_103 : decode b_Tok_wordKind 103 = .ok (.ireturn, 1) := by decide +kernel
theorem d_Tok_wordKind_104 : decode b_Tok_wordKind 104 = .ok (.aload_n 0, 1) := by decide +kernel
theorem d_Tok_wordKind_105 : decode b_Tok_wordKind 105 = .ok (.ldc 101, 2) := by decide +kernel
theorem d_Tok_wordKind_107 : decode b_Tok_wordKind 107 = .ok (.invokevirtual 83, 3) := by decide +kernel
theorem d_Tok_wordKind_110 : decode b_Tok_wordKind 110 = .ok (.ifCond .eq 9, 3) := by decide +kernel
theorem d_Tok_wordKind_113 : decode b_Tok_wordKind 113 = .ok (.sipush 268, 3) := by decide +kernel
theorem d_Tok_wordKind_116 : decode b_Tok_wordKind 116 = .ok (.goto 6, 3) := by decide +kernel
theorem d_Tok_wordKind_119 : decode b_Tok_wordKind 119 = .ok (.sipush 257, 3) := by decide +kernel
theorem d_Tok_wordKind_122 : decode b_Tok_wordKind 122 = .ok (.ireturn, 1) := by decide +kernel
theorem d_Tok_readWord_0 : decode b_Tok_readWord 0 = .ok (.aload_n 0, 1) := by decide +kernel
theorem d_Tok_readWord_1 : decode b_Tok_readWord 1 = .ok (.getfield 30, 3) := by decide +kernel
theorem d_Tok_readWord_4 : decode b_Tok_readWord 4 = .ok (.aload_n 0, 1) := by decide +kernel
theorem d_Tok_readWord_5 : decode b_Tok_readWord 5 = .ok (.getfield 33, 3) := by decide +kernel
theorem d_Tok_readWord_8 : decode b_Tok_readWord 8 = .ok (.invokevirtual 40, 3) := by decide +kernel
theorem d_Tok_readWord_11 : decode b_Tok_readWord 11 = .ok (.if_icmp .ge 33, 3) := by decide +kernel
theorem d_Tok_readWord_14 : decode b_Tok_readWord 14 = .ok (.aload_n 0, 1) := by decide +kernel
theorem d_Tok_readWord_15 : decode b_Tok_readWord 15 = .ok (.getfield 33, 3) := by decide +kernel
theorem d_Tok_readWord_18 : decode b_Tok_readWord 18 = .ok (.aload_n 0, 1) := by decide +kernel
theorem d_Tok_readWord_19 : decode b_Tok_readWord 19 = .ok (.getfield 30, 3) := by decide +kernel
theorem d_Tok_readWord_22 : decode b_Tok_readWord 22 = .ok (.invokevirtual 51, 3) := by decide +kernel
theorem d_Tok_readWord_25 : decode b_Tok_readWord 25 = .ok (.invokestatic 59, 3) := by decide +kernel
theorem d_Tok_readWord_28 : decode b_Tok_readWord 28 = .ok (.ifCond .eq 16, 3) := by decide +kernel
theorem d_Tok_readWord_31 : decode b_Tok_readWord 31 = .ok (.aload_n 0, 1) := by decide +kernel
theorem d_Tok_readWord_32 : decode b_Tok_readWord 32 = .ok (.dup, 1) := by decide +kernel
theorem d_Tok_readWord_33 : decode b_Tok_readWord 33 = .ok (.getfield 30, 3) := by decide +kernel
theorem d_Tok_readWord_36 : decode b_Tok_readWord 36 = .ok (.iconst 1, 1) := by decide +kernel
theorem d_Tok_readWord_37 : decode b_Tok_readWord 37 = .ok (.iadd, 1) := by decide +kernel
theorem d_Tok_readWord_38 : decode b_Tok_readWord 38 = .ok (.putfield 30, 3) := by decide +kernel
theorem d_Tok_readWord_41 : decode b_Tok_readWord 41 = .ok (.goto (-41), 3) := by decide +kernel
theorem d_Tok_readWord_44 : decode b_Tok_readWord 44 = .ok (.aload_n 0, 1) := by decide +kernel
theorem d_Tok_readWord_45 : decode b_Tok_readWord 45 = .ok (.getfield 33, 3) := by decide +kernel
theorem d_Tok_readWord_48 : decode b_Tok_readWord 48 = .ok (.aload_n 0, 1) := by decide +kernel
theorem d_Tok_readWord_49 : decode b_Tok_readWord 49 = .ok (.getfield 27, 3) := by decide +kernel
theorem d_Tok_readWord_52 : decode b_Tok_readWord 52 = .ok (.invokevirtual 51, 3) := by decide +kernel
theorem d_Tok_readWord_55 : decode b_Tok_readWord 55 = .ok (.istore_n 1, 1) := by decide +kernel
theorem d_Tok_readWord_56 : decode b_Tok_readWord 56 = .ok (.aload_n 0, 1) := by decide +kernel
theorem d_Tok_readWord_57 : decode b_Tok_readWord 57 = .ok (.getfield 30, 3) := by decide +kernel
theorem d_Tok_readWord_60 : decode b_Tok_readWord 60 = .ok (.aload_n 0, 1) := by decide +kernel
theorem d_Tok_readWord_61 : decode b_Tok_readWord 61 = .ok (.getfield 27, 3) := by decide +kernel
theorem d_Tok_readWord_64 : decode b_Tok_readWord 64 = .ok (.isub, 1) := by decide +kernel
theorem d_Tok_readWord_65 : decode b_Tok_readWord 65 = .ok (.iconst 1, 1) := by decide +kernel
theorem d_Tok_readWord_66 : decode b_Tok_readWord 66 = .ok (.if_icmp .ne 29, 3) := by decide +kernel
theorem d_Tok_readWord_69 : decode b_Tok_readWord 69 = .ok (.iload_n 1, 1) := by decide +kernel
theorem d_Tok_readWord_70 : decode b_Tok_readWord 70 = .ok (.bipush 97, 2) := by decide +kernel
theorem d_Tok_readWord_72 : decode b_Tok_readWord 72 = .ok (.if_icmp .lt 23, 3) := by decide +kernel
theorem d_Tok_readWord_75 : decode b_Tok_readWord 75 = .ok (.iload_n 1, 1) := by decide +kernel
theorem d_Tok_readWord_76 : decode b_Tok_readWord 76 = .ok (.bipush 100, 2) := by decide +kernel
theorem d_Tok_readWord_78 : decode b_Tok_readWord 78 = .ok (.if_icmp .ge 17, 3) := by decide +kernel
theorem d_Tok_readWord_81 : decode b_Tok_readWord 81 = .ok (.aload_n 0, 1) := by decide +kernel
theorem d_Tok_readWord_82 : decode b_Tok_readWord 82 = .ok (.sipush 259, 3) := by decide +kernel
theorem d_Tok_readWord_85 : decode b_Tok_readWord 85 = .ok (.iload_n 1, 1) := by decide +kernel
theorem d_Tok_readWord_86 : decode b_Tok_readWord 86 = .ok (.bipush 97, 2) := by decide +kernel
theorem d_Tok_readWord_88 : decode b_Tok_readWord 88 = .ok (.isub, 1) := by decide +kernel
theorem d_Tok_readWord_89 : decode b_Tok_readWord 89 = .ok (.invokevirtual 47, 3) := by decide +kernel
theorem d_Tok_readWord_92 : decode b_Tok_readWord 92 = .ok (.goto 12, 3) := by decide +kernel
theorem d_Tok_readWord_95 : decode b_Tok_readWord 95 = .ok (.aload_n 0, 1) := by decide +kernel
theorem d_Tok_readWord_96 : decode b_Tok_readWord 96 = .ok (.aload_n 0, 1) := by decide +kernel
theorem d_Tok_readWord_97 : decode b_Tok_readWord 97 = .ok (.invokevirtual 78, 3) := by decide +kernel
theorem d_Tok_readWord_100 : decode b_Tok_readWord 100 = .ok (.iconst 0, 1) := by decide +kernel
theorem d_Tok_readWord_101 : decode b_Tok_readWord 101 = .ok (.invokevirtual 47, 3) := by decide +kernel
theorem d_Tok_readWord_104 : decode b_Tok_readWord 104 = .ok (.return_, 1) := by decide +kernel
theorem d_Tok_isDigit_0 : decode b_Tok_isDigit 0 = .ok (.iload_n 0, 1) := by decide +kernel
theorem d_Tok_isDigit_1 : decode b_Tok_isDigit 1 = .ok (.bipush 48, 2) := by decide +kernel
theorem d_Tok_isDigit_3 : decode b_Tok_isDigit 3 = .ok (.if_icmp .lt 13, 3) := by decide +kernel
theorem d_Tok_isDigit_6 : decode b_Tok_isDigit 6 = .ok (.iload_n 0, 1) := by decide +kernel
theorem d_Tok_isDigit_7 : decode b_Tok_isDigit 7 = .ok (.bipush 57, 2) := by decide +kernel
theorem d_Tok_isDigit_9 : decode b_Tok_isDigit 9 = .ok (.if_icmp .gt 7, 3) := by decide +kernel
theorem d_Tok_isDigit_12 : decode b_Tok_isDigit 12 = .ok (.iconst 1, 1) := by decide +kernel
theorem d_Tok_isDigit_13 : decode b_Tok_isDigit 13 = .ok (.goto 4, 3) := by decide +kernel
theorem d_Tok_isDigit_16 : decode b_Tok_isDigit 16 = .ok (.iconst 0, 1) := by decide +kernel
theorem d_Tok_isDigit_17 : decode b_Tok_isDigit 17 = .ok (.ireturn, 1) := by decide +kernel
theorem d_Tok_readNumber_0 : decode b_Tok_readNumber 0 = .ok (.iconst 0, 1) := by decide +kernel
theorem d_Tok_readNumber_1 : decode b_Tok_readNumber 1 = .ok (.istore_n 1, 1) := by decide +kernel
theorem d_Tok_readNumber_2 : decode b_Tok_readNumber 2 = .ok (.aload_n 0, 1) := by decide +kernel
theorem d_Tok_readNumber_3 : decode b_Tok_readNumber 3 = .ok (.getfield 30, 3) := by decide +kernel
theorem d_Tok_readNumber_6 : decode b_Tok_readNumber 6 = .ok (.aload_n 0, 1) := by decide +kernel
theorem d_Tok_readNumber_7 : decode b_Tok_readNumber 7 = .ok (.getfield 33, 3) := by decide +kernel
theorem d_Tok_readNumber_10 : decode b_Tok_readNumber 10 = .ok (.invokevirtual 40, 3) := by decide +kernel
theorem d_Tok_readNumber_13 : decode b_Tok_readNumber 13 = .ok (.if_icmp .ge 58, 3) := by decide +kernel
theorem d_Tok_readNumber_16 : decode b_Tok_readNumber 16 = .ok (.aload_n 0, 1) := by decide +kernel
theorem d_Tok_readNumber_17 : decode b_Tok_readNumber 17 = .ok (.getfield 33, 3) := by decide +kernel
theorem d_Tok_readNumber_20 : decode b_Tok_readNumber 20 = .ok (.aload_n 0, 1) := by decide +kernel
theorem d_Tok_readNumber_21 : decode b_Tok_readNumber 21 = .ok (.getfield 30, 3) := by decide +kernel
theorem d_Tok_readNumber_24 : decode b_Tok_readNumber 24 = .ok (.invokevirtual 51, 3) := by decide +kernel
theorem d_Tok_readNumber_27 : decode b_Tok_readNumber 27 = .ok (.invokestatic 65, 3) := by decide +kernel
theorem d_Tok_readNumber_30 : decode b_Tok_readNumber 30 = .ok (.ifCond .eq 41, 3) := by decide +kernel
theorem d_Tok_readNumber_33 : decode b_Tok_readNumber 33 = .ok (.iload_n 1, 1) := by decide +kernel
theorem d_Tok_readNumber_34 : decode b_Tok_readNumber 34 = .ok (.bipush 10, 2) := by decide +kernel
theorem d_Tok_readNumber_36 : decode b_Tok_readNumber 36 = .ok (.imul, 1) := by decide +kernel
theorem d_Tok_readNumber_37 : decode b_Tok_readNumber 37 = .ok (.aload_n 0, 1) := by decide +kernel
theorem d_Tok_readNumber_38 : decode b_Tok_readNumber 38 = .ok (.getfield 33, 3) := by decide +kernel
theorem d_Tok_readNumber_41 : decode b_Tok_readNumber 41 = .ok (.aload_n 0, 1) := by decide +kernel
theorem d_Tok_readNumber_42 : decode b_Tok_readNumber 42 = .ok (.getfield 30, 3) := by decide +kernel
theorem d_Tok_readNumber_45 : decode b_Tok_readNumber 45 = .ok (.invokevirtual 51, 3) := by decide +kernel
theorem d_Tok_readNumber_48 : decode b_Tok_readNumber 48 = .ok (.iadd, 1) := by decide +kernel
theorem d_Tok_readNumber_49 : decode b_Tok_readNumber 49 = .ok (.bipush 48, 2) := by decide +kernel
theorem d_Tok_readNumber_51 : decode b_Tok_readNumber 51 = .ok (.isub, 1) := by decide +kernel
theorem d_Tok_readNumber_52 : decode b_Tok_readNumber 52 = .ok (.bipush 100, 2) := by decide +kernel
theorem d_Tok_readNumber_54 : decode b_Tok_readNumber 54 = .ok (.invokestatic 110, 3) := by decide +kernel
theorem d_Tok_readNumber_57 : decode b_Tok_readNumber 57 = .ok (.istore_n 1, 1) := by decide +kernel
theorem d_Tok_readNumber_58 : decode b_Tok_readNumber 58 = .ok (.aload_n 0, 1) := by decide +kernel
theorem d_Tok_readNumber_59 : decode b_Tok_readNumber 59 = .ok (.dup, 1) := by decide +kernel
theorem d_Tok_readNumber_60 : decode b_Tok_readNumber 60 = .ok (.getfield 30, 3) := by decide +kernel
theorem d_Tok_readNumber_63 : decode b_Tok_readNumber 63 = .ok (.iconst 1, 1) := by decide +kernel
theorem d_Tok_readNumber_64 : decode b_Tok_readNumber 64 = .ok (.iadd, 1) := by decide +kernel
theorem d_Tok_readNumber_65 : decode b_Tok_readNumber 65 = .ok (.putfield 30, 3) := by decide +kernel
theorem d_Tok_readNumber_68 : decode b_Tok_readNumber 68 = .ok (.goto (-66), 3) := by decide +kernel
theorem d_Tok_readNumber_71 : decode b_Tok_readNumber 71 = .ok (.aload_n 0, 1) := by decide +kernel
theorem d_Tok_readNumber_72 : decode b_Tok_readNumber 72 = .ok (.getfield 30, 3) := by decide +kernel
theorem d_Tok_readNumber_75 : decode b_Tok_readNumber 75 = .ok (.aload_n 0, 1) := by decide +kernel
theorem d_Tok_readNumber_76 : decode b_Tok_readNumber 76 = .ok (.getfield 27, 3) := by decide +kernel
theorem d_Tok_readNumber_79 : decode b_Tok_readNumber 79 = .ok (.isub, 1) := by decide +kernel
theorem d_Tok_readNumber_80 : decode b_Tok_readNumber 80 = .ok (.iconst 1, 1) := by decide +kernel
theorem d_Tok_readNumber_81 : decode b_Tok_readNumber 81 = .ok (.if_icmp .le 23, 3) := by decide +kernel
theorem d_Tok_readNumber_84 : decode b_Tok_readNumber 84 = .ok (.aload_n 0, 1) := by decide +kernel
theorem d_Tok_readNumber_85 : decode b_Tok_readNumber 85 = .ok (.getfield 33, 3) := by decide +kernel
theorem d_Tok_readNumber_88 : decode b_Tok_readNumber 88 = .ok (.aload_n 0, 1) := by decide +kernel
theorem d_Tok_readNumber_89 : decode b_Tok_readNumber 89 = .ok (.getfield 27, 3) := by decide +kernel
theorem d_Tok_readNumber_92 : decode b_Tok_readNumber 92 = .ok (.invokevirtual 51, 3) := by decide +kernel
theorem d_Tok_readNumber_95 : decode b_Tok_readNumber 95 = .ok (.bipush 48, 2) := by decide +kernel
theorem d_Tok_readNumber_97 : decode b_Tok_readNumber 97 = .ok (.if_icmp .ne 7, 3) := by decide +kernel
theorem d_Tok_readNumber_100 : decode b_Tok_readNumber 100 = .ok (.iconst 1, 1) := by decide +kernel
theorem d_Tok_readNumber_101 : decode b_Tok_readNumber 101 = .ok (.goto 4, 3) := by decide +kernel
theorem d_Tok_readNumber_104 : decode b_Tok_readNumber 104 = .ok (.iconst 0, 1) := by decide +kernel
theorem d_Tok_readNumber_105 : decode b_Tok_readNumber 105 = .ok (.istore_n 2, 1) := by decide +kernel
theorem d_Tok_readNumber_106 : decode b_Tok_readNumber 106 = .ok (.aload_n 0, 1) := by decide +kernel
theorem d_Tok_readNumber_107 : decode b_Tok_readNumber 107 = .ok (.iload_n 2, 1) := by decide +kernel
theorem d_Tok_readNumber_108 : decode b_Tok_readNumber 108 = .ok (.ifCond .ne 9, 3) := by decide +kernel
theorem d_Tok_readNumber_111 : decode b_Tok_readNumber 111 = .ok (.iload_n 1, 1) := by decide +kernel
theorem d_Tok_readNumber_112 : decode b_Tok_readNumber 112 = .ok (.bipush 15, 2) := by decide +kernel
theorem d_Tok_readNumber_114 : decode b_Tok_readNumber 114 = .ok (.if_icmp .le 9, 3) := by decide +kernel
theorem d_Tok_readNumber_117 : decode b_Tok_readNumber 117 = .ok (.sipush 257, 3) := by decide +kernel
theorem d_Tok_readNumber_120 : decode b_Tok_readNumber 120 = .ok (.goto 6, 3) := by decide +kernel
theorem d_Tok_readNumber_123 : decode b_Tok_readNumber 123 = .ok (.sipush 258, 3) := by decide +kernel
theorem d_Tok_readNumber_126 : decode b_Tok_readNumber 126 = .ok (.iload_n 1, 1) := by decide +kernel
theorem d_Tok_readNumber_127 : decode b_Tok_readNumber 127 = .ok (.invokevirtual 47, 3) := by decide +kernel
theorem d_Tok_readNumber_130 : decode b_Tok_readNumber 130 = .ok (.return_, 1) := by decide +kernel
theorem d_Tok_readToken_0 : decode b_Tok_readToken 0 = .ok (.aload_n 0, 1) := by decide +kernel
theorem d_Tok_readToken_1 : decode b_Tok_readToken 1 = .ok (.aload_n 0, 1) := by decide +kernel
theorem d_Tok_readToken_2 : decode b_Tok_readToken 2 = .ok (.getfield 30, 3) := by decide +kernel
theorem d_Tok_readToken_5 : decode b_Tok_readToken 5 = .ok (.putfield 27, 3) := by decide +kernel
theorem d_Tok_readToken_8 : decode b_Tok_readToken 8 = .ok (.aload_n 0, 1) := by decide +kernel
theorem d_Tok_readToken_9 : decode b_Tok_readToken 9 = .ok (.getfield 33, 3) := by decide +kernel
theorem d_Tok_readToken_12 : decode b_Tok_readToken 12 = .ok (.aload_n 0, 1) := by decide +kernel
theorem d_Tok_readToken_13 : decode b_Tok_readToken 13 = .ok (.getfield 27, 3) := by decide +kernel
theorem d_Tok_readToken_16 : decode b_Tok_readToken 16 = .ok (.invokevirtual 51, 3) := by decide +kernel
theorem d_Tok_readToken_19 : decode b_Tok_readToken 19 = .ok (.istore_n 1, 1) := by decide +kernel
theorem d_Tok_readToken_20 : decode b_Tok_readToken 20 = .ok (.iload_n 1, 1) := by decide +kernel
theorem d_Tok_readToken_21 : decode b_Tok_readToken 21 = .ok (.invokestatic 59, 3) := by decide +kernel
theorem d_Tok_readToken_24 : decode b_Tok_readToken 24 = .ok (.ifCond .eq 10, 3) := by decide +kernel
theorem d_Tok_readToken_27 : decode b_Tok_readToken 27 = .ok (.aload_n 0, 1) := by decide +kernel
theorem d_Tok_readToken_28 : decode b_Tok_readToken 28 = .ok (.invokevirtual 62, 3) := by decide +kernel
theorem d_Tok_readToken_31 : decode b_Tok_readToken 31 = .ok (.goto 49, 3) := by decide +kernel
theorem d_Tok_readToken_34 : decode b_Tok_readToken 34 = .ok (.iload_n 1, 1) := by decide +kernel
theorem d_Tok_readToken_35 : decode b_Tok_readToken 35 = .ok (.invokestatic 65, 3) := by decide +kernel
theorem d_Tok_readToken_38 : decode b_Tok_readToken 38 = .ok (.ifCond .eq 10, 3) := by decide +kernel
theorem d_Tok_readToken_41 : decode b_Tok_readToken 41 = .ok (.aload_n 0, 1) := by decide +kernel
theorem d_Tok_readToken_42 : decode b_Tok_readToken 42 = .ok (.invokevirtual 68, 3) := by decide +kernel
theorem d_Tok_readToken_45 : decode b_Tok_readToken 45 = .ok (.goto 35, 3) := by decide +kernel
theorem d_Tok_readToken_48 : decode b_Tok_readToken 48 = .ok (.aload_n 0, 1) := by decide +kernel
theorem d_Tok_readToken_49 : decode b_Tok_readToken 49 = .ok (.dup, 1) := by decide +kernel
theorem d_Tok_readToken_50 : decode b_Tok_readToken 50 = .ok (.getfield 30, 3) := by decide +kernel
theorem d_Tok_readToken_53 : decode b_Tok_readToken 53 = .ok (.iconst 1, 1) := by decide +kernel
theorem d_Tok_readToken_54 : decode b_Tok_readToken 54 = .ok (.iadd, 1) := by decide +kernel
theorem d_Tok_readToken_55 : decode b_Tok_readToken 55 = .ok (.putfield 30, 3) := by decide +kernel
theorem d_Tok_readToken_58 : decode b_Tok_readToken 58 = .ok (.aload_n 0, 1) := by decide +kernel
theorem d_Tok_readToken_59 : decode b_Tok_readToken 59 = .ok (.ldc 71, 2) := by decide +kernel
theorem d_Tok_readToken_61 : decode b_Tok_readToken 61 = .ok (.iload_n 1, 1) := by decide +kernel
theorem d_Tok_readToken_62 : decode b_Tok_readToken 62 = .ok (.i2c, 1) := by decide +kernel
theorem d_Tok_readToken_63 : decode b_Tok_readToken 63 = .ok (.invokevirtual 73, 3) := by decide +kernel
theorem d_Tok_readToken_66 : decode b_Tok_readToken 66 = .ok (.ifCond .lt 7, 3) := by decide +kernel
theorem d_Tok_readToken_69 : decode b_Tok_readToken 69 = .ok (.iload_n 1, 1) := by decide +kernel
theorem d_Tok_readToken_70 : decode b_Tok_readToken 70 = .ok (.goto 6, 3) := by decide +kernel
theorem d_Tok_readToken_73 : decode b_Tok_readToken 73 = .ok (.sipush 257, 3) := by decide +kernel
theorem d_Tok_readToken_76 : decode b_Tok_readToken 76 = .ok (.iconst 0, 1) := by decide +kernel
theorem d_Tok_readToken_77 : decode b_Tok_readToken 77 = .ok (.invokevirtual 47, 3) := by decide +kernel
theorem d_Tok_readToken_80 : decode b_Tok_readToken 80 = .ok (.return_, 1) := by decide +kernel
theorem d_Tok_readAll_0 : decode b_Tok_readAll 0 = .ok (.aload_n 0, 1) := by decide +kernel
theorem d_Tok_readAll_1 : decode b_Tok_readAll 1 = .ok (.iconst 0, 1) := by decide +kernel
theorem d_Tok_readAll_2 : decode b_Tok_readAll 2 = .ok (.putfield 23, 3) := by decide +kernel
theorem d_Tok_readAll_5 : decode b_Tok_readAll 5 = .ok (.aload_n 0, 1) := by decide +kernel
theorem d_Tok_readAll_6 : decode b_Tok_readAll 6 = .ok (.iconst 0, 1) := by decide +kernel
theorem d_Tok_readAll_7 : decode b_Tok_readAll 7 = .ok (.putfield 30, 3) := by decide +kernel
theorem d_Tok_readAll_10 : decode b_Tok_readAll 10 = .ok (.aload_n 0, 1) := by decide +kernel
theorem d_Tok_readAll_11 : decode b_Tok_readAll 11 = .ok (.invokevirtual 37, 3) := by decide +kernel
theorem d_Tok_readAll_14 : decode b_Tok_readAll 14 = .ok (.iconst 0, 1) := by decide +kernel
theorem d_Tok_readAll_15 : decode b_Tok_readAll 15 = .ok (.istore_n 1, 1) := by decide +kernel
theorem d_Tok_readAll_16 : decode b_Tok_readAll 16 = .ok (.iload_n 1, 1) := by decide +kernel
theorem d_Tok_readAll_17 : decode b_Tok_readAll 17 = .ok (.sipush 1200, 3) := by decide +kernel
theorem d_Tok_readAll_20 : decode b_Tok_readAll 20 = .ok (.if_icmp .ge 31, 3) := by decide +kernel
theorem d_Tok_readAll_23 : decode b_Tok_readAll 23 = .ok (.aload_n 0, 1) := by decide +kernel
theorem d_Tok_readAll_24 : decode b_Tok_readAll 24 = .ok (.getfield 30, 3) := by decide +kernel
theorem d_Tok_readAll_27 : decode b_Tok_readAll 27 = .ok (.aload_n 0, 1) := by decide +kernel
theorem d_Tok_readAll_28 : decode b_Tok_readAll 28 = .ok (.getfield 33, 3) := by decide +kernel
theorem d_Tok_readAll_31 : decode b_Tok_readAll 31 = .ok (.invokevirtual 40, 3) := by decide +kernel
theorem d_Tok_readAll_34 : decode b_Tok_readAll 34 = .ok (.if_icmp .ge 17, 3) := by decide +kernel
theorem d_Tok_readAll_37 : decode b_Tok_readAll 37 = .ok (.aload_n 0, 1) := by decide +kernel
theorem d_Tok_readAll_38 : decode b_Tok_readAll 38 = .ok (.invokevirtual 44, 3) := by decide +kernel
theorem d_Tok_readAll_41 : decode b_Tok_readAll 41 = .ok (.aload_n 0, 1) := by decide +kernel
theorem d_Tok_readAll_42 : decode b_Tok_readAll 42 = .ok (.invokevirtual 37, 3) := by decide +kernel
theorem d_Tok_readAll_45 : decode b_Tok_readAll 45 = .ok (.iinc 1 1, 3) := by decide +kernel
theorem d_Tok_readAll_48 : decode b_Tok_readAll 48 = .ok (.goto (-32), 3) := by decide +kernel
theorem d_Tok_readAll_51 : decode b_Tok_readAll 51 = .ok (.aload_n 0, 1) := by decide +kernel
theorem d_Tok_readAll_52 : decode b_Tok_readAll 52 = .ok (.aload_n 0, 1) := by decide +kernel
theorem d_Tok_readAll_53 : decode b_Tok_readAll 53 = .ok (.getfield 30, 3) := by decide +kernel
theorem d_Tok_readAll_56 : decode b_Tok_readAll 56 = .ok (.putfield 27, 3) := by decide +kernel
theorem d_Tok_readAll_59 : decode b_Tok_readAll 59 = .ok (.aload_n 0, 1) := by decide +kernel
theorem d_Tok_readAll_60 : decode b_Tok_readAll 60 = .ok (.sipush 256, 3) := by decide +kernel
theorem d_Tok_readAll_63 : decode b_Tok_readAll 63 = .ok (.iconst 0, 1) := by decide +kernel
theorem d_Tok_readAll_64 : decode b_Tok_readAll 64 = .ok (.invokevirtual 47, 3) := by decide +kernel
theorem d_Tok_readAll_67 : decode b_Tok_readAll 67 = .ok (.return_, 1) := by decide +kernel
theorem d_Tok_kindAt_0 : decode b_Tok_kindAt 0 = .ok (.iload_n 1, 1) := by decide +kernel
theorem d_Tok_kindAt_1 : decode b_Tok_kindAt 1 = .ok (.ifCond .lt 29, 3) := by decide +kernel
theorem d_Tok_kindAt_4 : decode b_Tok_kindAt 4 = .ok (.iload_n 1, 1) := by decide +kernel
theorem d_Tok_kindAt_5 : decode b_Tok_kindAt 5 = .ok (.aload_n 0, 1) := by decide +kernel
theorem d_Tok_kindAt_6 : decode b_Tok_kindAt 6 = .ok (.getfield 23, 3) := by decide +kernel
theorem d_Tok_kindAt_9 : decode b_Tok_kindAt 9 = .ok (.if_icmp .ge 21, 3) := by decide +kernel
theorem d_Tok_kindAt_12 : decode b_Tok_kindAt 12 = .ok (.iload_n 1, 1) := by decide +kernel
theorem d_Tok_kindAt_13 : decode b_Tok_kindAt 13 = .ok (.aload_n 0, 1) := by decide +kernel
theorem d_Tok_kindAt_14 : decode b_Tok_kindAt 14 = .ok (.getfield 11, 3) := by decide +kernel
theorem d_Tok_kindAt_17 : decode b_Tok_kindAt 17 = .ok (.arraylength, 1) := by decide +kernel
theorem d_Tok_kindAt_18 : decode b_Tok_kindAt 18 = .ok (.if_icmp .ge 12, 3) := by decide +kernel
theorem d_Tok_kindAt_21 : decode b_Tok_kindAt 21 = .ok (.aload_n 0, 1) := by decide +kernel
theorem d_Tok_kindAt_22 : decode b_Tok_kindAt 22 = .ok (.getfield 11, 3) := by decide +kernel
theorem d_Tok_kindAt_25 : decode b_Tok_kindAt 25 = .ok (.iload_n 1, 1) := by decide +kernel
theorem d_Tok_kindAt_26 : decode b_Tok_kindAt 26 = .ok (.iaload, 1) := by decide +kernel
theorem d_Tok_kindAt_27 : decode b_Tok_kindAt 27 = .ok (.goto 6, 3) := by decide +kernel
theorem d_Tok_kindAt_30 : decode b_Tok_kindAt 30 = .ok (.sipush 256, 3) := by decide +kernel
theorem d_Tok_kindAt_33 : decode b_Tok_kindAt 33 = .ok (.ireturn, 1) := by decide +kernel
theorem d_Tok_valueAt_0 : decode b_Tok_valueAt 0 = .ok (.iload_n 1, 1) := by decide +kernel
theorem d_Tok_valueAt_1 : decode b_Tok_valueAt 1 = .ok (.ifCond .lt 29, 3) := by decide +kernel
theorem d_Tok_valueAt_4 : decode b_Tok_valueAt 4 = .ok (.iload_n 1, 1) := by decide +kernel
theorem d_Tok_valueAt_5 : decode b_Tok_valueAt 5 = .ok (.aload_n 0, 1) := by decide +kernel
theorem d_Tok_valueAt_6 : decode b_Tok_valueAt 6 = .ok (.getfield 23, 3) := by decide +kernel
theorem d_Tok_valueAt_9 : decode b_Tok_valueAt 9 = .ok (.if_icmp .ge 21, 3) := by decide +kernel
theorem d_Tok_valueAt_12 : decode b_Tok_valueAt 12 = .ok (.iload_n 1, 1) := by decide +kernel
theorem d_Tok_valueAt_13 : decode b_Tok_valueAt 13 = .ok (.aload_n 0, 1) := by decide +kernel
theorem d_Tok_valueAt_14 : decode b_Tok_valueAt 14 = .ok (.getfield 17, 3) := by decide +kernel
theorem d_Tok_valueAt_17 : decode b_Tok_valueAt 17 = .ok (.arraylength, 1) := by decide +kernel
theorem d_Tok_valueAt_18 : decode b_Tok_valueAt 18 = .ok (.if_icmp .ge 12, 3) := by decide +kernel
theorem d_Tok_valueAt_21 : decode b_Tok_valueAt 21 = .ok (.aload_n 0, 1) := by decide +kernel
theorem d_Tok_valueAt_22 : decode b_Tok_valueAt 22 = .ok (.getfield 17, 3) := by decide +kernel
theorem d_Tok_valueAt_25 : decode b_Tok_valueAt 25 = .ok (.iload_n 1, 1) := by decide +kernel
theorem d_Tok_valueAt_26 : decode b_Tok_valueAt 26 = .ok (.iaload, 1) := by decide +kernel
theorem d_Tok_valueAt_27 : decode b_Tok_valueAt 27 = .ok (.goto 4, 3) := by decide +kernel
theorem d_Tok_valueAt_30 : decode b_Tok_valueAt 30 = .ok (.iconst 0, 1) := by decide +kernel
theorem d_Tok_valueAt_31 : decode b_Tok_valueAt 31 = .ok (.ireturn, 1) := by decide +kernel
theorem d_Tok_placeAt_0 : decode b_Tok_placeAt 0 = .ok (.iload_n 1, 1) := by decide +kernel
theorem d_Tok_placeAt_1 : decode b_Tok_placeAt 1 = .ok (.ifCond .lt 29, 3) := by decide +kernel
theorem d_Tok_placeAt_4 : decode b_Tok_placeAt 4 = .ok (.iload_n 1, 1) := by decide +kernel
theorem d_Tok_placeAt_5 : decode b_Tok_placeAt 5 = .ok (.aload_n 0, 1) := by decide +kernel
theorem d_Tok_placeAt_6 : decode b_Tok_placeAt 6 = .ok (.getfield 23, 3) := by decide +kernel
theorem d_Tok_placeAt_9 : decode b_Tok_placeAt 9 = .ok (.if_icmp .ge 21, 3) := by decide +kernel
theorem d_Tok_placeAt_12 : decode b_Tok_placeAt 12 = .ok (.iload_n 1, 1) := by decide +kernel
theorem d_Tok_placeAt_13 : decode b_Tok_placeAt 13 = .ok (.aload_n 0, 1) := by decide +kernel
theorem d_Tok_placeAt_14 : decode b_Tok_placeAt 14 = .ok (.getfield 20, 3) := by decide +kernel
theorem d_Tok_placeAt_17 : decode b_Tok_placeAt 17 = .ok (.arraylength, 1) := by decide +kernel
theorem d_Tok_placeAt_18 : decode b_Tok_placeAt 18 = .ok (.if_icmp .ge 12, 3) := by decide +kernel
theorem d_Tok_placeAt_21 : decode b_Tok_placeAt 21 = .ok (.aload_n 0, 1) := by decide +kernel
theorem d_Tok_placeAt_22 : decode b_Tok_placeAt 22 = .ok (.getfield 20, 3) := by decide +kernel
theorem d_Tok_placeAt_25 : decode b_Tok_placeAt 25 = .ok (.iload_n 1, 1) := by decide +kernel
theorem d_Tok_placeAt_26 : decode b_Tok_placeAt 26 = .ok (.iaload, 1) := by decide +kernel
theorem d_Tok_placeAt_27 : decode b_Tok_placeAt 27 = .ok (.goto 4, 3) := by decide +kernel
theorem d_Tok_placeAt_30 : decode b_Tok_placeAt 30 = .ok (.iconst 0, 1) := by decide +kernel
theorem d_Tok_placeAt_31 : decode b_Tok_placeAt 31 = .ok (.ireturn, 1) := by decide +kernel
set_option maxHeartbeats 4000000 in
set_option maxRecDepth 100000 in
theorem c_Tok_isBlank (l : Launch) (dC : Nat → ClassId) (dI : Nat → Nat → Nat) (cI cB cZ : ClassId) (adK adV : Nat → Nat) (sz : Nat) (x0 : Int32) (post : Int32 → Prop) (h : wp_Tok_isBlank x0 post) : Met l y_Tok_isBlank w_Tok_isBlank ({ frames := 0, cells := 0, slots := 0, locals := 0 }) (pc_ (dC, dI) [(cI, .int), (cB, .byte), (cZ, .boolean)] [] sz adK adV [.int x0]) (va_Qi (fun (r : Int32) (u : Unit) => post r ) (fun (u : Unit) t => bw_ (dC, dI) [(cI, .int), (cB, .byte), (cZ, .boolean)] (va_A [] sz) [] t) (va_A [] sz)) 0 0 (va_A [] sz) := by
  refine Met.ofW (cc := b_Tok_isBlank) (maxL := 1) (ret := (some .boolean)) (by decide) rfl ?_
  intro p e s m args below meth c s₁ B hml hv
  obtain ⟨rfl, hsz, hP, hK, hD0, hN, hT⟩ := hv
  have hx := B.exec
  have hb := B.bytes
  have hr := B.returns
  have hts := atoms_spec (ws := w_Tok_isBlank) B.pre
  have hown : s.vm.findClass "LoopInduction$Tokens" = some m.cls := findClass_of_methodNamed B.named
  have hlocks := B.notSynchronized
  subst hsz
  have hD := hD0.self (sz := s.heap.size)
  generalize hAe : va_A [] s.heap.size = A at hD hT ⊢
  have hA : ∀ q : Nat, s.heap.size ≤ q → A q := fun q h => by rw [← hAe]; exact Or.inr h
  have hS : va_S A s.heap s.heap [] := va_S.rf
  generalize hQ : MQ below _ _ s 0 0 _ = QQ
  have hl := lv_entry ([.int x0]) (n := 1) (Nat.le_of_ble_eq_true rfl)
  rw [lg_entry_eq]
  generalize (lg_sl ([.int x0]) ++ List.replicate (1 - (lg_sl ([.int x0])).length) Slot.unset).toArray = ls at hl ⊢
  have hl : lv_has ls 1 [(0, .int x0)] := hl
  refine lv_iload_n hx hb d_Tok_isBlank_0 rfl (lv_at hl 0 rfl) ?_
  refine lv_bipush (v := 32) hx hb d_Tok_isBlank_1 (by decide) ?_
  refine lv_icmp_eq (tgt := 12) hx hb d_Tok_isBlank_3 (by decide) (fun c_3 => ?_) (fun c_3 => ?_)
  · have h := And.left h c_3
    refine lv_iconst (v := 1) hx hb d_Tok_isBlank_12 (by decide) ?_
    refine lv_goto (tgt := 17) hx hb d_Tok_isBlank_13 (by decide) ?_
    rw [← hQ]
    have hP9 := hP
    have hD9 := hD
    exact W.zret (v := 1) hx hb hr rfl (fun t ht hW => ⟨⟨1, (), rfl, h, by rw [ht]; exact hP9, va_K.moved hW.alike hK, hD9⟩, hS.F ht⟩) hS.2.2 d_Tok_isBlank_17
  · have h := And.right h c_3
    refine lv_iload_n hx hb d_Tok_isBlank_6 rfl (lv_at hl 0 rfl) ?_
    refine lv_bipush (v := 10) hx hb d_Tok_isBlank_7 (by decide) ?_
    refine lv_icmp_ne (tgt := 16) hx hb d_Tok_isBlank_9 (by decide) (fun c_9 => ?_) (fun c_9 => ?_)
    · have h := And.left h c_9
      refine lv_iconst (v := 0) hx hb d_Tok_isBlank_16 (by decide) ?_
      rw [← hQ]
      have hP9 := hP
      have hD9 := hD
      exact W.zret (v := 0) hx hb hr rfl (fun t ht hW => ⟨⟨0, (), rfl, h, by rw [ht]; exact hP9, va_K.moved hW.alike hK, hD9⟩, hS.F ht⟩) hS.2.2 d_Tok_isBlank_17
    · have h := And.right h c_9
      refine lv_iconst (v := 1) hx hb d_Tok_isBlank_12 (by decide) ?_
      refine lv_goto (tgt := 17) hx hb d_Tok_isBlank_13 (by decide) ?_
      rw [← hQ]
      have hP9 := hP
      have hD9 := hD
      exact W.zret (v := 1) hx hb hr rfl (fun t ht hW => ⟨⟨1, (), rfl, h, by rw [ht]; exact hP9, va_K.moved hW.alike hK, hD9⟩, hS.F ht⟩) hS.2.2 d_Tok_isBlank_17
set_option maxHeartbeats 4000000 in
set_option maxRecDepth 100000 in
theorem c_Tok_skipBlanks (l : Launch) (dC : Nat → ClassId) (dI : Nat → Nat → Nat) (cI cB cZ : ClassId) (adK adV : Nat → Nat) (sz : Nat) (a_tp a_tp_bytes a_tk a_tk_kinds a_tk_values a_tk_places : Nat) (tp_size : Int32) (tp_bytes : Nat → Int32) (tk_count : Int32) (tk_start : Int32) (tk_stop : Int32) (post : Int32 → Prop) (h : wp_Tok_skipBlanks tp_size tp_bytes tk_stop post) : Met l y_Tok_skipBlanks w_Tok_skipBlanks ({ frames := 1, cells := 0, slots := 0, locals := 21 }) (pc_ (dC, dI) [(cI, .int), (cB, .byte), (cZ, .boolean)] [(a_tp, .inr (8, [.ref a_tp_bytes, .int tp_size])), (a_tp_bytes, .inl (cB, 1200, .inl tp_bytes)), (a_tk, .inr (9, [.ref a_tp, .ref a_tk_kinds, .ref a_tk_values, .ref a_tk_places, .int tk_count, .int tk_start, .int tk_stop]))] sz adK adV [.ref a_tk]) (va_Qv (fun (u : Int32) => post u) (fun (u : Int32) t => bw_ (dC, dI) [(cI, .int), (cB, .byte), (cZ, .boolean)] (va_A [(a_tp, .inr (8, [.ref a_tp_bytes, .int tp_size])), (a_tp_bytes, .inl (cB, 1200, .inl tp_bytes)), (a_tk, .inr (9, [.ref a_tp, .ref a_tk_kinds, .ref a_tk_values, .ref a_tk_places, .int tk_count, .int tk_start, .int tk_stop]))] sz) [(a_tp, .inr (8, [.ref a_tp_bytes, .int tp_size])), (a_tp_bytes, .inl (cB, 1200, .inl tp_bytes)), (a_tk, .inr (9, [.ref a_tp, .ref a_tk_kinds, .ref a_tk_values, .ref a_tk_places, .int tk_count, .int tk_start, .int u]))] t) (va_A [(a_tp, .inr (8, [.ref a_tp_bytes, .int tp_size])), (a_tp_bytes, .inl (cB, 1200, .inl tp_bytes)), (a_tk, .inr (9, [.ref a_tp, .ref a_tk_kinds, .ref a_tk_values, .ref a_tk_places, .int tk_count, .int tk_start, .int tk_stop]))] sz)) 0 0 (va_A [(a_tp, .inr (8, [.ref a_tp_bytes, .int tp_size])), (a_tp_bytes, .inl (cB, 1200, .inl tp_bytes)), (a_tk, .inr (9, [.ref a_tp, .ref a_tk_kinds, .ref a_tk_values, .ref a_tk_places, .int tk_count, .int tk_start, .int tk_stop]))] sz) := by
  refine Met.ofW (cc := b_Tok_skipBlanks) (maxL := 1) (ret := none) (by decide) rfl ?_
  intro p e s m args below meth c s₁ B hml hv
  obtain ⟨rfl, hsz, hP, hK, hD0, hN, hT⟩ := hv
  have hx := B.exec
  have hb := B.bytes
  have hr := B.returns
  have hts := atoms_spec (ws := w_Tok_skipBlanks) B.pre
  have hown : s.vm.findClass "LoopInduction$Tokens" = some m.cls := findClass_of_methodNamed B.named
  have hlocks := B.notSynchronized
  subst hsz
  have hD := hD0.self (sz := s.heap.size)
  generalize hAe : va_A [(a_tp, .inr (8, [.ref a_tp_bytes, .int tp_size])), (a_tp_bytes, .inl (cB, 1200, .inl tp_bytes)), (a_tk, .inr (9, [.ref a_tp, .ref a_tk_kinds, .ref a_tk_values, .ref a_tk_places, .int tk_count, .int tk_start, .int tk_stop]))] s.heap.size = A at hD hT ⊢
  have hA : ∀ q : Nat, s.heap.size ≤ q → A q := fun q h => by rw [← hAe]; exact Or.inr h
  have hS : va_S A s.heap s.heap [] := va_S.rf
  generalize hQ : MQ below _ _ s 0 0 _ = QQ
  have hl := lv_entry ([.ref a_tk]) (n := 1) (Nat.le_of_ble_eq_true rfl)
  rw [lg_entry_eq]
  generalize (lg_sl ([.ref a_tk]) ++ List.replicate (1 - (lg_sl ([.ref a_tk])).length) Slot.unset).toArray = ls at hl ⊢
  have hl : lv_has ls 1 [(0, .ref a_tk)] := hl
  have fl_30 := (hts _ (List.mem_cons_of_mem _ m_139))
  have fl_33 := (hts _ (List.mem_cons_of_mem _ m_133))
  have L0_q_2 : ∀ (k44 : (Int32) → Prop) (hk44 : ∀ (tk_stop_3 : Int32), k44 tk_stop_3 → ∀ (H : Heap) (locs : List Loc), va_P (dC, dI) vwCl [(a_tp, .inr (8, [.ref a_tp_bytes, .int tp_size])), (a_tp_bytes, .inl (cB, 1200, .inl tp_bytes)), (a_tk, .inr (9, [.ref a_tp, .ref a_tk_kinds, .ref a_tk_values, .ref a_tk_places, .int tk_count, .int tk_start, .int tk_stop_3]))] H → va_D A [(a_tp, .inr (8, [.ref a_tp_bytes, .int tp_size])), (a_tp_bytes, .inl (cB, 1200, .inl tp_bytes)), (a_tk, .inr (9, [.ref a_tp, .ref a_tk_kinds, .ref a_tk_values, .ref a_tk_places, .int tk_count, .int tk_start, .int tk_stop_3]))] → va_S A s.heap H locs → ∀ ls : Array Slot, lv_has ls 1 [] → W p l e (headSpec w_Tok_skipBlanks ({ frames := 1, cells := 0, slots := 0, locals := 21 })).room s m (([.ref a_tk] : List Value).toArray) below meth c H locs 0 0 QQ (F0 m 44 ls [])) (n : Nat) (tk_stop_1 : Int32), wp_Tok_skipBlanks_L0 tp_size tp_bytes k44 n tk_stop_1 → ∀ (H : Heap) (locs : List Loc), va_P (dC, dI) vwCl [(a_tp, .inr (8, [.ref a_tp_bytes, .int tp_size])), (a_tp_bytes, .inl (cB, 1200, .inl tp_bytes)), (a_tk, .inr (9, [.ref a_tp, .ref a_tk_kinds, .ref a_tk_values, .ref a_tk_places, .int tk_count, .int tk_start, .int tk_stop_1]))] H → va_D A [(a_tp, .inr (8, [.ref a_tp_bytes, .int tp_size])), (a_tp_bytes, .inl (cB, 1200, .inl tp_bytes)), (a_tk, .inr (9, [.ref a_tp, .ref a_tk_kinds, .ref a_tk_values, .ref a_tk_places, .int tk_count, .int tk_start, .int tk_stop_1]))] → va_S A s.heap H locs → ∀ ls : Array Slot, lv_has ls 1 [(0, .ref a_tk)] → W p l e (headSpec w_Tok_skipBlanks ({ frames := 1, cells := 0, slots := 0, locals := 21 })).room s m (([.ref a_tk] : List Value).toArray) below meth c H locs 0 0 QQ (F0 m 0 ls []) := by
    intro k44 hk44 n
    induction n with
    | zero => intro tk_stop_1 h; exact (show False from h).elim
    | succ n il =>
      intro tk_stop_1 h
      intro H locs hP hD hS ls hl
      refine lv_aload_n hx hb d_Tok_skipBlanks_0 rfl (lv_at hl 0 rfl) ?_
      refine va_get (D := (dC, dI)) (ci := 9) (v := .int tk_stop_1) (C := "LoopInduction$Tokens") (T := F_Tok) (N := 7) hx hb hts iC_Tok hown hK hP 2 rfl rfl 6 (by decide) fl_30 (fun _ h9 => h9) rfl d_Tok_skipBlanks_1 ?_
      refine lv_aload_n hx hb d_Tok_skipBlanks_4 rfl (lv_at hl 0 rfl) ?_
      refine va_get (D := (dC, dI)) (ci := 9) (v := .ref a_tp) (C := "LoopInduction$Tokens") (T := F_Tok) (N := 7) hx hb hts iC_Tok hown hK hP 2 rfl rfl 0 (by decide) fl_33 (fun _ h9 => h9) rfl d_Tok_skipBlanks_5 ?_
      refine jn_i (wr := [(a_tp_bytes, .inl (cB, 1200, .inl tp_bytes)), (a_tk, .inr (9, [.ref a_tp, .ref a_tk_kinds, .ref a_tk_values, .ref a_tk_places, .int tk_count, .int tk_start, .int tk_stop_1]))]) (va_runV (As := []) (rest := [.int tk_stop_1]) ⟨hx, hb, hml, hown, hts⟩ (c_Tape_size l dC dI cI cB cZ adK adV _ a_tp a_tp_bytes tp_size _ h) (cwV 0 hts (gv_ m_438 m_415 m_416 m_86 m_417) rfl rfl rfl pd_Tape_size ⟨Nat.le_of_ble_eq_true rfl, Nat.le_of_ble_eq_true rfl⟩) ⟨pc_blind, va_recv hK hP (ci := 8) (q0 := 0) rfl rfl, pc_of (hP.sub [0] rfl) hK (hD.sub [0] (by decide) rfl) hN hT hS hA⟩ rfl rfl hl.1 rfl (lv_room (Nat.le_of_ble_eq_true rfl)) d_Tok_skipBlanks_8 ⟨Nat.zero_le _, Nat.zero_le _⟩) hP hD hS hA [0] [1, 2] rfl rfl (by decide) (by decide) (fun r_4 u_ H locs h hP hD hS => ?_)
      have hP : va_P (dC, dI) vwCl [(a_tp_bytes, .inl (cB, 1200, .inl tp_bytes)), (a_tk, .inr (9, [.ref a_tp, .ref a_tk_kinds, .ref a_tk_values, .ref a_tk_places, .int tk_count, .int tk_start, .int tk_stop_1])), (a_tp, .inr (8, [.ref a_tp_bytes, .int tp_size]))] H := hP
      have hD : va_D A [(a_tp_bytes, .inl (cB, 1200, .inl tp_bytes)), (a_tk, .inr (9, [.ref a_tp, .ref a_tk_kinds, .ref a_tk_values, .ref a_tk_places, .int tk_count, .int tk_start, .int tk_stop_1])), (a_tp, .inr (8, [.ref a_tp_bytes, .int tp_size]))] := hD
      refine lv_icmp_ge (tgt := 44) hx hb d_Tok_skipBlanks_11 (by decide) (fun c_11 => ?_) (fun c_11 => ?_)
      · have h := And.left h c_11
        exact hk44 _ h _ _ (hP.sub [2, 0, 1] rfl) (hD.sub [2, 0, 1] (by decide) rfl) hS _ (lv_sub hl [] rfl)
      · have h := And.right h c_11
        refine lv_aload_n hx hb d_Tok_skipBlanks_14 rfl (lv_at hl 0 rfl) ?_
        refine va_get (D := (dC, dI)) (ci := 9) (v := .ref a_tp) (C := "LoopInduction$Tokens") (T := F_Tok) (N := 7) hx hb hts iC_Tok hown hK hP 1 rfl rfl 0 (by decide) fl_33 (fun _ h9 => h9) rfl d_Tok_skipBlanks_15 ?_
        refine lv_aload_n hx hb d_Tok_skipBlanks_18 rfl (lv_at hl 0 rfl) ?_
        refine va_get (D := (dC, dI)) (ci := 9) (v := .int tk_stop_1) (C := "LoopInduction$Tokens") (T := F_Tok) (N := 7) hx hb hts iC_Tok hown hK hP 1 rfl rfl 6 (by decide) fl_30 (fun _ h9 => h9) rfl d_Tok_skipBlanks_19 ?_
        refine jn_i (wr := [(a_tk, .inr (9, [.ref a_tp, .ref a_tk_kinds, .ref a_tk_values, .ref a_tk_places, .int tk_count, .int tk_start, .int tk_stop_1]))]) (va_runV (As := [.int tk_stop_1]) (rest := []) ⟨hx, hb, hml, hown, hts⟩ (c_Tape_byteAt l dC dI cI cB cZ adK adV _ a_tp a_tp_bytes tp_size tp_bytes tk_stop_1 _ h) (cwV 1 hts (gv_ m_439 m_440 m_441 m_86 m_442) rfl rfl rfl pd_Tape_byteAt ⟨Nat.le_of_ble_eq_true rfl, Nat.le_of_ble_eq_true rfl⟩) ⟨pc_blind, va_recv hK hP (ci := 8) (q0 := 2) rfl rfl, pc_of (hP.sub [2, 0] rfl) hK (hD.sub [2, 0] (by decide) rfl) hN hT hS hA⟩ rfl rfl hl.1 rfl (lv_room (Nat.le_of_ble_eq_true rfl)) d_Tok_skipBlanks_22 ⟨Nat.zero_le _, Nat.zero_le _⟩) hP hD hS hA [2, 0] [1] rfl rfl (by decide) (by decide) (fun r_5 u_ H locs h hP hD hS => ?_)
        have hP : va_P (dC, dI) vwCl [(a_tk, .inr (9, [.ref a_tp, .ref a_tk_kinds, .ref a_tk_values, .ref a_tk_places, .int tk_count, .int tk_start, .int tk_stop_1])), (a_tp, .inr (8, [.ref a_tp_bytes, .int tp_size])), (a_tp_bytes, .inl (cB, 1200, .inl tp_bytes))] H := hP
        have hD : va_D A [(a_tk, .inr (9, [.ref a_tp, .ref a_tk_kinds, .ref a_tk_values, .ref a_tk_places, .int tk_count, .int tk_start, .int tk_stop_1])), (a_tp, .inr (8, [.ref a_tp_bytes, .int tp_size])), (a_tp_bytes, .inl (cB, 1200, .inl tp_bytes))] := hD
        refine jn_i (wr := [(a_tk, .inr (9, [.ref a_tp, .ref a_tk_kinds, .ref a_tk_values, .ref a_tk_places, .int tk_count, .int tk_start, .int tk_stop_1])), (a_tp, .inr (8, [.ref a_tp_bytes, .int tp_size])), (a_tp_bytes, .inl (cB, 1200, .inl tp_bytes))]) (va_runS (As := [.int r_5]) (rest := []) ⟨hx, hb, hml, hown, hts⟩ (c_Tok_isBlank l dC dI cI cB cZ adK adV _ r_5 _ h) (cwS 1 hts (gs_ m_443 m_444 m_87 m_445) rfl rfl rfl pd_Tok_isBlank ⟨Nat.le_of_ble_eq_true rfl, Nat.le_of_ble_eq_true rfl⟩) ⟨pc_blind, pc_of (hP.sub [] rfl) hK (hD.sub [] (by decide) rfl) hN hT hS hA⟩ rfl rfl hl.1 rfl (lv_room (Nat.le_of_ble_eq_true rfl)) d_Tok_skipBlanks_25 ⟨Nat.zero_le _, Nat.zero_le _⟩) hP hD hS hA [] [0, 1, 2] rfl rfl (by decide) (by decide) (fun r_6 u_ H locs h hP hD hS => ?_)
        have hP : va_P (dC, dI) vwCl [(a_tk, .inr (9, [.ref a_tp, .ref a_tk_kinds, .ref a_tk_values, .ref a_tk_places, .int tk_count, .int tk_start, .int tk_stop_1])), (a_tp, .inr (8, [.ref a_tp_bytes, .int tp_size])), (a_tp_bytes, .inl (cB, 1200, .inl tp_bytes))] H := hP
        have hD : va_D A [(a_tk, .inr (9, [.ref a_tp, .ref a_tk_kinds, .ref a_tk_values, .ref a_tk_places, .int tk_count, .int tk_start, .int tk_stop_1])), (a_tp, .inr (8, [.ref a_tp_bytes, .int tp_size])), (a_tp_bytes, .inl (cB, 1200, .inl tp_bytes))] := hD
        refine lv_if_eq (tgt := 44) hx hb d_Tok_skipBlanks_28 (by decide) (fun c_28 => ?_) (fun c_28 => ?_)
        · have h := And.left h c_28
          exact hk44 _ h _ _ (hP.sub [1, 2, 0] rfl) (hD.sub [1, 2, 0] (by decide) rfl) hS _ (lv_sub hl [] rfl)
        · have h := And.right h c_28
          refine lv_aload_n hx hb d_Tok_skipBlanks_31 rfl (lv_at hl 0 rfl) ?_
          refine lv_dup hx hb d_Tok_skipBlanks_32 rfl ?_
          refine va_get (D := (dC, dI)) (ci := 9) (v := .int tk_stop_1) (C := "LoopInduction$Tokens") (T := F_Tok) (N := 7) hx hb hts iC_Tok hown hK hP 0 rfl rfl 6 (by decide) fl_30 (fun _ h9 => h9) rfl d_Tok_skipBlanks_33 ?_
          refine lv_iconst (v := 1) hx hb d_Tok_skipBlanks_36 (by decide) ?_
          refine lv_iadd hx hb d_Tok_skipBlanks_37 ?_
          refine va_put (D := (dC, dI)) (ci := 9) (v := .int (tk_stop_1 + 1)) (ty := .int) (C := "LoopInduction$Tokens") (T := F_Tok) (N := 7) hx hb hts iC_Tok t_Tok t_Tok_ok n_Tok hown hK hP hD hS 0 rfl rfl 6 (by decide) fl_30 (fun _ h9 => h9) rfl (by decide +kernel) rfl rfl (Nat.le_of_ble_eq_true rfl) d_Tok_skipBlanks_38 (fun H locs hP hD hS => ?_)
          have hP : va_P (dC, dI) vwCl [(a_tk, .inr (9, [.ref a_tp, .ref a_tk_kinds, .ref a_tk_values, .ref a_tk_places, .int tk_count, .int tk_start, .int (tk_stop_1 + 1)])), (a_tp, .inr (8, [.ref a_tp_bytes, .int tp_size])), (a_tp_bytes, .inl (cB, 1200, .inl tp_bytes))] H := hP
          have hD : va_D A [(a_tk, .inr (9, [.ref a_tp, .ref a_tk_kinds, .ref a_tk_values, .ref a_tk_places, .int tk_count, .int tk_start, .int (tk_stop_1 + 1)])), (a_tp, .inr (8, [.ref a_tp_bytes, .int tp_size])), (a_tp_bytes, .inl (cB, 1200, .inl tp_bytes))] := hD
          refine lv_goto (tgt := 0) hx hb d_Tok_skipBlanks_41 (by decide) ?_
          exact il _ h _ _ (hP.sub [1, 2, 0] rfl) (hD.sub [1, 2, 0] (by decide) rfl) hS _ hl
  obtain ⟨n_, h⟩ := h
  refine L0_q_2 _ ?_ n_ _ h _ _ hP hD hS _ hl
  intro tk_stop_7 h
  intro H locs hP hD hS ls hl
  rw [← hQ]
  have hP9 := hP
  have hD9 := hD
  exact W.vret hx hb hr (fun t ht hW => ⟨⟨(tk_stop_7), rfl, h, by rw [ht]; exact hP9, va_K.moved hW.alike hK, hD9⟩, hS.F ht⟩) hS.2.2 d_Tok_skipBlanks_44
set_option maxHeartbeats 4000000 in
set_option maxRecDepth 100000 in
theorem c_Tok_isLetter (l : Launch) (dC : Nat → ClassId) (dI : Nat → Nat → Nat) (cI cB cZ : ClassId) (adK adV : Nat → Nat) (sz : Nat) (x0 : Int32) (post : Int32 → Prop) (h : wp_Tok_isLetter x0 post) : Met l y_Tok_isLetter w_Tok_isLetter ({ frames := 0, cells := 0, slots := 0, locals := 0 }) (pc_ (dC, dI) [(cI, .int), (cB, .byte), (cZ, .boolean)] [] sz adK adV [.int x0]) (va_Qi (fun (r : Int32) (u : Unit) => post r ) (fun (u : Unit) t => bw_ (dC, dI) [(cI, .int), (cB, .byte), (cZ, .boolean)] (va_A [] sz) [] t) (va_A [] sz)) 0 0 (va_A [] sz) := by
  refine Met.ofW (cc := b_Tok_isLetter) (maxL := 1) (ret := (some .boolean)) (by decide) rfl ?_
  intro p e s m args below meth c s₁ B hml hv
  obtain ⟨rfl, hsz, hP, hK, hD0, hN, hT⟩ := hv
  have hx := B.exec
  have hb := B.bytes
  have hr := B.returns
  have hts := atoms_spec (ws := w_Tok_isLetter) B.pre
  have hown : s.vm.findClass "LoopInduction$Tokens" = some m.cls := findClass_of_methodNamed B.named
  have hlocks := B.notSynchronized
  subst hsz
  have hD := hD0.self (sz := s.heap.size)
  generalize hAe : va_A [] s.heap.size = A at hD hT ⊢
  have hA : ∀ q : Nat, s.heap.size ≤ q → A q := fun q h => by rw [← hAe]; exact Or.inr h
  have hS : va_S A s.heap s.heap [] := va_S.rf
  generalize hQ : MQ below _ _ s 0 0 _ = QQ
  have hl := lv_entry ([.int x0]) (n := 1) (Nat.le_of_ble_eq_true rfl)
  rw [lg_entry_eq]
  generalize (lg_sl ([.int x0]) ++ List.replicate (1 - (lg_sl ([.int x0])).length) Slot.unset).toArray = ls at hl ⊢
  have hl : lv_has ls 1 [(0, .int x0)] := hl
  refine lv_iload_n hx hb d_Tok_isLetter_0 rfl (lv_at hl 0 rfl) ?_
  refine lv_bipush (v := 97) hx hb d_Tok_isLetter_1 (by decide) ?_
  refine lv_icmp_lt (tgt := 12) hx hb d_Tok_isLetter_3 (by decide) (fun c_3 => ?_) (fun c_3 => ?_)
  · have h := And.left h c_3
    refine lv_iload_n hx hb d_Tok_isLetter_12 rfl (lv_at hl 0 rfl) ?_
    refine lv_bipush (v := 65) hx hb d_Tok_isLetter_13 (by decide) ?_
    refine lv_icmp_lt (tgt := 28) hx hb d_Tok_isLetter_15 (by decide) (fun c_15 => ?_) (fun c_15 => ?_)
    · have h := And.left h c_15
      refine lv_iconst (v := 0) hx hb d_Tok_isLetter_28 (by decide) ?_
      rw [← hQ]
      have hP9 := hP
      have hD9 := hD
      exact W.zret (v := 0) hx hb hr rfl (fun t ht hW => ⟨⟨0, (), rfl, h, by rw [ht]; exact hP9, va_K.moved hW.alike hK, hD9⟩, hS.F ht⟩) hS.2.2 d_Tok_isLetter_29
    · have h := And.right h c_15
      refine lv_iload_n hx hb d_Tok_isLetter_18 rfl (lv_at hl 0 rfl) ?_
      refine lv_bipush (v := 90) hx hb d_Tok_isLetter_19 (by decide) ?_
      refine lv_icmp_gt (tgt := 28) hx hb d_Tok_isLetter_21 (by decide) (fun c_21 => ?_) (fun c_21 => ?_)
      · have h := And.left h c_21
        refine lv_iconst (v := 0) hx hb d_Tok_isLetter_28 (by decide) ?_
        rw [← hQ]
        have hP9 := hP
        have hD9 := hD
        exact W.zret (v := 0) hx hb hr rfl (fun t ht hW => ⟨⟨0, (), rfl, h, by rw [ht]; exact hP9, va_K.moved hW.alike hK, hD9⟩, hS.F ht⟩) hS.2.2 d_Tok_isLetter_29
      · have h := And.right h c_21
        refine lv_iconst (v := 1) hx hb d_Tok_isLetter_24 (by decide) ?_
        refine lv_goto (tgt := 29) hx hb d_Tok_isLetter_25 (by decide) ?_
        rw [← hQ]
        have hP9 := hP
        have hD9 := hD
        exact W.zret (v := 1) hx hb hr rfl (fun t ht hW => ⟨⟨1, (), rfl, h, by rw [ht]; exact hP9, va_K.moved hW.alike hK, hD9⟩, hS.F ht⟩) hS.2.2 d_Tok_isLetter_29
  · have h := And.right h c_3
    refine lv_iload_n hx hb d_Tok_isLetter_6 rfl (lv_at hl 0 rfl) ?_
    refine lv_bipush (v := 122) hx hb d_Tok_isLetter_7 (by decide) ?_
    refine lv_icmp_le (tgt := 24) hx hb d_Tok_isLetter_9 (by decide) (fun c_9 => ?_) (fun c_9 => ?_)
    · have h := And.left h c_9
      refine lv_iconst (v := 1) hx hb d_Tok_isLetter_24 (by decide) ?_
      refine lv_goto (tgt := 29) hx hb d_Tok_isLetter_25 (by decide) ?_
      rw [← hQ]
      have hP9 := hP
      have hD9 := hD
      exact W.zret (v := 1) hx hb hr rfl (fun t ht hW => ⟨⟨1, (), rfl, h, by rw [ht]; exact hP9, va_K.moved hW.alike hK, hD9⟩, hS.F ht⟩) hS.2.2 d_Tok_isLetter_29
    · have h := And.right h c_9
      refine lv_iload_n hx hb d_Tok_isLetter_12 rfl (lv_at hl 0 rfl) ?_
      refine lv_bipush (v := 65) hx hb d_Tok_isLetter_13 (by decide) ?_
      refine lv_icmp_lt (tgt := 28) hx hb d_Tok_isLetter_15 (by decide) (fun c_15 => ?_) (fun c_15 => ?_)
      · have h := And.left h c_15
        refine lv_iconst (v := 0) hx hb d_Tok_isLetter_28 (by decide) ?_
        rw [← hQ]
        have hP9 := hP
        have hD9 := hD
        exact W.zret (v := 0) hx hb hr rfl (fun t ht hW => ⟨⟨0, (), rfl, h, by rw [ht]; exact hP9, va_K.moved hW.alike hK, hD9⟩, hS.F ht⟩) hS.2.2 d_Tok_isLetter_29
      · have h := And.right h c_15
        refine lv_iload_n hx hb d_Tok_isLetter_18 rfl (lv_at hl 0 rfl) ?_
        refine lv_bipush (v := 90) hx hb d_Tok_isLetter_19 (by decide) ?_
        refine lv_icmp_gt (tgt := 28) hx hb d_Tok_isLetter_21 (by decide) (fun c_21 => ?_) (fun c_21 => ?_)
        · have h := And.left h c_21
          refine lv_iconst (v := 0) hx hb d_Tok_isLetter_28 (by decide) ?_
          rw [← hQ]
          have hP9 := hP
          have hD9 := hD
          exact W.zret (v := 0) hx hb hr rfl (fun t ht hW => ⟨⟨0, (), rfl, h, by rw [ht]; exact hP9, va_K.moved hW.alike hK, hD9⟩, hS.F ht⟩) hS.2.2 d_Tok_isLetter_29
        · have h := And.right h c_21
          refine lv_iconst (v := 1) hx hb d_Tok_isLetter_24 (by decide) ?_
          refine lv_goto (tgt := 29) hx hb d_Tok_isLetter_25 (by decide) ?_
          rw [← hQ]
          have hP9 := hP
          have hD9 := hD
          exact W.zret (v := 1) hx hb hr rfl (fun t ht hW => ⟨⟨1, (), rfl, h, by rw [ht]; exact hP9, va_K.moved hW.alike hK, hD9⟩, hS.F ht⟩) hS.2.2 d_Tok_isLetter_29
set_option maxHeartbeats 4000000 in
set_option maxRecDepth 100000 in
theorem c_Tok_put (l : Launch) (dC : Nat → ClassId) (dI : Nat → Nat → Nat) (cI cB cZ : ClassId) (adK adV : Nat → Nat) (sz : Nat) (a_tk a_tp a_tk_kinds a_tk_values a_tk_places : Nat) (tk_count : Int32) (tk_start : Int32) (tk_stop : Int32) (tk_kinds : Nat → Int32) (tk_values : Nat → Int32) (tk_places : Nat → Int32) (x1 : Int32) (x2 : Int32) (post : Int32 → (Nat → Int32) → (Nat → Int32) → (Nat → Int32) → Prop) (h : wp_Tok_put x1 x2 tk_count tk_start tk_kinds tk_values tk_places post) : Met l y_Tok_put w_Tok_put ({ frames := 0, cells := 0, slots := 0, locals := 0 }) (pc_ (dC, dI) [(cI, .int), (cB, .byte), (cZ, .boolean)] [(a_tk, .inr (9, [.ref a_tp, .ref a_tk_kinds, .ref a_tk_values, .ref a_tk_places, .int tk_count, .int tk_start, .int tk_stop])), (a_tk_kinds, .inl (cI, 1201, .inl tk_kinds)), (a_tk_values, .inl (cI, 1201, .inl tk_values)), (a_tk_places, .inl (cI, 1201, .inl tk_places))] sz adK adV [.ref a_tk, .int x1, .int x2]) (va_Qv (fun (u : Int32 × (Nat → Int32) × (Nat → Int32) × (Nat → Int32)) => post u.1 u.2.1 u.2.2.1 u.2.2.2) (fun (u : Int32 × (Nat → Int32) × (Nat → Int32) × (Nat → Int32)) t => bw_ (dC, dI) [(cI, .int), (cB, .byte), (cZ, .boolean)] (va_A [(a_tk, .inr (9, [.ref a_tp, .ref a_tk_kinds, .ref a_tk_values, .ref a_tk_places, .int tk_count, .int tk_start, .int tk_stop])), (a_tk_kinds, .inl (cI, 1201, .inl tk_kinds)), (a_tk_values, .inl (cI, 1201, .inl tk_values)), (a_tk_places, .inl (cI, 1201, .inl tk_places))] sz) [(a_tk, .inr (9, [.ref a_tp, .ref a_tk_kinds, .ref a_tk_values, .ref a_tk_places, .int u.1, .int tk_start, .int tk_stop])), (a_tk_kinds, .inl (cI, 1201, .inl u.2.1)), (a_tk_values, .inl (cI, 1201, .inl u.2.2.1)), (a_tk_places, .inl (cI, 1201, .inl u.2.2.2))] t) (va_A [(a_tk, .inr (9, [.ref a_tp, .ref a_tk_kinds, .ref a_tk_values, .ref a_tk_places, .int tk_count, .int tk_start, .int tk_stop])), (a_tk_kinds, .inl (cI, 1201, .inl tk_kinds)), (a_tk_values, .inl (cI, 1201, .inl tk_values)), (a_tk_places, .inl (cI, 1201, .inl tk_places))] sz)) 0 0 (va_A [(a_tk, .inr (9, [.ref a_tp, .ref a_tk_kinds, .ref a_tk_values, .ref a_tk_places, .int tk_count, .int tk_start, .int tk_stop])), (a_tk_kinds, .inl (cI, 1201, .inl tk_kinds)), (a_tk_values, .inl (cI, 1201, .inl tk_values)), (a_tk_places, .inl (cI, 1201, .inl tk_places))] sz) := by
  refine Met.ofW (cc := b_Tok_put) (maxL := 3) (ret := none) (by decide) rfl ?_
  intro p e s m args below meth c s₁ B hml hv
  obtain ⟨rfl, hsz, hP, hK, hD0, hN, hT⟩ := hv
  have hx := B.exec
  have hb := B.bytes
  have hr := B.returns
  have hts := atoms_spec (ws := w_Tok_put) B.pre
  have hown : s.vm.findClass "LoopInduction$Tokens" = some m.cls := findClass_of_methodNamed B.named
  have hlocks := B.notSynchronized
  subst hsz
  have hD := hD0.self (sz := s.heap.size)
  generalize hAe : va_A [(a_tk, .inr (9, [.ref a_tp, .ref a_tk_kinds, .ref a_tk_values, .ref a_tk_places, .int tk_count, .int tk_start, .int tk_stop])), (a_tk_kinds, .inl (cI, 1201, .inl tk_kinds)), (a_tk_values, .inl (cI, 1201, .inl tk_values)), (a_tk_places, .inl (cI, 1201, .inl tk_places))] s.heap.size = A at hD hT ⊢
  have hA : ∀ q : Nat, s.heap.size ≤ q → A q := fun q h => by rw [← hAe]; exact Or.inr h
  have hS : va_S A s.heap s.heap [] := va_S.rf
  generalize hQ : MQ below _ _ s 0 0 _ = QQ
  have hl := lv_entry ([.ref a_tk, .int x1, .int x2]) (n := 3) (Nat.le_of_ble_eq_true rfl)
  rw [lg_entry_eq]
  generalize (lg_sl ([.ref a_tk, .int x1, .int x2]) ++ List.replicate (3 - (lg_sl ([.ref a_tk, .int x1, .int x2])).length) Slot.unset).toArray = ls at hl ⊢
  have hl : lv_has ls 3 [(0, .ref a_tk), (1, .int x1), (2, .int x2)] := hl
  have fl_11 := (hts _ (List.mem_cons_of_mem _ m_134))
  have fl_17 := (hts _ (List.mem_cons_of_mem _ m_135))
  have fl_20 := (hts _ (List.mem_cons_of_mem _ m_136))
  have fl_23 := (hts _ (List.mem_cons_of_mem _ m_137))
  have fl_27 := (hts _ (List.mem_cons_of_mem _ m_138))
  refine lv_aload_n hx hb d_Tok_put_0 rfl (lv_at hl 0 rfl) ?_
  refine va_get (D := (dC, dI)) (ci := 9) (v := .int tk_count) (C := "LoopInduction$Tokens") (T := F_Tok) (N := 7) hx hb hts iC_Tok hown hK hP 0 rfl rfl 4 (by decide) fl_23 (fun _ h9 => h9) rfl d_Tok_put_1 ?_
  refine lv_aload_n hx hb d_Tok_put_4 rfl (lv_at hl 0 rfl) ?_
  refine va_get (D := (dC, dI)) (ci := 9) (v := .ref a_tk_kinds) (C := "LoopInduction$Tokens") (T := F_Tok) (N := 7) hx hb hts iC_Tok hown hK hP 0 rfl rfl 1 (by decide) fl_11 (fun _ h9 => h9) rfl d_Tok_put_5 ?_
  refine va_alen (v := 1201) hx hb hK hP 1 0 rfl rfl rfl d_Tok_put_8 ?_
  refine lv_icmp_ge (tgt := 55) hx hb d_Tok_put_9 (by decide) (fun c_9 => ?_) (fun c_9 => ?_)
  · have h := And.left h c_9
    rw [← hQ]
    have hP9 := hP
    have hD9 := hD
    exact W.vret hx hb hr (fun t ht hW => ⟨⟨(tk_count, tk_kinds, tk_values, tk_places), rfl, h, by rw [ht]; exact hP9, va_K.moved hW.alike hK, hD9⟩, hS.F ht⟩) hS.2.2 d_Tok_put_55
  · have h := And.right h c_9
    refine lv_aload_n hx hb d_Tok_put_12 rfl (lv_at hl 0 rfl) ?_
    refine va_get (D := (dC, dI)) (ci := 9) (v := .ref a_tk_kinds) (C := "LoopInduction$Tokens") (T := F_Tok) (N := 7) hx hb hts iC_Tok hown hK hP 0 rfl rfl 1 (by decide) fl_11 (fun _ h9 => h9) rfl d_Tok_put_13 ?_
    refine lv_aload_n hx hb d_Tok_put_16 rfl (lv_at hl 0 rfl) ?_
    refine va_get (D := (dC, dI)) (ci := 9) (v := .int tk_count) (C := "LoopInduction$Tokens") (T := F_Tok) (N := 7) hx hb hts iC_Tok hown hK hP 0 rfl rfl 4 (by decide) fl_23 (fun _ h9 => h9) rfl d_Tok_put_17 ?_
    refine lv_iload_n hx hb d_Tok_put_20 rfl (lv_at hl 1 rfl) ?_
    obtain ⟨hin_21, h⟩ := h
    refine va_iast hx hb hK hP hD hS 1 0 rfl rfl hin_21 d_Tok_put_21 (fun H locs hP hD hS => ?_)
    have hP : va_P (dC, dI) vwCl [(a_tk, .inr (9, [.ref a_tp, .ref a_tk_kinds, .ref a_tk_values, .ref a_tk_places, .int tk_count, .int tk_start, .int tk_stop])), (a_tk_kinds, .inl (cI, 1201, .inl (upd tk_kinds (tk_count : Int32).toNatClampNeg x1))), (a_tk_values, .inl (cI, 1201, .inl tk_values)), (a_tk_places, .inl (cI, 1201, .inl tk_places))] H := hP
    have hD : va_D A [(a_tk, .inr (9, [.ref a_tp, .ref a_tk_kinds, .ref a_tk_values, .ref a_tk_places, .int tk_count, .int tk_start, .int tk_stop])), (a_tk_kinds, .inl (cI, 1201, .inl (upd tk_kinds (tk_count : Int32).toNatClampNeg x1))), (a_tk_values, .inl (cI, 1201, .inl tk_values)), (a_tk_places, .inl (cI, 1201, .inl tk_places))] := hD
    refine lv_aload_n hx hb d_Tok_put_22 rfl (lv_at hl 0 rfl) ?_
    refine va_get (D := (dC, dI)) (ci := 9) (v := .ref a_tk_values) (C := "LoopInduction$Tokens") (T := F_Tok) (N := 7) hx hb hts iC_Tok hown hK hP 0 rfl rfl 2 (by decide) fl_17 (fun _ h9 => h9) rfl d_Tok_put_23 ?_
    refine lv_aload_n hx hb d_Tok_put_26 rfl (lv_at hl 0 rfl) ?_
    refine va_get (D := (dC, dI)) (ci := 9) (v := .int tk_count) (C := "LoopInduction$Tokens") (T := F_Tok) (N := 7) hx hb hts iC_Tok hown hK hP 0 rfl rfl 4 (by decide) fl_23 (fun _ h9 => h9) rfl d_Tok_put_27 ?_
    refine lv_iload_n hx hb d_Tok_put_30 rfl (lv_at hl 2 rfl) ?_
    obtain ⟨hin_31, h⟩ := h
    refine va_iast hx hb hK hP hD hS 2 0 rfl rfl hin_31 d_Tok_put_31 (fun H locs hP hD hS => ?_)
    have hP : va_P (dC, dI) vwCl [(a_tk, .inr (9, [.ref a_tp, .ref a_tk_kinds, .ref a_tk_values, .ref a_tk_places, .int tk_count, .int tk_start, .int tk_stop])), (a_tk_kinds, .inl (cI, 1201, .inl (upd tk_kinds (tk_count : Int32).toNatClampNeg x1))), (a_tk_values, .inl (cI, 1201, .inl (upd tk_values (tk_count : Int32).toNatClampNeg x2))), (a_tk_places, .inl (cI, 1201, .inl tk_places))] H := hP
    have hD : va_D A [(a_tk, .inr (9, [.ref a_tp, .ref a_tk_kinds, .ref a_tk_values, .ref a_tk_places, .int tk_count, .int tk_start, .int tk_stop])), (a_tk_kinds, .inl (cI, 1201, .inl (upd tk_kinds (tk_count : Int32).toNatClampNeg x1))), (a_tk_values, .inl (cI, 1201, .inl (upd tk_values (tk_count : Int32).toNatClampNeg x2))), (a_tk_places, .inl (cI, 1201, .inl tk_places))] := hD
    refine lv_aload_n hx hb d_Tok_put_32 rfl (lv_at hl 0 rfl) ?_
    refine va_get (D := (dC, dI)) (ci := 9) (v := .ref a_tk_places) (C := "LoopInduction$Tokens") (T := F_Tok) (N := 7) hx hb hts iC_Tok hown hK hP 0 rfl rfl 3 (by decide) fl_20 (fun _ h9 => h9) rfl d_Tok_put_33 ?_
    refine lv_aload_n hx hb d_Tok_put_36 rfl (lv_at hl 0 rfl) ?_
    refine va_get (D := (dC, dI)) (ci := 9) (v := .int tk_count) (C := "LoopInduction$Tokens") (T := F_Tok) (N := 7) hx hb hts iC_Tok hown hK hP 0 rfl rfl 4 (by decide) fl_23 (fun _ h9 => h9) rfl d_Tok_put_37 ?_
    refine lv_aload_n hx hb d_Tok_put_40 rfl (lv_at hl 0 rfl) ?_
    refine va_get (D := (dC, dI)) (ci := 9) (v := .int tk_start) (C := "LoopInduction$Tokens") (T := F_Tok) (N := 7) hx hb hts iC_Tok hown hK hP 0 rfl rfl 5 (by decide) fl_27 (fun _ h9 => h9) rfl d_Tok_put_41 ?_
    obtain ⟨hin_44, h⟩ := h
    refine va_iast hx hb hK hP hD hS 3 0 rfl rfl hin_44 d_Tok_put_44 (fun H locs hP hD hS => ?_)
    have hP : va_P (dC, dI) vwCl [(a_tk, .inr (9, [.ref a_tp, .ref a_tk_kinds, .ref a_tk_values, .ref a_tk_places, .int tk_count, .int tk_start, .int tk_stop])), (a_tk_kinds, .inl (cI, 1201, .inl (upd tk_kinds (tk_count : Int32).toNatClampNeg x1))), (a_tk_values, .inl (cI, 1201, .inl (upd tk_values (tk_count : Int32).toNatClampNeg x2))), (a_tk_places, .inl (cI, 1201, .inl (upd tk_places (tk_count : Int32).toNatClampNeg tk_start)))] H := hP
    have hD : va_D A [(a_tk, .inr (9, [.ref a_tp, .ref a_tk_kinds, .ref a_tk_values, .ref a_tk_places, .int tk_count, .int tk_start, .int tk_stop])), (a_tk_kinds, .inl (cI, 1201, .inl (upd tk_kinds (tk_count : Int32).toNatClampNeg x1))), (a_tk_values, .inl (cI, 1201, .inl (upd tk_values (tk_count : Int32).toNatClampNeg x2))), (a_tk_places, .inl (cI, 1201, .inl (upd tk_places (tk_count : Int32).toNatClampNeg tk_start)))] := hD
    refine lv_aload_n hx hb d_Tok_put_45 rfl (lv_at hl 0 rfl) ?_
    refine lv_dup hx hb d_Tok_put_46 rfl ?_
    refine va_get (D := (dC, dI)) (ci := 9) (v := .int tk_count) (C := "LoopInduction$Tokens") (T := F_Tok) (N := 7) hx hb hts iC_Tok hown hK hP 0 rfl rfl 4 (by decide) fl_23 (fun _ h9 => h9) rfl d_Tok_put_47 ?_
    refine lv_iconst (v := 1) hx hb d_Tok_put_50 (by decide) ?_
    refine lv_iadd hx hb d_Tok_put_51 ?_
    refine va_put (D := (dC, dI)) (ci := 9) (v := .int (tk_count + 1)) (ty := .int) (C := "LoopInduction$Tokens") (T := F_Tok) (N := 7) hx hb hts iC_Tok t_Tok t_Tok_ok n_Tok hown hK hP hD hS 0 rfl rfl 4 (by decide) fl_23 (fun _ h9 => h9) rfl (by decide +kernel) rfl rfl (Nat.le_of_ble_eq_true rfl) d_Tok_put_52 (fun H locs hP hD hS => ?_)
    have hP : va_P (dC, dI) vwCl [(a_tk, .inr (9, [.ref a_tp, .ref a_tk_kinds, .ref a_tk_values, .ref a_tk_places, .int (tk_count + 1), .int tk_start, .int tk_stop])), (a_tk_kinds, .inl (cI, 1201, .inl (upd tk_kinds (tk_count : Int32).toNatClampNeg x1))), (a_tk_values, .inl (cI, 1201, .inl (upd tk_values (tk_count : Int32).toNatClampNeg x2))), (a_tk_places, .inl (cI, 1201, .inl (upd tk_places (tk_count : Int32).toNatClampNeg tk_start)))] H := hP
    have hD : va_D A [(a_tk, .inr (9, [.ref a_tp, .ref a_tk_kinds, .ref a_tk_values, .ref a_tk_places, .int (tk_count + 1), .int tk_start, .int tk_stop])), (a_tk_kinds, .inl (cI, 1201, .inl (upd tk_kinds (tk_count : Int32).toNatClampNeg x1))), (a_tk_values, .inl (cI, 1201, .inl (upd tk_values (tk_count : Int32).toNatClampNeg x2))), (a_tk_places, .inl (cI, 1201, .inl (upd tk_places (tk_count : Int32).toNatClampNeg tk_start)))] := hD
    rw [← hQ]
    have hP9 := hP
    have hD9 := hD
    exact W.vret hx hb hr (fun t ht hW => ⟨⟨(tk_count + 1, upd tk_kinds (tk_count : Int32).toNatClampNeg x1, upd tk_values (tk_count : Int32).toNatClampNeg x2, upd tk_places (tk_count : Int32).toNatClampNeg tk_start), rfl, h, by rw [ht]; exact hP9, va_K.moved hW.alike hK, hD9⟩, hS.F ht⟩) hS.2.2 d_Tok_put_55
set_option maxHeartbeats 4000000 in
set_option maxRecDepth 100000 in
theorem c_Tok_spells (l : Launch) (dC : Nat → ClassId) (dI : Nat → Nat → Nat) (cI cB cZ : ClassId) (adK adV : Nat → Nat) (sz : Nat) (a_tp a_tp_bytes a_tk a_tk_kinds a_tk_values a_tk_places : Nat) (tp_size : Int32) (tp_bytes : Nat → Int32) (tk_count : Int32) (tk_start : Int32) (tk_stop : Int32) (x1 : Nat) (post : Int32 → Prop) (h : wp_Tok_spells x1 tp_size tp_bytes tk_start tk_stop post) : Met l y_Tok_spells w_Tok_spells ({ frames := 4, cells := 0, slots := 0, locals := 85 }) (pc_ (dC, dI) [(cI, .int), (cB, .byte), (cZ, .boolean)] [(a_tp, .inr (8, [.ref a_tp_bytes, .int tp_size])), (a_tp_bytes, .inl (cB, 1200, .inl tp_bytes)), (a_tk, .inr (9, [.ref a_tp, .ref a_tk_kinds, .ref a_tk_values, .ref a_tk_places, .int tk_count, .int tk_start, .int tk_stop]))] sz adK adV [.ref a_tk, .ref (adK x1)]) (va_Qi (fun (r : Int32) (u : Unit) => post r ) (fun (u : Unit) t => bw_ (dC, dI) [(cI, .int), (cB, .byte), (cZ, .boolean)] (va_A [(a_tp, .inr (8, [.ref a_tp_bytes, .int tp_size])), (a_tp_bytes, .inl (cB, 1200, .inl tp_bytes)), (a_tk, .inr (9, [.ref a_tp, .ref a_tk_kinds, .ref a_tk_values, .ref a_tk_places, .int tk_count, .int tk_start, .int tk_stop]))] sz) [(a_tp, .inr (8, [.ref a_tp_bytes, .int tp_size])), (a_tp_bytes, .inl (cB, 1200, .inl tp_bytes)), (a_tk, .inr (9, [.ref a_tp, .ref a_tk_kinds, .ref a_tk_values, .ref a_tk_places, .int tk_count, .int tk_start, .int tk_stop]))] t) (va_A [(a_tp, .inr (8, [.ref a_tp_bytes, .int tp_size])), (a_tp_bytes, .inl (cB, 1200, .inl tp_bytes)), (a_tk, .inr (9, [.ref a_tp, .ref a_tk_kinds, .ref a_tk_values, .ref a_tk_places, .int tk_count, .int tk_start, .int tk_stop]))] sz)) 0 0 (va_A [(a_tp, .inr (8, [.ref a_tp_bytes, .int tp_size])), (a_tp_bytes, .inl (cB, 1200, .inl tp_bytes)), (a_tk, .inr (9, [.ref a_tp, .ref a_tk_kinds, .ref a_tk_values, .ref a_tk_places, .int tk_count, .int tk_start, .int tk_stop]))] sz) := by
  refine Met.ofW (cc := b_Tok_spells) (maxL := 3) (ret := (some .boolean)) (by decide) rfl ?_
  intro p e s m args below meth c s₁ B hml hv
  obtain ⟨rfl, hsz, hP, hK, hD0, hN, hT⟩ := hv
  have hx := B.exec
  have hb := B.bytes
  have hr := B.returns
  have hts := atoms_spec (ws := w_Tok_spells) B.pre
  have hown : s.vm.findClass "LoopInduction$Tokens" = some m.cls := findClass_of_methodNamed B.named
  have hlocks := B.notSynchronized
  subst hsz
  have hD := hD0.self (sz := s.heap.size)
  generalize hAe : va_A [(a_tp, .inr (8, [.ref a_tp_bytes, .int tp_size])), (a_tp_bytes, .inl (cB, 1200, .inl tp_bytes)), (a_tk, .inr (9, [.ref a_tp, .ref a_tk_kinds, .ref a_tk_values, .ref a_tk_places, .int tk_count, .int tk_start, .int tk_stop]))] s.heap.size = A at hD hT ⊢
  have hA : ∀ q : Nat, s.heap.size ≤ q → A q := fun q h => by rw [← hAe]; exact Or.inr h
  have hS : va_S A s.heap s.heap [] := va_S.rf
  generalize hQ : MQ below _ _ s 0 0 _ = QQ
  have hl := lv_entry ([.ref a_tk, .ref (adK x1)]) (n := 3) (Nat.le_of_ble_eq_true rfl)
  rw [lg_entry_eq]
  generalize (lg_sl ([.ref a_tk, .ref (adK x1)]) ++ List.replicate (3 - (lg_sl ([.ref a_tk, .ref (adK x1)])).length) Slot.unset).toArray = ls at hl ⊢
  have hl : lv_has ls 3 [(0, .ref a_tk), (1, .ref (adK x1))] := hl
  have fl_27 := (hts _ (List.mem_cons_of_mem _ m_138))
  have fl_30 := (hts _ (List.mem_cons_of_mem _ m_139))
  have fl_33 := (hts _ (List.mem_cons_of_mem _ m_133))
  refine lv_aload_n hx hb d_Tok_spells_0 rfl (lv_at hl 0 rfl) ?_
  refine va_get (D := (dC, dI)) (ci := 9) (v := .int tk_stop) (C := "LoopInduction$Tokens") (T := F_Tok) (N := 7) hx hb hts iC_Tok hown hK hP 2 rfl rfl 6 (by decide) fl_30 (fun _ h9 => h9) rfl d_Tok_spells_1 ?_
  refine lv_aload_n hx hb d_Tok_spells_4 rfl (lv_at hl 0 rfl) ?_
  refine va_get (D := (dC, dI)) (ci := 9) (v := .int tk_start) (C := "LoopInduction$Tokens") (T := F_Tok) (N := 7) hx hb hts iC_Tok hown hK hP 2 rfl rfl 5 (by decide) fl_27 (fun _ h9 => h9) rfl d_Tok_spells_5 ?_
  refine lv_isub hx hb d_Tok_spells_8 ?_
  refine lv_aload_n hx hb d_Tok_spells_9 rfl (lv_at hl 1 rfl) ?_
  obtain ⟨hk_10, h⟩ := h
  refine jn_i (wr := [(a_tp, .inr (8, [.ref a_tp_bytes, .int tp_size])), (a_tp_bytes, .inl (cB, 1200, .inl tp_bytes)), (a_tk, .inr (9, [.ref a_tp, .ref a_tk_kinds, .ref a_tk_values, .ref a_tk_places, .int tk_count, .int tk_start, .int tk_stop]))]) (va_runV (As := []) (rest := [.int (tk_stop - tk_start)]) ⟨hx, hb, hml, hown, hts⟩ (c_Slength l dC dI cI cB cZ adK adV _ x1 hk_10) (cwV 0 hts (gv_ m_470 m_471 m_472 m_97 m_473) rfl rfl rfl pd_Slength ⟨Nat.le_of_ble_eq_true rfl, Nat.le_of_ble_eq_true rfl⟩) ⟨pc_blind, vk_recv hT.1 hk_10 hS, pc_of (hP.sub [] rfl) hK (hD.sub [] (by decide) rfl) hN hT hS hA⟩ rfl rfl hl.1 rfl (lv_room (Nat.le_of_ble_eq_true rfl)) d_Tok_spells_10 ⟨Nat.zero_le _, Nat.zero_le _⟩) hP hD hS hA [] [0, 1, 2] rfl rfl (by decide) (by decide) (fun r_1 _ H locs er_1 hP hD hS => ?_)
  subst er_1
  have hP : va_P (dC, dI) vwCl [(a_tp, .inr (8, [.ref a_tp_bytes, .int tp_size])), (a_tp_bytes, .inl (cB, 1200, .inl tp_bytes)), (a_tk, .inr (9, [.ref a_tp, .ref a_tk_kinds, .ref a_tk_values, .ref a_tk_places, .int tk_count, .int tk_start, .int tk_stop]))] H := hP
  have hD : va_D A [(a_tp, .inr (8, [.ref a_tp_bytes, .int tp_size])), (a_tp_bytes, .inl (cB, 1200, .inl tp_bytes)), (a_tk, .inr (9, [.ref a_tp, .ref a_tk_kinds, .ref a_tk_values, .ref a_tk_places, .int tk_count, .int tk_start, .int tk_stop]))] := hD
  refine lv_icmp_eq (tgt := 18) hx hb d_Tok_spells_13 (by decide) (fun c_13 => ?_) (fun c_13 => ?_)
  · have h := And.left h c_13
    refine lv_iconst (v := 0) hx hb d_Tok_spells_18 (by decide) ?_
    refine lv_istore_n (lv' := [(2, .int 0), (0, .ref a_tk), (1, .ref (adK x1))]) hx hb d_Tok_spells_19 rfl hl (by decide) rfl (fun ls hl => ?_)
    have L20_q_3 : ∀ (k57 : Prop) (hk57 : k57 → ∀ (H : Heap) (locs : List Loc), va_P (dC, dI) vwCl [(a_tp, .inr (8, [.ref a_tp_bytes, .int tp_size])), (a_tp_bytes, .inl (cB, 1200, .inl tp_bytes)), (a_tk, .inr (9, [.ref a_tp, .ref a_tk_kinds, .ref a_tk_values, .ref a_tk_places, .int tk_count, .int tk_start, .int tk_stop]))] H → va_D A [(a_tp, .inr (8, [.ref a_tp_bytes, .int tp_size])), (a_tp_bytes, .inl (cB, 1200, .inl tp_bytes)), (a_tk, .inr (9, [.ref a_tp, .ref a_tk_kinds, .ref a_tk_values, .ref a_tk_places, .int tk_count, .int tk_start, .int tk_stop]))] → va_S A s.heap H locs → ∀ ls : Array Slot, lv_has ls 3 [] → W p l e (headSpec w_Tok_spells ({ frames := 4, cells := 0, slots := 0, locals := 85 })).room s m (([.ref a_tk, .ref (adK x1)] : List Value).toArray) below meth c H locs 0 0 QQ (F0 m 57 ls [])) (k49 : Prop) (hk49 : k49 → ∀ (H : Heap) (locs : List Loc), va_P (dC, dI) vwCl [(a_tp, .inr (8, [.ref a_tp_bytes, .int tp_size])), (a_tp_bytes, .inl (cB, 1200, .inl tp_bytes)), (a_tk, .inr (9, [.ref a_tp, .ref a_tk_kinds, .ref a_tk_values, .ref a_tk_places, .int tk_count, .int tk_start, .int tk_stop]))] H → va_D A [(a_tp, .inr (8, [.ref a_tp_bytes, .int tp_size])), (a_tp_bytes, .inl (cB, 1200, .inl tp_bytes)), (a_tk, .inr (9, [.ref a_tp, .ref a_tk_kinds, .ref a_tk_values, .ref a_tk_places, .int tk_count, .int tk_start, .int tk_stop]))] → va_S A s.heap H locs → ∀ ls : Array Slot, lv_has ls 3 [] → W p l e (headSpec w_Tok_spells ({ frames := 4, cells := 0, slots := 0, locals := 85 })).room s m (([.ref a_tk, .ref (adK x1)] : List Value).toArray) below meth c H locs 0 0 QQ (F0 m 49 ls [])) (n : Nat) (x2_2 : Int32), wp_Tok_spells_L20 x1 tp_size tp_bytes tk_start k57 k49 n x2_2 → ∀ (H : Heap) (locs : List Loc), va_P (dC, dI) vwCl [(a_tp, .inr (8, [.ref a_tp_bytes, .int tp_size])), (a_tp_bytes, .inl (cB, 1200, .inl tp_bytes)), (a_tk, .inr (9, [.ref a_tp, .ref a_tk_kinds, .ref a_tk_values, .ref a_tk_places, .int tk_count, .int tk_start, .int tk_stop]))] H → va_D A [(a_tp, .inr (8, [.ref a_tp_bytes, .int tp_size])), (a_tp_bytes, .inl (cB, 1200, .inl tp_bytes)), (a_tk, .inr (9, [.ref a_tp, .ref a_tk_kinds, .ref a_tk_values, .ref a_tk_places, .int tk_count, .int tk_start, .int tk_stop]))] → va_S A s.heap H locs → ∀ ls : Array Slot, lv_has ls 3 [(0, .ref a_tk), (1, .ref (adK x1)), (2, .int x2_2)] → W p l e (headSpec w_Tok_spells ({ frames := 4, cells := 0, slots := 0, locals := 85 })).room s m (([.ref a_tk, .ref (adK x1)] : List Value).toArray) below meth c H locs 0 0 QQ (F0 m 20 ls []) := by
      intro k57 hk57 k49 hk49 n
      induction n with
      | zero => intro x2_2 h; exact (show False from h).elim
      | succ n il =>
        intro x2_2 h
        intro H locs hP hD hS ls hl
        refine lv_iload_n hx hb d_Tok_spells_20 rfl (lv_at hl 2 rfl) ?_
        refine lv_aload_n hx hb d_Tok_spells_21 rfl (lv_at hl 1 rfl) ?_
        obtain ⟨hk_22, h⟩ := h
        refine jn_i (wr := [(a_tp, .inr (8, [.ref a_tp_bytes, .int tp_size])), (a_tp_bytes, .inl (cB, 1200, .inl tp_bytes)), (a_tk, .inr (9, [.ref a_tp, .ref a_tk_kinds, .ref a_tk_values, .ref a_tk_places, .int tk_count, .int tk_start, .int tk_stop]))]) (va_runV (As := []) (rest := [.int x2_2]) ⟨hx, hb, hml, hown, hts⟩ (c_Slength l dC dI cI cB cZ adK adV _ x1 hk_22) (cwV 0 hts (gv_ m_470 m_471 m_472 m_97 m_473) rfl rfl rfl pd_Slength ⟨Nat.le_of_ble_eq_true rfl, Nat.le_of_ble_eq_true rfl⟩) ⟨pc_blind, vk_recv hT.1 hk_22 hS, pc_of (hP.sub [] rfl) hK (hD.sub [] (by decide) rfl) hN hT hS hA⟩ rfl rfl hl.1 rfl (lv_room (Nat.le_of_ble_eq_true rfl)) d_Tok_spells_22 ⟨Nat.zero_le _, Nat.zero_le _⟩) hP hD hS hA [] [0, 1, 2] rfl rfl (by decide) (by decide) (fun r_4 _ H locs er_4 hP hD hS => ?_)
        subst er_4
        have hP : va_P (dC, dI) vwCl [(a_tp, .inr (8, [.ref a_tp_bytes, .int tp_size])), (a_tp_bytes, .inl (cB, 1200, .inl tp_bytes)), (a_tk, .inr (9, [.ref a_tp, .ref a_tk_kinds, .ref a_tk_values, .ref a_tk_places, .int tk_count, .int tk_start, .int tk_stop]))] H := hP
        have hD : va_D A [(a_tp, .inr (8, [.ref a_tp_bytes, .int tp_size])), (a_tp_bytes, .inl (cB, 1200, .inl tp_bytes)), (a_tk, .inr (9, [.ref a_tp, .ref a_tk_kinds, .ref a_tk_values, .ref a_tk_places, .int tk_count, .int tk_start, .int tk_stop]))] := hD
        refine lv_icmp_ge (tgt := 57) hx hb d_Tok_spells_25 (by decide) (fun c_25 => ?_) (fun c_25 => ?_)
        · have h := And.left h c_25
          exact hk57 h _ _ hP hD hS _ (lv_sub hl [] rfl)
        · have h := And.right h c_25
          refine lv_aload_n hx hb d_Tok_spells_28 rfl (lv_at hl 0 rfl) ?_
          refine va_get (D := (dC, dI)) (ci := 9) (v := .ref a_tp) (C := "LoopInduction$Tokens") (T := F_Tok) (N := 7) hx hb hts iC_Tok hown hK hP 2 rfl rfl 0 (by decide) fl_33 (fun _ h9 => h9) rfl d_Tok_spells_29 ?_
          refine lv_aload_n hx hb d_Tok_spells_32 rfl (lv_at hl 0 rfl) ?_
          refine va_get (D := (dC, dI)) (ci := 9) (v := .int tk_start) (C := "LoopInduction$Tokens") (T := F_Tok) (N := 7) hx hb hts iC_Tok hown hK hP 2 rfl rfl 5 (by decide) fl_27 (fun _ h9 => h9) rfl d_Tok_spells_33 ?_
          refine lv_iload_n hx hb d_Tok_spells_36 rfl (lv_at hl 2 rfl) ?_
          refine lv_iadd hx hb d_Tok_spells_37 ?_
          refine jn_i (wr := [(a_tk, .inr (9, [.ref a_tp, .ref a_tk_kinds, .ref a_tk_values, .ref a_tk_places, .int tk_count, .int tk_start, .int tk_stop]))]) (va_runV (As := [.int (tk_start + x2_2)]) (rest := []) ⟨hx, hb, hml, hown, hts⟩ (c_Tape_byteAt l dC dI cI cB cZ adK adV _ a_tp a_tp_bytes tp_size tp_bytes (tk_start + x2_2) _ h) (cwV 1 hts (gv_ m_439 m_440 m_441 m_86 m_442) rfl rfl rfl pd_Tape_byteAt ⟨Nat.le_of_ble_eq_true rfl, Nat.le_of_ble_eq_true rfl⟩) ⟨pc_blind, va_recv hK hP (ci := 8) (q0 := 0) rfl rfl, pc_of (hP.sub [0, 1] rfl) hK (hD.sub [0, 1] (by decide) rfl) hN hT hS hA⟩ rfl rfl hl.1 rfl (lv_room (Nat.le_of_ble_eq_true rfl)) d_Tok_spells_38 ⟨Nat.zero_le _, Nat.zero_le _⟩) hP hD hS hA [0, 1] [2] rfl rfl (by decide) (by decide) (fun r_5 u_ H locs h hP hD hS => ?_)
          have hP : va_P (dC, dI) vwCl [(a_tk, .inr (9, [.ref a_tp, .ref a_tk_kinds, .ref a_tk_values, .ref a_tk_places, .int tk_count, .int tk_start, .int tk_stop])), (a_tp, .inr (8, [.ref a_tp_bytes, .int tp_size])), (a_tp_bytes, .inl (cB, 1200, .inl tp_bytes))] H := hP
          have hD : va_D A [(a_tk, .inr (9, [.ref a_tp, .ref a_tk_kinds, .ref a_tk_values, .ref a_tk_places, .int tk_count, .int tk_start, .int tk_stop])), (a_tp, .inr (8, [.ref a_tp_bytes, .int tp_size])), (a_tp_bytes, .inl (cB, 1200, .inl tp_bytes))] := hD
          refine lv_aload_n hx hb d_Tok_spells_41 rfl (lv_at hl 1 rfl) ?_
          refine lv_iload_n hx hb d_Tok_spells_42 rfl (lv_at hl 2 rfl) ?_
          obtain ⟨j_6, hk_43, hj_43, ej_43, h⟩ := h
          refine jn_i (wr := [(a_tk, .inr (9, [.ref a_tp, .ref a_tk_kinds, .ref a_tk_values, .ref a_tk_places, .int tk_count, .int tk_start, .int tk_stop])), (a_tp, .inr (8, [.ref a_tp_bytes, .int tp_size])), (a_tp_bytes, .inl (cB, 1200, .inl tp_bytes))]) (va_runV (As := [.int (nI j_6)]) (rest := [.int r_5]) ⟨hx, hb, hml, hown, hts⟩ (c_ScharAt l dC dI cI cB cZ adK adV _ x1 j_6 hk_43 hj_43) (cwV 1 hts (gv_ m_480 m_481 m_482 m_97 m_483) rfl rfl rfl pd_ScharAt ⟨Nat.le_of_ble_eq_true rfl, Nat.le_of_ble_eq_true rfl⟩) ⟨pc_blind, vk_recv hT.1 hk_43 hS, pc_of (hP.sub [] rfl) hK (hD.sub [] (by decide) rfl) hN hT hS hA⟩ rfl rfl hl.1 (by rw [ej_43]; rfl) (lv_room (Nat.le_of_ble_eq_true rfl)) d_Tok_spells_43 ⟨Nat.zero_le _, Nat.zero_le _⟩) hP hD hS hA [] [0, 1, 2] rfl rfl (by decide) (by decide) (fun r_7 _ H locs er_7 hP hD hS => ?_)
          subst er_7
          have hP : va_P (dC, dI) vwCl [(a_tk, .inr (9, [.ref a_tp, .ref a_tk_kinds, .ref a_tk_values, .ref a_tk_places, .int tk_count, .int tk_start, .int tk_stop])), (a_tp, .inr (8, [.ref a_tp_bytes, .int tp_size])), (a_tp_bytes, .inl (cB, 1200, .inl tp_bytes))] H := hP
          have hD : va_D A [(a_tk, .inr (9, [.ref a_tp, .ref a_tk_kinds, .ref a_tk_values, .ref a_tk_places, .int tk_count, .int tk_start, .int tk_stop])), (a_tp, .inr (8, [.ref a_tp_bytes, .int tp_size])), (a_tp_bytes, .inl (cB, 1200, .inl tp_bytes))] := hD
          refine lv_icmp_eq (tgt := 51) hx hb d_Tok_spells_46 (by decide) (fun c_46 => ?_) (fun c_46 => ?_)
          · have h := And.left h c_46
            refine lv_iinc (v := x2_2 + 1) (lv' := [(2, .int (x2_2 + 1)), (0, .ref a_tk), (1, .ref (adK x1))]) hx hb d_Tok_spells_51 hl (k := 2) rfl rfl (by decide) rfl (fun ls hl => ?_)
            refine lv_goto (tgt := 20) hx hb d_Tok_spells_54 (by decide) ?_
            exact il _ h _ _ (hP.sub [1, 2, 0] rfl) (hD.sub [1, 2, 0] (by decide) rfl) hS _ (lv_sub hl [1, 2, 0] rfl)
          · have h := And.right h c_46
            exact hk49 h _ _ (hP.sub [1, 2, 0] rfl) (hD.sub [1, 2, 0] (by decide) rfl) hS _ (lv_sub hl [] rfl)
    obtain ⟨n_, h⟩ := h
    refine L20_q_3 _ ?_ _ ?_ n_ _ h _ _ hP hD hS _ (lv_sub hl [1, 2, 0] rfl)
    · intro h
      intro H locs hP hD hS ls hl
      refine lv_iconst (v := 1) hx hb d_Tok_spells_57 (by decide) ?_
      rw [← hQ]
      have hP9 := hP
      have hD9 := hD
      exact W.zret (v := 1) hx hb hr rfl (fun t ht hW => ⟨⟨1, (), rfl, h, by rw [ht]; exact hP9, va_K.moved hW.alike hK, hD9⟩, hS.F ht⟩) hS.2.2 d_Tok_spells_58
    · intro h
      intro H locs hP hD hS ls hl
      refine lv_iconst (v := 0) hx hb d_Tok_spells_49 (by decide) ?_
      rw [← hQ]
      have hP9 := hP
      have hD9 := hD
      exact W.zret (v := 0) hx hb hr rfl (fun t ht hW => ⟨⟨0, (), rfl, h, by rw [ht]; exact hP9, va_K.moved hW.alike hK, hD9⟩, hS.F ht⟩) hS.2.2 d_Tok_spells_50
  · have h := And.right h c_13
    refine lv_iconst (v := 0) hx hb d_Tok_spells_16 (by decide) ?_
    rw [← hQ]
    have hP9 := hP
    have hD9 := hD
    exact W.zret (v := 0) hx hb hr rfl (fun t ht hW => ⟨⟨0, (), rfl, h, by rw [ht]; exact hP9, va_K.moved hW.alike hK, hD9⟩, hS.F ht⟩) hS.2.2 d_Tok_spells_17
set_option maxHeartbeats 4000000 in
set_option maxRecDepth 100000 in
theorem c_Tok_wordKind (l : Launch) (dC : Nat → ClassId) (dI : Nat → Nat → Nat) (cI cB cZ : ClassId) (adK adV : Nat → Nat) (sz : Nat) (a_tp a_tp_bytes a_tk a_tk_kinds a_tk_values a_tk_places : Nat) (tp_size : Int32) (tp_bytes : Nat → Int32) (tk_count : Int32) (tk_start : Int32) (tk_stop : Int32) (post : Int32 → Prop) (h : wp_Tok_wordKind tp_size tp_bytes tk_start tk_stop post) : Met l y_Tok_wordKind w_Tok_wordKind ({ frames := 5, cells := 0, slots := 0, locals := 107 }) (pc_ (dC, dI) [(cI, .int), (cB, .byte), (cZ, .boolean)] [(a_tp, .inr (8, [.ref a_tp_bytes, .int tp_size])), (a_tp_bytes, .inl (cB, 1200, .inl tp_bytes)), (a_tk, .inr (9, [.ref a_tp, .ref a_tk_kinds, .ref a_tk_values, .ref a_tk_places, .int tk_count, .int tk_start, .int tk_stop]))] sz adK adV [.ref a_tk]) (va_Qi (fun (r : Int32) (u : Unit) => post r ) (fun (u : Unit) t => bw_ (dC, dI) [(cI, .int), (cB, .byte), (cZ, .boolean)] (va_A [(a_tp, .inr (8, [.ref a_tp_bytes, .int tp_size])), (a_tp_bytes, .inl (cB, 1200, .inl tp_bytes)), (a_tk, .inr (9, [.ref a_tp, .ref a_tk_kinds, .ref a_tk_values, .ref a_tk_places, .int tk_count, .int tk_start, .int tk_stop]))] sz) [(a_tp, .inr (8, [.ref a_tp_bytes, .int tp_size])), (a_tp_bytes, .inl (cB, 1200, .inl tp_bytes)), (a_tk, .inr (9, [.ref a_tp, .ref a_tk_kinds, .ref a_tk_values, .ref a_tk_places, .int tk_count, .int tk_start, .int tk_stop]))] t) (va_A [(a_tp, .inr (8, [.ref a_tp_bytes, .int tp_size])), (a_tp_bytes, .inl (cB, 1200, .inl tp_bytes)), (a_tk, .inr (9, [.ref a_tp, .ref a_tk_kinds, .ref a_tk_values, .ref a_tk_places, .int tk_count, .int tk_start, .int tk_stop]))] sz)) 0 0 (va_A [(a_tp, .inr (8, [.ref a_tp_bytes, .int tp_size])), (a_tp_bytes, .inl (cB, 1200, .inl tp_bytes)), (a_tk, .inr (9, [.ref a_tp, .ref a_tk_kinds, .ref a_tk_values, .ref a_tk_places, .int tk_count, .int tk_start, .int tk_stop]))] sz) := by
  refine Met.ofW (cc := b_Tok_wordKind) (maxL := 1) (ret := (some .int)) (by decide) rfl ?_
  intro p e s m args below meth c s₁ B hml hv
  obtain ⟨rfl, hsz, hP, hK, hD0, hN, hT⟩ := hv
  have hx := B.exec
  have hb := B.bytes
  have hr := B.returns
  have hts := atoms_spec (ws := w_Tok_wordKind) B.pre
  have hown : s.vm.findClass "LoopInduction$Tokens" = some m.cls := findClass_of_methodNamed B.named
  have hlocks := B.notSynchronized
  subst hsz
  have hD := hD0.self (sz := s.heap.size)
  generalize hAe : va_A [(a_tp, .inr (8, [.ref a_tp_bytes, .int tp_size])), (a_tp_bytes, .inl (cB, 1200, .inl tp_bytes)), (a_tk, .inr (9, [.ref a_tp, .ref a_tk_kinds, .ref a_tk_values, .ref a_tk_places, .int tk_count, .int tk_start, .int tk_stop]))] s.heap.size = A at hD hT ⊢
  have hA : ∀ q : Nat, s.heap.size ≤ q → A q := fun q h => by rw [← hAe]; exact Or.inr h
  have hS : va_S A s.heap s.heap [] := va_S.rf
  generalize hQ : MQ below _ _ s 0 0 _ = QQ
  have hl := lv_entry ([.ref a_tk]) (n := 1) (Nat.le_of_ble_eq_true rfl)
  rw [lg_entry_eq]
  generalize (lg_sl ([.ref a_tk]) ++ List.replicate (1 - (lg_sl ([.ref a_tk])).length) Slot.unset).toArray = ls at hl ⊢
  have hl : lv_has ls 1 [(0, .ref a_tk)] := hl
  refine lv_aload_n hx hb d_Tok_wordKind_0 rfl (lv_at hl 0 rfl) ?_
  refine va_ldcS hx hb hown (hT.2.2.2 0 (by decide)) d_Tok_wordKind_1 ?_
  refine jn_i (wr := []) (va_runV (As := [.ref (adK 0)]) (rest := []) ⟨hx, hb, hml, hown, hts⟩ (c_Tok_spells l dC dI cI cB cZ adK adV _ a_tp a_tp_bytes a_tk a_tk_kinds a_tk_values a_tk_places tp_size tp_bytes tk_count tk_start tk_stop 0 _ h) (cwV 1 hts (gv_ m_466 m_468 m_5 m_87 m_469) rfl rfl rfl pd_Tok_spells ⟨Nat.le_of_ble_eq_true rfl, Nat.le_of_ble_eq_true rfl⟩) ⟨pc_blind, va_recv hK hP (ci := 9) (q0 := 2) rfl rfl, pc_of (hP.sub [0, 1, 2] rfl) hK (hD.sub [0, 1, 2] (by decide) rfl) hN hT hS hA⟩ rfl rfl hl.1 rfl (lv_room (Nat.le_of_ble_eq_true rfl)) d_Tok_wordKind_3 ⟨Nat.zero_le _, Nat.zero_le _⟩) hP hD hS hA [0, 1, 2] [] rfl rfl (by decide) (by decide) (fun r_1 u_ H locs h hP hD hS => ?_)
  have hP : va_P (dC, dI) vwCl [(a_tp, .inr (8, [.ref a_tp_bytes, .int tp_size])), (a_tp_bytes, .inl (cB, 1200, .inl tp_bytes)), (a_tk, .inr (9, [.ref a_tp, .ref a_tk_kinds, .ref a_tk_values, .ref a_tk_places, .int tk_count, .int tk_start, .int tk_stop]))] H := hP
  have hD : va_D A [(a_tp, .inr (8, [.ref a_tp_bytes, .int tp_size])), (a_tp_bytes, .inl (cB, 1200, .inl tp_bytes)), (a_tk, .inr (9, [.ref a_tp, .ref a_tk_kinds, .ref a_tk_values, .ref a_tk_places, .int tk_count, .int tk_start, .int tk_stop]))] := hD
  refine lv_if_eq (tgt := 13) hx hb d_Tok_wordKind_6 (by decide) (fun c_6 => ?_) (fun c_6 => ?_)
  · have h := And.left h c_6
    refine lv_aload_n hx hb d_Tok_wordKind_13 rfl (lv_at hl 0 rfl) ?_
    refine va_ldcS hx hb hown (hT.2.2.2 1 (by decide)) d_Tok_wordKind_14 ?_
    refine jn_i (wr := []) (va_runV (As := [.ref (adK 1)]) (rest := []) ⟨hx, hb, hml, hown, hts⟩ (c_Tok_spells l dC dI cI cB cZ adK adV _ a_tp a_tp_bytes a_tk a_tk_kinds a_tk_values a_tk_places tp_size tp_bytes tk_count tk_start tk_stop 1 _ h) (cwV 1 hts (gv_ m_466 m_468 m_5 m_87 m_469) rfl rfl rfl pd_Tok_spells ⟨Nat.le_of_ble_eq_true rfl, Nat.le_of_ble_eq_true rfl⟩) ⟨pc_blind, va_recv hK hP (ci := 9) (q0 := 2) rfl rfl, pc_of (hP.sub [0, 1, 2] rfl) hK (hD.sub [0, 1, 2] (by decide) rfl) hN hT hS hA⟩ rfl rfl hl.1 rfl (lv_room (Nat.le_of_ble_eq_true rfl)) d_Tok_wordKind_16 ⟨Nat.zero_le _, Nat.zero_le _⟩) hP hD hS hA [0, 1, 2] [] rfl rfl (by decide) (by decide) (fun r_2 u_ H locs h hP hD hS => ?_)
    have hP : va_P (dC, dI) vwCl [(a_tp, .inr (8, [.ref a_tp_bytes, .int tp_size])), (a_tp_bytes, .inl (cB, 1200, .inl tp_bytes)), (a_tk, .inr (9, [.ref a_tp, .ref a_tk_kinds, .ref a_tk_values, .ref a_tk_places, .int tk_count, .int tk_start, .int tk_stop]))] H := hP
    have hD : va_D A [(a_tp, .inr (8, [.ref a_tp_bytes, .int tp_size])), (a_tp_bytes, .inl (cB, 1200, .inl tp_bytes)), (a_tk, .inr (9, [.ref a_tp, .ref a_tk_kinds, .ref a_tk_values, .ref a_tk_places, .int tk_count, .int tk_start, .int tk_stop]))] := hD
    refine lv_if_eq (tgt := 26) hx hb d_Tok_wordKind_19 (by decide) (fun c_19 => ?_) (fun c_19 => ?_)
    · have h := And.left h c_19
      refine lv_aload_n hx hb d_Tok_wordKind_26 rfl (lv_at hl 0 rfl) ?_
      refine va_ldcS hx hb hown (hT.2.2.2 2 (by decide)) d_Tok_wordKind_27 ?_
      refine jn_i (wr := []) (va_runV (As := [.ref (adK 2)]) (rest := []) ⟨hx, hb, hml, hown, hts⟩ (c_Tok_spells l dC dI cI cB cZ adK adV _ a_tp a_tp_bytes a_tk a_tk_kinds a_tk_values a_tk_places tp_size tp_bytes tk_count tk_start tk_stop 2 _ h) (cwV 1 hts (gv_ m_466 m_468 m_5 m_87 m_469) rfl rfl rfl pd_Tok_spells ⟨Nat.le_of_ble_eq_true rfl, Nat.le_of_ble_eq_true rfl⟩) ⟨pc_blind, va_recv hK hP (ci := 9) (q0 := 2) rfl rfl, pc_of (hP.sub [0, 1, 2] rfl) hK (hD.sub [0, 1, 2] (by decide) rfl) hN hT hS hA⟩ rfl rfl hl.1 rfl (lv_room (Nat.le_of_ble_eq_true rfl)) d_Tok_wordKind_29 ⟨Nat.zero_le _, Nat.zero_le _⟩) hP hD hS hA [0, 1, 2] [] rfl rfl (by decide) (by decide) (fun r_3 u_ H locs h hP hD hS => ?_)
      have hP : va_P (dC, dI) vwCl [(a_tp, .inr (8, [.ref a_tp_bytes, .int tp_size])), (a_tp_bytes, .inl (cB, 1200, .inl tp_bytes)), (a_tk, .inr (9, [.ref a_tp, .ref a_tk_kinds, .ref a_tk_values, .ref a_tk_places, .int tk_count, .int tk_start, .int tk_stop]))] H := hP
      have hD : va_D A [(a_tp, .inr (8, [.ref a_tp_bytes, .int tp_size])), (a_tp_bytes, .inl (cB, 1200, .inl tp_bytes)), (a_tk, .inr (9, [.ref a_tp, .ref a_tk_kinds, .ref a_tk_values, .ref a_tk_places, .int tk_count, .int tk_start, .int tk_stop]))] := hD
      refine lv_if_eq (tgt := 39) hx hb d_Tok_wordKind_32 (by decide) (fun c_32 => ?_) (fun c_32 => ?_)
      · have h := And.left h c_32
        refine lv_aload_n hx hb d_Tok_wordKind_39 rfl (lv_at hl 0 rfl) ?_
        refine va_ldcS hx hb hown (hT.2.2.2 3 (by decide)) d_Tok_wordKind_40 ?_
        refine jn_i (wr := []) (va_runV (As := [.ref (adK 3)]) (rest := []) ⟨hx, hb, hml, hown, hts⟩ (c_Tok_spells l dC dI cI cB cZ adK adV _ a_tp a_tp_bytes a_tk a_tk_kinds a_tk_values a_tk_places tp_size tp_bytes tk_count tk_start tk_stop 3 _ h) (cwV 1 hts (gv_ m_466 m_468 m_5 m_87 m_469) rfl rfl rfl pd_Tok_spells ⟨Nat.le_of_ble_eq_true rfl, Nat.le_of_ble_eq_true rfl⟩) ⟨pc_blind, va_recv hK hP (ci := 9) (q0 := 2) rfl rfl, pc_of (hP.sub [0, 1, 2] rfl) hK (hD.sub [0, 1, 2] (by decide) rfl) hN hT hS hA⟩ rfl rfl hl.1 rfl (lv_room (Nat.le_of_ble_eq_true rfl)) d_Tok_wordKind_42 ⟨Nat.zero_le _, Nat.zero_le _⟩) hP hD hS hA [0, 1, 2] [] rfl rfl (by decide) (by decide) (fun r_4 u_ H locs h hP hD hS => ?_)
        have hP : va_P (dC, dI) vwCl [(a_tp, .inr (8, [.ref a_tp_bytes, .int tp_size])), (a_tp_bytes, .inl (cB, 1200, .inl tp_bytes)), (a_tk, .inr (9, [.ref a_tp, .ref a_tk_kinds, .ref a_tk_values, .ref a_tk_places, .int tk_count, .int tk_start, .int tk_stop]))] H := hP
        have hD : va_D A [(a_tp, .inr (8, [.ref a_tp_bytes, .int tp_size])), (a_tp_bytes, .inl (cB, 1200, .inl tp_bytes)), (a_tk, .inr (9, [.ref a_tp, .ref a_tk_kinds, .ref a_tk_values, .ref a_tk_places, .int tk_count, .int tk_start, .int tk_stop]))] := hD
        refine lv_if_eq (tgt := 52) hx hb d_Tok_wordKind_45 (by decide) (fun c_45 => ?_) (fun c_45 => ?_)
        · have h := And.left h c_45
          refine lv_aload_n hx hb d_Tok_wordKind_52 rfl (lv_at hl 0 rfl) ?_
          refine va_ldcS hx hb hown (hT.2.2.2 4 (by decide)) d_Tok_wordKind_53 ?_
          refine jn_i (wr := []) (va_runV (As := [.ref (adK 4)]) (rest := []) ⟨hx, hb, hml, hown, hts⟩ (c_Tok_spells l dC dI cI cB cZ adK adV _ a_tp a_tp_bytes a_tk a_tk_kinds a_tk_values a_tk_places tp_size tp_bytes tk_count tk_start tk_stop 4 _ h) (cwV 1 hts (gv_ m_466 m_468 m_5 m_87 m_469) rfl rfl rfl pd_Tok_spells ⟨Nat.le_of_ble_eq_true rfl, Nat.le_of_ble_eq_true rfl⟩) ⟨pc_blind, va_recv hK hP (ci := 9) (q0 := 2) rfl rfl, pc_of (hP.sub [0, 1, 2] rfl) hK (hD.sub [0, 1, 2] (by decide) rfl) hN hT hS hA⟩ rfl rfl hl.1 rfl (lv_room (Nat.le_of_ble_eq_true rfl)) d_Tok_wordKind_55 ⟨Nat.zero_le _, Nat.zero_le _⟩) hP hD hS hA [0, 1, 2] [] rfl rfl (by decide) (by decide) (fun r_5 u_ H locs h hP hD hS => ?_)
          have hP : va_P (dC, dI) vwCl [(a_tp, .inr (8, [.ref a_tp_bytes, .int tp_size])), (a_tp_bytes, .inl (cB, 1200, .inl tp_bytes)), (a_tk, .inr (9, [.ref a_tp, .ref a_tk_kinds, .ref a_tk_values, .ref a_tk_places, .int tk_count, .int tk_start, .int tk_stop]))] H := hP
          have hD : va_D A [(a_tp, .inr (8, [.ref a_tp_bytes, .int tp_size])), (a_tp_bytes, .inl (cB, 1200, .inl tp_bytes)), (a_tk, .inr (9, [.ref a_tp, .ref a_tk_kinds, .ref a_tk_values, .ref a_tk_places, .int tk_count, .int tk_start, .int tk_stop]))] := hD
          refine lv_if_eq (tgt := 65) hx hb d_Tok_wordKind_58 (by decide) (fun c_58 => ?_) (fun c_58 => ?_)
          · have h := And.left h c_58
            refine lv_aload_n hx hb d_Tok_wordKind_65 rfl (lv_at hl 0 rfl) ?_
            refine va_ldcS hx hb hown (hT.2.2.2 5 (by decide)) d_Tok_wordKind_66 ?_
            refine jn_i (wr := []) (va_runV (As := [.ref (adK 5)]) (rest := []) ⟨hx, hb, hml, hown, hts⟩ (c_Tok_spells l dC dI cI cB cZ adK adV _ a_tp a_tp_bytes a_tk a_tk_kinds a_tk_values a_tk_places tp_size tp_bytes tk_count tk_start tk_stop 5 _ h) (cwV 1 hts (gv_ m_466 m_468 m_5 m_87 m_469) rfl rfl rfl pd_Tok_spells ⟨Nat.le_of_ble_eq_true rfl, Nat.le_of_ble_eq_true rfl⟩) ⟨pc_blind, va_recv hK hP (ci := 9) (q0 := 2) rfl rfl, pc_of (hP.sub [0, 1, 2] rfl) hK (hD.sub [0, 1, 2] (by decide) rfl) hN hT hS hA⟩ rfl rfl hl.1 rfl (lv_room (Nat.le_of_ble_eq_true rfl)) d_Tok_wordKind_68 ⟨Nat.zero_le _, Nat.zero_le _⟩) hP hD hS hA [0, 1, 2] [] rfl rfl (by decide) (by decide) (fun r_6 u_ H locs h hP hD hS => ?_)
            have hP : va_P (dC, dI) vwCl [(a_tp, .inr (8, [.ref a_tp_bytes, .int tp_size])), (a_tp_bytes, .inl (cB, 1200, .inl tp_bytes)), (a_tk, .inr (9, [.ref a_tp, .ref a_tk_kinds, .ref a_tk_values, .ref a_tk_places, .int tk_count, .int tk_start, .int tk_stop]))] H := hP
            have hD : va_D A [(a_tp, .inr (8, [.ref a_tp_bytes, .int tp_size])), (a_tp_bytes, .inl (cB, 1200, .inl tp_bytes)), (a_tk, .inr (9, [.ref a_tp, .ref a_tk_kinds, .ref a_tk_values, .ref a_tk_places, .int tk_count, .int tk_start, .int tk_stop]))] := hD
            refine lv_if_eq (tgt := 78) hx hb d_Tok_wordKind_71 (by decide) (fun c_71 => ?_) (fun c_71 => ?_)
            · have h := And.left h c_71
              refine lv_aload_n hx hb d_Tok_wordKind_78 rfl (lv_at hl 0 rfl) ?_
              refine va_ldcS hx hb hown (hT.2.2.2 6 (by decide)) d_Tok_wordKind_79 ?_
              refine jn_i (wr := []) (va_runV (As := [.ref (adK 6)]) (rest := []) ⟨hx, hb, hml, hown, hts⟩ (c_Tok_spells l dC dI cI cB cZ adK adV _ a_tp a_tp_bytes a_tk a_tk_kinds a_tk_values a_tk_places tp_size tp_bytes tk_count tk_start tk_stop 6 _ h) (cwV 1 hts (gv_ m_466 m_468 m_5 m_87 m_469) rfl rfl rfl pd_Tok_spells ⟨Nat.le_of_ble_eq_true rfl, Nat.le_of_ble_eq_true rfl⟩) ⟨pc_blind, va_recv hK hP (ci := 9) (q0 := 2) rfl rfl, pc_of (hP.sub [0, 1, 2] rfl) hK (hD.sub [0, 1, 2] (by decide) rfl) hN hT hS hA⟩ rfl rfl hl.1 rfl (lv_room (Nat.le_of_ble_eq_true rfl)) d_Tok_wordKind_81 ⟨Nat.zero_le _, Nat.zero_le _⟩) hP hD hS hA [0, 1, 2] [] rfl rfl (by decide) (by decide) (fun r_7 u_ H locs h hP hD hS => ?_)
              have hP : va_P (dC, dI) vwCl [(a_tp, .inr (8, [.ref a_tp_bytes, .int tp_size])), (a_tp_bytes, .inl (cB, 1200, .inl tp_bytes)), (a_tk, .inr (9, [.ref a_tp, .ref a_tk_kinds, .ref a_tk_values, .ref a_tk_places, .int tk_count, .int tk_start, .int tk_stop]))] H := hP
              have hD : va_D A [(a_tp, .inr (8, [.ref a_tp_bytes, .int tp_size])), (a_tp_bytes, .inl (cB, 1200, .inl tp_bytes)), (a_tk, .inr (9, [.ref a_tp, .ref a_tk_kinds, .ref a_tk_values, .ref a_tk_places, .int tk_count, .int tk_start, .int tk_stop]))] := hD
              refine lv_if_eq (tgt := 91) hx hb d_Tok_wordKind_84 (by decide) (fun c_84 => ?_) (fun c_84 => ?_)
              · have h := And.left h c_84
                refine lv_aload_n hx hb d_Tok_wordKind_91 rfl (lv_at hl 0 rfl) ?_
                refine va_ldcS hx hb hown (hT.2.2.2 7 (by decide)) d_Tok_wordKind_92 ?_
                refine jn_i (wr := []) (va_runV (As := [.ref (adK 7)]) (rest := []) ⟨hx, hb, hml, hown, hts⟩ (c_Tok_spells l dC dI cI cB cZ adK adV _ a_tp a_tp_bytes a_tk a_tk_kinds a_tk_values a_tk_places tp_size tp_bytes tk_count tk_start tk_stop 7 _ h) (cwV 1 hts (gv_ m_466 m_468 m_5 m_87 m_469) rfl rfl rfl pd_Tok_spells ⟨Nat.le_of_ble_eq_true rfl, Nat.le_of_ble_eq_true rfl⟩) ⟨pc_blind, va_recv hK hP (ci := 9) (q0 := 2) rfl rfl, pc_of (hP.sub [0, 1, 2] rfl) hK (hD.sub [0, 1, 2] (by decide) rfl) hN hT hS hA⟩ rfl rfl hl.1 rfl (lv_room (Nat.le_of_ble_eq_true rfl)) d_Tok_wordKind_94 ⟨Nat.zero_le _, Nat.zero_le _⟩) hP hD hS hA [0, 1, 2] [] rfl rfl (by decide) (by decide) (fun r_8 u_ H locs h hP hD hS => ?_)
                have hP : va_P (dC, dI) vwCl [(a_tp, .inr (8, [.ref a_tp_bytes, .int tp_size])), (a_tp_bytes, .inl (cB, 1200, .inl tp_bytes)), (a_tk, .inr (9, [.ref a_tp, .ref a_tk_kinds, .ref a_tk_values, .ref a_tk_places, .int tk_count, .int tk_start, .int tk_stop]))] H := hP
                have hD : va_D A [(a_tp, .inr (8, [.ref a_tp_bytes, .int tp_size])), (a_tp_bytes, .inl (cB, 1200, .inl tp_bytes)), (a_tk, .inr (9, [.ref a_tp, .ref a_tk_kinds, .ref a_tk_values, .ref a_tk_places, .int tk_count, .int tk_start, .int tk_stop]))] := hD
                refine lv_if_eq (tgt := 104) hx hb d_Tok_wordKind_97 (by decide) (fun c_97 => ?_) (fun c_97 => ?_)
                · have h := And.left h c_97
                  refine lv_aload_n hx hb d_Tok_wordKind_104 rfl (lv_at hl 0 rfl) ?_
                  refine va_ldcS hx hb hown (hT.2.2.2 8 (by decide)) d_Tok_wordKind_105 ?_
                  refine jn_i (wr := []) (va_runV (As := [.ref (adK 8)]) (rest := []) ⟨hx, hb, hml, hown, hts⟩ (c_Tok_spells l dC dI cI cB cZ adK adV _ a_tp a_tp_bytes a_tk a_tk_kinds a_tk_values a_tk_places tp_size tp_bytes tk_count tk_start tk_stop 8 _ h) (cwV 1 hts (gv_ m_466 m_468 m_5 m_87 m_469) rfl rfl rfl pd_Tok_spells ⟨Nat.le_of_ble_eq_true rfl, Nat.le_of_ble_eq_true rfl⟩) ⟨pc_blind, va_recv hK hP (ci := 9) (q0 := 2) rfl rfl, pc_of (hP.sub [0, 1, 2] rfl) hK (hD.sub [0, 1, 2] (by decide) rfl) hN hT hS hA⟩ rfl rfl hl.1 rfl (lv_room (Nat.le_of_ble_eq_true rfl)) d_Tok_wordKind_107 ⟨Nat.zero_le _, Nat.zero_le _⟩) hP hD hS hA [0, 1, 2] [] rfl rfl (by decide) (by decide) (fun r_9 u_ H locs h hP hD hS => ?_)
                  have hP : va_P (dC, dI) vwCl [(a_tp, .inr (8, [.ref a_tp_bytes, .int tp_size])), (a_tp_bytes, .inl (cB, 1200, .inl tp_bytes)), (a_tk, .inr (9, [.ref a_tp, .ref a_tk_kinds, .ref a_tk_values, .ref a_tk_places, .int tk_count, .int tk_start, .int tk_stop]))] H := hP
                  have hD : va_D A [(a_tp, .inr (8, [.ref a_tp_bytes, .int tp_size])), (a_tp_bytes, .inl (cB, 1200, .inl tp_bytes)), (a_tk, .inr (9, [.ref a_tp, .ref a_tk_kinds, .ref a_tk_values, .ref a_tk_places, .int tk_count, .int tk_start, .int tk_stop]))] := hD
                  refine lv_if_eq (tgt := 119) hx hb d_Tok_wordKind_110 (by decide) (fun c_110 => ?_) (fun c_110 => ?_)
                  · have h := And.left h c_110
                    refine lv_sipush (v := 257) hx hb d_Tok_wordKind_119 (by decide) ?_
                    rw [← hQ]
                    have hP9 := hP
                    have hD9 := hD
                    exact W.iret (v := 257) hx hb hr (fun t ht hW => ⟨⟨257, (), rfl, h, by rw [ht]; exact hP9, va_K.moved hW.alike hK, hD9⟩, hS.F ht⟩) hS.2.2 d_Tok_wordKind_122
                  · have h := And.right h c_110
                    refine lv_sipush (v := 268) hx hb d_Tok_wordKind_113 (by decide) ?_
                    refine lv_goto (tgt := 122) hx hb d_Tok_wordKind_116 (by decide) ?_
                    rw [← hQ]
                    have hP9 := hP
                    have hD9 := hD
                    exact W.iret (v := 268) hx hb hr (fun t ht hW => ⟨⟨268, (), rfl, h, by rw [ht]; exact hP9, va_K.moved hW.alike hK, hD9⟩, hS.F ht⟩) hS.2.2 d_Tok_wordKind_122
                · have h := And.right h c_97
                  refine lv_sipush (v := 267) hx hb d_Tok_wordKind_100 (by decide) ?_
                  rw [← hQ]
                  have hP9 := hP
                  have hD9 := hD
                  exact W.iret (v := 267) hx hb hr (fun t ht hW => ⟨⟨267, (), rfl, h, by rw [ht]; exact hP9, va_K.moved hW.alike hK, hD9⟩, hS.F ht⟩) hS.2.2 d_Tok_wordKind_103
              · have h := And.right h c_84
                refine lv_sipush (v := 266) hx hb d_Tok_wordKind_87 (by decide) ?_
                rw [← hQ]
                have hP9 := hP
                have hD9 := hD
                exact W.iret (v := 266) hx hb hr (fun t ht hW => ⟨⟨266, (), rfl, h, by rw [ht]; exact hP9, va_K.moved hW.alike hK, hD9⟩, hS.F ht⟩) hS.2.2 d_Tok_wordKind_90
            · have h := And.right h c_71
              refine lv_sipush (v := 265) hx hb d_Tok_wordKind_74 (by decide) ?_
              rw [← hQ]
              have hP9 := hP
              have hD9 := hD
              exact W.iret (v := 265) hx hb hr (fun t ht hW => ⟨⟨265, (), rfl, h, by rw [ht]; exact hP9, va_K.moved hW.alike hK, hD9⟩, hS.F ht⟩) hS.2.2 d_Tok_wordKind_77
          · have h := And.right h c_58
            refine lv_sipush (v := 264) hx hb d_Tok_wordKind_61 (by decide) ?_
            rw [← hQ]
            have hP9 := hP
            have hD9 := hD
            exact W.iret (v := 264) hx hb hr (fun t ht hW => ⟨⟨264, (), rfl, h, by rw [ht]; exact hP9, va_K.moved hW.alike hK, hD9⟩, hS.F ht⟩) hS.2.2 d_Tok_wordKind_64
        · have h := And.right h c_45
          refine lv_sipush (v := 263) hx hb d_Tok_wordKind_48 (by decide) ?_
          rw [← hQ]
          have hP9 := hP
          have hD9 := hD
          exact W.iret (v := 263) hx hb hr (fun t ht hW => ⟨⟨263, (), rfl, h, by rw [ht]; exact hP9, va_K.moved hW.alike hK, hD9⟩, hS.F ht⟩) hS.2.2 d_Tok_wordKind_51
      · have h := And.right h c_32
        refine lv_sipush (v := 262) hx hb d_Tok_wordKind_35 (by decide) ?_
        rw [← hQ]
        have hP9 := hP
        have hD9 := hD
        exact W.iret (v := 262) hx hb hr (fun t ht hW => ⟨⟨262, (), rfl, h, by rw [ht]; exact hP9, va_K.moved hW.alike hK, hD9⟩, hS.F ht⟩) hS.2.2 d_Tok_wordKind_38
    · have h := And.right h c_19
      refine lv_sipush (v := 261) hx hb d_Tok_wordKind_22 (by decide) ?_
      rw [← hQ]
      have hP9 := hP
      have hD9 := hD
      exact W.iret (v := 261) hx hb hr (fun t ht hW => ⟨⟨261, (), rfl, h, by rw [ht]; exact hP9, va_K.moved hW.alike hK, hD9⟩, hS.F ht⟩) hS.2.2 d_Tok_wordKind_25
  · have h := And.right h c_6
    refine lv_sipush (v := 260) hx hb d_Tok_wordKind_9 (by decide) ?_
    rw [← hQ]
    have hP9 := hP
    have hD9 := hD
    exact W.iret (v := 260) hx hb hr (fun t ht hW => ⟨⟨260, (), rfl, h, by rw [ht]; exact hP9, va_K.moved hW.alike hK, hD9⟩, hS.F ht⟩) hS.2.2 d_Tok_wordKind_12
set_option maxHeartbeats 4000000 in
set_option maxRecDepth 100000 in
theorem c_Tok_readWord (l : Launch) (dC : Nat → ClassId) (dI : Nat → Nat → Nat) (cI cB cZ : ClassId) (adK adV : Nat → Nat) (sz : Nat) (a_tp a_tp_bytes a_tk a_tk_kinds a_tk_values a_tk_places : Nat) (tp_size : Int32) (tp_bytes : Nat → Int32) (tk_count : Int32) (tk_start : Int32) (tk_stop : Int32) (tk_kinds : Nat → Int32) (tk_values : Nat → Int32) (tk_places : Nat → Int32) (post : Int32 → Int32 → (Nat → Int32) → (Nat → Int32) → (Nat → Int32) → Prop) (h : wp_Tok_readWord tp_size tp_bytes tk_count tk_start tk_stop tk_kinds tk_values tk_places post) : Met l y_Tok_readWord w_Tok_readWord ({ frames := 6, cells := 0, slots := 0, locals := 127 }) (pc_ (dC, dI) [(cI, .int), (cB, .byte), (cZ, .boolean)] [(a_tp, .inr (8, [.ref a_tp_bytes, .int tp_size])), (a_tp_bytes, .inl (cB, 1200, .inl tp_bytes)), (a_tk, .inr (9, [.ref a_tp, .ref a_tk_kinds, .ref a_tk_values, .ref a_tk_places, .int tk_count, .int tk_start, .int tk_stop])), (a_tk_kinds, .inl (cI, 1201, .inl tk_kinds)), (a_tk_values, .inl (cI, 1201, .inl tk_values)), (a_tk_places, .inl (cI, 1201, .inl tk_places))] sz adK adV [.ref a_tk]) (va_Qv (fun (u : Int32 × Int32 × (Nat → Int32) × (Nat → Int32) × (Nat → Int32)) => post u.1 u.2.1 u.2.2.1 u.2.2.2.1 u.2.2.2.2) (fun (u : Int32 × Int32 × (Nat → Int32) × (Nat → Int32) × (Nat → Int32)) t => bw_ (dC, dI) [(cI, .int), (cB, .byte), (cZ, .boolean)] (va_A [(a_tp, .inr (8, [.ref a_tp_bytes, .int tp_size])), (a_tp_bytes, .inl (cB, 1200, .inl tp_bytes)), (a_tk, .inr (9, [.ref a_tp, .ref a_tk_kinds, .ref a_tk_values, .ref a_tk_places, .int tk_count, .int tk_start, .int tk_stop])), (a_tk_kinds, .inl (cI, 1201, .inl tk_kinds)), (a_tk_values, .inl (cI, 1201, .inl tk_values)), (a_tk_places, .inl (cI, 1201, .inl tk_places))] sz) [(a_tp, .inr (8, [.ref a_tp_bytes, .int tp_size])), (a_tp_bytes, .inl (cB, 1200, .inl tp_bytes)), (a_tk, .inr (9, [.ref a_tp, .ref a_tk_kinds, .ref a_tk_values, .ref a_tk_places, .int u.1, .int tk_start, .int u.2.1])), (a_tk_kinds, .inl (cI, 1201, .inl u.2.2.1)), (a_tk_values, .inl (cI, 1201, .inl u.2.2.2.1)), (a_tk_places, .inl (cI, 1201, .inl u.2.2.2.2))] t) (va_A [(a_tp, .inr (8, [.ref a_tp_bytes, .int tp_size])), (a_tp_bytes, .inl (cB, 1200, .inl tp_bytes)), (a_tk, .inr (9, [.ref a_tp, .ref a_tk_kinds, .ref a_tk_values, .ref a_tk_places, .int tk_count, .int tk_start, .int tk_stop])), (a_tk_kinds, .inl (cI, 1201, .inl tk_kinds)), (a_tk_values, .inl (cI, 1201, .inl tk_values)), (a_tk_places, .inl (cI, 1201, .inl tk_places))] sz)) 0 0 (va_A [(a_tp, .inr (8, [.ref a_tp_bytes, .int tp_size])), (a_tp_bytes, .inl (cB, 1200, .inl tp_bytes)), (a_tk, .inr (9, [.ref a_tp, .ref a_tk_kinds, .ref a_tk_values, .ref a_tk_places, .int tk_count, .int tk_start, .int tk_stop])), (a_tk_kinds, .inl (cI, 1201, .inl tk_kinds)), (a_tk_values, .inl (cI, 1201, .inl tk_values)), (a_tk_places, .inl (cI, 1201, .inl tk_places))] sz) := by
  refine Met.ofW (cc := b_Tok_readWord) (maxL := 2) (ret := none) (by decide) rfl ?_
  intro p e s m args below meth c s₁ B hml hv
  obtain ⟨rfl, hsz, hP, hK, hD0, hN, hT⟩ := hv
  have hx := B.exec
  have hb := B.bytes
  have hr := B.returns
  have hts := atoms_spec (ws := w_Tok_readWord) B.pre
  have hown : s.vm.findClass "LoopInduction$Tokens" = some m.cls := findClass_of_methodNamed B.named
  have hlocks := B.notSynchronized
  subst hsz
  have hD := hD0.self (sz := s.heap.size)
  generalize hAe : va_A [(a_tp, .inr (8, [.ref a_tp_bytes, .int tp_size])), (a_tp_bytes, .inl (cB, 1200, .inl tp_bytes)), (a_tk, .inr (9, [.ref a_tp, .ref a_tk_kinds, .ref a_tk_values, .ref a_tk_places, .int tk_count, .int tk_start, .int tk_stop])), (a_tk_kinds, .inl (cI, 1201, .inl tk_kinds)), (a_tk_values, .inl (cI, 1201, .inl tk_values)), (a_tk_places, .inl (cI, 1201, .inl tk_places))] s.heap.size = A at hD hT ⊢
  have hA : ∀ q : Nat, s.heap.size ≤ q → A q := fun q h => by rw [← hAe]; exact Or.inr h
  have hS : va_S A s.heap s.heap [] := va_S.rf
  generalize hQ : MQ below _ _ s 0 0 _ = QQ
  have hl := lv_entry ([.ref a_tk]) (n := 2) (Nat.le_of_ble_eq_true rfl)
  rw [lg_entry_eq]
  generalize (lg_sl ([.ref a_tk]) ++ List.replicate (2 - (lg_sl ([.ref a_tk])).length) Slot.unset).toArray = ls at hl ⊢
  have hl : lv_has ls 2 [(0, .ref a_tk)] := hl
  have fl_27 := (hts _ (List.mem_cons_of_mem _ m_138))
  have fl_30 := (hts _ (List.mem_cons_of_mem _ m_139))
  have fl_33 := (hts _ (List.mem_cons_of_mem _ m_133))
  have J44 : ∀ (tk_count_1 : Int32) (tk_stop_2 : Int32) (tk_kinds_3 : Nat → Int32) (tk_values_4 : Nat → Int32) (tk_places_5 : Nat → Int32), wp_Tok_readWord_J44 tp_size tp_bytes tk_count_1 tk_start tk_stop_2 tk_kinds_3 tk_values_4 tk_places_5 post → ∀ (H : Heap) (locs : List Loc), va_P (dC, dI) vwCl [(a_tp, .inr (8, [.ref a_tp_bytes, .int tp_size])), (a_tp_bytes, .inl (cB, 1200, .inl tp_bytes)), (a_tk, .inr (9, [.ref a_tp, .ref a_tk_kinds, .ref a_tk_values, .ref a_tk_places, .int tk_count_1, .int tk_start, .int tk_stop_2])), (a_tk_kinds, .inl (cI, 1201, .inl tk_kinds_3)), (a_tk_values, .inl (cI, 1201, .inl tk_values_4)), (a_tk_places, .inl (cI, 1201, .inl tk_places_5))] H → va_D A [(a_tp, .inr (8, [.ref a_tp_bytes, .int tp_size])), (a_tp_bytes, .inl (cB, 1200, .inl tp_bytes)), (a_tk, .inr (9, [.ref a_tp, .ref a_tk_kinds, .ref a_tk_values, .ref a_tk_places, .int tk_count_1, .int tk_start, .int tk_stop_2])), (a_tk_kinds, .inl (cI, 1201, .inl tk_kinds_3)), (a_tk_values, .inl (cI, 1201, .inl tk_values_4)), (a_tk_places, .inl (cI, 1201, .inl tk_places_5))] → va_S A s.heap H locs → ∀ ls : Array Slot, lv_has ls 2 [(0, .ref a_tk)] → W p l e (headSpec w_Tok_readWord ({ frames := 6, cells := 0, slots := 0, locals := 127 })).room s m (([.ref a_tk] : List Value).toArray) below meth c H locs 0 0 QQ (F0 m 44 ls []) := by
    intro tk_count_1 tk_stop_2 tk_kinds_3 tk_values_4 tk_places_5 h
    intro H locs hP hD hS ls hl
    refine lv_aload_n hx hb d_Tok_readWord_44 rfl (lv_at hl 0 rfl) ?_
    refine va_get (D := (dC, dI)) (ci := 9) (v := .ref a_tp) (C := "LoopInduction$Tokens") (T := F_Tok) (N := 7) hx hb hts iC_Tok hown hK hP 2 rfl rfl 0 (by decide) fl_33 (fun _ h9 => h9) rfl d_Tok_readWord_45 ?_
    refine lv_aload_n hx hb d_Tok_readWord_48 rfl (lv_at hl 0 rfl) ?_
    refine va_get (D := (dC, dI)) (ci := 9) (v := .int tk_start) (C := "LoopInduction$Tokens") (T := F_Tok) (N := 7) hx hb hts iC_Tok hown hK hP 2 rfl rfl 5 (by decide) fl_27 (fun _ h9 => h9) rfl d_Tok_readWord_49 ?_
    refine jn_i (wr := [(a_tk, .inr (9, [.ref a_tp, .ref a_tk_kinds, .ref a_tk_values, .ref a_tk_places, .int tk_count_1, .int tk_start, .int tk_stop_2])), (a_tk_kinds, .inl (cI, 1201, .inl tk_kinds_3)), (a_tk_values, .inl (cI, 1201, .inl tk_values_4)), (a_tk_places, .inl (cI, 1201, .inl tk_places_5))]) (va_runV (As := [.int tk_start]) (rest := []) ⟨hx, hb, hml, hown, hts⟩ (c_Tape_byteAt l dC dI cI cB cZ adK adV _ a_tp a_tp_bytes tp_size tp_bytes tk_start _ h) (cwV 1 hts (gv_ m_439 m_440 m_441 m_86 m_442) rfl rfl rfl pd_Tape_byteAt ⟨Nat.le_of_ble_eq_true rfl, Nat.le_of_ble_eq_true rfl⟩) ⟨pc_blind, va_recv hK hP (ci := 8) (q0 := 0) rfl rfl, pc_of (hP.sub [0, 1] rfl) hK (hD.sub [0, 1] (by decide) rfl) hN hT hS hA⟩ rfl rfl hl.1 rfl (lv_room (Nat.le_of_ble_eq_true rfl)) d_Tok_readWord_52 ⟨Nat.zero_le _, Nat.zero_le _⟩) hP hD hS hA [0, 1] [2, 3, 4, 5] rfl rfl (by decide) (by decide) (fun r_6 u_ H locs h hP hD hS => ?_)
    have hP : va_P (dC, dI) vwCl [(a_tk, .inr (9, [.ref a_tp, .ref a_tk_kinds, .ref a_tk_values, .ref a_tk_places, .int tk_count_1, .int tk_start, .int tk_stop_2])), (a_tk_kinds, .inl (cI, 1201, .inl tk_kinds_3)), (a_tk_values, .inl (cI, 1201, .inl tk_values_4)), (a_tk_places, .inl (cI, 1201, .inl tk_places_5)), (a_tp, .inr (8, [.ref a_tp_bytes, .int tp_size])), (a_tp_bytes, .inl (cB, 1200, .inl tp_bytes))] H := hP
    have hD : va_D A [(a_tk, .inr (9, [.ref a_tp, .ref a_tk_kinds, .ref a_tk_values, .ref a_tk_places, .int tk_count_1, .int tk_start, .int tk_stop_2])), (a_tk_kinds, .inl (cI, 1201, .inl tk_kinds_3)), (a_tk_values, .inl (cI, 1201, .inl tk_values_4)), (a_tk_places, .inl (cI, 1201, .inl tk_places_5)), (a_tp, .inr (8, [.ref a_tp_bytes, .int tp_size])), (a_tp_bytes, .inl (cB, 1200, .inl tp_bytes))] := hD
    refine lv_istore_n (lv' := [(1, .int r_6), (0, .ref a_tk)]) hx hb d_Tok_readWord_55 rfl hl (by decide) rfl (fun ls hl => ?_)
    refine lv_aload_n hx hb d_Tok_readWord_56 rfl (lv_at hl 1 rfl) ?_
    refine va_get (D := (dC, dI)) (ci := 9) (v := .int tk_stop_2) (C := "LoopInduction$Tokens") (T := F_Tok) (N := 7) hx hb hts iC_Tok hown hK hP 0 rfl rfl 6 (by decide) fl_30 (fun _ h9 => h9) rfl d_Tok_readWord_57 ?_
    refine lv_aload_n hx hb d_Tok_readWord_60 rfl (lv_at hl 1 rfl) ?_
    refine va_get (D := (dC, dI)) (ci := 9) (v := .int tk_start) (C := "LoopInduction$Tokens") (T := F_Tok) (N := 7) hx hb hts iC_Tok hown hK hP 0 rfl rfl 5 (by decide) fl_27 (fun _ h9 => h9) rfl d_Tok_readWord_61 ?_
    refine lv_isub hx hb d_Tok_readWord_64 ?_
    refine lv_iconst (v := 1) hx hb d_Tok_readWord_65 (by decide) ?_
    refine lv_icmp_ne (tgt := 95) hx hb d_Tok_readWord_66 (by decide) (fun c_66 => ?_) (fun c_66 => ?_)
    · have h := And.left h c_66
      refine lv_aload_n hx hb d_Tok_readWord_95 rfl (lv_at hl 1 rfl) ?_
      refine lv_aload_n hx hb d_Tok_readWord_96 rfl (lv_at hl 1 rfl) ?_
      refine jn_i (wr := [(a_tk_kinds, .inl (cI, 1201, .inl tk_kinds_3)), (a_tk_values, .inl (cI, 1201, .inl tk_values_4)), (a_tk_places, .inl (cI, 1201, .inl tk_places_5))]) (va_runV (As := []) (rest := [.ref a_tk]) ⟨hx, hb, hml, hown, hts⟩ (c_Tok_wordKind l dC dI cI cB cZ adK adV _ a_tp a_tp_bytes a_tk a_tk_kinds a_tk_values a_tk_places tp_size tp_bytes tk_count_1 tk_start tk_stop_2 _ h) (cwV 0 hts (gv_ m_461 m_463 m_4 m_87 m_464) rfl rfl rfl pd_Tok_wordKind ⟨Nat.le_of_ble_eq_true rfl, Nat.le_of_ble_eq_true rfl⟩) ⟨pc_blind, va_recv hK hP (ci := 9) (q0 := 0) rfl rfl, pc_of (hP.sub [4, 5, 0] rfl) hK (hD.sub [4, 5, 0] (by decide) rfl) hN hT hS hA⟩ rfl rfl hl.1 rfl (lv_room (Nat.le_of_ble_eq_true rfl)) d_Tok_readWord_97 ⟨Nat.zero_le _, Nat.zero_le _⟩) hP hD hS hA [4, 5, 0] [1, 2, 3] rfl rfl (by decide) (by decide) (fun r_7 u_ H locs h hP hD hS => ?_)
      have hP : va_P (dC, dI) vwCl [(a_tk_kinds, .inl (cI, 1201, .inl tk_kinds_3)), (a_tk_values, .inl (cI, 1201, .inl tk_values_4)), (a_tk_places, .inl (cI, 1201, .inl tk_places_5)), (a_tp, .inr (8, [.ref a_tp_bytes, .int tp_size])), (a_tp_bytes, .inl (cB, 1200, .inl tp_bytes)), (a_tk, .inr (9, [.ref a_tp, .ref a_tk_kinds, .ref a_tk_values, .ref a_tk_places, .int tk_count_1, .int tk_start, .int tk_stop_2]))] H := hP
      have hD : va_D A [(a_tk_kinds, .inl (cI, 1201, .inl tk_kinds_3)), (a_tk_values, .inl (cI, 1201, .inl tk_values_4)), (a_tk_places, .inl (cI, 1201, .inl tk_places_5)), (a_tp, .inr (8, [.ref a_tp_bytes, .int tp_size])), (a_tp_bytes, .inl (cB, 1200, .inl tp_bytes)), (a_tk, .inr (9, [.ref a_tp, .ref a_tk_kinds, .ref a_tk_values, .ref a_tk_places, .int tk_count_1, .int tk_start, .int tk_stop_2]))] := hD
      refine lv_iconst (v := 0) hx hb d_Tok_readWord_100 (by decide) ?_
      refine jn_v (wr := [(a_tp, .inr (8, [.ref a_tp_bytes, .int tp_size])), (a_tp_bytes, .inl (cB, 1200, .inl tp_bytes))]) (va_runV (As := [.int r_7, .int 0]) (rest := []) ⟨hx, hb, hml, hown, hts⟩ (c_Tok_put l dC dI cI cB cZ adK adV _ a_tk a_tp a_tk_kinds a_tk_values a_tk_places tk_count_1 tk_start tk_stop_2 tk_kinds_3 tk_values_4 tk_places_5 r_7 0 _ h) (cwV 2 hts (gv_ m_457 m_459 m_3 m_87 m_460) rfl rfl rfl pd_Tok_put ⟨Nat.le_of_ble_eq_true rfl, Nat.le_of_ble_eq_true rfl⟩) ⟨pc_blind, va_recv hK hP (ci := 9) (q0 := 5) rfl rfl, pc_of (hP.sub [5, 0, 1, 2] rfl) hK (hD.sub [5, 0, 1, 2] (by decide) rfl) hN hT hS hA⟩ rfl rfl hl.1 rfl (lv_room (Nat.le_of_ble_eq_true rfl)) d_Tok_readWord_101 ⟨Nat.zero_le _, Nat.zero_le _⟩) hP hD hS hA [5, 0, 1, 2] [3, 4] rfl rfl (by decide) (by decide) (fun u_ H locs h hP hD hS => ?_)
      obtain ⟨tk_count_8, tk_kinds_9, tk_values_10, tk_places_11⟩ := u_
      have hP : va_P (dC, dI) vwCl [(a_tp, .inr (8, [.ref a_tp_bytes, .int tp_size])), (a_tp_bytes, .inl (cB, 1200, .inl tp_bytes)), (a_tk, .inr (9, [.ref a_tp, .ref a_tk_kinds, .ref a_tk_values, .ref a_tk_places, .int tk_count_8, .int tk_start, .int tk_stop_2])), (a_tk_kinds, .inl (cI, 1201, .inl tk_kinds_9)), (a_tk_values, .inl (cI, 1201, .inl tk_values_10)), (a_tk_places, .inl (cI, 1201, .inl tk_places_11))] H := hP
      have hD : va_D A [(a_tp, .inr (8, [.ref a_tp_bytes, .int tp_size])), (a_tp_bytes, .inl (cB, 1200, .inl tp_bytes)), (a_tk, .inr (9, [.ref a_tp, .ref a_tk_kinds, .ref a_tk_values, .ref a_tk_places, .int tk_count_8, .int tk_start, .int tk_stop_2])), (a_tk_kinds, .inl (cI, 1201, .inl tk_kinds_9)), (a_tk_values, .inl (cI, 1201, .inl tk_values_10)), (a_tk_places, .inl (cI, 1201, .inl tk_places_11))] := hD
      rw [← hQ]
      have hP9 := hP
      have hD9 := hD
      exact W.vret hx hb hr (fun t ht hW => ⟨⟨(tk_count_8, tk_stop_2, tk_kinds_9, tk_values_10, tk_places_11), rfl, h, by rw [ht]; exact hP9, va_K.moved hW.alike hK, hD9⟩, hS.F ht⟩) hS.2.2 d_Tok_readWord_104
    · have h := And.right h c_66
      refine lv_iload_n hx hb d_Tok_readWord_69 rfl (lv_at hl 0 rfl) ?_
      refine lv_bipush (v := 97) hx hb d_Tok_readWord_70 (by decide) ?_
      refine lv_icmp_lt (tgt := 95) hx hb d_Tok_readWord_72 (by decide) (fun c_72 => ?_) (fun c_72 => ?_)
      · have h := And.left h c_72
        refine lv_aload_n hx hb d_Tok_readWord_95 rfl (lv_at hl 1 rfl) ?_
        refine lv_aload_n hx hb d_Tok_readWord_96 rfl (lv_at hl 1 rfl) ?_
        refine jn_i (wr := [(a_tk_kinds, .inl (cI, 1201, .inl tk_kinds_3)), (a_tk_values, .inl (cI, 1201, .inl tk_values_4)), (a_tk_places, .inl (cI, 1201, .inl tk_places_5))]) (va_runV (As := []) (rest := [.ref a_tk]) ⟨hx, hb, hml, hown, hts⟩ (c_Tok_wordKind l dC dI cI cB cZ adK adV _ a_tp a_tp_bytes a_tk a_tk_kinds a_tk_values a_tk_places tp_size tp_bytes tk_count_1 tk_start tk_stop_2 _ h) (cwV 0 hts (gv_ m_461 m_463 m_4 m_87 m_464) rfl rfl rfl pd_Tok_wordKind ⟨Nat.le_of_ble_eq_true rfl, Nat.le_of_ble_eq_true rfl⟩) ⟨pc_blind, va_recv hK hP (ci := 9) (q0 := 0) rfl rfl, pc_of (hP.sub [4, 5, 0] rfl) hK (hD.sub [4, 5, 0] (by decide) rfl) hN hT hS hA⟩ rfl rfl hl.1 rfl (lv_room (Nat.le_of_ble_eq_true rfl)) d_Tok_readWord_97 ⟨Nat.zero_le _, Nat.zero_le _⟩) hP hD hS hA [4, 5, 0] [1, 2, 3] rfl rfl (by decide) (by decide) (fun r_12 u_ H locs h hP hD hS => ?_)
        have hP : va_P (dC, dI) vwCl [(a_tk_kinds, .inl (cI, 1201, .inl tk_kinds_3)), (a_tk_values, .inl (cI, 1201, .inl tk_values_4)), (a_tk_places, .inl (cI, 1201, .inl tk_places_5)), (a_tp, .inr (8, [.ref a_tp_bytes, .int tp_size])), (a_tp_bytes, .inl (cB, 1200, .inl tp_bytes)), (a_tk, .inr (9, [.ref a_tp, .ref a_tk_kinds, .ref a_tk_values, .ref a_tk_places, .int tk_count_1, .int tk_start, .int tk_stop_2]))] H := hP
        have hD : va_D A [(a_tk_kinds, .inl (cI, 1201, .inl tk_kinds_3)), (a_tk_values, .inl (cI, 1201, .inl tk_values_4)), (a_tk_places, .inl (cI, 1201, .inl tk_places_5)), (a_tp, .inr (8, [.ref a_tp_bytes, .int tp_size])), (a_tp_bytes, .inl (cB, 1200, .inl tp_bytes)), (a_tk, .inr (9, [.ref a_tp, .ref a_tk_kinds, .ref a_tk_values, .ref a_tk_places, .int tk_count_1, .int tk_start, .int tk_stop_2]))] := hD
        refine lv_iconst (v := 0) hx hb d_Tok_readWord_100 (by decide) ?_
        refine jn_v (wr := [(a_tp, .inr (8, [.ref a_tp_bytes, .int tp_size])), (a_tp_bytes, .inl (cB, 1200, .inl tp_bytes))]) (va_runV (As := [.int r_12, .int 0]) (rest := []) ⟨hx, hb, hml, hown, hts⟩ (c_Tok_put l dC dI cI cB cZ adK adV _ a_tk a_tp a_tk_kinds a_tk_values a_tk_places tk_count_1 tk_start tk_stop_2 tk_kinds_3 tk_values_4 tk_places_5 r_12 0 _ h) (cwV 2 hts (gv_ m_457 m_459 m_3 m_87 m_460) rfl rfl rfl pd_Tok_put ⟨Nat.le_of_ble_eq_true rfl, Nat.le_of_ble_eq_true rfl⟩) ⟨pc_blind, va_recv hK hP (ci := 9) (q0 := 5) rfl rfl, pc_of (hP.sub [5, 0, 1, 2] rfl) hK (hD.sub [5, 0, 1, 2] (by decide) rfl) hN hT hS hA⟩ rfl rfl hl.1 rfl (lv_room (Nat.le_of_ble_eq_true rfl)) d_Tok_readWord_101 ⟨Nat.zero_le _, Nat.zero_le _⟩) hP hD hS hA [5, 0, 1, 2] [3, 4] rfl rfl (by decide) (by decide) (fun u_ H locs h hP hD hS => ?_)
        obtain ⟨tk_count_13, tk_kinds_14, tk_values_15, tk_places_16⟩ := u_
        have hP : va_P (dC, dI) vwCl [(a_tp, .inr (8, [.ref a_tp_bytes, .int tp_size])), (a_tp_bytes, .inl (cB, 1200, .inl tp_bytes)), (a_tk, .inr (9, [.ref a_tp, .ref a_tk_kinds, .ref a_tk_values, .ref a_tk_places, .int tk_count_13, .int tk_start, .int tk_stop_2])), (a_tk_kinds, .inl (cI, 1201, .inl tk_kinds_14)), (a_tk_values, .inl (cI, 1201, .inl tk_values_15)), (a_tk_places, .inl (cI, 1201, .inl tk_places_16))] H := hP
        have hD : va_D A [(a_tp, .inr (8, [.ref a_tp_bytes, .int tp_size])), (a_tp_bytes, .inl (cB, 1200, .inl tp_bytes)), (a_tk, .inr (9, [.ref a_tp, .ref a_tk_kinds, .ref a_tk_values, .ref a_tk_places, .int tk_count_13, .int tk_start, .int tk_stop_2])), (a_tk_kinds, .inl (cI, 1201, .inl tk_kinds_14)), (a_tk_values, .inl (cI, 1201, .inl tk_values_15)), (a_tk_places, .inl (cI, 1201, .inl tk_places_16))] := hD
        rw [← hQ]
        have hP9 := hP
        have hD9 := hD
        exact W.vret hx hb hr (fun t ht hW => ⟨⟨(tk_count_13, tk_stop_2, tk_kinds_14, tk_values_15, tk_places_16), rfl, h, by rw [ht]; exact hP9, va_K.moved hW.alike hK, hD9⟩, hS.F ht⟩) hS.2.2 d_Tok_readWord_104
      · have h := And.right h c_72
        refine lv_iload_n hx hb d_Tok_readWord_75 rfl (lv_at hl 0 rfl) ?_
        refine lv_bipush (v := 100) hx hb d_Tok_readWord_76 (by decide) ?_
        refine lv_icmp_ge (tgt := 95) hx hb d_Tok_readWord_78 (by decide) (fun c_78 => ?_) (fun c_78 => ?_)
        · have h := And.left h c_78
          refine lv_aload_n hx hb d_Tok_readWord_95 rfl (lv_at hl 1 rfl) ?_
          refine lv_aload_n hx hb d_Tok_readWord_96 rfl (lv_at hl 1 rfl) ?_
          refine jn_i (wr := [(a_tk_kinds, .inl (cI, 1201, .inl tk_kinds_3)), (a_tk_values, .inl (cI, 1201, .inl tk_values_4)), (a_tk_places, .inl (cI, 1201, .inl tk_places_5))]) (va_runV (As := []) (rest := [.ref a_tk]) ⟨hx, hb, hml, hown, hts⟩ (c_Tok_wordKind l dC dI cI cB cZ adK adV _ a_tp a_tp_bytes a_tk a_tk_kinds a_tk_values a_tk_places tp_size tp_bytes tk_count_1 tk_start tk_stop_2 _ h) (cwV 0 hts (gv_ m_461 m_463 m_4 m_87 m_464) rfl rfl rfl pd_Tok_wordKind ⟨Nat.le_of_ble_eq_true rfl, Nat.le_of_ble_eq_true rfl⟩) ⟨pc_blind, va_recv hK hP (ci := 9) (q0 := 0) rfl rfl, pc_of (hP.sub [4, 5, 0] rfl) hK (hD.sub [4, 5, 0] (by decide) rfl) hN hT hS hA⟩ rfl rfl hl.1 rfl (lv_room (Nat.le_of_ble_eq_true rfl)) d_Tok_readWord_97 ⟨Nat.zero_le _, Nat.zero_le _⟩) hP hD hS hA [4, 5, 0] [1, 2, 3] rfl rfl (by decide) (by decide) (fun r_17 u_ H locs h hP hD hS => ?_)
          have hP : va_P (dC, dI) vwCl [(a_tk_kinds, .inl (cI, 1201, .inl tk_kinds_3)), (a_tk_values, .inl (cI, 1201, .inl tk_values_4)), (a_tk_places, .inl (cI, 1201, .inl tk_places_5)), (a_tp, .inr (8, [.ref a_tp_bytes, .int tp_size])), (a_tp_bytes, .inl (cB, 1200, .inl tp_bytes)), (a_tk, .inr (9, [.ref a_tp, .ref a_tk_kinds, .ref a_tk_values, .ref a_tk_places, .int tk_count_1, .int tk_start, .int tk_stop_2]))] H := hP
          have hD : va_D A [(a_tk_kinds, .inl (cI, 1201, .inl tk_kinds_3)), (a_tk_values, .inl (cI, 1201, .inl tk_values_4)), (a_tk_places, .inl (cI, 1201, .inl tk_places_5)), (a_tp, .inr (8, [.ref a_tp_bytes, .int tp_size])), (a_tp_bytes, .inl (cB, 1200, .inl tp_bytes)), (a_tk, .inr (9, [.ref a_tp, .ref a_tk_kinds, .ref a_tk_values, .ref a_tk_places, .int tk_count_1, .int tk_start, .int tk_stop_2]))] := hD
          refine lv_iconst (v := 0) hx hb d_Tok_readWord_100 (by decide) ?_
          refine jn_v (wr := [(a_tp, .inr (8, [.ref a_tp_bytes, .int tp_size])), (a_tp_bytes, .inl (cB, 1200, .inl tp_bytes))]) (va_runV (As := [.int r_17, .int 0]) (rest := []) ⟨hx, hb, hml, hown, hts⟩ (c_Tok_put l dC dI cI cB cZ adK adV _ a_tk a_tp a_tk_kinds a_tk_values a_tk_places tk_count_1 tk_start tk_stop_2 tk_kinds_3 tk_values_4 tk_places_5 r_17 0 _ h) (cwV 2 hts (gv_ m_457 m_459 m_3 m_87 m_460) rfl rfl rfl pd_Tok_put ⟨Nat.le_of_ble_eq_true rfl, Nat.le_of_ble_eq_true rfl⟩) ⟨pc_blind, va_recv hK hP (ci := 9) (q0 := 5) rfl rfl, pc_of (hP.sub [5, 0, 1, 2] rfl) hK (hD.sub [5, 0, 1, 2] (by decide) rfl) hN hT hS hA⟩ rfl rfl hl.1 rfl (lv_room (Nat.le_of_ble_eq_true rfl)) d_Tok_readWord_101 ⟨Nat.zero_le _, Nat.zero_le _⟩) hP hD hS hA [5, 0, 1, 2] [3, 4] rfl rfl (by decide) (by decide) (fun u_ H locs h hP hD hS => ?_)
          obtain ⟨tk_count_18, tk_kinds_19, tk_values_20, tk_places_21⟩ := u_
          have hP : va_P (dC, dI) vwCl [(a_tp, .inr (8, [.ref a_tp_bytes, .int tp_size])), (a_tp_bytes, .inl (cB, 1200, .inl tp_bytes)), (a_tk, .inr (9, [.ref a_tp, .ref a_tk_kinds, .ref a_tk_values, .ref a_tk_places, .int tk_count_18, .int tk_start, .int tk_stop_2])), (a_tk_kinds, .inl (cI, 1201, .inl tk_kinds_19)), (a_tk_values, .inl (cI, 1201, .inl tk_values_20)), (a_tk_places, .inl (cI, 1201, .inl tk_places_21))] H := hP
          have hD : va_D A [(a_tp, .inr (8, [.ref a_tp_bytes, .int tp_size])), (a_tp_bytes, .inl (cB, 1200, .inl tp_bytes)), (a_tk, .inr (9, [.ref a_tp, .ref a_tk_kinds, .ref a_tk_values, .ref a_tk_places, .int tk_count_18, .int tk_start, .int tk_stop_2])), (a_tk_kinds, .inl (cI, 1201, .inl tk_kinds_19)), (a_tk_values, .inl (cI, 1201, .inl tk_values_20)), (a_tk_places, .inl (cI, 1201, .inl tk_places_21))] := hD
          rw [← hQ]
          have hP9 := hP
          have hD9 := hD
          exact W.vret hx hb hr (fun t ht hW => ⟨⟨(tk_count_18, tk_stop_2, tk_kinds_19, tk_values_20, tk_places_21), rfl, h, by rw [ht]; exact hP9, va_K.moved hW.alike hK, hD9⟩, hS.F ht⟩) hS.2.2 d_Tok_readWord_104
        · have h := And.right h c_78
          refine lv_aload_n hx hb d_Tok_readWord_81 rfl (lv_at hl 1 rfl) ?_
          refine lv_sipush (v := 259) hx hb d_Tok_readWord_82 (by decide) ?_
          refine lv_iload_n hx hb d_Tok_readWord_85 rfl (lv_at hl 0 rfl) ?_
          refine lv_bipush (v := 97) hx hb d_Tok_readWord_86 (by decide) ?_
          refine lv_isub hx hb d_Tok_readWord_88 ?_
          refine jn_v (wr := [(a_tp, .inr (8, [.ref a_tp_bytes, .int tp_size])), (a_tp_bytes, .inl (cB, 1200, .inl tp_bytes))]) (va_runV (As := [.int 259, .int (r_6 - 97)]) (rest := []) ⟨hx, hb, hml, hown, hts⟩ (c_Tok_put l dC dI cI cB cZ adK adV _ a_tk a_tp a_tk_kinds a_tk_values a_tk_places tk_count_1 tk_start tk_stop_2 tk_kinds_3 tk_values_4 tk_places_5 259 (r_6 - 97) _ h) (cwV 2 hts (gv_ m_457 m_459 m_3 m_87 m_460) rfl rfl rfl pd_Tok_put ⟨Nat.le_of_ble_eq_true rfl, Nat.le_of_ble_eq_true rfl⟩) ⟨pc_blind, va_recv hK hP (ci := 9) (q0 := 0) rfl rfl, pc_of (hP.sub [0, 1, 2, 3] rfl) hK (hD.sub [0, 1, 2, 3] (by decide) rfl) hN hT hS hA⟩ rfl rfl hl.1 rfl (lv_room (Nat.le_of_ble_eq_true rfl)) d_Tok_readWord_89 ⟨Nat.zero_le _, Nat.zero_le _⟩) hP hD hS hA [0, 1, 2, 3] [4, 5] rfl rfl (by decide) (by decide) (fun u_ H locs h hP hD hS => ?_)
          obtain ⟨tk_count_22, tk_kinds_23, tk_values_24, tk_places_25⟩ := u_
          have hP : va_P (dC, dI) vwCl [(a_tp, .inr (8, [.ref a_tp_bytes, .int tp_size])), (a_tp_bytes, .inl (cB, 1200, .inl tp_bytes)), (a_tk, .inr (9, [.ref a_tp, .ref a_tk_kinds, .ref a_tk_values, .ref a_tk_places, .int tk_count_22, .int tk_start, .int tk_stop_2])), (a_tk_kinds, .inl (cI, 1201, .inl tk_kinds_23)), (a_tk_values, .inl (cI, 1201, .inl tk_values_24)), (a_tk_places, .inl (cI, 1201, .inl tk_places_25))] H := hP
          have hD : va_D A [(a_tp, .inr (8, [.ref a_tp_bytes, .int tp_size])), (a_tp_bytes, .inl (cB, 1200, .inl tp_bytes)), (a_tk, .inr (9, [.ref a_tp, .ref a_tk_kinds, .ref a_tk_values, .ref a_tk_places, .int tk_count_22, .int tk_start, .int tk_stop_2])), (a_tk_kinds, .inl (cI, 1201, .inl tk_kinds_23)), (a_tk_values, .inl (cI, 1201, .inl tk_values_24)), (a_tk_places, .inl (cI, 1201, .inl tk_places_25))] := hD
          refine lv_goto (tgt := 104) hx hb d_Tok_readWord_92 (by decide) ?_
          rw [← hQ]
          have hP9 := hP
          have hD9 := hD
          exact W.vret hx hb hr (fun t ht hW => ⟨⟨(tk_count_22, tk_stop_2, tk_kinds_23, tk_values_24, tk_places_25), rfl, h, by rw [ht]; exact hP9, va_K.moved hW.alike hK, hD9⟩, hS.F ht⟩) hS.2.2 d_Tok_readWord_104
  have L0_q_27 : ∀ (k44 : (Int32) → Prop) (hk44 : ∀ (tk_stop_28 : Int32), k44 tk_stop_28 → ∀ (H : Heap) (locs : List Loc), va_P (dC, dI) vwCl [(a_tp, .inr (8, [.ref a_tp_bytes, .int tp_size])), (a_tp_bytes, .inl (cB, 1200, .inl tp_bytes)), (a_tk, .inr (9, [.ref a_tp, .ref a_tk_kinds, .ref a_tk_values, .ref a_tk_places, .int tk_count, .int tk_start, .int tk_stop_28])), (a_tk_kinds, .inl (cI, 1201, .inl tk_kinds)), (a_tk_values, .inl (cI, 1201, .inl tk_values)), (a_tk_places, .inl (cI, 1201, .inl tk_places))] H → va_D A [(a_tp, .inr (8, [.ref a_tp_bytes, .int tp_size])), (a_tp_bytes, .inl (cB, 1200, .inl tp_bytes)), (a_tk, .inr (9, [.ref a_tp, .ref a_tk_kinds, .ref a_tk_values, .ref a_tk_places, .int tk_count, .int tk_start, .int tk_stop_28])), (a_tk_kinds, .inl (cI, 1201, .inl tk_kinds)), (a_tk_values, .inl (cI, 1201, .inl tk_values)), (a_tk_places, .inl (cI, 1201, .inl tk_places))] → va_S A s.heap H locs → ∀ ls : Array Slot, lv_has ls 2 [(0, .ref a_tk)] → W p l e (headSpec w_Tok_readWord ({ frames := 6, cells := 0, slots := 0, locals := 127 })).room s m (([.ref a_tk] : List Value).toArray) below meth c H locs 0 0 QQ (F0 m 44 ls [])) (n : Nat) (tk_stop_26 : Int32), wp_Tok_readWord_L0 tp_size tp_bytes k44 n tk_stop_26 → ∀ (H : Heap) (locs : List Loc), va_P (dC, dI) vwCl [(a_tp, .inr (8, [.ref a_tp_bytes, .int tp_size])), (a_tp_bytes, .inl (cB, 1200, .inl tp_bytes)), (a_tk, .inr (9, [.ref a_tp, .ref a_tk_kinds, .ref a_tk_values, .ref a_tk_places, .int tk_count, .int tk_start, .int tk_stop_26])), (a_tk_kinds, .inl (cI, 1201, .inl tk_kinds)), (a_tk_values, .inl (cI, 1201, .inl tk_values)), (a_tk_places, .inl (cI, 1201, .inl tk_places))] H → va_D A [(a_tp, .inr (8, [.ref a_tp_bytes, .int tp_size])), (a_tp_bytes, .inl (cB, 1200, .inl tp_bytes)), (a_tk, .inr (9, [.ref a_tp, .ref a_tk_kinds, .ref a_tk_values, .ref a_tk_places, .int tk_count, .int tk_start, .int tk_stop_26])), (a_tk_kinds, .inl (cI, 1201, .inl tk_kinds)), (a_tk_values, .inl (cI, 1201, .inl tk_values)), (a_tk_places, .inl (cI, 1201, .inl tk_places))] → va_S A s.heap H locs → ∀ ls : Array Slot, lv_has ls 2 [(0, .ref a_tk)] → W p l e (headSpec w_Tok_readWord ({ frames := 6, cells := 0, slots := 0, locals := 127 })).room s m (([.ref a_tk] : List Value).toArray) below meth c H locs 0 0 QQ (F0 m 0 ls []) := by
    intro k44 hk44 n
    induction n with
    | zero => intro tk_stop_26 h; exact (show False from h).elim
    | succ n il =>
      intro tk_stop_26 h
      intro H locs hP hD hS ls hl
      refine lv_aload_n hx hb d_Tok_readWord_0 rfl (lv_at hl 0 rfl) ?_
      refine va_get (D := (dC, dI)) (ci := 9) (v := .int tk_stop_26) (C := "LoopInduction$Tokens") (T := F_Tok) (N := 7) hx hb hts iC_Tok hown hK hP 2 rfl rfl 6 (by decide) fl_30 (fun _ h9 => h9) rfl d_Tok_readWord_1 ?_
      refine lv_aload_n hx hb d_Tok_readWord_4 rfl (lv_at hl 0 rfl) ?_
      refine va_get (D := (dC, dI)) (ci := 9) (v := .ref a_tp) (C := "LoopInduction$Tokens") (T := F_Tok) (N := 7) hx hb hts iC_Tok hown hK hP 2 rfl rfl 0 (by decide) fl_33 (fun _ h9 => h9) rfl d_Tok_readWord_5 ?_
      refine jn_i (wr := [(a_tp_bytes, .inl (cB, 1200, .inl tp_bytes)), (a_tk, .inr (9, [.ref a_tp, .ref a_tk_kinds, .ref a_tk_values, .ref a_tk_places, .int tk_count, .int tk_start, .int tk_stop_26])), (a_tk_kinds, .inl (cI, 1201, .inl tk_kinds)), (a_tk_values, .inl (cI, 1201, .inl tk_values)), (a_tk_places, .inl (cI, 1201, .inl tk_places))]) (va_runV (As := []) (rest := [.int tk_stop_26]) ⟨hx, hb, hml, hown, hts⟩ (c_Tape_size l dC dI cI cB cZ adK adV _ a_tp a_tp_bytes tp_size _ h) (cwV 0 hts (gv_ m_438 m_415 m_416 m_86 m_417) rfl rfl rfl pd_Tape_size ⟨Nat.le_of_ble_eq_true rfl, Nat.le_of_ble_eq_true rfl⟩) ⟨pc_blind, va_recv hK hP (ci := 8) (q0 := 0) rfl rfl, pc_of (hP.sub [0] rfl) hK (hD.sub [0] (by decide) rfl) hN hT hS hA⟩ rfl rfl hl.1 rfl (lv_room (Nat.le_of_ble_eq_true rfl)) d_Tok_readWord_8 ⟨Nat.zero_le _, Nat.zero_le _⟩) hP hD hS hA [0] [1, 2, 3, 4, 5] rfl rfl (by decide) (by decide) (fun r_29 u_ H locs h hP hD hS => ?_)
      have hP : va_P (dC, dI) vwCl [(a_tp_bytes, .inl (cB, 1200, .inl tp_bytes)), (a_tk, .inr (9, [.ref a_tp, .ref a_tk_kinds, .ref a_tk_values, .ref a_tk_places, .int tk_count, .int tk_start, .int tk_stop_26])), (a_tk_kinds, .inl (cI, 1201, .inl tk_kinds)), (a_tk_values, .inl (cI, 1201, .inl tk_values)), (a_tk_places, .inl (cI, 1201, .inl tk_places)), (a_tp, .inr (8, [.ref a_tp_bytes, .int tp_size]))] H := hP
      have hD : va_D A [(a_tp_bytes, .inl (cB, 1200, .inl tp_bytes)), (a_tk, .inr (9, [.ref a_tp, .ref a_tk_kinds, .ref a_tk_values, .ref a_tk_places, .int tk_count, .int tk_start, .int tk_stop_26])), (a_tk_kinds, .inl (cI, 1201, .inl tk_kinds)), (a_tk_values, .inl (cI, 1201, .inl tk_values)), (a_tk_places, .inl (cI, 1201, .inl tk_places)), (a_tp, .inr (8, [.ref a_tp_bytes, .int tp_size]))] := hD
      refine lv_icmp_ge (tgt := 44) hx hb d_Tok_readWord_11 (by decide) (fun c_11 => ?_) (fun c_11 => ?_)
      · have h := And.left h c_11
        exact hk44 _ h _ _ (hP.sub [5, 0, 1, 2, 3, 4] rfl) (hD.sub [5, 0, 1, 2, 3, 4] (by decide) rfl) hS _ hl
      · have h := And.right h c_11
        refine lv_aload_n hx hb d_Tok_readWord_14 rfl (lv_at hl 0 rfl) ?_
        refine va_get (D := (dC, dI)) (ci := 9) (v := .ref a_tp) (C := "LoopInduction$Tokens") (T := F_Tok) (N := 7) hx hb hts iC_Tok hown hK hP 1 rfl rfl 0 (by decide) fl_33 (fun _ h9 => h9) rfl d_Tok_readWord_15 ?_
        refine lv_aload_n hx hb d_Tok_readWord_18 rfl (lv_at hl 0 rfl) ?_
        refine va_get (D := (dC, dI)) (ci := 9) (v := .int tk_stop_26) (C := "LoopInduction$Tokens") (T := F_Tok) (N := 7) hx hb hts iC_Tok hown hK hP 1 rfl rfl 6 (by decide) fl_30 (fun _ h9 => h9) rfl d_Tok_readWord_19 ?_
        refine jn_i (wr := [(a_tk, .inr (9, [.ref a_tp, .ref a_tk_kinds, .ref a_tk_values, .ref a_tk_places, .int tk_count, .int tk_start, .int tk_stop_26])), (a_tk_kinds, .inl (cI, 1201, .inl tk_kinds)), (a_tk_values, .inl (cI, 1201, .inl tk_values)), (a_tk_places, .inl (cI, 1201, .inl tk_places))]) (va_runV (As := [.int tk_stop_26]) (rest := []) ⟨hx, hb, hml, hown, hts⟩ (c_Tape_byteAt l dC dI cI cB cZ adK adV _ a_tp a_tp_bytes tp_size tp_bytes tk_stop_26 _ h) (cwV 1 hts (gv_ m_439 m_440 m_441 m_86 m_442) rfl rfl rfl pd_Tape_byteAt ⟨Nat.le_of_ble_eq_true rfl, Nat.le_of_ble_eq_true rfl⟩) ⟨pc_blind, va_recv hK hP (ci := 8) (q0 := 5) rfl rfl, pc_of (hP.sub [5, 0] rfl) hK (hD.sub [5, 0] (by decide) rfl) hN hT hS hA⟩ rfl rfl hl.1 rfl (lv_room (Nat.le_of_ble_eq_true rfl)) d_Tok_readWord_22 ⟨Nat.zero_le _, Nat.zero_le _⟩) hP hD hS hA [5, 0] [1, 2, 3, 4] rfl rfl (by decide) (by decide) (fun r_30 u_ H locs h hP hD hS => ?_)
        have hP : va_P (dC, dI) vwCl [(a_tk, .inr (9, [.ref a_tp, .ref a_tk_kinds, .ref a_tk_values, .ref a_tk_places, .int tk_count, .int tk_start, .int tk_stop_26])), (a_tk_kinds, .inl (cI, 1201, .inl tk_kinds)), (a_tk_values, .inl (cI, 1201, .inl tk_values)), (a_tk_places, .inl (cI, 1201, .inl tk_places)), (a_tp, .inr (8, [.ref a_tp_bytes, .int tp_size])), (a_tp_bytes, .inl (cB, 1200, .inl tp_bytes))] H := hP
        have hD : va_D A [(a_tk, .inr (9, [.ref a_tp, .ref a_tk_kinds, .ref a_tk_values, .ref a_tk_places, .int tk_count, .int tk_start, .int tk_stop_26])), (a_tk_kinds, .inl (cI, 1201, .inl tk_kinds)), (a_tk_values, .inl (cI, 1201, .inl tk_values)), (a_tk_places, .inl (cI, 1201, .inl tk_places)), (a_tp, .inr (8, [.ref a_tp_bytes, .int tp_size])), (a_tp_bytes, .inl (cB, 1200, .inl tp_bytes))] := hD
        refine jn_i (wr := [(a_tk, .inr (9, [.ref a_tp, .ref a_tk_kinds, .ref a_tk_values, .ref a_tk_places, .int tk_count, .int tk_start, .int tk_stop_26])), (a_tk_kinds, .inl (cI, 1201, .inl tk_kinds)), (a_tk_values, .inl (cI, 1201, .inl tk_values)), (a_tk_places, .inl (cI, 1201, .inl tk_places)), (a_tp, .inr (8, [.ref a_tp_bytes, .int tp_size])), (a_tp_bytes, .inl (cB, 1200, .inl tp_bytes))]) (va_runS (As := [.int r_30]) (rest := []) ⟨hx, hb, hml, hown, hts⟩ (c_Tok_isLetter l dC dI cI cB cZ adK adV _ r_30 _ h) (cwS 1 hts (gs_ m_450 m_451 m_87 m_452) rfl rfl rfl pd_Tok_isLetter ⟨Nat.le_of_ble_eq_true rfl, Nat.le_of_ble_eq_true rfl⟩) ⟨pc_blind, pc_of (hP.sub [] rfl) hK (hD.sub [] (by decide) rfl) hN hT hS hA⟩ rfl rfl hl.1 rfl (lv_room (Nat.le_of_ble_eq_true rfl)) d_Tok_readWord_25 ⟨Nat.zero_le _, Nat.zero_le _⟩) hP hD hS hA [] [0, 1, 2, 3, 4, 5] rfl rfl (by decide) (by decide) (fun r_31 u_ H locs h hP hD hS => ?_)
        have hP : va_P (dC, dI) vwCl [(a_tk, .inr (9, [.ref a_tp, .ref a_tk_kinds, .ref a_tk_values, .ref a_tk_places, .int tk_count, .int tk_start, .int tk_stop_26])), (a_tk_kinds, .inl (cI, 1201, .inl tk_kinds)), (a_tk_values, .inl (cI, 1201, .inl tk_values)), (a_tk_places, .inl (cI, 1201, .inl tk_places)), (a_tp, .inr (8, [.ref a_tp_bytes, .int tp_size])), (a_tp_bytes, .inl (cB, 1200, .inl tp_bytes))] H := hP
        have hD : va_D A [(a_tk, .inr (9, [.ref a_tp, .ref a_tk_kinds, .ref a_tk_values, .ref a_tk_places, .int tk_count, .int tk_start, .int tk_stop_26])), (a_tk_kinds, .inl (cI, 1201, .inl tk_kinds)), (a_tk_values, .inl (cI, 1201, .inl tk_values)), (a_tk_places, .inl (cI, 1201, .inl tk_places)), (a_tp, .inr (8, [.ref a_tp_bytes, .int tp_size])), (a_tp_bytes, .inl (cB, 1200, .inl tp_bytes))] := hD
        refine lv_if_eq (tgt := 44) hx hb d_Tok_readWord_28 (by decide) (fun c_28 => ?_) (fun c_28 => ?_)
        · have h := And.left h c_28
          exact hk44 _ h _ _ (hP.sub [4, 5, 0, 1, 2, 3] rfl) (hD.sub [4, 5, 0, 1, 2, 3] (by decide) rfl) hS _ hl
        · have h := And.right h c_28
          refine lv_aload_n hx hb d_Tok_readWord_31 rfl (lv_at hl 0 rfl) ?_
          refine lv_dup hx hb d_Tok_readWord_32 rfl ?_
          refine va_get (D := (dC, dI)) (ci := 9) (v := .int tk_stop_26) (C := "LoopInduction$Tokens") (T := F_Tok) (N := 7) hx hb hts iC_Tok hown hK hP 0 rfl rfl 6 (by decide) fl_30 (fun _ h9 => h9) rfl d_Tok_readWord_33 ?_
          refine lv_iconst (v := 1) hx hb d_Tok_readWord_36 (by decide) ?_
          refine lv_iadd hx hb d_Tok_readWord_37 ?_
          refine va_put (D := (dC, dI)) (ci := 9) (v := .int (tk_stop_26 + 1)) (ty := .int) (C := "LoopInduction$Tokens") (T := F_Tok) (N := 7) hx hb hts iC_Tok t_Tok t_Tok_ok n_Tok hown hK hP hD hS 0 rfl rfl 6 (by decide) fl_30 (fun _ h9 => h9) rfl (by decide +kernel) rfl rfl (Nat.le_of_ble_eq_true rfl) d_Tok_readWord_38 (fun H locs hP hD hS => ?_)
          have hP : va_P (dC, dI) vwCl [(a_tk, .inr (9, [.ref a_tp, .ref a_tk_kinds, .ref a_tk_values, .ref a_tk_places, .int tk_count, .int tk_start, .int (tk_stop_26 + 1)])), (a_tk_kinds, .inl (cI, 1201, .inl tk_kinds)), (a_tk_values, .inl (cI, 1201, .inl tk_values)), (a_tk_places, .inl (cI, 1201, .inl tk_places)), (a_tp, .inr (8, [.ref a_tp_bytes, .int tp_size])), (a_tp_bytes, .inl (cB, 1200, .inl tp_bytes))] H := hP
          have hD : va_D A [(a_tk, .inr (9, [.ref a_tp, .ref a_tk_kinds, .ref a_tk_values, .ref a_tk_places, .int tk_count, .int tk_start, .int (tk_stop_26 + 1)])), (a_tk_kinds, .inl (cI, 1201, .inl tk_kinds)), (a_tk_values, .inl (cI, 1201, .inl tk_values)), (a_tk_places, .inl (cI, 1201, .inl tk_places)), (a_tp, .inr (8, [.ref a_tp_bytes, .int tp_size])), (a_tp_bytes, .inl (cB, 1200, .inl tp_bytes))] := hD
          refine lv_goto (tgt := 0) hx hb d_Tok_readWord_41 (by decide) ?_
          exact il _ h _ _ (hP.sub [4, 5, 0, 1, 2, 3] rfl) (hD.sub [4, 5, 0, 1, 2, 3] (by decide) rfl) hS _ hl
  obtain ⟨n_, h⟩ := h
  refine L0_q_27 _ ?_ n_ _ h _ _ hP hD hS _ hl
  intro tk_stop_32 h
  intro H locs hP hD hS ls hl
  exact J44 _ _ _ _ _ h _ _ hP hD hS _ hl
set_option maxHeartbeats 4000000 in
set_option maxRecDepth 100000 in
theorem c_Tok_isDigit (l : Launch) (dC : Nat → ClassId) (dI : Nat → Nat → Nat) (cI cB cZ : ClassId) (adK adV : Nat → Nat) (sz : Nat) (x0 : Int32) (post : Int32 → Prop) (h : wp_Tok_isDigit x0 post) : Met l y_Tok_isDigit w_Tok_isDigit ({ frames := 0, cells := 0, slots := 0, locals := 0 }) (pc_ (dC, dI) [(cI, .int), (cB, .byte), (cZ, .boolean)] [] sz adK adV [.int x0]) (va_Qi (fun (r : Int32) (u : Unit) => post r ) (fun (u : Unit) t => bw_ (dC, dI) [(cI, .int), (cB, .byte), (cZ, .boolean)] (va_A [] sz) [] t) (va_A [] sz)) 0 0 (va_A [] sz) := by
  refine Met.ofW (cc := b_Tok_isDigit) (maxL := 1) (ret := (some .boolean)) (by decide) rfl ?_
  intro p e s m args below meth c s₁ B hml hv
  obtain ⟨rfl, hsz, hP, hK, hD0, hN, hT⟩ := hv
  have hx := B.exec
  have hb := B.bytes
  have hr := B.returns
  have hts := atoms_spec (ws := w_Tok_isDigit) B.pre
  have hown : s.vm.findClass "LoopInduction$Tokens" = some m.cls := findClass_of_methodNamed B.named
  have hlocks := B.notSynchronized
  subst hsz
  have hD := hD0.self (sz := s.heap.size)
  generalize hAe : va_A [] s.heap.size = A at hD hT ⊢
  have hA : ∀ q : Nat, s.heap.size ≤ q → A q := fun q h => by rw [← hAe]; exact Or.inr h
  have hS : va_S A s.heap s.heap [] := va_S.rf
  generalize hQ : MQ below _ _ s 0 0 _ = QQ
  have hl := lv_entry ([.int x0]) (n := 1) (Nat.le_of_ble_eq_true rfl)
  rw [lg_entry_eq]
  generalize (lg_sl ([.int x0]) ++ List.replicate (1 - (lg_sl ([.int x0])).length) Slot.unset).toArray = ls at hl ⊢
  have hl : lv_has ls 1 [(0, .int x0)] := hl
  refine lv_iload_n hx hb d_Tok_isDigit_0 rfl (lv_at hl 0 rfl) ?_
  refine lv_bipush (v := 48) hx hb d_Tok_isDigit_1 (by decide) ?_
  refine lv_icmp_lt (tgt := 16) hx hb d_Tok_isDigit_3 (by decide) (fun c_3 => ?_) (fun c_3 => ?_)
  · have h := And.left h c_3
    refine lv_iconst (v := 0) hx hb d_Tok_isDigit_16 (by decide) ?_
    rw [← hQ]
    have hP9 := hP
    have hD9 := hD
    exact W.zret (v := 0) hx hb hr rfl (fun t ht hW => ⟨⟨0, (), rfl, h, by rw [ht]; exact hP9, va_K.moved hW.alike hK, hD9⟩, hS.F ht⟩) hS.2.2 d_Tok_isDigit_17
  · have h := And.right h c_3
    refine lv_iload_n hx hb d_Tok_isDigit_6 rfl (lv_at hl 0 rfl) ?_
    refine lv_bipush (v := 57) hx hb d_Tok_isDigit_7 (by decide) ?_
    refine lv_icmp_gt (tgt := 16) hx hb d_Tok_isDigit_9 (by decide) (fun c_9 => ?_) (fun c_9 => ?_)
    · have h := And.left h c_9
      refine lv_iconst (v := 0) hx hb d_Tok_isDigit_16 (by decide) ?_
      rw [← hQ]
      have hP9 := hP
      have hD9 := hD
      exact W.zret (v := 0) hx hb hr rfl (fun t ht hW => ⟨⟨0, (), rfl, h, by rw [ht]; exact hP9, va_K.moved hW.alike hK, hD9⟩, hS.F ht⟩) hS.2.2 d_Tok_isDigit_17
    · have h := And.right h c_9
      refine lv_iconst (v := 1) hx hb d_Tok_isDigit_12 (by decide) ?_
      refine lv_goto (tgt := 17) hx hb d_Tok_isDigit_13 (by decide) ?_
      rw [← hQ]
      have hP9 := hP
      have hD9 := hD
      exact W.zret (v := 1) hx hb hr rfl (fun t ht hW => ⟨⟨1, (), rfl, h, by rw [ht]; exact hP9, va_K.moved hW.alike hK, hD9⟩, hS.F ht⟩) hS.2.2 d_Tok_isDigit_17
set_option maxHeartbeats 4000000 in
set_option maxRecDepth 100000 in
theorem c_Tok_readNumber (l : Launch) (dC : Nat → ClassId) (dI : Nat → Nat → Nat) (cI cB cZ : ClassId) (adK adV : Nat → Nat) (sz : Nat) (a_tp a_tp_bytes a_tk a_tk_kinds a_tk_values a_tk_places : Nat) (tp_size : Int32) (tp_bytes : Nat → Int32) (tk_count : Int32) (tk_start : Int32) (tk_stop : Int32) (tk_kinds : Nat → Int32) (tk_values : Nat → Int32) (tk_places : Nat → Int32) (post : Int32 → Int32 → (Nat → Int32) → (Nat → Int32) → (Nat → Int32) → Prop) (h : wp_Tok_readNumber tp_size tp_bytes tk_count tk_start tk_stop tk_kinds tk_values tk_places post) : Met l y_Tok_readNumber w_Tok_readNumber ({ frames := 1, cells := 0, slots := 0, locals := 22 }) (pc_ (dC, dI) [(cI, .int), (cB, .byte), (cZ, .boolean)] [(a_tp, .inr (8, [.ref a_tp_bytes, .int tp_size])), (a_tp_bytes, .inl (cB, 1200, .inl tp_bytes)), (a_tk, .inr (9, [.ref a_tp, .ref a_tk_kinds, .ref a_tk_values, .ref a_tk_places, .int tk_count, .int tk_start, .int tk_stop])), (a_tk_kinds, .inl (cI, 1201, .inl tk_kinds)), (a_tk_values, .inl (cI, 1201, .inl tk_values)), (a_tk_places, .inl (cI, 1201, .inl tk_places))] sz adK adV [.ref a_tk]) (va_Qv (fun (u : Int32 × Int32 × (Nat → Int32) × (Nat → Int32) × (Nat → Int32)) => post u.1 u.2.1 u.2.2.1 u.2.2.2.1 u.2.2.2.2) (fun (u : Int32 × Int32 × (Nat → Int32) × (Nat → Int32) × (Nat → Int32)) t => bw_ (dC, dI) [(cI, .int), (cB, .byte), (cZ, .boolean)] (va_A [(a_tp, .inr (8, [.ref a_tp_bytes, .int tp_size])), (a_tp_bytes, .inl (cB, 1200, .inl tp_bytes)), (a_tk, .inr (9, [.ref a_tp, .ref a_tk_kinds, .ref a_tk_values, .ref a_tk_places, .int tk_count, .int tk_start, .int tk_stop])), (a_tk_kinds, .inl (cI, 1201, .inl tk_kinds)), (a_tk_values, .inl (cI, 1201, .inl tk_values)), (a_tk_places, .inl (cI, 1201, .inl tk_places))] sz) [(a_tp, .inr (8, [.ref a_tp_bytes, .int tp_size])), (a_tp_bytes, .inl (cB, 1200, .inl tp_bytes)), (a_tk, .inr (9, [.ref a_tp, .ref a_tk_kinds, .ref a_tk_values, .ref a_tk_places, .int u.1, .int tk_start, .int u.2.1])), (a_tk_kinds, .inl (cI, 1201, .inl u.2.2.1)), (a_tk_values, .inl (cI, 1201, .inl u.2.2.2.1)), (a_tk_places, .inl (cI, 1201, .inl u.2.2.2.2))] t) (va_A [(a_tp, .inr (8, [.ref a_tp_bytes, .int tp_size])), (a_tp_bytes, .inl (cB, 1200, .inl tp_bytes)), (a_tk, .inr (9, [.ref a_tp, .ref a_tk_kinds, .ref a_tk_values, .ref a_tk_places, .int tk_count, .int tk_start, .int tk_stop])), (a_tk_kinds, .inl (cI, 1201, .inl tk_kinds)), (a_tk_values, .inl (cI, 1201, .inl tk_values)), (a_tk_places, .inl (cI, 1201, .inl tk_places))] sz)) 0 0 (va_A [(a_tp, .inr (8, [.ref a_tp_bytes, .int tp_size])), (a_tp_bytes, .inl (cB, 1200, .inl tp_bytes)), (a_tk, .inr (9, [.ref a_tp, .ref a_tk_kinds, .ref a_tk_values, .ref a_tk_places, .int tk_count, .int tk_start, .int tk_stop])), (a_tk_kinds, .inl (cI, 1201, .inl tk_kinds)), (a_tk_values, .inl (cI, 1201, .inl tk_values)), (a_tk_places, .inl (cI, 1201, .inl tk_places))] sz) := by
  refine Met.ofW (cc := b_Tok_readNumber) (maxL := 3) (ret := none) (by decide) rfl ?_
  intro p e s m args below meth c s₁ B hml hv
  obtain ⟨rfl, hsz, hP, hK, hD0, hN, hT⟩ := hv
  have hx := B.exec
  have hb := B.bytes
  have hr := B.returns
  have hts := atoms_spec (ws := w_Tok_readNumber) B.pre
  have hown : s.vm.findClass "LoopInduction$Tokens" = some m.cls := findClass_of_methodNamed B.named
  have hlocks := B.notSynchronized
  subst hsz
  have hD := hD0.self (sz := s.heap.size)
  generalize hAe : va_A [(a_tp, .inr (8, [.ref a_tp_bytes, .int tp_size])), (a_tp_bytes, .inl (cB, 1200, .inl tp_bytes)), (a_tk, .inr (9, [.ref a_tp, .ref a_tk_kinds, .ref a_tk_values, .ref a_tk_places, .int tk_count, .int tk_start, .int tk_stop])), (a_tk_kinds, .inl (cI, 1201, .inl tk_kinds)), (a_tk_values, .inl (cI, 1201, .inl tk_values)), (a_tk_places, .inl (cI, 1201, .inl tk_places))] s.heap.size = A at hD hT ⊢
  have hA : ∀ q : Nat, s.heap.size ≤ q → A q := fun q h => by rw [← hAe]; exact Or.inr h
  have hS : va_S A s.heap s.heap [] := va_S.rf
  generalize hQ : MQ below _ _ s 0 0 _ = QQ
  have hl := lv_entry ([.ref a_tk]) (n := 3) (Nat.le_of_ble_eq_true rfl)
  rw [lg_entry_eq]
  generalize (lg_sl ([.ref a_tk]) ++ List.replicate (3 - (lg_sl ([.ref a_tk])).length) Slot.unset).toArray = ls at hl ⊢
  have hl : lv_has ls 3 [(0, .ref a_tk)] := hl
  have fl_27 := (hts _ (List.mem_cons_of_mem _ m_138))
  have fl_30 := (hts _ (List.mem_cons_of_mem _ m_139))
  have fl_33 := (hts _ (List.mem_cons_of_mem _ m_133))
  have J71 : ∀ (x1_1 : Int32) (tk_count_2 : Int32) (tk_stop_3 : Int32) (tk_kinds_4 : Nat → Int32) (tk_values_5 : Nat → Int32) (tk_places_6 : Nat → Int32), wp_Tok_readNumber_J71 x1_1 tp_size tp_bytes tk_count_2 tk_start tk_stop_3 tk_kinds_4 tk_values_5 tk_places_6 post → ∀ (H : Heap) (locs : List Loc), va_P (dC, dI) vwCl [(a_tp, .inr (8, [.ref a_tp_bytes, .int tp_size])), (a_tp_bytes, .inl (cB, 1200, .inl tp_bytes)), (a_tk, .inr (9, [.ref a_tp, .ref a_tk_kinds, .ref a_tk_values, .ref a_tk_places, .int tk_count_2, .int tk_start, .int tk_stop_3])), (a_tk_kinds, .inl (cI, 1201, .inl tk_kinds_4)), (a_tk_values, .inl (cI, 1201, .inl tk_values_5)), (a_tk_places, .inl (cI, 1201, .inl tk_places_6))] H → va_D A [(a_tp, .inr (8, [.ref a_tp_bytes, .int tp_size])), (a_tp_bytes, .inl (cB, 1200, .inl tp_bytes)), (a_tk, .inr (9, [.ref a_tp, .ref a_tk_kinds, .ref a_tk_values, .ref a_tk_places, .int tk_count_2, .int tk_start, .int tk_stop_3])), (a_tk_kinds, .inl (cI, 1201, .inl tk_kinds_4)), (a_tk_values, .inl (cI, 1201, .inl tk_values_5)), (a_tk_places, .inl (cI, 1201, .inl tk_places_6))] → va_S A s.heap H locs → ∀ ls : Array Slot, lv_has ls 3 [(0, .ref a_tk), (1, .int x1_1)] → W p l e (headSpec w_Tok_readNumber ({ frames := 1, cells := 0, slots := 0, locals := 22 })).room s m (([.ref a_tk] : List Value).toArray) below meth c H locs 0 0 QQ (F0 m 71 ls []) := by
    intro x1_1 tk_count_2 tk_stop_3 tk_kinds_4 tk_values_5 tk_places_6 h
    intro H locs hP hD hS ls hl
    refine lv_aload_n hx hb d_Tok_readNumber_71 rfl (lv_at hl 0 rfl) ?_
    refine va_get (D := (dC, dI)) (ci := 9) (v := .int tk_stop_3) (C := "LoopInduction$Tokens") (T := F_Tok) (N := 7) hx hb hts iC_Tok hown hK hP 2 rfl rfl 6 (by decide) fl_30 (fun _ h9 => h9) rfl d_Tok_readNumber_72 ?_
    refine lv_aload_n hx hb d_Tok_readNumber_75 rfl (lv_at hl 0 rfl) ?_
    refine va_get (D := (dC, dI)) (ci := 9) (v := .int tk_start) (C := "LoopInduction$Tokens") (T := F_Tok) (N := 7) hx hb hts iC_Tok hown hK hP 2 rfl rfl 5 (by decide) fl_27 (fun _ h9 => h9) rfl d_Tok_readNumber_76 ?_
    refine lv_isub hx hb d_Tok_readNumber_79 ?_
    refine lv_iconst (v := 1) hx hb d_Tok_readNumber_80 (by decide) ?_
    refine lv_icmp_le (tgt := 104) hx hb d_Tok_readNumber_81 (by decide) (fun c_81 => ?_) (fun c_81 => ?_)
    · have h := And.left h c_81
      refine lv_iconst (v := 0) hx hb d_Tok_readNumber_104 (by decide) ?_
      refine lv_istore_n (lv' := [(2, .int 0), (0, .ref a_tk), (1, .int x1_1)]) hx hb d_Tok_readNumber_105 rfl hl (by decide) rfl (fun ls hl => ?_)
      refine lv_aload_n hx hb d_Tok_readNumber_106 rfl (lv_at hl 1 rfl) ?_
      refine lv_iload_n hx hb d_Tok_readNumber_107 rfl (lv_at hl 0 rfl) ?_
      refine lv_if_ne (tgt := 117) hx hb d_Tok_readNumber_108 (by decide) (fun c_108 => ?_) (fun c_108 => ?_)
      · exact absurd c_108 (by decide +kernel)
      · refine lv_iload_n hx hb d_Tok_readNumber_111 rfl (lv_at hl 2 rfl) ?_
        refine lv_bipush (v := 15) hx hb d_Tok_readNumber_112 (by decide) ?_
        refine lv_icmp_le (tgt := 123) hx hb d_Tok_readNumber_114 (by decide) (fun c_114 => ?_) (fun c_114 => ?_)
        · have h := And.left h c_114
          refine lv_sipush (v := 258) hx hb d_Tok_readNumber_123 (by decide) ?_
          refine lv_iload_n hx hb d_Tok_readNumber_126 rfl (lv_at hl 2 rfl) ?_
          refine jn_v (wr := [(a_tp, .inr (8, [.ref a_tp_bytes, .int tp_size])), (a_tp_bytes, .inl (cB, 1200, .inl tp_bytes))]) (va_runV (As := [.int 258, .int x1_1]) (rest := []) ⟨hx, hb, hml, hown, hts⟩ (c_Tok_put l dC dI cI cB cZ adK adV _ a_tk a_tp a_tk_kinds a_tk_values a_tk_places tk_count_2 tk_start tk_stop_3 tk_kinds_4 tk_values_5 tk_places_6 258 x1_1 _ h) (cwV 2 hts (gv_ m_457 m_459 m_3 m_87 m_460) rfl rfl rfl pd_Tok_put ⟨Nat.le_of_ble_eq_true rfl, Nat.le_of_ble_eq_true rfl⟩) ⟨pc_blind, va_recv hK hP (ci := 9) (q0 := 2) rfl rfl, pc_of (hP.sub [2, 3, 4, 5] rfl) hK (hD.sub [2, 3, 4, 5] (by decide) rfl) hN hT hS hA⟩ rfl rfl hl.1 rfl (lv_room (Nat.le_of_ble_eq_true rfl)) d_Tok_readNumber_127 ⟨Nat.zero_le _, Nat.zero_le _⟩) hP hD hS hA [2, 3, 4, 5] [0, 1] rfl rfl (by decide) (by decide) (fun u_ H locs h hP hD hS => ?_)
          obtain ⟨tk_count_7, tk_kinds_8, tk_values_9, tk_places_10⟩ := u_
          have hP : va_P (dC, dI) vwCl [(a_tp, .inr (8, [.ref a_tp_bytes, .int tp_size])), (a_tp_bytes, .inl (cB, 1200, .inl tp_bytes)), (a_tk, .inr (9, [.ref a_tp, .ref a_tk_kinds, .ref a_tk_values, .ref a_tk_places, .int tk_count_7, .int tk_start, .int tk_stop_3])), (a_tk_kinds, .inl (cI, 1201, .inl tk_kinds_8)), (a_tk_values, .inl (cI, 1201, .inl tk_values_9)), (a_tk_places, .inl (cI, 1201, .inl tk_places_10))] H := hP
          have hD : va_D A [(a_tp, .inr (8, [.ref a_tp_bytes, .int tp_size])), (a_tp_bytes, .inl (cB, 1200, .inl tp_bytes)), (a_tk, .inr (9, [.ref a_tp, .ref a_tk_kinds, .ref a_tk_values, .ref a_tk_places, .int tk_count_7, .int tk_start, .int tk_stop_3])), (a_tk_kinds, .inl (cI, 1201, .inl tk_kinds_8)), (a_tk_values, .inl (cI, 1201, .inl tk_values_9)), (a_tk_places, .inl (cI, 1201, .inl tk_places_10))] := hD
          rw [← hQ]
          have hP9 := hP
          have hD9 := hD
          exact W.vret hx hb hr (fun t ht hW => ⟨⟨(tk_count_7, tk_stop_3, tk_kinds_8, tk_values_9, tk_places_10), rfl, h, by rw [ht]; exact hP9, va_K.moved hW.alike hK, hD9⟩, hS.F ht⟩) hS.2.2 d_Tok_readNumber_130
        · have h := And.right h c_114
          refine lv_sipush (v := 257) hx hb d_Tok_readNumber_117 (by decide) ?_
          refine lv_goto (tgt := 126) hx hb d_Tok_readNumber_120 (by decide) ?_
          refine lv_iload_n hx hb d_Tok_readNumber_126 rfl (lv_at hl 2 rfl) ?_
          refine jn_v (wr := [(a_tp, .inr (8, [.ref a_tp_bytes, .int tp_size])), (a_tp_bytes, .inl (cB, 1200, .inl tp_bytes))]) (va_runV (As := [.int 257, .int x1_1]) (rest := []) ⟨hx, hb, hml, hown, hts⟩ (c_Tok_put l dC dI cI cB cZ adK adV _ a_tk a_tp a_tk_kinds a_tk_values a_tk_places tk_count_2 tk_start tk_stop_3 tk_kinds_4 tk_values_5 tk_places_6 257 x1_1 _ h) (cwV 2 hts (gv_ m_457 m_459 m_3 m_87 m_460) rfl rfl rfl pd_Tok_put ⟨Nat.le_of_ble_eq_true rfl, Nat.le_of_ble_eq_true rfl⟩) ⟨pc_blind, va_recv hK hP (ci := 9) (q0 := 2) rfl rfl, pc_of (hP.sub [2, 3, 4, 5] rfl) hK (hD.sub [2, 3, 4, 5] (by decide) rfl) hN hT hS hA⟩ rfl rfl hl.1 rfl (lv_room (Nat.le_of_ble_eq_true rfl)) d_Tok_readNumber_127 ⟨Nat.zero_le _, Nat.zero_le _⟩) hP hD hS hA [2, 3, 4, 5] [0, 1] rfl rfl (by decide) (by decide) (fun u_ H locs h hP hD hS => ?_)
          obtain ⟨tk_count_11, tk_kinds_12, tk_values_13, tk_places_14⟩ := u_
          have hP : va_P (dC, dI) vwCl [(a_tp, .inr (8, [.ref a_tp_bytes, .int tp_size])), (a_tp_bytes, .inl (cB, 1200, .inl tp_bytes)), (a_tk, .inr (9, [.ref a_tp, .ref a_tk_kinds, .ref a_tk_values, .ref a_tk_places, .int tk_count_11, .int tk_start, .int tk_stop_3])), (a_tk_kinds, .inl (cI, 1201, .inl tk_kinds_12)), (a_tk_values, .inl (cI, 1201, .inl tk_values_13)), (a_tk_places, .inl (cI, 1201, .inl tk_places_14))] H := hP
          have hD : va_D A [(a_tp, .inr (8, [.ref a_tp_bytes, .int tp_size])), (a_tp_bytes, .inl (cB, 1200, .inl tp_bytes)), (a_tk, .inr (9, [.ref a_tp, .ref a_tk_kinds, .ref a_tk_values, .ref a_tk_places, .int tk_count_11, .int tk_start, .int tk_stop_3])), (a_tk_kinds, .inl (cI, 1201, .inl tk_kinds_12)), (a_tk_values, .inl (cI, 1201, .inl tk_values_13)), (a_tk_places, .inl (cI, 1201, .inl tk_places_14))] := hD
          rw [← hQ]
          have hP9 := hP
          have hD9 := hD
          exact W.vret hx hb hr (fun t ht hW => ⟨⟨(tk_count_11, tk_stop_3, tk_kinds_12, tk_values_13, tk_places_14), rfl, h, by rw [ht]; exact hP9, va_K.moved hW.alike hK, hD9⟩, hS.F ht⟩) hS.2.2 d_Tok_readNumber_130
    · have h := And.right h c_81
      refine lv_aload_n hx hb d_Tok_readNumber_84 rfl (lv_at hl 0 rfl) ?_
      refine va_get (D := (dC, dI)) (ci := 9) (v := .ref a_tp) (C := "LoopInduction$Tokens") (T := F_Tok) (N := 7) hx hb hts iC_Tok hown hK hP 2 rfl rfl 0 (by decide) fl_33 (fun _ h9 => h9) rfl d_Tok_readNumber_85 ?_
      refine lv_aload_n hx hb d_Tok_readNumber_88 rfl (lv_at hl 0 rfl) ?_
      refine va_get (D := (dC, dI)) (ci := 9) (v := .int tk_start) (C := "LoopInduction$Tokens") (T := F_Tok) (N := 7) hx hb hts iC_Tok hown hK hP 2 rfl rfl 5 (by decide) fl_27 (fun _ h9 => h9) rfl d_Tok_readNumber_89 ?_
      refine jn_i (wr := [(a_tk, .inr (9, [.ref a_tp, .ref a_tk_kinds, .ref a_tk_values, .ref a_tk_places, .int tk_count_2, .int tk_start, .int tk_stop_3])), (a_tk_kinds, .inl (cI, 1201, .inl tk_kinds_4)), (a_tk_values, .inl (cI, 1201, .inl tk_values_5)), (a_tk_places, .inl (cI, 1201, .inl tk_places_6))]) (va_runV (As := [.int tk_start]) (rest := []) ⟨hx, hb, hml, hown, hts⟩ (c_Tape_byteAt l dC dI cI cB cZ adK adV _ a_tp a_tp_bytes tp_size tp_bytes tk_start _ h) (cwV 1 hts (gv_ m_439 m_440 m_441 m_86 m_442) rfl rfl rfl pd_Tape_byteAt ⟨Nat.le_of_ble_eq_true rfl, Nat.le_of_ble_eq_true rfl⟩) ⟨pc_blind, va_recv hK hP (ci := 8) (q0 := 0) rfl rfl, pc_of (hP.sub [0, 1] rfl) hK (hD.sub [0, 1] (by decide) rfl) hN hT hS hA⟩ rfl rfl hl.1 rfl (lv_room (Nat.le_of_ble_eq_true rfl)) d_Tok_readNumber_92 ⟨Nat.zero_le _, Nat.zero_le _⟩) hP hD hS hA [0, 1] [2, 3, 4, 5] rfl rfl (by decide) (by decide) (fun r_15 u_ H locs h hP hD hS => ?_)
      have hP : va_P (dC, dI) vwCl [(a_tk, .inr (9, [.ref a_tp, .ref a_tk_kinds, .ref a_tk_values, .ref a_tk_places, .int tk_count_2, .int tk_start, .int tk_stop_3])), (a_tk_kinds, .inl (cI, 1201, .inl tk_kinds_4)), (a_tk_values, .inl (cI, 1201, .inl tk_values_5)), (a_tk_places, .inl (cI, 1201, .inl tk_places_6)), (a_tp, .inr (8, [.ref a_tp_bytes, .int tp_size])), (a_tp_bytes, .inl (cB, 1200, .inl tp_bytes))] H := hP
      have hD : va_D A [(a_tk, .inr (9, [.ref a_tp, .ref a_tk_kinds, .ref a_tk_values, .ref a_tk_places, .int tk_count_2, .int tk_start, .int tk_stop_3])), (a_tk_kinds, .inl (cI, 1201, .inl tk_kinds_4)), (a_tk_values, .inl (cI, 1201, .inl tk_values_5)), (a_tk_places, .inl (cI, 1201, .inl tk_places_6)), (a_tp, .inr (8, [.ref a_tp_bytes, .int tp_size])), (a_tp_bytes, .inl (cB, 1200, .inl tp_bytes))] := hD
      refine lv_bipush (v := 48) hx hb d_Tok_readNumber_95 (by decide) ?_
      refine lv_icmp_ne (tgt := 104) hx hb d_Tok_readNumber_97 (by decide) (fun c_97 => ?_) (fun c_97 => ?_)
      · have h := And.left h c_97
        refine lv_iconst (v := 0) hx hb d_Tok_readNumber_104 (by decide) ?_
        refine lv_istore_n (lv' := [(2, .int 0), (0, .ref a_tk), (1, .int x1_1)]) hx hb d_Tok_readNumber_105 rfl hl (by decide) rfl (fun ls hl => ?_)
        refine lv_aload_n hx hb d_Tok_readNumber_106 rfl (lv_at hl 1 rfl) ?_
        refine lv_iload_n hx hb d_Tok_readNumber_107 rfl (lv_at hl 0 rfl) ?_
        refine lv_if_ne (tgt := 117) hx hb d_Tok_readNumber_108 (by decide) (fun c_108 => ?_) (fun c_108 => ?_)
        · exact absurd c_108 (by decide +kernel)
        · refine lv_iload_n hx hb d_Tok_readNumber_111 rfl (lv_at hl 2 rfl) ?_
          refine lv_bipush (v := 15) hx hb d_Tok_readNumber_112 (by decide) ?_
          refine lv_icmp_le (tgt := 123) hx hb d_Tok_readNumber_114 (by decide) (fun c_114 => ?_) (fun c_114 => ?_)
          · have h := And.left h c_114
            refine lv_sipush (v := 258) hx hb d_Tok_readNumber_123 (by decide) ?_
            refine lv_iload_n hx hb d_Tok_readNumber_126 rfl (lv_at hl 2 rfl) ?_
            refine jn_v (wr := [(a_tp, .inr (8, [.ref a_tp_bytes, .int tp_size])), (a_tp_bytes, .inl (cB, 1200, .inl tp_bytes))]) (va_runV (As := [.int 258, .int x1_1]) (rest := []) ⟨hx, hb, hml, hown, hts⟩ (c_Tok_put l dC dI cI cB cZ adK adV _ a_tk a_tp a_tk_kinds a_tk_values a_tk_places tk_count_2 tk_start tk_stop_3 tk_kinds_4 tk_values_5 tk_places_6 258 x1_1 _ h) (cwV 2 hts (gv_ m_457 m_459 m_3 m_87 m_460) rfl rfl rfl pd_Tok_put ⟨Nat.le_of_ble_eq_true rfl, Nat.le_of_ble_eq_true rfl⟩) ⟨pc_blind, va_recv hK hP (ci := 9) (q0 := 0) rfl rfl, pc_of (hP.sub [0, 1, 2, 3] rfl) hK (hD.sub [0, 1, 2, 3] (by decide) rfl) hN hT hS hA⟩ rfl rfl hl.1 rfl (lv_room (Nat.le_of_ble_eq_true rfl)) d_Tok_readNumber_127 ⟨Nat.zero_le _, Nat.zero_le _⟩) hP hD hS hA [0, 1, 2, 3] [4, 5] rfl rfl (by decide) (by decide) (fun u_ H locs h hP hD hS => ?_)
            obtain ⟨tk_count_16, tk_kinds_17, tk_values_18, tk_places_19⟩ := u_
            have hP : va_P (dC, dI) vwCl [(a_tp, .inr (8, [.ref a_tp_bytes, .int tp_size])), (a_tp_bytes, .inl (cB, 1200, .inl tp_bytes)), (a_tk, .inr (9, [.ref a_tp, .ref a_tk_kinds, .ref a_tk_values, .ref a_tk_places, .int tk_count_16, .int tk_start, .int tk_stop_3])), (a_tk_kinds, .inl (cI, 1201, .inl tk_kinds_17)), (a_tk_values, .inl (cI, 1201, .inl tk_values_18)), (a_tk_places, .inl (cI, 1201, .inl tk_places_19))] H := hP
            have hD : va_D A [(a_tp, .inr (8, [.ref a_tp_bytes, .int tp_size])), (a_tp_bytes, .inl (cB, 1200, .inl tp_bytes)), (a_tk, .inr (9, [.ref a_tp, .ref a_tk_kinds, .ref a_tk_values, .ref a_tk_places, .int tk_count_16, .int tk_start, .int tk_stop_3])), (a_tk_kinds, .inl (cI, 1201, .inl tk_kinds_17)), (a_tk_values, .inl (cI, 1201, .inl tk_values_18)), (a_tk_places, .inl (cI, 1201, .inl tk_places_19))] := hD
            rw [← hQ]
            have hP9 := hP
            have hD9 := hD
            exact W.vret hx hb hr (fun t ht hW => ⟨⟨(tk_count_16, tk_stop_3, tk_kinds_17, tk_values_18, tk_places_19), rfl, h, by rw [ht]; exact hP9, va_K.moved hW.alike hK, hD9⟩, hS.F ht⟩) hS.2.2 d_Tok_readNumber_130
          · have h := And.right h c_114
            refine lv_sipush (v := 257) hx hb d_Tok_readNumber_117 (by decide) ?_
            refine lv_goto (tgt := 126) hx hb d_Tok_readNumber_120 (by decide) ?_
            refine lv_iload_n hx hb d_Tok_readNumber_126 rfl (lv_at hl 2 rfl) ?_
            refine jn_v (wr := [(a_tp, .inr (8, [.ref a_tp_bytes, .int tp_size])), (a_tp_bytes, .inl (cB, 1200, .inl tp_bytes))]) (va_runV (As := [.int 257, .int x1_1]) (rest := []) ⟨hx, hb, hml, hown, hts⟩ (c_Tok_put l dC dI cI cB cZ adK adV _ a_tk a_tp a_tk_kinds a_tk_values a_tk_places tk_count_2 tk_start tk_stop_3 tk_kinds_4 tk_values_5 tk_places_6 257 x1_1 _ h) (cwV 2 hts (gv_ m_457 m_459 m_3 m_87 m_460) rfl rfl rfl pd_Tok_put ⟨Nat.le_of_ble_eq_true rfl, Nat.le_of_ble_eq_true rfl⟩) ⟨pc_blind, va_recv hK hP (ci := 9) (q0 := 0) rfl rfl, pc_of (hP.sub [0, 1, 2, 3] rfl) hK (hD.sub [0, 1, 2, 3] (by decide) rfl) hN hT hS hA⟩ rfl rfl hl.1 rfl (lv_room (Nat.le_of_ble_eq_true rfl)) d_Tok_readNumber_127 ⟨Nat.zero_le _, Nat.zero_le _⟩) hP hD hS hA [0, 1, 2, 3] [4, 5] rfl rfl (by decide) (by decide) (fun u_ H locs h hP hD hS => ?_)
            obtain ⟨tk_count_20, tk_kinds_21, tk_values_22, tk_places_23⟩ := u_
            have hP : va_P (dC, dI) vwCl [(a_tp, .inr (8, [.ref a_tp_bytes, .int tp_size])), (a_tp_bytes, .inl (cB, 1200, .inl tp_bytes)), (a_tk, .inr (9, [.ref a_tp, .ref a_tk_kinds, .ref a_tk_values, .ref a_tk_places, .int tk_count_20, .int tk_start, .int tk_stop_3])), (a_tk_kinds, .inl (cI, 1201, .inl tk_kinds_21)), (a_tk_values, .inl (cI, 1201, .inl tk_values_22)), (a_tk_places, .inl (cI, 1201, .inl tk_places_23))] H := hP
            have hD : va_D A [(a_tp, .inr (8, [.ref a_tp_bytes, .int tp_size])), (a_tp_bytes, .inl (cB, 1200, .inl tp_bytes)), (a_tk, .inr (9, [.ref a_tp, .ref a_tk_kinds, .ref a_tk_values, .ref a_tk_places, .int tk_count_20, .int tk_start, .int tk_stop_3])), (a_tk_kinds, .inl (cI, 1201, .inl tk_kinds_21)), (a_tk_values, .inl (cI, 1201, .inl tk_values_22)), (a_tk_places, .inl (cI, 1201, .inl tk_places_23))] := hD
            rw [← hQ]
            have hP9 := hP
            have hD9 := hD
            exact W.vret hx hb hr (fun t ht hW => ⟨⟨(tk_count_20, tk_stop_3, tk_kinds_21, tk_values_22, tk_places_23), rfl, h, by rw [ht]; exact hP9, va_K.moved hW.alike hK, hD9⟩, hS.F ht⟩) hS.2.2 d_Tok_readNumber_130
      · have h := And.right h c_97
        refine lv_iconst (v := 1) hx hb d_Tok_readNumber_100 (by decide) ?_
        refine lv_goto (tgt := 105) hx hb d_Tok_readNumber_101 (by decide) ?_
        refine lv_istore_n (lv' := [(2, .int 1), (0, .ref a_tk), (1, .int x1_1)]) hx hb d_Tok_readNumber_105 rfl hl (by decide) rfl (fun ls hl => ?_)
        refine lv_aload_n hx hb d_Tok_readNumber_106 rfl (lv_at hl 1 rfl) ?_
        refine lv_iload_n hx hb d_Tok_readNumber_107 rfl (lv_at hl 0 rfl) ?_
        refine lv_if_ne (tgt := 117) hx hb d_Tok_readNumber_108 (by decide) (fun c_108 => ?_) (fun c_108 => ?_)
        · refine lv_sipush (v := 257) hx hb d_Tok_readNumber_117 (by decide) ?_
          refine lv_goto (tgt := 126) hx hb d_Tok_readNumber_120 (by decide) ?_
          refine lv_iload_n hx hb d_Tok_readNumber_126 rfl (lv_at hl 2 rfl) ?_
          refine jn_v (wr := [(a_tp, .inr (8, [.ref a_tp_bytes, .int tp_size])), (a_tp_bytes, .inl (cB, 1200, .inl tp_bytes))]) (va_runV (As := [.int 257, .int x1_1]) (rest := []) ⟨hx, hb, hml, hown, hts⟩ (c_Tok_put l dC dI cI cB cZ adK adV _ a_tk a_tp a_tk_kinds a_tk_values a_tk_places tk_count_2 tk_start tk_stop_3 tk_kinds_4 tk_values_5 tk_places_6 257 x1_1 _ h) (cwV 2 hts (gv_ m_457 m_459 m_3 m_87 m_460) rfl rfl rfl pd_Tok_put ⟨Nat.le_of_ble_eq_true rfl, Nat.le_of_ble_eq_true rfl⟩) ⟨pc_blind, va_recv hK hP (ci := 9) (q0 := 0) rfl rfl, pc_of (hP.sub [0, 1, 2, 3] rfl) hK (hD.sub [0, 1, 2, 3] (by decide) rfl) hN hT hS hA⟩ rfl rfl hl.1 rfl (lv_room (Nat.le_of_ble_eq_true rfl)) d_Tok_readNumber_127 ⟨Nat.zero_le _, Nat.zero_le _⟩) hP hD hS hA [0, 1, 2, 3] [4, 5] rfl rfl (by decide) (by decide) (fun u_ H locs h hP hD hS => ?_)
          obtain ⟨tk_count_24, tk_kinds_25, tk_values_26, tk_places_27⟩ := u_
          have hP : va_P (dC, dI) vwCl [(a_tp, .inr (8, [.ref a_tp_bytes, .int tp_size])), (a_tp_bytes, .inl (cB, 1200, .inl tp_bytes)), (a_tk, .inr (9, [.ref a_tp, .ref a_tk_kinds, .ref a_tk_values, .ref a_tk_places, .int tk_count_24, .int tk_start, .int tk_stop_3])), (a_tk_kinds, .inl (cI, 1201, .inl tk_kinds_25)), (a_tk_values, .inl (cI, 1201, .inl tk_values_26)), (a_tk_places, .inl (cI, 1201, .inl tk_places_27))] H := hP
          have hD : va_D A [(a_tp, .inr (8, [.ref a_tp_bytes, .int tp_size])), (a_tp_bytes, .inl (cB, 1200, .inl tp_bytes)), (a_tk, .inr (9, [.ref a_tp, .ref a_tk_kinds, .ref a_tk_values, .ref a_tk_places, .int tk_count_24, .int tk_start, .int tk_stop_3])), (a_tk_kinds, .inl (cI, 1201, .inl tk_kinds_25)), (a_tk_values, .inl (cI, 1201, .inl tk_values_26)), (a_tk_places, .inl (cI, 1201, .inl tk_places_27))] := hD
          rw [← hQ]
          have hP9 := hP
          have hD9 := hD
          exact W.vret hx hb hr (fun t ht hW => ⟨⟨(tk_count_24, tk_stop_3, tk_kinds_25, tk_values_26, tk_places_27), rfl, h, by rw [ht]; exact hP9, va_K.moved hW.alike hK, hD9⟩, hS.F ht⟩) hS.2.2 d_Tok_readNumber_130
        · exact absurd c_108 (by decide +kernel)
  refine lv_iconst (v := 0) hx hb d_Tok_readNumber_0 (by decide) ?_
  refine lv_istore_n (lv' := [(1, .int 0), (0, .ref a_tk)]) hx hb d_Tok_readNumber_1 rfl hl (by decide) rfl (fun ls hl => ?_)
  have L2_q_30 : ∀ (k71 : Int32 → (Int32) → Prop) (hk71 : ∀ (x1_31 : Int32) (tk_stop_32 : Int32), k71 x1_31 tk_stop_32 → ∀ (H : Heap) (locs : List Loc), va_P (dC, dI) vwCl [(a_tp, .inr (8, [.ref a_tp_bytes, .int tp_size])), (a_tp_bytes, .inl (cB, 1200, .inl tp_bytes)), (a_tk, .inr (9, [.ref a_tp, .ref a_tk_kinds, .ref a_tk_values, .ref a_tk_places, .int tk_count, .int tk_start, .int tk_stop_32])), (a_tk_kinds, .inl (cI, 1201, .inl tk_kinds)), (a_tk_values, .inl (cI, 1201, .inl tk_values)), (a_tk_places, .inl (cI, 1201, .inl tk_places))] H → va_D A [(a_tp, .inr (8, [.ref a_tp_bytes, .int tp_size])), (a_tp_bytes, .inl (cB, 1200, .inl tp_bytes)), (a_tk, .inr (9, [.ref a_tp, .ref a_tk_kinds, .ref a_tk_values, .ref a_tk_places, .int tk_count, .int tk_start, .int tk_stop_32])), (a_tk_kinds, .inl (cI, 1201, .inl tk_kinds)), (a_tk_values, .inl (cI, 1201, .inl tk_values)), (a_tk_places, .inl (cI, 1201, .inl tk_places))] → va_S A s.heap H locs → ∀ ls : Array Slot, lv_has ls 3 [(0, .ref a_tk), (1, .int x1_31)] → W p l e (headSpec w_Tok_readNumber ({ frames := 1, cells := 0, slots := 0, locals := 22 })).room s m (([.ref a_tk] : List Value).toArray) below meth c H locs 0 0 QQ (F0 m 71 ls [])) (n : Nat) (x1_28 : Int32) (tk_stop_29 : Int32), wp_Tok_readNumber_L2 tp_size tp_bytes k71 n x1_28 tk_stop_29 → ∀ (H : Heap) (locs : List Loc), va_P (dC, dI) vwCl [(a_tp, .inr (8, [.ref a_tp_bytes, .int tp_size])), (a_tp_bytes, .inl (cB, 1200, .inl tp_bytes)), (a_tk, .inr (9, [.ref a_tp, .ref a_tk_kinds, .ref a_tk_values, .ref a_tk_places, .int tk_count, .int tk_start, .int tk_stop_29])), (a_tk_kinds, .inl (cI, 1201, .inl tk_kinds)), (a_tk_values, .inl (cI, 1201, .inl tk_values)), (a_tk_places, .inl (cI, 1201, .inl tk_places))] H → va_D A [(a_tp, .inr (8, [.ref a_tp_bytes, .int tp_size])), (a_tp_bytes, .inl (cB, 1200, .inl tp_bytes)), (a_tk, .inr (9, [.ref a_tp, .ref a_tk_kinds, .ref a_tk_values, .ref a_tk_places, .int tk_count, .int tk_start, .int tk_stop_29])), (a_tk_kinds, .inl (cI, 1201, .inl tk_kinds)), (a_tk_values, .inl (cI, 1201, .inl tk_values)), (a_tk_places, .inl (cI, 1201, .inl tk_places))] → va_S A s.heap H locs → ∀ ls : Array Slot, lv_has ls 3 [(0, .ref a_tk), (1, .int x1_28)] → W p l e (headSpec w_Tok_readNumber ({ frames := 1, cells := 0, slots := 0, locals := 22 })).room s m (([.ref a_tk] : List Value).toArray) below meth c H locs 0 0 QQ (F0 m 2 ls []) := by
    intro k71 hk71 n
    induction n with
    | zero => intro x1_28 tk_stop_29 h; exact (show False from h).elim
    | succ n il =>
      intro x1_28 tk_stop_29 h
      intro H locs hP hD hS ls hl
      refine lv_aload_n hx hb d_Tok_readNumber_2 rfl (lv_at hl 0 rfl) ?_
      refine va_get (D := (dC, dI)) (ci := 9) (v := .int tk_stop_29) (C := "LoopInduction$Tokens") (T := F_Tok) (N := 7) hx hb hts iC_Tok hown hK hP 2 rfl rfl 6 (by decide) fl_30 (fun _ h9 => h9) rfl d_Tok_readNumber_3 ?_
      refine lv_aload_n hx hb d_Tok_readNumber_6 rfl (lv_at hl 0 rfl) ?_
      refine va_get (D := (dC, dI)) (ci := 9) (v := .ref a_tp) (C := "LoopInduction$Tokens") (T := F_Tok) (N := 7) hx hb hts iC_Tok hown hK hP 2 rfl rfl 0 (by decide) fl_33 (fun _ h9 => h9) rfl d_Tok_readNumber_7 ?_
      refine jn_i (wr := [(a_tp_bytes, .inl (cB, 1200, .inl tp_bytes)), (a_tk, .inr (9, [.ref a_tp, .ref a_tk_kinds, .ref a_tk_values, .ref a_tk_places, .int tk_count, .int tk_start, .int tk_stop_29])), (a_tk_kinds, .inl (cI, 1201, .inl tk_kinds)), (a_tk_values, .inl (cI, 1201, .inl tk_values)), (a_tk_places, .inl (cI, 1201, .inl tk_places))]) (va_runV (As := []) (rest := [.int tk_stop_29]) ⟨hx, hb, hml, hown, hts⟩ (c_Tape_size l dC dI cI cB cZ adK adV _ a_tp a_tp_bytes tp_size _ h) (cwV 0 hts (gv_ m_438 m_415 m_416 m_86 m_417) rfl rfl rfl pd_Tape_size ⟨Nat.le_of_ble_eq_true rfl, Nat.le_of_ble_eq_true rfl⟩) ⟨pc_blind, va_recv hK hP (ci := 8) (q0 := 0) rfl rfl, pc_of (hP.sub [0] rfl) hK (hD.sub [0] (by decide) rfl) hN hT hS hA⟩ rfl rfl hl.1 rfl (lv_room (Nat.le_of_ble_eq_true rfl)) d_Tok_readNumber_10 ⟨Nat.zero_le _, Nat.zero_le _⟩) hP hD hS hA [0] [1, 2, 3, 4, 5] rfl rfl (by decide) (by decide) (fun r_33 u_ H locs h hP hD hS => ?_)
      have hP : va_P (dC, dI) vwCl [(a_tp_bytes, .inl (cB, 1200, .inl tp_bytes)), (a_tk, .inr (9, [.ref a_tp, .ref a_tk_kinds, .ref a_tk_values, .ref a_tk_places, .int tk_count, .int tk_start, .int tk_stop_29])), (a_tk_kinds, .inl (cI, 1201, .inl tk_kinds)), (a_tk_values, .inl (cI, 1201, .inl tk_values)), (a_tk_places, .inl (cI, 1201, .inl tk_places)), (a_tp, .inr (8, [.ref a_tp_bytes, .int tp_size]))] H := hP
      have hD : va_D A [(a_tp_bytes, .inl (cB, 1200, .inl tp_bytes)), (a_tk, .inr (9, [.ref a_tp, .ref a_tk_kinds, .ref a_tk_values, .ref a_tk_places, .int tk_count, .int tk_start, .int tk_stop_29])), (a_tk_kinds, .inl (cI, 1201, .inl tk_kinds)), (a_tk_values, .inl (cI, 1201, .inl tk_values)), (a_tk_places, .inl (cI, 1201, .inl tk_places)), (a_tp, .inr (8, [.ref a_tp_bytes, .int tp_size]))] := hD
      refine lv_icmp_ge (tgt := 71) hx hb d_Tok_readNumber_13 (by decide) (fun c_13 => ?_) (fun c_13 => ?_)
      · have h := And.left h c_13
        exact hk71 _ _ h _ _ (hP.sub [5, 0, 1, 2, 3, 4] rfl) (hD.sub [5, 0, 1, 2, 3, 4] (by decide) rfl) hS _ hl
      · have h := And.right h c_13
        refine lv_aload_n hx hb d_Tok_readNumber_16 rfl (lv_at hl 0 rfl) ?_
        refine va_get (D := (dC, dI)) (ci := 9) (v := .ref a_tp) (C := "LoopInduction$Tokens") (T := F_Tok) (N := 7) hx hb hts iC_Tok hown hK hP 1 rfl rfl 0 (by decide) fl_33 (fun _ h9 => h9) rfl d_Tok_readNumber_17 ?_
        refine lv_aload_n hx hb d_Tok_readNumber_20 rfl (lv_at hl 0 rfl) ?_
        refine va_get (D := (dC, dI)) (ci := 9) (v := .int tk_stop_29) (C := "LoopInduction$Tokens") (T := F_Tok) (N := 7) hx hb hts iC_Tok hown hK hP 1 rfl rfl 6 (by decide) fl_30 (fun _ h9 => h9) rfl d_Tok_readNumber_21 ?_
        refine jn_i (wr := [(a_tk, .inr (9, [.ref a_tp, .ref a_tk_kinds, .ref a_tk_values, .ref a_tk_places, .int tk_count, .int tk_start, .int tk_stop_29])), (a_tk_kinds, .inl (cI, 1201, .inl tk_kinds)), (a_tk_values, .inl (cI, 1201, .inl tk_values)), (a_tk_places, .inl (cI, 1201, .inl tk_places))]) (va_runV (As := [.int tk_stop_29]) (rest := []) ⟨hx, hb, hml, hown, hts⟩ (c_Tape_byteAt l dC dI cI cB cZ adK adV _ a_tp a_tp_bytes tp_size tp_bytes tk_stop_29 _ h) (cwV 1 hts (gv_ m_439 m_440 m_441 m_86 m_442) rfl rfl rfl pd_Tape_byteAt ⟨Nat.le_of_ble_eq_true rfl, Nat.le_of_ble_eq_true rfl⟩) ⟨pc_blind, va_recv hK hP (ci := 8) (q0 := 5) rfl rfl, pc_of (hP.sub [5, 0] rfl) hK (hD.sub [5, 0] (by decide) rfl) hN hT hS hA⟩ rfl rfl hl.1 rfl (lv_room (Nat.le_of_ble_eq_true rfl)) d_Tok_readNumber_24 ⟨Nat.zero_le _, Nat.zero_le _⟩) hP hD hS hA [5, 0] [1, 2, 3, 4] rfl rfl (by decide) (by decide) (fun r_34 u_ H locs h hP hD hS => ?_)
        have hP : va_P (dC, dI) vwCl [(a_tk, .inr (9, [.ref a_tp, .ref a_tk_kinds, .ref a_tk_values, .ref a_tk_places, .int tk_count, .int tk_start, .int tk_stop_29])), (a_tk_kinds, .inl (cI, 1201, .inl tk_kinds)), (a_tk_values, .inl (cI, 1201, .inl tk_values)), (a_tk_places, .inl (cI, 1201, .inl tk_places)), (a_tp, .inr (8, [.ref a_tp_bytes, .int tp_size])), (a_tp_bytes, .inl (cB, 1200, .inl tp_bytes))] H := hP
        have hD : va_D A [(a_tk, .inr (9, [.ref a_tp, .ref a_tk_kinds, .ref a_tk_values, .ref a_tk_places, .int tk_count, .int tk_start, .int tk_stop_29])), (a_tk_kinds, .inl (cI, 1201, .inl tk_kinds)), (a_tk_values, .inl (cI, 1201, .inl tk_values)), (a_tk_places, .inl (cI, 1201, .inl tk_places)), (a_tp, .inr (8, [.ref a_tp_bytes, .int tp_size])), (a_tp_bytes, .inl (cB, 1200, .inl tp_bytes))] := hD
        refine jn_i (wr := [(a_tk, .inr (9, [.ref a_tp, .ref a_tk_kinds, .ref a_tk_values, .ref a_tk_places, .int tk_count, .int tk_start, .int tk_stop_29])), (a_tk_kinds, .inl (cI, 1201, .inl tk_kinds)), (a_tk_values, .inl (cI, 1201, .inl tk_values)), (a_tk_places, .inl (cI, 1201, .inl tk_places)), (a_tp, .inr (8, [.ref a_tp_bytes, .int tp_size])), (a_tp_bytes, .inl (cB, 1200, .inl tp_bytes))]) (va_runS (As := [.int r_34]) (rest := []) ⟨hx, hb, hml, hown, hts⟩ (c_Tok_isDigit l dC dI cI cB cZ adK adV _ r_34 _ h) (cwS 1 hts (gs_ m_526 m_527 m_87 m_528) rfl rfl rfl pd_Tok_isDigit ⟨Nat.le_of_ble_eq_true rfl, Nat.le_of_ble_eq_true rfl⟩) ⟨pc_blind, pc_of (hP.sub [] rfl) hK (hD.sub [] (by decide) rfl) hN hT hS hA⟩ rfl rfl hl.1 rfl (lv_room (Nat.le_of_ble_eq_true rfl)) d_Tok_readNumber_27 ⟨Nat.zero_le _, Nat.zero_le _⟩) hP hD hS hA [] [0, 1, 2, 3, 4, 5] rfl rfl (by decide) (by decide) (fun r_35 u_ H locs h hP hD hS => ?_)
        have hP : va_P (dC, dI) vwCl [(a_tk, .inr (9, [.ref a_tp, .ref a_tk_kinds, .ref a_tk_values, .ref a_tk_places, .int tk_count, .int tk_start, .int tk_stop_29])), (a_tk_kinds, .inl (cI, 1201, .inl tk_kinds)), (a_tk_values, .inl (cI, 1201, .inl tk_values)), (a_tk_places, .inl (cI, 1201, .inl tk_places)), (a_tp, .inr (8, [.ref a_tp_bytes, .int tp_size])), (a_tp_bytes, .inl (cB, 1200, .inl tp_bytes))] H := hP
        have hD : va_D A [(a_tk, .inr (9, [.ref a_tp, .ref a_tk_kinds, .ref a_tk_values, .ref a_tk_places, .int tk_count, .int tk_start, .int tk_stop_29])), (a_tk_kinds, .inl (cI, 1201, .inl tk_kinds)), (a_tk_values, .inl (cI, 1201, .inl tk_values)), (a_tk_places, .inl (cI, 1201, .inl tk_places)), (a_tp, .inr (8, [.ref a_tp_bytes, .int tp_size])), (a_tp_bytes, .inl (cB, 1200, .inl tp_bytes))] := hD
        refine lv_if_eq (tgt := 71) hx hb d_Tok_readNumber_30 (by decide) (fun c_30 => ?_) (fun c_30 => ?_)
        · have h := And.left h c_30
          exact hk71 _ _ h _ _ (hP.sub [4, 5, 0, 1, 2, 3] rfl) (hD.sub [4, 5, 0, 1, 2, 3] (by decide) rfl) hS _ hl
        · have h := And.right h c_30
          refine lv_iload_n hx hb d_Tok_readNumber_33 rfl (lv_at hl 1 rfl) ?_
          refine lv_bipush (v := 10) hx hb d_Tok_readNumber_34 (by decide) ?_
          refine lv_imul hx hb d_Tok_readNumber_36 ?_
          refine lv_aload_n hx hb d_Tok_readNumber_37 rfl (lv_at hl 0 rfl) ?_
          refine va_get (D := (dC, dI)) (ci := 9) (v := .ref a_tp) (C := "LoopInduction$Tokens") (T := F_Tok) (N := 7) hx hb hts iC_Tok hown hK hP 0 rfl rfl 0 (by decide) fl_33 (fun _ h9 => h9) rfl d_Tok_readNumber_38 ?_
          refine lv_aload_n hx hb d_Tok_readNumber_41 rfl (lv_at hl 0 rfl) ?_
          refine va_get (D := (dC, dI)) (ci := 9) (v := .int tk_stop_29) (C := "LoopInduction$Tokens") (T := F_Tok) (N := 7) hx hb hts iC_Tok hown hK hP 0 rfl rfl 6 (by decide) fl_30 (fun _ h9 => h9) rfl d_Tok_readNumber_42 ?_
          refine jn_i (wr := [(a_tk, .inr (9, [.ref a_tp, .ref a_tk_kinds, .ref a_tk_values, .ref a_tk_places, .int tk_count, .int tk_start, .int tk_stop_29])), (a_tk_kinds, .inl (cI, 1201, .inl tk_kinds)), (a_tk_values, .inl (cI, 1201, .inl tk_values)), (a_tk_places, .inl (cI, 1201, .inl tk_places))]) (va_runV (As := [.int tk_stop_29]) (rest := [.int (x1_28 * 10)]) ⟨hx, hb, hml, hown, hts⟩ (c_Tape_byteAt l dC dI cI cB cZ adK adV _ a_tp a_tp_bytes tp_size tp_bytes tk_stop_29 _ h) (cwV 1 hts (gv_ m_439 m_440 m_441 m_86 m_442) rfl rfl rfl pd_Tape_byteAt ⟨Nat.le_of_ble_eq_true rfl, Nat.le_of_ble_eq_true rfl⟩) ⟨pc_blind, va_recv hK hP (ci := 8) (q0 := 4) rfl rfl, pc_of (hP.sub [4, 5] rfl) hK (hD.sub [4, 5] (by decide) rfl) hN hT hS hA⟩ rfl rfl hl.1 rfl (lv_room (Nat.le_of_ble_eq_true rfl)) d_Tok_readNumber_45 ⟨Nat.zero_le _, Nat.zero_le _⟩) hP hD hS hA [4, 5] [0, 1, 2, 3] rfl rfl (by decide) (by decide) (fun r_36 u_ H locs h hP hD hS => ?_)
          have hP : va_P (dC, dI) vwCl [(a_tk, .inr (9, [.ref a_tp, .ref a_tk_kinds, .ref a_tk_values, .ref a_tk_places, .int tk_count, .int tk_start, .int tk_stop_29])), (a_tk_kinds, .inl (cI, 1201, .inl tk_kinds)), (a_tk_values, .inl (cI, 1201, .inl tk_values)), (a_tk_places, .inl (cI, 1201, .inl tk_places)), (a_tp, .inr (8, [.ref a_tp_bytes, .int tp_size])), (a_tp_bytes, .inl (cB, 1200, .inl tp_bytes))] H := hP
          have hD : va_D A [(a_tk, .inr (9, [.ref a_tp, .ref a_tk_kinds, .ref a_tk_values, .ref a_tk_places, .int tk_count, .int tk_start, .int tk_stop_29])), (a_tk_kinds, .inl (cI, 1201, .inl tk_kinds)), (a_tk_values, .inl (cI, 1201, .inl tk_values)), (a_tk_places, .inl (cI, 1201, .inl tk_places)), (a_tp, .inr (8, [.ref a_tp_bytes, .int tp_size])), (a_tp_bytes, .inl (cB, 1200, .inl tp_bytes))] := hD
          refine lv_iadd hx hb d_Tok_readNumber_48 ?_
          refine lv_bipush (v := 48) hx hb d_Tok_readNumber_49 (by decide) ?_
          refine lv_isub hx hb d_Tok_readNumber_51 ?_
          refine lv_bipush (v := 100) hx hb d_Tok_readNumber_52 (by decide) ?_
          refine va_mmin hx hb (by rw [hml]; exact hl.1.symm) hown (hts _ (List.mem_cons_of_mem _ m_533)) (hts _ (List.mem_cons_of_mem _ m_534)) (hts _ (List.mem_cons_of_mem _ m_101)) (hts _ (List.mem_cons_of_mem _ m_535)) (Nat.le_of_ble_eq_true rfl) (Nat.le_of_ble_eq_true rfl) (Nat.zero_le _) (Nat.zero_le _) d_Tok_readNumber_54 ?_
          refine lv_topi (fun x1_37 ex1_37 => ?_)
          have h := h x1_37 ex1_37
          refine lv_istore_n (lv' := [(1, .int x1_37), (0, .ref a_tk)]) hx hb d_Tok_readNumber_57 rfl hl (by decide) rfl (fun ls hl => ?_)
          refine lv_aload_n hx hb d_Tok_readNumber_58 rfl (lv_at hl 1 rfl) ?_
          refine lv_dup hx hb d_Tok_readNumber_59 rfl ?_
          refine va_get (D := (dC, dI)) (ci := 9) (v := .int tk_stop_29) (C := "LoopInduction$Tokens") (T := F_Tok) (N := 7) hx hb hts iC_Tok hown hK hP 0 rfl rfl 6 (by decide) fl_30 (fun _ h9 => h9) rfl d_Tok_readNumber_60 ?_
          refine lv_iconst (v := 1) hx hb d_Tok_readNumber_63 (by decide) ?_
          refine lv_iadd hx hb d_Tok_readNumber_64 ?_
          refine va_put (D := (dC, dI)) (ci := 9) (v := .int (tk_stop_29 + 1)) (ty := .int) (C := "LoopInduction$Tokens") (T := F_Tok) (N := 7) hx hb hts iC_Tok t_Tok t_Tok_ok n_Tok hown hK hP hD hS 0 rfl rfl 6 (by decide) fl_30 (fun _ h9 => h9) rfl (by decide +kernel) rfl rfl (Nat.le_of_ble_eq_true rfl) d_Tok_readNumber_65 (fun H locs hP hD hS => ?_)
          have hP : va_P (dC, dI) vwCl [(a_tk, .inr (9, [.ref a_tp, .ref a_tk_kinds, .ref a_tk_values, .ref a_tk_places, .int tk_count, .int tk_start, .int (tk_stop_29 + 1)])), (a_tk_kinds, .inl (cI, 1201, .inl tk_kinds)), (a_tk_values, .inl (cI, 1201, .inl tk_values)), (a_tk_places, .inl (cI, 1201, .inl tk_places)), (a_tp, .inr (8, [.ref a_tp_bytes, .int tp_size])), (a_tp_bytes, .inl (cB, 1200, .inl tp_bytes))] H := hP
          have hD : va_D A [(a_tk, .inr (9, [.ref a_tp, .ref a_tk_kinds, .ref a_tk_values, .ref a_tk_places, .int tk_count, .int tk_start, .int (tk_stop_29 + 1)])), (a_tk_kinds, .inl (cI, 1201, .inl tk_kinds)), (a_tk_values, .inl (cI, 1201, .inl tk_values)), (a_tk_places, .inl (cI, 1201, .inl tk_places)), (a_tp, .inr (8, [.ref a_tp_bytes, .int tp_size])), (a_tp_bytes, .inl (cB, 1200, .inl tp_bytes))] := hD
          refine lv_goto (tgt := 2) hx hb d_Tok_readNumber_68 (by decide) ?_
          exact il _ _ h _ _ (hP.sub [4, 5, 0, 1, 2, 3] rfl) (hD.sub [4, 5, 0, 1, 2, 3] (by decide) rfl) hS _ (lv_sub hl [1, 0] rfl)
  obtain ⟨n_, h⟩ := h
  refine L2_q_30 _ ?_ n_ _ _ h _ _ hP hD hS _ (lv_sub hl [1, 0] rfl)
  intro x1_38 tk_stop_39 h
  intro H locs hP hD hS ls hl
  exact J71 _ _ _ _ _ _ h _ _ hP hD hS _ hl
set_option maxHeartbeats 4000000 in
set_option maxRecDepth 100000 in
theorem c_Tok_readToken (l : Launch) (dC : Nat → ClassId) (dI : Nat → Nat → Nat) (cI cB cZ : ClassId) (adK adV : Nat → Nat) (sz : Nat) (a_tp a_tp_bytes a_tk a_tk_kinds a_tk_values a_tk_places : Nat) (tp_size : Int32) (tp_bytes : Nat → Int32) (tk_count : Int32) (tk_start : Int32) (tk_stop : Int32) (tk_kinds : Nat → Int32) (tk_values : Nat → Int32) (tk_places : Nat → Int32) (post : Int32 → Int32 → Int32 → (Nat → Int32) → (Nat → Int32) → (Nat → Int32) → Prop) (h : wp_Tok_readToken tp_size tp_bytes tk_count tk_start tk_stop tk_kinds tk_values tk_places post) : Met l y_Tok_readToken w_Tok_readToken ({ frames := 7, cells := 0, slots := 0, locals := 148 }) (pc_ (dC, dI) [(cI, .int), (cB, .byte), (cZ, .boolean)] [(a_tp, .inr (8, [.ref a_tp_bytes, .int tp_size])), (a_tp_bytes, .inl (cB, 1200, .inl tp_bytes)), (a_tk, .inr (9, [.ref a_tp, .ref a_tk_kinds, .ref a_tk_values, .ref a_tk_places, .int tk_count, .int tk_start, .int tk_stop])), (a_tk_kinds, .inl (cI, 1201, .inl tk_kinds)), (a_tk_values, .inl (cI, 1201, .inl tk_values)), (a_tk_places, .inl (cI, 1201, .inl tk_places))] sz adK adV [.ref a_tk]) (va_Qv (fun (u : Int32 × Int32 × Int32 × (Nat → Int32) × (Nat → Int32) × (Nat → Int32)) => post u.1 u.2.1 u.2.2.1 u.2.2.2.1 u.2.2.2.2.1 u.2.2.2.2.2) (fun (u : Int32 × Int32 × Int32 × (Nat → Int32) × (Nat → Int32) × (Nat → Int32)) t => bw_ (dC, dI) [(cI, .int), (cB, .byte), (cZ, .boolean)] (va_A [(a_tp, .inr (8, [.ref a_tp_bytes, .int tp_size])), (a_tp_bytes, .inl (cB, 1200, .inl tp_bytes)), (a_tk, .inr (9, [.ref a_tp, .ref a_tk_kinds, .ref a_tk_values, .ref a_tk_places, .int tk_count, .int tk_start, .int tk_stop])), (a_tk_kinds, .inl (cI, 1201, .inl tk_kinds)), (a_tk_values, .inl (cI, 1201, .inl tk_values)), (a_tk_places, .inl (cI, 1201, .inl tk_places))] sz) [(a_tp, .inr (8, [.ref a_tp_bytes, .int tp_size])), (a_tp_bytes, .inl (cB, 1200, .inl tp_bytes)), (a_tk, .inr (9, [.ref a_tp, .ref a_tk_kinds, .ref a_tk_values, .ref a_tk_places, .int u.1, .int u.2.1, .int u.2.2.1])), (a_tk_kinds, .inl (cI, 1201, .inl u.2.2.2.1)), (a_tk_values, .inl (cI, 1201, .inl u.2.2.2.2.1)), (a_tk_places, .inl (cI, 1201, .inl u.2.2.2.2.2))] t) (va_A [(a_tp, .inr (8, [.ref a_tp_bytes, .int tp_size])), (a_tp_bytes, .inl (cB, 1200, .inl tp_bytes)), (a_tk, .inr (9, [.ref a_tp, .ref a_tk_kinds, .ref a_tk_values, .ref a_tk_places, .int tk_count, .int tk_start, .int tk_stop])), (a_tk_kinds, .inl (cI, 1201, .inl tk_kinds)), (a_tk_values, .inl (cI, 1201, .inl tk_values)), (a_tk_places, .inl (cI, 1201, .inl tk_places))] sz)) 0 0 (va_A [(a_tp, .inr (8, [.ref a_tp_bytes, .int tp_size])), (a_tp_bytes, .inl (cB, 1200, .inl tp_bytes)), (a_tk, .inr (9, [.ref a_tp, .ref a_tk_kinds, .ref a_tk_values, .ref a_tk_places, .int tk_count, .int tk_start, .int tk_stop])), (a_tk_kinds, .inl (cI, 1201, .inl tk_kinds)), (a_tk_values, .inl (cI, 1201, .inl tk_values)), (a_tk_places, .inl (cI, 1201, .inl tk_places))] sz) := by
  refine Met.ofW (cc := b_Tok_readToken) (maxL := 2) (ret := none) (by decide) rfl ?_
  intro p e s m args below meth c s₁ B hml hv
  obtain ⟨rfl, hsz, hP, hK, hD0, hN, hT⟩ := hv
  have hx := B.exec
  have hb := B.bytes
  have hr := B.returns
  have hts := atoms_spec (ws := w_Tok_readToken) B.pre
  have hown : s.vm.findClass "LoopInduction$Tokens" = some m.cls := findClass_of_methodNamed B.named
  have hlocks := B.notSynchronized
  subst hsz
  have hD := hD0.self (sz := s.heap.size)
  generalize hAe : va_A [(a_tp, .inr (8, [.ref a_tp_bytes, .int tp_size])), (a_tp_bytes, .inl (cB, 1200, .inl tp_bytes)), (a_tk, .inr (9, [.ref a_tp, .ref a_tk_kinds, .ref a_tk_values, .ref a_tk_places, .int tk_count, .int tk_start, .int tk_stop])), (a_tk_kinds, .inl (cI, 1201, .inl tk_kinds)), (a_tk_values, .inl (cI, 1201, .inl tk_values)), (a_tk_places, .inl (cI, 1201, .inl tk_places))] s.heap.size = A at hD hT ⊢
  have hA : ∀ q : Nat, s.heap.size ≤ q → A q := fun q h => by rw [← hAe]; exact Or.inr h
  have hS : va_S A s.heap s.heap [] := va_S.rf
  generalize hQ : MQ below _ _ s 0 0 _ = QQ
  have hl := lv_entry ([.ref a_tk]) (n := 2) (Nat.le_of_ble_eq_true rfl)
  rw [lg_entry_eq]
  generalize (lg_sl ([.ref a_tk]) ++ List.replicate (2 - (lg_sl ([.ref a_tk])).length) Slot.unset).toArray = ls at hl ⊢
  have hl : lv_has ls 2 [(0, .ref a_tk)] := hl
  have fl_27 := (hts _ (List.mem_cons_of_mem _ m_138))
  have fl_30 := (hts _ (List.mem_cons_of_mem _ m_139))
  have fl_33 := (hts _ (List.mem_cons_of_mem _ m_133))
  refine lv_aload_n hx hb d_Tok_readToken_0 rfl (lv_at hl 0 rfl) ?_
  refine lv_aload_n hx hb d_Tok_readToken_1 rfl (lv_at hl 0 rfl) ?_
  refine va_get (D := (dC, dI)) (ci := 9) (v := .int tk_stop) (C := "LoopInduction$Tokens") (T := F_Tok) (N := 7) hx hb hts iC_Tok hown hK hP 2 rfl rfl 6 (by decide) fl_30 (fun _ h9 => h9) rfl d_Tok_readToken_2 ?_
  refine va_put (D := (dC, dI)) (ci := 9) (v := .int tk_stop) (ty := .int) (C := "LoopInduction$Tokens") (T := F_Tok) (N := 7) hx hb hts iC_Tok t_Tok t_Tok_ok n_Tok hown hK hP hD hS 2 rfl rfl 5 (by decide) fl_27 (fun _ h9 => h9) rfl (by decide +kernel) rfl rfl (Nat.le_of_ble_eq_true rfl) d_Tok_readToken_5 (fun H locs hP hD hS => ?_)
  have hP : va_P (dC, dI) vwCl [(a_tp, .inr (8, [.ref a_tp_bytes, .int tp_size])), (a_tp_bytes, .inl (cB, 1200, .inl tp_bytes)), (a_tk, .inr (9, [.ref a_tp, .ref a_tk_kinds, .ref a_tk_values, .ref a_tk_places, .int tk_count, .int tk_stop, .int tk_stop])), (a_tk_kinds, .inl (cI, 1201, .inl tk_kinds)), (a_tk_values, .inl (cI, 1201, .inl tk_values)), (a_tk_places, .inl (cI, 1201, .inl tk_places))] H := hP
  have hD : va_D A [(a_tp, .inr (8, [.ref a_tp_bytes, .int tp_size])), (a_tp_bytes, .inl (cB, 1200, .inl tp_bytes)), (a_tk, .inr (9, [.ref a_tp, .ref a_tk_kinds, .ref a_tk_values, .ref a_tk_places, .int tk_count, .int tk_stop, .int tk_stop])), (a_tk_kinds, .inl (cI, 1201, .inl tk_kinds)), (a_tk_values, .inl (cI, 1201, .inl tk_values)), (a_tk_places, .inl (cI, 1201, .inl tk_places))] := hD
  refine lv_aload_n hx hb d_Tok_readToken_8 rfl (lv_at hl 0 rfl) ?_
  refine va_get (D := (dC, dI)) (ci := 9) (v := .ref a_tp) (C := "LoopInduction$Tokens") (T := F_Tok) (N := 7) hx hb hts iC_Tok hown hK hP 2 rfl rfl 0 (by decide) fl_33 (fun _ h9 => h9) rfl d_Tok_readToken_9 ?_
  refine lv_aload_n hx hb d_Tok_readToken_12 rfl (lv_at hl 0 rfl) ?_
  refine va_get (D := (dC, dI)) (ci := 9) (v := .int tk_stop) (C := "LoopInduction$Tokens") (T := F_Tok) (N := 7) hx hb hts iC_Tok hown hK hP 2 rfl rfl 5 (by decide) fl_27 (fun _ h9 => h9) rfl d_Tok_readToken_13 ?_
  refine jn_i (wr := [(a_tk, .inr (9, [.ref a_tp, .ref a_tk_kinds, .ref a_tk_values, .ref a_tk_places, .int tk_count, .int tk_stop, .int tk_stop])), (a_tk_kinds, .inl (cI, 1201, .inl tk_kinds)), (a_tk_values, .inl (cI, 1201, .inl tk_values)), (a_tk_places, .inl (cI, 1201, .inl tk_places))]) (va_runV (As := [.int tk_stop]) (rest := []) ⟨hx, hb, hml, hown, hts⟩ (c_Tape_byteAt l dC dI cI cB cZ adK adV _ a_tp a_tp_bytes tp_size tp_bytes tk_stop _ h) (cwV 1 hts (gv_ m_439 m_440 m_441 m_86 m_442) rfl rfl rfl pd_Tape_byteAt ⟨Nat.le_of_ble_eq_true rfl, Nat.le_of_ble_eq_true rfl⟩) ⟨pc_blind, va_recv hK hP (ci := 8) (q0 := 0) rfl rfl, pc_of (hP.sub [0, 1] rfl) hK (hD.sub [0, 1] (by decide) rfl) hN hT hS hA⟩ rfl rfl hl.1 rfl (lv_room (Nat.le_of_ble_eq_true rfl)) d_Tok_readToken_16 ⟨Nat.zero_le _, Nat.zero_le _⟩) hP hD hS hA [0, 1] [2, 3, 4, 5] rfl rfl (by decide) (by decide) (fun r_1 u_ H locs h hP hD hS => ?_)
  have hP : va_P (dC, dI) vwCl [(a_tk, .inr (9, [.ref a_tp, .ref a_tk_kinds, .ref a_tk_values, .ref a_tk_places, .int tk_count, .int tk_stop, .int tk_stop])), (a_tk_kinds, .inl (cI, 1201, .inl tk_kinds)), (a_tk_values, .inl (cI, 1201, .inl tk_values)), (a_tk_places, .inl (cI, 1201, .inl tk_places)), (a_tp, .inr (8, [.ref a_tp_bytes, .int tp_size])), (a_tp_bytes, .inl (cB, 1200, .inl tp_bytes))] H := hP
  have hD : va_D A [(a_tk, .inr (9, [.ref a_tp, .ref a_tk_kinds, .ref a_tk_values, .ref a_tk_places, .int tk_count, .int tk_stop, .int tk_stop])), (a_tk_kinds, .inl (cI, 1201, .inl tk_kinds)), (a_tk_values, .inl (cI, 1201, .inl tk_values)), (a_tk_places, .inl (cI, 1201, .inl tk_places)), (a_tp, .inr (8, [.ref a_tp_bytes, .int tp_size])), (a_tp_bytes, .inl (cB, 1200, .inl tp_bytes))] := hD
  refine lv_istore_n (lv' := [(1, .int r_1), (0, .ref a_tk)]) hx hb d_Tok_readToken_19 rfl hl (by decide) rfl (fun ls hl => ?_)
  refine lv_iload_n hx hb d_Tok_readToken_20 rfl (lv_at hl 0 rfl) ?_
  refine jn_i (wr := [(a_tk, .inr (9, [.ref a_tp, .ref a_tk_kinds, .ref a_tk_values, .ref a_tk_places, .int tk_count, .int tk_stop, .int tk_stop])), (a_tk_kinds, .inl (cI, 1201, .inl tk_kinds)), (a_tk_values, .inl (cI, 1201, .inl tk_values)), (a_tk_places, .inl (cI, 1201, .inl tk_places)), (a_tp, .inr (8, [.ref a_tp_bytes, .int tp_size])), (a_tp_bytes, .inl (cB, 1200, .inl tp_bytes))]) (va_runS (As := [.int r_1]) (rest := []) ⟨hx, hb, hml, hown, hts⟩ (c_Tok_isLetter l dC dI cI cB cZ adK adV _ r_1 _ h) (cwS 1 hts (gs_ m_450 m_451 m_87 m_452) rfl rfl rfl pd_Tok_isLetter ⟨Nat.le_of_ble_eq_true rfl, Nat.le_of_ble_eq_true rfl⟩) ⟨pc_blind, pc_of (hP.sub [] rfl) hK (hD.sub [] (by decide) rfl) hN hT hS hA⟩ rfl rfl hl.1 rfl (lv_room (Nat.le_of_ble_eq_true rfl)) d_Tok_readToken_21 ⟨Nat.zero_le _, Nat.zero_le _⟩) hP hD hS hA [] [0, 1, 2, 3, 4, 5] rfl rfl (by decide) (by decide) (fun r_2 u_ H locs h hP hD hS => ?_)
  have hP : va_P (dC, dI) vwCl [(a_tk, .inr (9, [.ref a_tp, .ref a_tk_kinds, .ref a_tk_values, .ref a_tk_places, .int tk_count, .int tk_stop, .int tk_stop])), (a_tk_kinds, .inl (cI, 1201, .inl tk_kinds)), (a_tk_values, .inl (cI, 1201, .inl tk_values)), (a_tk_places, .inl (cI, 1201, .inl tk_places)), (a_tp, .inr (8, [.ref a_tp_bytes, .int tp_size])), (a_tp_bytes, .inl (cB, 1200, .inl tp_bytes))] H := hP
  have hD : va_D A [(a_tk, .inr (9, [.ref a_tp, .ref a_tk_kinds, .ref a_tk_values, .ref a_tk_places, .int tk_count, .int tk_stop, .int tk_stop])), (a_tk_kinds, .inl (cI, 1201, .inl tk_kinds)), (a_tk_values, .inl (cI, 1201, .inl tk_values)), (a_tk_places, .inl (cI, 1201, .inl tk_places)), (a_tp, .inr (8, [.ref a_tp_bytes, .int tp_size])), (a_tp_bytes, .inl (cB, 1200, .inl tp_bytes))] := hD
  refine lv_if_eq (tgt := 34) hx hb d_Tok_readToken_24 (by decide) (fun c_24 => ?_) (fun c_24 => ?_)
  · have h := And.left h c_24
    refine lv_iload_n hx hb d_Tok_readToken_34 rfl (lv_at hl 0 rfl) ?_
    refine jn_i (wr := [(a_tk, .inr (9, [.ref a_tp, .ref a_tk_kinds, .ref a_tk_values, .ref a_tk_places, .int tk_count, .int tk_stop, .int tk_stop])), (a_tk_kinds, .inl (cI, 1201, .inl tk_kinds)), (a_tk_values, .inl (cI, 1201, .inl tk_values)), (a_tk_places, .inl (cI, 1201, .inl tk_places)), (a_tp, .inr (8, [.ref a_tp_bytes, .int tp_size])), (a_tp_bytes, .inl (cB, 1200, .inl tp_bytes))]) (va_runS (As := [.int r_1]) (rest := []) ⟨hx, hb, hml, hown, hts⟩ (c_Tok_isDigit l dC dI cI cB cZ adK adV _ r_1 _ h) (cwS 1 hts (gs_ m_526 m_527 m_87 m_528) rfl rfl rfl pd_Tok_isDigit ⟨Nat.le_of_ble_eq_true rfl, Nat.le_of_ble_eq_true rfl⟩) ⟨pc_blind, pc_of (hP.sub [] rfl) hK (hD.sub [] (by decide) rfl) hN hT hS hA⟩ rfl rfl hl.1 rfl (lv_room (Nat.le_of_ble_eq_true rfl)) d_Tok_readToken_35 ⟨Nat.zero_le _, Nat.zero_le _⟩) hP hD hS hA [] [0, 1, 2, 3, 4, 5] rfl rfl (by decide) (by decide) (fun r_3 u_ H locs h hP hD hS => ?_)
    have hP : va_P (dC, dI) vwCl [(a_tk, .inr (9, [.ref a_tp, .ref a_tk_kinds, .ref a_tk_values, .ref a_tk_places, .int tk_count, .int tk_stop, .int tk_stop])), (a_tk_kinds, .inl (cI, 1201, .inl tk_kinds)), (a_tk_values, .inl (cI, 1201, .inl tk_values)), (a_tk_places, .inl (cI, 1201, .inl tk_places)), (a_tp, .inr (8, [.ref a_tp_bytes, .int tp_size])), (a_tp_bytes, .inl (cB, 1200, .inl tp_bytes))] H := hP
    have hD : va_D A [(a_tk, .inr (9, [.ref a_tp, .ref a_tk_kinds, .ref a_tk_values, .ref a_tk_places, .int tk_count, .int tk_stop, .int tk_stop])), (a_tk_kinds, .inl (cI, 1201, .inl tk_kinds)), (a_tk_values, .inl (cI, 1201, .inl tk_values)), (a_tk_places, .inl (cI, 1201, .inl tk_places)), (a_tp, .inr (8, [.ref a_tp_bytes, .int tp_size])), (a_tp_bytes, .inl (cB, 1200, .inl tp_bytes))] := hD
    refine lv_if_eq (tgt := 48) hx hb d_Tok_readToken_38 (by decide) (fun c_38 => ?_) (fun c_38 => ?_)
    · have h := And.left h c_38
      refine lv_aload_n hx hb d_Tok_readToken_48 rfl (lv_at hl 1 rfl) ?_
      refine lv_dup hx hb d_Tok_readToken_49 rfl ?_
      refine va_get (D := (dC, dI)) (ci := 9) (v := .int tk_stop) (C := "LoopInduction$Tokens") (T := F_Tok) (N := 7) hx hb hts iC_Tok hown hK hP 0 rfl rfl 6 (by decide) fl_30 (fun _ h9 => h9) rfl d_Tok_readToken_50 ?_
      refine lv_iconst (v := 1) hx hb d_Tok_readToken_53 (by decide) ?_
      refine lv_iadd hx hb d_Tok_readToken_54 ?_
      refine va_put (D := (dC, dI)) (ci := 9) (v := .int (tk_stop + 1)) (ty := .int) (C := "LoopInduction$Tokens") (T := F_Tok) (N := 7) hx hb hts iC_Tok t_Tok t_Tok_ok n_Tok hown hK hP hD hS 0 rfl rfl 6 (by decide) fl_30 (fun _ h9 => h9) rfl (by decide +kernel) rfl rfl (Nat.le_of_ble_eq_true rfl) d_Tok_readToken_55 (fun H locs hP hD hS => ?_)
      have hP : va_P (dC, dI) vwCl [(a_tk, .inr (9, [.ref a_tp, .ref a_tk_kinds, .ref a_tk_values, .ref a_tk_places, .int tk_count, .int tk_stop, .int (tk_stop + 1)])), (a_tk_kinds, .inl (cI, 1201, .inl tk_kinds)), (a_tk_values, .inl (cI, 1201, .inl tk_values)), (a_tk_places, .inl (cI, 1201, .inl tk_places)), (a_tp, .inr (8, [.ref a_tp_bytes, .int tp_size])), (a_tp_bytes, .inl (cB, 1200, .inl tp_bytes))] H := hP
      have hD : va_D A [(a_tk, .inr (9, [.ref a_tp, .ref a_tk_kinds, .ref a_tk_values, .ref a_tk_places, .int tk_count, .int tk_stop, .int (tk_stop + 1)])), (a_tk_kinds, .inl (cI, 1201, .inl tk_kinds)), (a_tk_values, .inl (cI, 1201, .inl tk_values)), (a_tk_places, .inl (cI, 1201, .inl tk_places)), (a_tp, .inr (8, [.ref a_tp_bytes, .int tp_size])), (a_tp_bytes, .inl (cB, 1200, .inl tp_bytes))] := hD
      refine lv_aload_n hx hb d_Tok_readToken_58 rfl (lv_at hl 1 rfl) ?_
      refine va_ldcS hx hb hown (hT.2.2.2 9 (by decide)) d_Tok_readToken_59 ?_
      refine lv_iload_n hx hb d_Tok_readToken_61 rfl (lv_at hl 0 rfl) ?_
      refine lv_i2c hx hb d_Tok_readToken_62 rfl ?_
      obtain ⟨j_4, hk_63, hj_63, ej_63, h⟩ := h
      refine jn_i (wr := [(a_tk, .inr (9, [.ref a_tp, .ref a_tk_kinds, .ref a_tk_values, .ref a_tk_places, .int tk_count, .int tk_stop, .int (tk_stop + 1)])), (a_tk_kinds, .inl (cI, 1201, .inl tk_kinds)), (a_tk_values, .inl (cI, 1201, .inl tk_values)), (a_tk_places, .inl (cI, 1201, .inl tk_places)), (a_tp, .inr (8, [.ref a_tp_bytes, .int tp_size])), (a_tp_bytes, .inl (cB, 1200, .inl tp_bytes))]) (va_runV (As := [.int (nI j_4)]) (rest := [.ref a_tk]) ⟨hx, hb, hml, hown, hts⟩ (c_Six1 l dC dI cI cB cZ adK adV _ 9 j_4 hk_63 hj_63) (cwV 1 hts (gv_ m_537 m_538 m_539 m_97 m_540) rfl rfl rfl pd_Six1 ⟨Nat.le_of_ble_eq_true rfl, Nat.le_of_ble_eq_true rfl⟩) ⟨pc_blind, vk_recv hT.1 hk_63 hS, pc_of (hP.sub [] rfl) hK (hD.sub [] (by decide) rfl) hN hT hS hA⟩ rfl rfl hl.1 (by rw [ej_63]; rfl) (lv_room (Nat.le_of_ble_eq_true rfl)) d_Tok_readToken_63 ⟨Nat.zero_le _, Nat.zero_le _⟩) hP hD hS hA [] [0, 1, 2, 3, 4, 5] rfl rfl (by decide) (by decide) (fun r_5 _ H locs er_5 hP hD hS => ?_)
      subst er_5
      have hP : va_P (dC, dI) vwCl [(a_tk, .inr (9, [.ref a_tp, .ref a_tk_kinds, .ref a_tk_values, .ref a_tk_places, .int tk_count, .int tk_stop, .int (tk_stop + 1)])), (a_tk_kinds, .inl (cI, 1201, .inl tk_kinds)), (a_tk_values, .inl (cI, 1201, .inl tk_values)), (a_tk_places, .inl (cI, 1201, .inl tk_places)), (a_tp, .inr (8, [.ref a_tp_bytes, .int tp_size])), (a_tp_bytes, .inl (cB, 1200, .inl tp_bytes))] H := hP
      have hD : va_D A [(a_tk, .inr (9, [.ref a_tp, .ref a_tk_kinds, .ref a_tk_values, .ref a_tk_places, .int tk_count, .int tk_stop, .int (tk_stop + 1)])), (a_tk_kinds, .inl (cI, 1201, .inl tk_kinds)), (a_tk_values, .inl (cI, 1201, .inl tk_values)), (a_tk_places, .inl (cI, 1201, .inl tk_places)), (a_tp, .inr (8, [.ref a_tp_bytes, .int tp_size])), (a_tp_bytes, .inl (cB, 1200, .inl tp_bytes))] := hD
      refine lv_if_lt (tgt := 73) hx hb d_Tok_readToken_66 (by decide) (fun c_66 => ?_) (fun c_66 => ?_)
      · have h := And.left h c_66
        refine lv_sipush (v := 257) hx hb d_Tok_readToken_73 (by decide) ?_
        refine lv_iconst (v := 0) hx hb d_Tok_readToken_76 (by decide) ?_
        refine jn_v (wr := [(a_tp, .inr (8, [.ref a_tp_bytes, .int tp_size])), (a_tp_bytes, .inl (cB, 1200, .inl tp_bytes))]) (va_runV (As := [.int 257, .int 0]) (rest := []) ⟨hx, hb, hml, hown, hts⟩ (c_Tok_put l dC dI cI cB cZ adK adV _ a_tk a_tp a_tk_kinds a_tk_values a_tk_places tk_count tk_stop (tk_stop + 1) tk_kinds tk_values tk_places 257 0 _ h) (cwV 2 hts (gv_ m_457 m_459 m_3 m_87 m_460) rfl rfl rfl pd_Tok_put ⟨Nat.le_of_ble_eq_true rfl, Nat.le_of_ble_eq_true rfl⟩) ⟨pc_blind, va_recv hK hP (ci := 9) (q0 := 0) rfl rfl, pc_of (hP.sub [0, 1, 2, 3] rfl) hK (hD.sub [0, 1, 2, 3] (by decide) rfl) hN hT hS hA⟩ rfl rfl hl.1 rfl (lv_room (Nat.le_of_ble_eq_true rfl)) d_Tok_readToken_77 ⟨Nat.zero_le _, Nat.zero_le _⟩) hP hD hS hA [0, 1, 2, 3] [4, 5] rfl rfl (by decide) (by decide) (fun u_ H locs h hP hD hS => ?_)
        obtain ⟨tk_count_6, tk_kinds_7, tk_values_8, tk_places_9⟩ := u_
        have hP : va_P (dC, dI) vwCl [(a_tp, .inr (8, [.ref a_tp_bytes, .int tp_size])), (a_tp_bytes, .inl (cB, 1200, .inl tp_bytes)), (a_tk, .inr (9, [.ref a_tp, .ref a_tk_kinds, .ref a_tk_values, .ref a_tk_places, .int tk_count_6, .int tk_stop, .int (tk_stop + 1)])), (a_tk_kinds, .inl (cI, 1201, .inl tk_kinds_7)), (a_tk_values, .inl (cI, 1201, .inl tk_values_8)), (a_tk_places, .inl (cI, 1201, .inl tk_places_9))] H := hP
        have hD : va_D A [(a_tp, .inr (8, [.ref a_tp_bytes, .int tp_size])), (a_tp_bytes, .inl (cB, 1200, .inl tp_bytes)), (a_tk, .inr (9, [.ref a_tp, .ref a_tk_kinds, .ref a_tk_values, .ref a_tk_places, .int tk_count_6, .int tk_stop, .int (tk_stop + 1)])), (a_tk_kinds, .inl (cI, 1201, .inl tk_kinds_7)), (a_tk_values, .inl (cI, 1201, .inl tk_values_8)), (a_tk_places, .inl (cI, 1201, .inl tk_places_9))] := hD
        rw [← hQ]
        have hP9 := hP
        have hD9 := hD
        exact W.vret hx hb hr (fun t ht hW => ⟨⟨(tk_count_6, tk_stop, tk_stop + 1, tk_kinds_7, tk_values_8, tk_places_9), rfl, h, by rw [ht]; exact hP9, va_K.moved hW.alike hK, hD9⟩, hS.F ht⟩) hS.2.2 d_Tok_readToken_80
      · have h := And.right h c_66
        refine lv_iload_n hx hb d_Tok_readToken_69 rfl (lv_at hl 0 rfl) ?_
        refine lv_goto (tgt := 76) hx hb d_Tok_readToken_70 (by decide) ?_
        refine lv_iconst (v := 0) hx hb d_Tok_readToken_76 (by decide) ?_
        refine jn_v (wr := [(a_tp, .inr (8, [.ref a_tp_bytes, .int tp_size])), (a_tp_bytes, .inl (cB, 1200, .inl tp_bytes))]) (va_runV (As := [.int r_1, .int 0]) (rest := []) ⟨hx, hb, hml, hown, hts⟩ (c_Tok_put l dC dI cI cB cZ adK adV _ a_tk a_tp a_tk_kinds a_tk_values a_tk_places tk_count tk_stop (tk_stop + 1) tk_kinds tk_values tk_places r_1 0 _ h) (cwV 2 hts (gv_ m_457 m_459 m_3 m_87 m_460) rfl rfl rfl pd_Tok_put ⟨Nat.le_of_ble_eq_true rfl, Nat.le_of_ble_eq_true rfl⟩) ⟨pc_blind, va_recv hK hP (ci := 9) (q0 := 0) rfl rfl, pc_of (hP.sub [0, 1, 2, 3] rfl) hK (hD.sub [0, 1, 2, 3] (by decide) rfl) hN hT hS hA⟩ rfl rfl hl.1 rfl (lv_room (Nat.le_of_ble_eq_true rfl)) d_Tok_readToken_77 ⟨Nat.zero_le _, Nat.zero_le _⟩) hP hD hS hA [0, 1, 2, 3] [4, 5] rfl rfl (by decide) (by decide) (fun u_ H locs h hP hD hS => ?_)
        obtain ⟨tk_count_10, tk_kinds_11, tk_values_12, tk_places_13⟩ := u_
        have hP : va_P (dC, dI) vwCl [(a_tp, .inr (8, [.ref a_tp_bytes, .int tp_size])), (a_tp_bytes, .inl (cB, 1200, .inl tp_bytes)), (a_tk, .inr (9, [.ref a_tp, .ref a_tk_kinds, .ref a_tk_values, .ref a_tk_places, .int tk_count_10, .int tk_stop, .int (tk_stop + 1)])), (a_tk_kinds, .inl (cI, 1201, .inl tk_kinds_11)), (a_tk_values, .inl (cI, 1201, .inl tk_values_12)), (a_tk_places, .inl (cI, 1201, .inl tk_places_13))] H := hP
        have hD : va_D A [(a_tp, .inr (8, [.ref a_tp_bytes, .int tp_size])), (a_tp_bytes, .inl (cB, 1200, .inl tp_bytes)), (a_tk, .inr (9, [.ref a_tp, .ref a_tk_kinds, .ref a_tk_values, .ref a_tk_places, .int tk_count_10, .int tk_stop, .int (tk_stop + 1)])), (a_tk_kinds, .inl (cI, 1201, .inl tk_kinds_11)), (a_tk_values, .inl (cI, 1201, .inl tk_values_12)), (a_tk_places, .inl (cI, 1201, .inl tk_places_13))] := hD
        rw [← hQ]
        have hP9 := hP
        have hD9 := hD
        exact W.vret hx hb hr (fun t ht hW => ⟨⟨(tk_count_10, tk_stop, tk_stop + 1, tk_kinds_11, tk_values_12, tk_places_13), rfl, h, by rw [ht]; exact hP9, va_K.moved hW.alike hK, hD9⟩, hS.F ht⟩) hS.2.2 d_Tok_readToken_80
    · have h := And.right h c_38
      refine lv_aload_n hx hb d_Tok_readToken_41 rfl (lv_at hl 1 rfl) ?_
      refine jn_v (wr := []) (va_runV (As := []) (rest := []) ⟨hx, hb, hml, hown, hts⟩ (c_Tok_readNumber l dC dI cI cB cZ adK adV _ a_tp a_tp_bytes a_tk a_tk_kinds a_tk_values a_tk_places tp_size tp_bytes tk_count tk_stop tk_stop tk_kinds tk_values tk_places _ h) (cwV 0 hts (gv_ m_529 m_531 m_6 m_87 m_532) rfl rfl rfl pd_Tok_readNumber ⟨Nat.le_of_ble_eq_true rfl, Nat.le_of_ble_eq_true rfl⟩) ⟨pc_blind, va_recv hK hP (ci := 9) (q0 := 0) rfl rfl, pc_of (hP.sub [4, 5, 0, 1, 2, 3] rfl) hK (hD.sub [4, 5, 0, 1, 2, 3] (by decide) rfl) hN hT hS hA⟩ rfl rfl hl.1 rfl (lv_room (Nat.le_of_ble_eq_true rfl)) d_Tok_readToken_42 ⟨Nat.zero_le _, Nat.zero_le _⟩) hP hD hS hA [4, 5, 0, 1, 2, 3] [] rfl rfl (by decide) (by decide) (fun u_ H locs h hP hD hS => ?_)
      obtain ⟨tk_count_14, tk_stop_15, tk_kinds_16, tk_values_17, tk_places_18⟩ := u_
      have hP : va_P (dC, dI) vwCl [(a_tp, .inr (8, [.ref a_tp_bytes, .int tp_size])), (a_tp_bytes, .inl (cB, 1200, .inl tp_bytes)), (a_tk, .inr (9, [.ref a_tp, .ref a_tk_kinds, .ref a_tk_values, .ref a_tk_places, .int tk_count_14, .int tk_stop, .int tk_stop_15])), (a_tk_kinds, .inl (cI, 1201, .inl tk_kinds_16)), (a_tk_values, .inl (cI, 1201, .inl tk_values_17)), (a_tk_places, .inl (cI, 1201, .inl tk_places_18))] H := hP
      have hD : va_D A [(a_tp, .inr (8, [.ref a_tp_bytes, .int tp_size])), (a_tp_bytes, .inl (cB, 1200, .inl tp_bytes)), (a_tk, .inr (9, [.ref a_tp, .ref a_tk_kinds, .ref a_tk_values, .ref a_tk_places, .int tk_count_14, .int tk_stop, .int tk_stop_15])), (a_tk_kinds, .inl (cI, 1201, .inl tk_kinds_16)), (a_tk_values, .inl (cI, 1201, .inl tk_values_17)), (a_tk_places, .inl (cI, 1201, .inl tk_places_18))] := hD
      refine lv_goto (tgt := 80) hx hb d_Tok_readToken_45 (by decide) ?_
      rw [← hQ]
      have hP9 := hP
      have hD9 := hD
      exact W.vret hx hb hr (fun t ht hW => ⟨⟨(tk_count_14, tk_stop, tk_stop_15, tk_kinds_16, tk_values_17, tk_places_18), rfl, h, by rw [ht]; exact hP9, va_K.moved hW.alike hK, hD9⟩, hS.F ht⟩) hS.2.2 d_Tok_readToken_80
  · have h := And.right h c_24
    refine lv_aload_n hx hb d_Tok_readToken_27 rfl (lv_at hl 1 rfl) ?_
    refine jn_v (wr := []) (va_runV (As := []) (rest := []) ⟨hx, hb, hml, hown, hts⟩ (c_Tok_readWord l dC dI cI cB cZ adK adV _ a_tp a_tp_bytes a_tk a_tk_kinds a_tk_values a_tk_places tp_size tp_bytes tk_count tk_stop tk_stop tk_kinds tk_values tk_places _ h) (cwV 0 hts (gv_ m_453 m_455 m_2 m_87 m_456) rfl rfl rfl pd_Tok_readWord ⟨Nat.le_of_ble_eq_true rfl, Nat.le_of_ble_eq_true rfl⟩) ⟨pc_blind, va_recv hK hP (ci := 9) (q0 := 0) rfl rfl, pc_of (hP.sub [4, 5, 0, 1, 2, 3] rfl) hK (hD.sub [4, 5, 0, 1, 2, 3] (by decide) rfl) hN hT hS hA⟩ rfl rfl hl.1 rfl (lv_room (Nat.le_of_ble_eq_true rfl)) d_Tok_readToken_28 ⟨Nat.zero_le _, Nat.zero_le _⟩) hP hD hS hA [4, 5, 0, 1, 2, 3] [] rfl rfl (by decide) (by decide) (fun u_ H locs h hP hD hS => ?_)
    obtain ⟨tk_count_19, tk_stop_20, tk_kinds_21, tk_values_22, tk_places_23⟩ := u_
    have hP : va_P (dC, dI) vwCl [(a_tp, .inr (8, [.ref a_tp_bytes, .int tp_size])), (a_tp_bytes, .inl (cB, 1200, .inl tp_bytes)), (a_tk, .inr (9, [.ref a_tp, .ref a_tk_kinds, .ref a_tk_values, .ref a_tk_places, .int tk_count_19, .int tk_stop, .int tk_stop_20])), (a_tk_kinds, .inl (cI, 1201, .inl tk_kinds_21)), (a_tk_values, .inl (cI, 1201, .inl tk_values_22)), (a_tk_places, .inl (cI, 1201, .inl tk_places_23))] H := hP
    have hD : va_D A [(a_tp, .inr (8, [.ref a_tp_bytes, .int tp_size])), (a_tp_bytes, .inl (cB, 1200, .inl tp_bytes)), (a_tk, .inr (9, [.ref a_tp, .ref a_tk_kinds, .ref a_tk_values, .ref a_tk_places, .int tk_count_19, .int tk_stop, .int tk_stop_20])), (a_tk_kinds, .inl (cI, 1201, .inl tk_kinds_21)), (a_tk_values, .inl (cI, 1201, .inl tk_values_22)), (a_tk_places, .inl (cI, 1201, .inl tk_places_23))] := hD
    refine lv_goto (tgt := 80) hx hb d_Tok_readToken_31 (by decide) ?_
    rw [← hQ]
    have hP9 := hP
    have hD9 := hD
    exact W.vret hx hb hr (fun t ht hW => ⟨⟨(tk_count_19, tk_stop, tk_stop_20, tk_kinds_21, tk_values_22, tk_places_23), rfl, h, by rw [ht]; exact hP9, va_K.moved hW.alike hK, hD9⟩, hS.F ht⟩) hS.2.2 d_Tok_readToken_80
set_option maxHeartbeats 4000000 in
set_option maxRecDepth 100000 in
theorem c_Tok_readAll (l : Launch) (dC : Nat → ClassId) (dI : Nat → Nat → Nat) (cI cB cZ : ClassId) (adK adV : Nat → Nat) (sz : Nat) (a_tp a_tp_bytes a_tk a_tk_kinds a_tk_values a_tk_places : Nat) (tp_size : Int32) (tp_bytes : Nat → Int32) (tk_count : Int32) (tk_start : Int32) (tk_stop : Int32) (tk_kinds : Nat → Int32) (tk_values : Nat → Int32) (tk_places : Nat → Int32) (post : Int32 → Int32 → Int32 → (Nat → Int32) → (Nat → Int32) → (Nat → Int32) → Prop) (h : wp_Tok_readAll tp_size tp_bytes tk_count tk_start tk_stop tk_kinds tk_values tk_places post) : Met l y_Tok_readAll w_Tok_readAll ({ frames := 8, cells := 0, slots := 0, locals := 169 }) (pc_ (dC, dI) [(cI, .int), (cB, .byte), (cZ, .boolean)] [(a_tp, .inr (8, [.ref a_tp_bytes, .int tp_size])), (a_tp_bytes, .inl (cB, 1200, .inl tp_bytes)), (a_tk, .inr (9, [.ref a_tp, .ref a_tk_kinds, .ref a_tk_values, .ref a_tk_places, .int tk_count, .int tk_start, .int tk_stop])), (a_tk_kinds, .inl (cI, 1201, .inl tk_kinds)), (a_tk_values, .inl (cI, 1201, .inl tk_values)), (a_tk_places, .inl (cI, 1201, .inl tk_places))] sz adK adV [.ref a_tk]) (va_Qv (fun (u : Int32 × Int32 × Int32 × (Nat → Int32) × (Nat → Int32) × (Nat → Int32)) => post u.1 u.2.1 u.2.2.1 u.2.2.2.1 u.2.2.2.2.1 u.2.2.2.2.2) (fun (u : Int32 × Int32 × Int32 × (Nat → Int32) × (Nat → Int32) × (Nat → Int32)) t => bw_ (dC, dI) [(cI, .int), (cB, .byte), (cZ, .boolean)] (va_A [(a_tp, .inr (8, [.ref a_tp_bytes, .int tp_size])), (a_tp_bytes, .inl (cB, 1200, .inl tp_bytes)), (a_tk, .inr (9, [.ref a_tp, .ref a_tk_kinds, .ref a_tk_values, .ref a_tk_places, .int tk_count, .int tk_start, .int tk_stop])), (a_tk_kinds, .inl (cI, 1201, .inl tk_kinds)), (a_tk_values, .inl (cI, 1201, .inl tk_values)), (a_tk_places, .inl (cI, 1201, .inl tk_places))] sz) [(a_tp, .inr (8, [.ref a_tp_bytes, .int tp_size])), (a_tp_bytes, .inl (cB, 1200, .inl tp_bytes)), (a_tk, .inr (9, [.ref a_tp, .ref a_tk_kinds, .ref a_tk_values, .ref a_tk_places, .int u.1, .int u.2.1, .int u.2.2.1])), (a_tk_kinds, .inl (cI, 1201, .inl u.2.2.2.1)), (a_tk_values, .inl (cI, 1201, .inl u.2.2.2.2.1)), (a_tk_places, .inl (cI, 1201, .inl u.2.2.2.2.2))] t) (va_A [(a_tp, .inr (8, [.ref a_tp_bytes, .int tp_size])), (a_tp_bytes, .inl (cB, 1200, .inl tp_bytes)), (a_tk, .inr (9, [.ref a_tp, .ref a_tk_kinds, .ref a_tk_values, .ref a_tk_places, .int tk_count, .int tk_start, .int tk_stop])), (a_tk_kinds, .inl (cI, 1201, .inl tk_kinds)), (a_tk_values, .inl (cI, 1201, .inl tk_values)), (a_tk_places, .inl (cI, 1201, .inl tk_places))] sz)) 0 0 (va_A [(a_tp, .inr (8, [.ref a_tp_bytes, .int tp_size])), (a_tp_bytes, .inl (cB, 1200, .inl tp_bytes)), (a_tk, .inr (9, [.ref a_tp, .ref a_tk_kinds, .ref a_tk_values, .ref a_tk_places, .int tk_count, .int tk_start, .int tk_stop])), (a_tk_kinds, .inl (cI, 1201, .inl tk_kinds)), (a_tk_values, .inl (cI, 1201, .inl tk_values)), (a_tk_places, .inl (cI, 1201, .inl tk_places))] sz) := by
  refine Met.ofW (cc := b_Tok_readAll) (maxL := 2) (ret := none) (by decide) rfl ?_
  intro p e s m args below meth c s₁ B hml hv
  obtain ⟨rfl, hsz, hP, hK, hD0, hN, hT⟩ := hv
  have hx := B.exec
  have hb := B.bytes
  have hr := B.returns
  have hts := atoms_spec (ws := w_Tok_readAll) B.pre
  have hown : s.vm.findClass "LoopInduction$Tokens" = some m.cls := findClass_of_methodNamed B.named
  have hlocks := B.notSynchronized
  subst hsz
  have hD := hD0.self (sz := s.heap.size)
  generalize hAe : va_A [(a_tp, .inr (8, [.ref a_tp_bytes, .int tp_size])), (a_tp_bytes, .inl (cB, 1200, .inl tp_bytes)), (a_tk, .inr (9, [.ref a_tp, .ref a_tk_kinds, .ref a_tk_values, .ref a_tk_places, .int tk_count, .int tk_start, .int tk_stop])), (a_tk_kinds, .inl (cI, 1201, .inl tk_kinds)), (a_tk_values, .inl (cI, 1201, .inl tk_values)), (a_tk_places, .inl (cI, 1201, .inl tk_places))] s.heap.size = A at hD hT ⊢
  have hA : ∀ q : Nat, s.heap.size ≤ q → A q := fun q h => by rw [← hAe]; exact Or.inr h
  have hS : va_S A s.heap s.heap [] := va_S.rf
  generalize hQ : MQ below _ _ s 0 0 _ = QQ
  have hl := lv_entry ([.ref a_tk]) (n := 2) (Nat.le_of_ble_eq_true rfl)
  rw [lg_entry_eq]
  generalize (lg_sl ([.ref a_tk]) ++ List.replicate (2 - (lg_sl ([.ref a_tk])).length) Slot.unset).toArray = ls at hl ⊢
  have hl : lv_has ls 2 [(0, .ref a_tk)] := hl
  have fl_23 := (hts _ (List.mem_cons_of_mem _ m_137))
  have fl_27 := (hts _ (List.mem_cons_of_mem _ m_138))
  have fl_30 := (hts _ (List.mem_cons_of_mem _ m_139))
  have fl_33 := (hts _ (List.mem_cons_of_mem _ m_133))
  refine lv_aload_n hx hb d_Tok_readAll_0 rfl (lv_at hl 0 rfl) ?_
  refine lv_iconst (v := 0) hx hb d_Tok_readAll_1 (by decide) ?_
  refine va_put (D := (dC, dI)) (ci := 9) (v := .int 0) (ty := .int) (C := "LoopInduction$Tokens") (T := F_Tok) (N := 7) hx hb hts iC_Tok t_Tok t_Tok_ok n_Tok hown hK hP hD hS 2 rfl rfl 4 (by decide) fl_23 (fun _ h9 => h9) rfl (by decide +kernel) rfl rfl (Nat.le_of_ble_eq_true rfl) d_Tok_readAll_2 (fun H locs hP hD hS => ?_)
  have hP : va_P (dC, dI) vwCl [(a_tp, .inr (8, [.ref a_tp_bytes, .int tp_size])), (a_tp_bytes, .inl (cB, 1200, .inl tp_bytes)), (a_tk, .inr (9, [.ref a_tp, .ref a_tk_kinds, .ref a_tk_values, .ref a_tk_places, .int 0, .int tk_start, .int tk_stop])), (a_tk_kinds, .inl (cI, 1201, .inl tk_kinds)), (a_tk_values, .inl (cI, 1201, .inl tk_values)), (a_tk_places, .inl (cI, 1201, .inl tk_places))] H := hP
  have hD : va_D A [(a_tp, .inr (8, [.ref a_tp_bytes, .int tp_size])), (a_tp_bytes, .inl (cB, 1200, .inl tp_bytes)), (a_tk, .inr (9, [.ref a_tp, .ref a_tk_kinds, .ref a_tk_values, .ref a_tk_places, .int 0, .int tk_start, .int tk_stop])), (a_tk_kinds, .inl (cI, 1201, .inl tk_kinds)), (a_tk_values, .inl (cI, 1201, .inl tk_values)), (a_tk_places, .inl (cI, 1201, .inl tk_places))] := hD
  refine lv_aload_n hx hb d_Tok_readAll_5 rfl (lv_at hl 0 rfl) ?_
  refine lv_iconst (v := 0) hx hb d_Tok_readAll_6 (by decide) ?_
  refine va_put (D := (dC, dI)) (ci := 9) (v := .int 0) (ty := .int) (C := "LoopInduction$Tokens") (T := F_Tok) (N := 7) hx hb hts iC_Tok t_Tok t_Tok_ok n_Tok hown hK hP hD hS 2 rfl rfl 6 (by decide) fl_30 (fun _ h9 => h9) rfl (by decide +kernel) rfl rfl (Nat.le_of_ble_eq_true rfl) d_Tok_readAll_7 (fun H locs hP hD hS => ?_)
  have hP : va_P (dC, dI) vwCl [(a_tp, .inr (8, [.ref a_tp_bytes, .int tp_size])), (a_tp_bytes, .inl (cB, 1200, .inl tp_bytes)), (a_tk, .inr (9, [.ref a_tp, .ref a_tk_kinds, .ref a_tk_values, .ref a_tk_places, .int 0, .int tk_start, .int 0])), (a_tk_kinds, .inl (cI, 1201, .inl tk_kinds)), (a_tk_values, .inl (cI, 1201, .inl tk_values)), (a_tk_places, .inl (cI, 1201, .inl tk_places))] H := hP
  have hD : va_D A [(a_tp, .inr (8, [.ref a_tp_bytes, .int tp_size])), (a_tp_bytes, .inl (cB, 1200, .inl tp_bytes)), (a_tk, .inr (9, [.ref a_tp, .ref a_tk_kinds, .ref a_tk_values, .ref a_tk_places, .int 0, .int tk_start, .int 0])), (a_tk_kinds, .inl (cI, 1201, .inl tk_kinds)), (a_tk_values, .inl (cI, 1201, .inl tk_values)), (a_tk_places, .inl (cI, 1201, .inl tk_places))] := hD
  refine lv_aload_n hx hb d_Tok_readAll_10 rfl (lv_at hl 0 rfl) ?_
  refine jn_v (wr := [(a_tk_kinds, .inl (cI, 1201, .inl tk_kinds)), (a_tk_values, .inl (cI, 1201, .inl tk_values)), (a_tk_places, .inl (cI, 1201, .inl tk_places))]) (va_runV (As := []) (rest := []) ⟨hx, hb, hml, hown, hts⟩ (c_Tok_skipBlanks l dC dI cI cB cZ adK adV _ a_tp a_tp_bytes a_tk a_tk_kinds a_tk_values a_tk_places tp_size tp_bytes 0 tk_start 0 _ h) (cwV 0 hts (gv_ m_434 m_436 m_0 m_87 m_437) rfl rfl rfl pd_Tok_skipBlanks ⟨Nat.le_of_ble_eq_true rfl, Nat.le_of_ble_eq_true rfl⟩) ⟨pc_blind, va_recv hK hP (ci := 9) (q0 := 2) rfl rfl, pc_of (hP.sub [0, 1, 2] rfl) hK (hD.sub [0, 1, 2] (by decide) rfl) hN hT hS hA⟩ rfl rfl hl.1 rfl (lv_room (Nat.le_of_ble_eq_true rfl)) d_Tok_readAll_11 ⟨Nat.zero_le _, Nat.zero_le _⟩) hP hD hS hA [0, 1, 2] [3, 4, 5] rfl rfl (by decide) (by decide) (fun tk_stop_1 H locs h hP hD hS => ?_)
  have hP : va_P (dC, dI) vwCl [(a_tk_kinds, .inl (cI, 1201, .inl tk_kinds)), (a_tk_values, .inl (cI, 1201, .inl tk_values)), (a_tk_places, .inl (cI, 1201, .inl tk_places)), (a_tp, .inr (8, [.ref a_tp_bytes, .int tp_size])), (a_tp_bytes, .inl (cB, 1200, .inl tp_bytes)), (a_tk, .inr (9, [.ref a_tp, .ref a_tk_kinds, .ref a_tk_values, .ref a_tk_places, .int 0, .int tk_start, .int tk_stop_1]))] H := hP
  have hD : va_D A [(a_tk_kinds, .inl (cI, 1201, .inl tk_kinds)), (a_tk_values, .inl (cI, 1201, .inl tk_values)), (a_tk_places, .inl (cI, 1201, .inl tk_places)), (a_tp, .inr (8, [.ref a_tp_bytes, .int tp_size])), (a_tp_bytes, .inl (cB, 1200, .inl tp_bytes)), (a_tk, .inr (9, [.ref a_tp, .ref a_tk_kinds, .ref a_tk_values, .ref a_tk_places, .int 0, .int tk_start, .int tk_stop_1]))] := hD
  refine lv_iconst (v := 0) hx hb d_Tok_readAll_14 (by decide) ?_
  refine lv_istore_n (lv' := [(1, .int 0), (0, .ref a_tk)]) hx hb d_Tok_readAll_15 rfl hl (by decide) rfl (fun ls hl => ?_)
  have L16_q_9 : ∀ (k51 : (Int32) → (Int32) → (Int32) → (Nat → Int32) → (Nat → Int32) → (Nat → Int32) → Prop) (hk51 : ∀ (tk_count_10 : Int32) (tk_start_11 : Int32) (tk_stop_12 : Int32) (tk_kinds_13 : Nat → Int32) (tk_values_14 : Nat → Int32) (tk_places_15 : Nat → Int32), k51 tk_count_10 tk_start_11 tk_stop_12 tk_kinds_13 tk_values_14 tk_places_15 → ∀ (H : Heap) (locs : List Loc), va_P (dC, dI) vwCl [(a_tk_kinds, .inl (cI, 1201, .inl tk_kinds_13)), (a_tk_values, .inl (cI, 1201, .inl tk_values_14)), (a_tk_places, .inl (cI, 1201, .inl tk_places_15)), (a_tp, .inr (8, [.ref a_tp_bytes, .int tp_size])), (a_tp_bytes, .inl (cB, 1200, .inl tp_bytes)), (a_tk, .inr (9, [.ref a_tp, .ref a_tk_kinds, .ref a_tk_values, .ref a_tk_places, .int tk_count_10, .int tk_start_11, .int tk_stop_12]))] H → va_D A [(a_tk_kinds, .inl (cI, 1201, .inl tk_kinds_13)), (a_tk_values, .inl (cI, 1201, .inl tk_values_14)), (a_tk_places, .inl (cI, 1201, .inl tk_places_15)), (a_tp, .inr (8, [.ref a_tp_bytes, .int tp_size])), (a_tp_bytes, .inl (cB, 1200, .inl tp_bytes)), (a_tk, .inr (9, [.ref a_tp, .ref a_tk_kinds, .ref a_tk_values, .ref a_tk_places, .int tk_count_10, .int tk_start_11, .int tk_stop_12]))] → va_S A s.heap H locs → ∀ ls : Array Slot, lv_has ls 2 [(0, .ref a_tk)] → W p l e (headSpec w_Tok_readAll ({ frames := 8, cells := 0, slots := 0, locals := 169 })).room s m (([.ref a_tk] : List Value).toArray) below meth c H locs 0 0 QQ (F0 m 51 ls [])) (n : Nat) (x1_2 : Int32) (tk_count_3 : Int32) (tk_start_4 : Int32) (tk_stop_5 : Int32) (tk_kinds_6 : Nat → Int32) (tk_values_7 : Nat → Int32) (tk_places_8 : Nat → Int32), wp_Tok_readAll_L16 tp_size tp_bytes k51 n x1_2 tk_count_3 tk_start_4 tk_stop_5 tk_kinds_6 tk_values_7 tk_places_8 → ∀ (H : Heap) (locs : List Loc), va_P (dC, dI) vwCl [(a_tk_kinds, .inl (cI, 1201, .inl tk_kinds_6)), (a_tk_values, .inl (cI, 1201, .inl tk_values_7)), (a_tk_places, .inl (cI, 1201, .inl tk_places_8)), (a_tp, .inr (8, [.ref a_tp_bytes, .int tp_size])), (a_tp_bytes, .inl (cB, 1200, .inl tp_bytes)), (a_tk, .inr (9, [.ref a_tp, .ref a_tk_kinds, .ref a_tk_values, .ref a_tk_places, .int tk_count_3, .int tk_start_4, .int tk_stop_5]))] H → va_D A [(a_tk_kinds, .inl (cI, 1201, .inl tk_kinds_6)), (a_tk_values, .inl (cI, 1201, .inl tk_values_7)), (a_tk_places, .inl (cI, 1201, .inl tk_places_8)), (a_tp, .inr (8, [.ref a_tp_bytes, .int tp_size])), (a_tp_bytes, .inl (cB, 1200, .inl tp_bytes)), (a_tk, .inr (9, [.ref a_tp, .ref a_tk_kinds, .ref a_tk_values, .ref a_tk_places, .int tk_count_3, .int tk_start_4, .int tk_stop_5]))] → va_S A s.heap H locs → ∀ ls : Array Slot, lv_has ls 2 [(0, .ref a_tk), (1, .int x1_2)] → W p l e (headSpec w_Tok_readAll ({ frames := 8, cells := 0, slots := 0, locals := 169 })).room s m (([.ref a_tk] : List Value).toArray) below meth c H locs 0 0 QQ (F0 m 16 ls []) := by
    intro k51 hk51 n
    induction n with
    | zero => intro x1_2 tk_count_3 tk_start_4 tk_stop_5 tk_kinds_6 tk_values_7 tk_places_8 h; exact (show False from h).elim
    | succ n il =>
      intro x1_2 tk_count_3 tk_start_4 tk_stop_5 tk_kinds_6 tk_values_7 tk_places_8 h
      intro H locs hP hD hS ls hl
      refine lv_iload_n hx hb d_Tok_readAll_16 rfl (lv_at hl 1 rfl) ?_
      refine lv_sipush (v := 1200) hx hb d_Tok_readAll_17 (by decide) ?_
      refine lv_icmp_ge (tgt := 51) hx hb d_Tok_readAll_20 (by decide) (fun c_20 => ?_) (fun c_20 => ?_)
      · have h := And.left h c_20
        exact hk51 _ _ _ _ _ _ h _ _ hP hD hS _ (lv_sub hl [0] rfl)
      · have h := And.right h c_20
        refine lv_aload_n hx hb d_Tok_readAll_23 rfl (lv_at hl 0 rfl) ?_
        refine va_get (D := (dC, dI)) (ci := 9) (v := .int tk_stop_5) (C := "LoopInduction$Tokens") (T := F_Tok) (N := 7) hx hb hts iC_Tok hown hK hP 5 rfl rfl 6 (by decide) fl_30 (fun _ h9 => h9) rfl d_Tok_readAll_24 ?_
        refine lv_aload_n hx hb d_Tok_readAll_27 rfl (lv_at hl 0 rfl) ?_
        refine va_get (D := (dC, dI)) (ci := 9) (v := .ref a_tp) (C := "LoopInduction$Tokens") (T := F_Tok) (N := 7) hx hb hts iC_Tok hown hK hP 5 rfl rfl 0 (by decide) fl_33 (fun _ h9 => h9) rfl d_Tok_readAll_28 ?_
        refine jn_i (wr := [(a_tk_kinds, .inl (cI, 1201, .inl tk_kinds_6)), (a_tk_values, .inl (cI, 1201, .inl tk_values_7)), (a_tk_places, .inl (cI, 1201, .inl tk_places_8)), (a_tp_bytes, .inl (cB, 1200, .inl tp_bytes)), (a_tk, .inr (9, [.ref a_tp, .ref a_tk_kinds, .ref a_tk_values, .ref a_tk_places, .int tk_count_3, .int tk_start_4, .int tk_stop_5]))]) (va_runV (As := []) (rest := [.int tk_stop_5]) ⟨hx, hb, hml, hown, hts⟩ (c_Tape_size l dC dI cI cB cZ adK adV _ a_tp a_tp_bytes tp_size _ h) (cwV 0 hts (gv_ m_438 m_415 m_416 m_86 m_417) rfl rfl rfl pd_Tape_size ⟨Nat.le_of_ble_eq_true rfl, Nat.le_of_ble_eq_true rfl⟩) ⟨pc_blind, va_recv hK hP (ci := 8) (q0 := 3) rfl rfl, pc_of (hP.sub [3] rfl) hK (hD.sub [3] (by decide) rfl) hN hT hS hA⟩ rfl rfl hl.1 rfl (lv_room (Nat.le_of_ble_eq_true rfl)) d_Tok_readAll_31 ⟨Nat.zero_le _, Nat.zero_le _⟩) hP hD hS hA [3] [0, 1, 2, 4, 5] rfl rfl (by decide) (by decide) (fun r_16 u_ H locs h hP hD hS => ?_)
        have hP : va_P (dC, dI) vwCl [(a_tk_kinds, .inl (cI, 1201, .inl tk_kinds_6)), (a_tk_values, .inl (cI, 1201, .inl tk_values_7)), (a_tk_places, .inl (cI, 1201, .inl tk_places_8)), (a_tp_bytes, .inl (cB, 1200, .inl tp_bytes)), (a_tk, .inr (9, [.ref a_tp, .ref a_tk_kinds, .ref a_tk_values, .ref a_tk_places, .int tk_count_3, .int tk_start_4, .int tk_stop_5])), (a_tp, .inr (8, [.ref a_tp_bytes, .int tp_size]))] H := hP
        have hD : va_D A [(a_tk_kinds, .inl (cI, 1201, .inl tk_kinds_6)), (a_tk_values, .inl (cI, 1201, .inl tk_values_7)), (a_tk_places, .inl (cI, 1201, .inl tk_places_8)), (a_tp_bytes, .inl (cB, 1200, .inl tp_bytes)), (a_tk, .inr (9, [.ref a_tp, .ref a_tk_kinds, .ref a_tk_values, .ref a_tk_places, .int tk_count_3, .int tk_start_4, .int tk_stop_5])), (a_tp, .inr (8, [.ref a_tp_bytes, .int tp_size]))] := hD
        refine lv_icmp_ge (tgt := 51) hx hb d_Tok_readAll_34 (by decide) (fun c_34 => ?_) (fun c_34 => ?_)
        · have h := And.left h c_34
          exact hk51 _ _ _ _ _ _ h _ _ (hP.sub [0, 1, 2, 5, 3, 4] rfl) (hD.sub [0, 1, 2, 5, 3, 4] (by decide) rfl) hS _ (lv_sub hl [0] rfl)
        · have h := And.right h c_34
          refine lv_aload_n hx hb d_Tok_readAll_37 rfl (lv_at hl 0 rfl) ?_
          refine jn_v (wr := []) (va_runV (As := []) (rest := []) ⟨hx, hb, hml, hown, hts⟩ (c_Tok_readToken l dC dI cI cB cZ adK adV _ a_tp a_tp_bytes a_tk a_tk_kinds a_tk_values a_tk_places tp_size tp_bytes tk_count_3 tk_start_4 tk_stop_5 tk_kinds_6 tk_values_7 tk_places_8 _ h) (cwV 0 hts (gv_ m_446 m_448 m_1 m_87 m_449) rfl rfl rfl pd_Tok_readToken ⟨Nat.le_of_ble_eq_true rfl, Nat.le_of_ble_eq_true rfl⟩) ⟨pc_blind, va_recv hK hP (ci := 9) (q0 := 4) rfl rfl, pc_of (hP.sub [5, 3, 4, 0, 1, 2] rfl) hK (hD.sub [5, 3, 4, 0, 1, 2] (by decide) rfl) hN hT hS hA⟩ rfl rfl hl.1 rfl (lv_room (Nat.le_of_ble_eq_true rfl)) d_Tok_readAll_38 ⟨Nat.zero_le _, Nat.zero_le _⟩) hP hD hS hA [5, 3, 4, 0, 1, 2] [] rfl rfl (by decide) (by decide) (fun u_ H locs h hP hD hS => ?_)
          obtain ⟨tk_count_17, tk_start_18, tk_stop_19, tk_kinds_20, tk_values_21, tk_places_22⟩ := u_
          have hP : va_P (dC, dI) vwCl [(a_tp, .inr (8, [.ref a_tp_bytes, .int tp_size])), (a_tp_bytes, .inl (cB, 1200, .inl tp_bytes)), (a_tk, .inr (9, [.ref a_tp, .ref a_tk_kinds, .ref a_tk_values, .ref a_tk_places, .int tk_count_17, .int tk_start_18, .int tk_stop_19])), (a_tk_kinds, .inl (cI, 1201, .inl tk_kinds_20)), (a_tk_values, .inl (cI, 1201, .inl tk_values_21)), (a_tk_places, .inl (cI, 1201, .inl tk_places_22))] H := hP
          have hD : va_D A [(a_tp, .inr (8, [.ref a_tp_bytes, .int tp_size])), (a_tp_bytes, .inl (cB, 1200, .inl tp_bytes)), (a_tk, .inr (9, [.ref a_tp, .ref a_tk_kinds, .ref a_tk_values, .ref a_tk_places, .int tk_count_17, .int tk_start_18, .int tk_stop_19])), (a_tk_kinds, .inl (cI, 1201, .inl tk_kinds_20)), (a_tk_values, .inl (cI, 1201, .inl tk_values_21)), (a_tk_places, .inl (cI, 1201, .inl tk_places_22))] := hD
          refine lv_aload_n hx hb d_Tok_readAll_41 rfl (lv_at hl 0 rfl) ?_
          refine jn_v (wr := [(a_tk_kinds, .inl (cI, 1201, .inl tk_kinds_20)), (a_tk_values, .inl (cI, 1201, .inl tk_values_21)), (a_tk_places, .inl (cI, 1201, .inl tk_places_22))]) (va_runV (As := []) (rest := []) ⟨hx, hb, hml, hown, hts⟩ (c_Tok_skipBlanks l dC dI cI cB cZ adK adV _ a_tp a_tp_bytes a_tk a_tk_kinds a_tk_values a_tk_places tp_size tp_bytes tk_count_17 tk_start_18 tk_stop_19 _ h) (cwV 0 hts (gv_ m_434 m_436 m_0 m_87 m_437) rfl rfl rfl pd_Tok_skipBlanks ⟨Nat.le_of_ble_eq_true rfl, Nat.le_of_ble_eq_true rfl⟩) ⟨pc_blind, va_recv hK hP (ci := 9) (q0 := 2) rfl rfl, pc_of (hP.sub [0, 1, 2] rfl) hK (hD.sub [0, 1, 2] (by decide) rfl) hN hT hS hA⟩ rfl rfl hl.1 rfl (lv_room (Nat.le_of_ble_eq_true rfl)) d_Tok_readAll_42 ⟨Nat.zero_le _, Nat.zero_le _⟩) hP hD hS hA [0, 1, 2] [3, 4, 5] rfl rfl (by decide) (by decide) (fun tk_stop_23 H locs h hP hD hS => ?_)
          have hP : va_P (dC, dI) vwCl [(a_tk_kinds, .inl (cI, 1201, .inl tk_kinds_20)), (a_tk_values, .inl (cI, 1201, .inl tk_values_21)), (a_tk_places, .inl (cI, 1201, .inl tk_places_22)), (a_tp, .inr (8, [.ref a_tp_bytes, .int tp_size])), (a_tp_bytes, .inl (cB, 1200, .inl tp_bytes)), (a_tk, .inr (9, [.ref a_tp, .ref a_tk_kinds, .ref a_tk_values, .ref a_tk_places, .int tk_count_17, .int tk_start_18, .int tk_stop_23]))] H := hP
          have hD : va_D A [(a_tk_kinds, .inl (cI, 1201, .inl tk_kinds_20)), (a_tk_values, .inl (cI, 1201, .inl tk_values_21)), (a_tk_places, .inl (cI, 1201, .inl tk_places_22)), (a_tp, .inr (8, [.ref a_tp_bytes, .int tp_size])), (a_tp_bytes, .inl (cB, 1200, .inl tp_bytes)), (a_tk, .inr (9, [.ref a_tp, .ref a_tk_kinds, .ref a_tk_values, .ref a_tk_places, .int tk_count_17, .int tk_start_18, .int tk_stop_23]))] := hD
          refine lv_iinc (v := x1_2 + 1) (lv' := [(1, .int (x1_2 + 1)), (0, .ref a_tk)]) hx hb d_Tok_readAll_45 hl (k := 1) rfl rfl (by decide) rfl (fun ls hl => ?_)
          refine lv_goto (tgt := 16) hx hb d_Tok_readAll_48 (by decide) ?_
          exact il _ _ _ _ _ _ _ h _ _ hP hD hS _ (lv_sub hl [1, 0] rfl)
  obtain ⟨n_, h⟩ := h
  refine L16_q_9 _ ?_ n_ _ _ _ _ _ _ _ h _ _ hP hD hS _ (lv_sub hl [1, 0] rfl)
  intro tk_count_24 tk_start_25 tk_stop_26 tk_kinds_27 tk_values_28 tk_places_29 h
  intro H locs hP hD hS ls hl
  refine lv_aload_n hx hb d_Tok_readAll_51 rfl (lv_at hl 0 rfl) ?_
  refine lv_aload_n hx hb d_Tok_readAll_52 rfl (lv_at hl 0 rfl) ?_
  refine va_get (D := (dC, dI)) (ci := 9) (v := .int tk_stop_26) (C := "LoopInduction$Tokens") (T := F_Tok) (N := 7) hx hb hts iC_Tok hown hK hP 5 rfl rfl 6 (by decide) fl_30 (fun _ h9 => h9) rfl d_Tok_readAll_53 ?_
  refine va_put (D := (dC, dI)) (ci := 9) (v := .int tk_stop_26) (ty := .int) (C := "LoopInduction$Tokens") (T := F_Tok) (N := 7) hx hb hts iC_Tok t_Tok t_Tok_ok n_Tok hown hK hP hD hS 5 rfl rfl 5 (by decide) fl_27 (fun _ h9 => h9) rfl (by decide +kernel) rfl rfl (Nat.le_of_ble_eq_true rfl) d_Tok_readAll_56 (fun H locs hP hD hS => ?_)
  have hP : va_P (dC, dI) vwCl [(a_tk_kinds, .inl (cI, 1201, .inl tk_kinds_27)), (a_tk_values, .inl (cI, 1201, .inl tk_values_28)), (a_tk_places, .inl (cI, 1201, .inl tk_places_29)), (a_tp, .inr (8, [.ref a_tp_bytes, .int tp_size])), (a_tp_bytes, .inl (cB, 1200, .inl tp_bytes)), (a_tk, .inr (9, [.ref a_tp, .ref a_tk_kinds, .ref a_tk_values, .ref a_tk_places, .int tk_count_24, .int tk_stop_26, .int tk_stop_26]))] H := hP
  have hD : va_D A [(a_tk_kinds, .inl (cI, 1201, .inl tk_kinds_27)), (a_tk_values, .inl (cI, 1201, .inl tk_values_28)), (a_tk_places, .inl (cI, 1201, .inl tk_places_29)), (a_tp, .inr (8, [.ref a_tp_bytes, .int tp_size])), (a_tp_bytes, .inl (cB, 1200, .inl tp_bytes)), (a_tk, .inr (9, [.ref a_tp, .ref a_tk_kinds, .ref a_tk_values, .ref a_tk_places, .int tk_count_24, .int tk_stop_26, .int tk_stop_26]))] := hD
  refine lv_aload_n hx hb d_Tok_readAll_59 rfl (lv_at hl 0 rfl) ?_
  refine lv_sipush (v := 256) hx hb d_Tok_readAll_60 (by decide) ?_
  refine lv_iconst (v := 0) hx hb d_Tok_readAll_63 (by decide) ?_
  refine jn_v (wr := [(a_tp, .inr (8, [.ref a_tp_bytes, .int tp_size])), (a_tp_bytes, .inl (cB, 1200, .inl tp_bytes))]) (va_runV (As := [.int 256, .int 0]) (rest := []) ⟨hx, hb, hml, hown, hts⟩ (c_Tok_put l dC dI cI cB cZ adK adV _ a_tk a_tp a_tk_kinds a_tk_values a_tk_places tk_count_24 tk_stop_26 tk_stop_26 tk_kinds_27 tk_values_28 tk_places_29 256 0 _ h) (cwV 2 hts (gv_ m_457 m_459 m_3 m_87 m_460) rfl rfl rfl pd_Tok_put ⟨Nat.le_of_ble_eq_true rfl, Nat.le_of_ble_eq_true rfl⟩) ⟨pc_blind, va_recv hK hP (ci := 9) (q0 := 5) rfl rfl, pc_of (hP.sub [5, 0, 1, 2] rfl) hK (hD.sub [5, 0, 1, 2] (by decide) rfl) hN hT hS hA⟩ rfl rfl hl.1 rfl (lv_room (Nat.le_of_ble_eq_true rfl)) d_Tok_readAll_64 ⟨Nat.zero_le _, Nat.zero_le _⟩) hP hD hS hA [5, 0, 1, 2] [3, 4] rfl rfl (by decide) (by decide) (fun u_ H locs h hP hD hS => ?_)
  obtain ⟨tk_count_30, tk_kinds_31, tk_values_32, tk_places_33⟩ := u_
  have hP : va_P (dC, dI) vwCl [(a_tp, .inr (8, [.ref a_tp_bytes, .int tp_size])), (a_tp_bytes, .inl (cB, 1200, .inl tp_bytes)), (a_tk, .inr (9, [.ref a_tp, .ref a_tk_kinds, .ref a_tk_values, .ref a_tk_places, .int tk_count_30, .int tk_stop_26, .int tk_stop_26])), (a_tk_kinds, .inl (cI, 1201, .inl tk_kinds_31)), (a_tk_values, .inl (cI, 1201, .inl tk_values_32)), (a_tk_places, .inl (cI, 1201, .inl tk_places_33))] H := hP
  have hD : va_D A [(a_tp, .inr (8, [.ref a_tp_bytes, .int tp_size])), (a_tp_bytes, .inl (cB, 1200, .inl tp_bytes)), (a_tk, .inr (9, [.ref a_tp, .ref a_tk_kinds, .ref a_tk_values, .ref a_tk_places, .int tk_count_30, .int tk_stop_26, .int tk_stop_26])), (a_tk_kinds, .inl (cI, 1201, .inl tk_kinds_31)), (a_tk_values, .inl (cI, 1201, .inl tk_values_32)), (a_tk_places, .inl (cI, 1201, .inl tk_places_33))] := hD
  rw [← hQ]
  have hP9 := hP
  have hD9 := hD
  exact W.vret hx hb hr (fun t ht hW => ⟨⟨(tk_count_30, tk_stop_26, tk_stop_26, tk_kinds_31, tk_values_32, tk_places_33), rfl, h, by rw [ht]; exact hP9, va_K.moved hW.alike hK, hD9⟩, hS.F ht⟩) hS.2.2 d_Tok_readAll_67
set_option maxHeartbeats 4000000 in
set_option maxRecDepth 100000 in
theorem c_Tok_kindAt (l : Launch) (dC : Nat → ClassId) (dI : Nat → Nat → Nat) (cI cB cZ : ClassId) (adK adV : Nat → Nat) (sz : Nat) (a_tk a_tp a_tk_kinds a_tk_values a_tk_places : Nat) (tk_count : Int32) (tk_start : Int32) (tk_stop : Int32) (tk_kinds : Nat → Int32) (x1 : Int32) (post : Int32 → Prop) (h : wp_Tok_kindAt x1 tk_count tk_kinds post) : Met l y_Tok_kindAt w_Tok_kindAt ({ frames := 0, cells := 0, slots := 0, locals := 0 }) (pc_ (dC, dI) [(cI, .int), (cB, .byte), (cZ, .boolean)] [(a_tk, .inr (9, [.ref a_tp, .ref a_tk_kinds, .ref a_tk_values, .ref a_tk_places, .int tk_count, .int tk_start, .int tk_stop])), (a_tk_kinds, .inl (cI, 1201, .inl tk_kinds))] sz adK adV [.ref a_tk, .int x1]) (va_Qi (fun (r : Int32) (u : Unit) => post r ) (fun (u : Unit) t => bw_ (dC, dI) [(cI, .int), (cB, .byte), (cZ, .boolean)] (va_A [(a_tk, .inr (9, [.ref a_tp, .ref a_tk_kinds, .ref a_tk_values, .ref a_tk_places, .int tk_count, .int tk_start, .int tk_stop])), (a_tk_kinds, .inl (cI, 1201, .inl tk_kinds))] sz) [(a_tk, .inr (9, [.ref a_tp, .ref a_tk_kinds, .ref a_tk_values, .ref a_tk_places, .int tk_count, .int tk_start, .int tk_stop])), (a_tk_kinds, .inl (cI, 1201, .inl tk_kinds))] t) (va_A [(a_tk, .inr (9, [.ref a_tp, .ref a_tk_kinds, .ref a_tk_values, .ref a_tk_places, .int tk_count, .int tk_start, .int tk_stop])), (a_tk_kinds, .inl (cI, 1201, .inl tk_kinds))] sz)) 0 0 (va_A [(a_tk, .inr (9, [.ref a_tp, .ref a_tk_kinds, .ref a_tk_values, .ref a_tk_places, .int tk_count, .int tk_start, .int tk_stop])), (a_tk_kinds, .inl (cI, 1201, .inl tk_kinds))] sz) := by
  refine Met.ofW (cc := b_Tok_kindAt) (maxL := 2) (ret := (some .int)) (by decide) rfl ?_
  intro p e s m args below meth c s₁ B hml hv
  obtain ⟨rfl, hsz, hP, hK, hD0, hN, hT⟩ := hv
  have hx := B.exec
  have hb := B.bytes
  have hr := B.returns
  have hts := atoms_spec (ws := w_Tok_kindAt) B.pre
  have hown : s.vm.findClass "LoopInduction$Tokens" = some m.cls := findClass_of_methodNamed B.named
  have hlocks := B.notSynchronized
  subst hsz
  have hD := hD0.self (sz := s.heap.size)
  generalize hAe : va_A [(a_tk, .inr (9, [.ref a_tp, .ref a_tk_kinds, .ref a_tk_values, .ref a_tk_places, .int tk_count, .int tk_start, .int tk_stop])), (a_tk_kinds, .inl (cI, 1201, .inl tk_kinds))] s.heap.size = A at hD hT ⊢
  have hA : ∀ q : Nat, s.heap.size ≤ q → A q := fun q h => by rw [← hAe]; exact Or.inr h
  have hS : va_S A s.heap s.heap [] := va_S.rf
  generalize hQ : MQ below _ _ s 0 0 _ = QQ
  have hl := lv_entry ([.ref a_tk, .int x1]) (n := 2) (Nat.le_of_ble_eq_true rfl)
  rw [lg_entry_eq]
  generalize (lg_sl ([.ref a_tk, .int x1]) ++ List.replicate (2 - (lg_sl ([.ref a_tk, .int x1])).length) Slot.unset).toArray = ls at hl ⊢
  have hl : lv_has ls 2 [(0, .ref a_tk), (1, .int x1)] := hl
  have fl_11 := (hts _ (List.mem_cons_of_mem _ m_134))
  have fl_23 := (hts _ (List.mem_cons_of_mem _ m_137))
  refine lv_iload_n hx hb d_Tok_kindAt_0 rfl (lv_at hl 1 rfl) ?_
  refine lv_if_lt (tgt := 30) hx hb d_Tok_kindAt_1 (by decide) (fun c_1 => ?_) (fun c_1 => ?_)
  · have h := And.left h c_1
    refine lv_sipush (v := 256) hx hb d_Tok_kindAt_30 (by decide) ?_
    rw [← hQ]
    have hP9 := hP
    have hD9 := hD
    exact W.iret (v := 256) hx hb hr (fun t ht hW => ⟨⟨256, (), rfl, h, by rw [ht]; exact hP9, va_K.moved hW.alike hK, hD9⟩, hS.F ht⟩) hS.2.2 d_Tok_kindAt_33
  · have h := And.right h c_1
    refine lv_iload_n hx hb d_Tok_kindAt_4 rfl (lv_at hl 1 rfl) ?_
    refine lv_aload_n hx hb d_Tok_kindAt_5 rfl (lv_at hl 0 rfl) ?_
    refine va_get (D := (dC, dI)) (ci := 9) (v := .int tk_count) (C := "LoopInduction$Tokens") (T := F_Tok) (N := 7) hx hb hts iC_Tok hown hK hP 0 rfl rfl 4 (by decide) fl_23 (fun _ h9 => h9) rfl d_Tok_kindAt_6 ?_
    refine lv_icmp_ge (tgt := 30) hx hb d_Tok_kindAt_9 (by decide) (fun c_9 => ?_) (fun c_9 => ?_)
    · have h := And.left h c_9
      refine lv_sipush (v := 256) hx hb d_Tok_kindAt_30 (by decide) ?_
      rw [← hQ]
      have hP9 := hP
      have hD9 := hD
      exact W.iret (v := 256) hx hb hr (fun t ht hW => ⟨⟨256, (), rfl, h, by rw [ht]; exact hP9, va_K.moved hW.alike hK, hD9⟩, hS.F ht⟩) hS.2.2 d_Tok_kindAt_33
    · have h := And.right h c_9
      refine lv_iload_n hx hb d_Tok_kindAt_12 rfl (lv_at hl 1 rfl) ?_
      refine lv_aload_n hx hb d_Tok_kindAt_13 rfl (lv_at hl 0 rfl) ?_
      refine va_get (D := (dC, dI)) (ci := 9) (v := .ref a_tk_kinds) (C := "LoopInduction$Tokens") (T := F_Tok) (N := 7) hx hb hts iC_Tok hown hK hP 0 rfl rfl 1 (by decide) fl_11 (fun _ h9 => h9) rfl d_Tok_kindAt_14 ?_
      refine va_alen (v := 1201) hx hb hK hP 1 0 rfl rfl rfl d_Tok_kindAt_17 ?_
      refine lv_icmp_ge (tgt := 30) hx hb d_Tok_kindAt_18 (by decide) (fun c_18 => ?_) (fun c_18 => ?_)
      · have h := And.left h c_18
        refine lv_sipush (v := 256) hx hb d_Tok_kindAt_30 (by decide) ?_
        rw [← hQ]
        have hP9 := hP
        have hD9 := hD
        exact W.iret (v := 256) hx hb hr (fun t ht hW => ⟨⟨256, (), rfl, h, by rw [ht]; exact hP9, va_K.moved hW.alike hK, hD9⟩, hS.F ht⟩) hS.2.2 d_Tok_kindAt_33
      · have h := And.right h c_18
        refine lv_aload_n hx hb d_Tok_kindAt_21 rfl (lv_at hl 0 rfl) ?_
        refine va_get (D := (dC, dI)) (ci := 9) (v := .ref a_tk_kinds) (C := "LoopInduction$Tokens") (T := F_Tok) (N := 7) hx hb hts iC_Tok hown hK hP 0 rfl rfl 1 (by decide) fl_11 (fun _ h9 => h9) rfl d_Tok_kindAt_22 ?_
        refine lv_iload_n hx hb d_Tok_kindAt_25 rfl (lv_at hl 1 rfl) ?_
        obtain ⟨hin_26, h⟩ := h
        refine va_iald hx hb hK hP 1 0 rfl rfl hin_26 d_Tok_kindAt_26 ?_
        refine lv_goto (tgt := 33) hx hb d_Tok_kindAt_27 (by decide) ?_
        rw [← hQ]
        have hP9 := hP
        have hD9 := hD
        exact W.iret (v := tk_kinds (x1 : Int32).toNatClampNeg) hx hb hr (fun t ht hW => ⟨⟨(tk_kinds (x1 : Int32).toNatClampNeg), (), rfl, h, by rw [ht]; exact hP9, va_K.moved hW.alike hK, hD9⟩, hS.F ht⟩) hS.2.2 d_Tok_kindAt_33
set_option maxHeartbeats 4000000 in
set_option maxRecDepth 100000 in
theorem c_Tok_valueAt (l : Launch) (dC : Nat → ClassId) (dI : Nat → Nat → Nat) (cI cB cZ : ClassId) (adK adV : Nat → Nat) (sz : Nat) (a_tk a_tp a_tk_kinds a_tk_values a_tk_places : Nat) (tk_count : Int32) (tk_start : Int32) (tk_stop : Int32) (tk_values : Nat → Int32) (x1 : Int32) (post : Int32 → Prop) (h : wp_Tok_valueAt x1 tk_count tk_values post) : Met l y_Tok_valueAt w_Tok_valueAt ({ frames := 0, cells := 0, slots := 0, locals := 0 }) (pc_ (dC, dI) [(cI, .int), (cB, .byte), (cZ, .boolean)] [(a_tk, .inr (9, [.ref a_tp, .ref a_tk_kinds, .ref a_tk_values, .ref a_tk_places, .int tk_count, .int tk_start, .int tk_stop])), (a_tk_values, .inl (cI, 1201, .inl tk_values))] sz adK adV [.ref a_tk, .int x1]) (va_Qi (fun (r : Int32) (u : Unit) => post r ) (fun (u : Unit) t => bw_ (dC, dI) [(cI, .int), (cB, .byte), (cZ, .boolean)] (va_A [(a_tk, .inr (9, [.ref a_tp, .ref a_tk_kinds, .ref a_tk_values, .ref a_tk_places, .int tk_count, .int tk_start, .int tk_stop])), (a_tk_values, .inl (cI, 1201, .inl tk_values))] sz) [(a_tk, .inr (9, [.ref a_tp, .ref a_tk_kinds, .ref a_tk_values, .ref a_tk_places, .int tk_count, .int tk_start, .int tk_stop])), (a_tk_values, .inl (cI, 1201, .inl tk_values))] t) (va_A [(a_tk, .inr (9, [.ref a_tp, .ref a_tk_kinds, .ref a_tk_values, .ref a_tk_places, .int tk_count, .int tk_start, .int tk_stop])), (a_tk_values, .inl (cI, 1201, .inl tk_values))] sz)) 0 0 (va_A [(a_tk, .inr (9, [.ref a_tp, .ref a_tk_kinds, .ref a_tk_values, .ref a_tk_places, .int tk_count, .int tk_start, .int tk_stop])), (a_tk_values, .inl (cI, 1201, .inl tk_values))] sz) := by
  refine Met.ofW (cc := b_Tok_valueAt) (maxL := 2) (ret := (some .int)) (by decide) rfl ?_
  intro p e s m args below meth c s₁ B hml hv
  obtain ⟨rfl, hsz, hP, hK, hD0, hN, hT⟩ := hv
  have hx := B.exec
  have hb := B.bytes
  have hr := B.returns
  have hts := atoms_spec (ws := w_Tok_valueAt) B.pre
  have hown : s.vm.findClass "LoopInduction$Tokens" = some m.cls := findClass_of_methodNamed B.named
  have hlocks := B.notSynchronized
  subst hsz
  have hD := hD0.self (sz := s.heap.size)
  generalize hAe : va_A [(a_tk, .inr (9, [.ref a_tp, .ref a_tk_kinds, .ref a_tk_values, .ref a_tk_places, .int tk_count, .int tk_start, .int tk_stop])), (a_tk_values, .inl (cI, 1201, .inl tk_values))] s.heap.size = A at hD hT ⊢
  have hA : ∀ q : Nat, s.heap.size ≤ q → A q := fun q h => by rw [← hAe]; exact Or.inr h
  have hS : va_S A s.heap s.heap [] := va_S.rf
  generalize hQ : MQ below _ _ s 0 0 _ = QQ
  have hl := lv_entry ([.ref a_tk, .int x1]) (n := 2) (Nat.le_of_ble_eq_true rfl)
  rw [lg_entry_eq]
  generalize (lg_sl ([.ref a_tk, .int x1]) ++ List.replicate (2 - (lg_sl ([.ref a_tk, .int x1])).length) Slot.unset).toArray = ls at hl ⊢
  have hl : lv_has ls 2 [(0, .ref a_tk), (1, .int x1)] := hl
  have fl_17 := (hts _ (List.mem_cons_of_mem _ m_135))
  have fl_23 := (hts _ (List.mem_cons_of_mem _ m_137))
  refine lv_iload_n hx hb d_Tok_valueAt_0 rfl (lv_at hl 1 rfl) ?_
  refine lv_if_lt (tgt := 30) hx hb d_Tok_valueAt_1 (by decide) (fun c_1 => ?_) (fun c_1 => ?_)
  · have h := And.left h c_1
    refine lv_iconst (v := 0) hx hb d_Tok_valueAt_30 (by decide) ?_
    rw [← hQ]
    have hP9 := hP
    have hD9 := hD
    exact W.iret (v := 0) hx hb hr (fun t ht hW => ⟨⟨0, (), rfl, h, by rw [ht]; exact hP9, va_K.moved hW.alike hK, hD9⟩, hS.F ht⟩) hS.2.2 d_Tok_valueAt_31
  · have h := And.right h c_1
    refine lv_iload_n hx hb d_Tok_valueAt_4 rfl (lv_at hl 1 rfl) ?_
    refine lv_aload_n hx hb d_Tok_valueAt_5 rfl (lv_at hl 0 rfl) ?_
    refine va_get (D := (dC, dI)) (ci := 9) (v := .int tk_count) (C := "LoopInduction$Tokens") (T := F_Tok) (N := 7) hx hb hts iC_Tok hown hK hP 0 rfl rfl 4 (by decide) fl_23 (fun _ h9 => h9) rfl d_Tok_valueAt_6 ?_
    refine lv_icmp_ge (tgt := 30) hx hb d_Tok_valueAt_9 (by decide) (fun c_9 => ?_) (fun c_9 => ?_)
    · have h := And.left h c_9
      refine lv_iconst (v := 0) hx hb d_Tok_valueAt_30 (by decide) ?_
      rw [← hQ]
      have hP9 := hP
      have hD9 := hD
      exact W.iret (v := 0) hx hb hr (fun t ht hW => ⟨⟨0, (), rfl, h, by rw [ht]; exact hP9, va_K.moved hW.alike hK, hD9⟩, hS.F ht⟩) hS.2.2 d_Tok_valueAt_31
    · have h := And.right h c_9
      refine lv_iload_n hx hb d_Tok_valueAt_12 rfl (lv_at hl 1 rfl) ?_
      refine lv_aload_n hx hb d_Tok_valueAt_13 rfl (lv_at hl 0 rfl) ?_
      refine va_get (D := (dC, dI)) (ci := 9) (v := .ref a_tk_values) (C := "LoopInduction$Tokens") (T := F_Tok) (N := 7) hx hb hts iC_Tok hown hK hP 0 rfl rfl 2 (by decide) fl_17 (fun _ h9 => h9) rfl d_Tok_valueAt_14 ?_
      refine va_alen (v := 1201) hx hb hK hP 1 0 rfl rfl rfl d_Tok_valueAt_17 ?_
      refine lv_icmp_ge (tgt := 30) hx hb d_Tok_valueAt_18 (by decide) (fun c_18 => ?_) (fun c_18 => ?_)
      · have h := And.left h c_18
        refine lv_iconst (v := 0) hx hb d_Tok_valueAt_30 (by decide) ?_
        rw [← hQ]
        have hP9 := hP
        have hD9 := hD
        exact W.iret (v := 0) hx hb hr (fun t ht hW => ⟨⟨0, (), rfl, h, by rw [ht]; exact hP9, va_K.moved hW.alike hK, hD9⟩, hS.F ht⟩) hS.2.2 d_Tok_valueAt_31
      · have h := And.right h c_18
        refine lv_aload_n hx hb d_Tok_valueAt_21 rfl (lv_at hl 0 rfl) ?_
        refine va_get (D := (dC, dI)) (ci := 9) (v := .ref a_tk_values) (C := "LoopInduction$Tokens") (T := F_Tok) (N := 7) hx hb hts iC_Tok hown hK hP 0 rfl rfl 2 (by decide) fl_17 (fun _ h9 => h9) rfl d_Tok_valueAt_22 ?_
        refine lv_iload_n hx hb d_Tok_valueAt_25 rfl (lv_at hl 1 rfl) ?_
        obtain ⟨hin_26, h⟩ := h
        refine va_iald hx hb hK hP 1 0 rfl rfl hin_26 d_Tok_valueAt_26 ?_
        refine lv_goto (tgt := 31) hx hb d_Tok_valueAt_27 (by decide) ?_
        rw [← hQ]
        have hP9 := hP
        have hD9 := hD
        exact W.iret (v := tk_values (x1 : Int32).toNatClampNeg) hx hb hr (fun t ht hW => ⟨⟨(tk_values (x1 : Int32).toNatClampNeg), (), rfl, h, by rw [ht]; exact hP9, va_K.moved hW.alike hK, hD9⟩, hS.F ht⟩) hS.2.2 d_Tok_valueAt_31
set_option maxHeartbeats 4000000 in
set_option maxRecDepth 100000 in
theorem c_Tok_placeAt (l : Launch) (dC : Nat → ClassId) (dI : Nat → Nat → Nat) (cI cB cZ : ClassId) (adK adV : Nat → Nat) (sz : Nat) (a_tk a_tp a_tk_kinds a_tk_values a_tk_places : Nat) (tk_count : Int32) (tk_start : Int32) (tk_stop : Int32) (tk_places : Nat → Int32) (x1 : Int32) (post : Int32 → Prop) (h : wp_Tok_placeAt x1 tk_count tk_places post) : Met l y_Tok_placeAt w_Tok_placeAt ({ frames := 0, cells := 0, slots := 0, locals := 0 }) (pc_ (dC, dI) [(cI, .int), (cB, .byte), (cZ, .boolean)] [(a_tk, .inr (9, [.ref a_tp, .ref a_tk_kinds, .ref a_tk_values, .ref a_tk_places, .int tk_count, .int tk_start, .int tk_stop])), (a_tk_places, .inl (cI, 1201, .inl tk_places))] sz adK adV [.ref a_tk, .int x1]) (va_Qi (fun (r : Int32) (u : Unit) => post r ) (fun (u : Unit) t => bw_ (dC, dI) [(cI, .int), (cB, .byte), (cZ, .boolean)] (va_A [(a_tk, .inr (9, [.ref a_tp, .ref a_tk_kinds, .ref a_tk_values, .ref a_tk_places, .int tk_count, .int tk_start, .int tk_stop])), (a_tk_places, .inl (cI, 1201, .inl tk_places))] sz) [(a_tk, .inr (9, [.ref a_tp, .ref a_tk_kinds, .ref a_tk_values, .ref a_tk_places, .int tk_count, .int tk_start, .int tk_stop])), (a_tk_places, .inl (cI, 1201, .inl tk_places))] t) (va_A [(a_tk, .inr (9, [.ref a_tp, .ref a_tk_kinds, .ref a_tk_values, .ref a_tk_places, .int tk_count, .int tk_start, .int tk_stop])), (a_tk_places, .inl (cI, 1201, .inl tk_places))] sz)) 0 0 (va_A [(a_tk, .inr (9, [.ref a_tp, .ref a_tk_kinds, .ref a_tk_values, .ref a_tk_places, .int tk_count, .int tk_start, .int tk_stop])), (a_tk_places, .inl (cI, 1201, .inl tk_places))] sz) := by
  refine Met.ofW (cc := b_Tok_placeAt) (maxL := 2) (ret := (some .int)) (by decide) rfl ?_
  intro p e s m args below meth c s₁ B hml hv
  obtain ⟨rfl, hsz, hP, hK, hD0, hN, hT⟩ := hv
  have hx := B.exec
  have hb := B.bytes
  have hr := B.returns
  have hts := atoms_spec (ws := w_Tok_placeAt) B.pre
  have hown : s.vm.findClass "LoopInduction$Tokens" = some m.cls := findClass_of_methodNamed B.named
  have hlocks := B.notSynchronized
  subst hsz
  have hD := hD0.self (sz := s.heap.size)
  generalize hAe : va_A [(a_tk, .inr (9, [.ref a_tp, .ref a_tk_kinds, .ref a_tk_values, .ref a_tk_places, .int tk_count, .int tk_start, .int tk_stop])), (a_tk_places, .inl (cI, 1201, .inl tk_places))] s.heap.size = A at hD hT ⊢
  have hA : ∀ q : Nat, s.heap.size ≤ q → A q := fun q h => by rw [← hAe]; exact Or.inr h
  have hS : va_S A s.heap s.heap [] := va_S.rf
  generalize hQ : MQ below _ _ s 0 0 _ = QQ
  have hl := lv_entry ([.ref a_tk, .int x1]) (n := 2) (Nat.le_of_ble_eq_true rfl)
  rw [lg_entry_eq]
  generalize (lg_sl ([.ref a_tk, .int x1]) ++ List.replicate (2 - (lg_sl ([.ref a_tk, .int x1])).length) Slot.unset).toArray = ls at hl ⊢
  have hl : lv_has ls 2 [(0, .ref a_tk), (1, .int x1)] := hl
  have fl_20 := (hts _ (List.mem_cons_of_mem _ m_136))
  have fl_23 := (hts _ (List.mem_cons_of_mem _ m_137))
  refine lv_iload_n hx hb d_Tok_placeAt_0 rfl (lv_at hl 1 rfl) ?_
  refine lv_if_lt (tgt := 30) hx hb d_Tok_placeAt_1 (by decide) (fun c_1 => ?_) (fun c_1 => ?_)
  · have h := And.left h c_1
    refine lv_iconst (v := 0) hx hb d_Tok_placeAt_30 (by decide) ?_
    rw [← hQ]
    have hP9 := hP
    have hD9 := hD
    exact W.iret (v := 0) hx hb hr (fun t ht hW => ⟨⟨0, (), rfl, h, by rw [ht]; exact hP9, va_K.moved hW.alike hK, hD9⟩, hS.F ht⟩) hS.2.2 d_Tok_placeAt_31
  · have h := And.right h c_1
    refine lv_iload_n hx hb d_Tok_placeAt_4 rfl (lv_at hl 1 rfl) ?_
    refine lv_aload_n hx hb d_Tok_placeAt_5 rfl (lv_at hl 0 rfl) ?_
    refine va_get (D := (dC, dI)) (ci := 9) (v := .int tk_count) (C := "LoopInduction$Tokens") (T := F_Tok) (N := 7) hx hb hts iC_Tok hown hK hP 0 rfl rfl 4 (by decide) fl_23 (fun _ h9 => h9) rfl d_Tok_placeAt_6 ?_
    refine lv_icmp_ge (tgt := 30) hx hb d_Tok_placeAt_9 (by decide) (fun c_9 => ?_) (fun c_9 => ?_)
    · have h := And.left h c_9
      refine lv_iconst (v := 0) hx hb d_Tok_placeAt_30 (by decide) ?_
      rw [← hQ]
      have hP9 := hP
      have hD9 := hD
      exact W.iret (v := 0) hx hb hr (fun t ht hW => ⟨⟨0, (), rfl, h, by rw [ht]; exact hP9, va_K.moved hW.alike hK, hD9⟩, hS.F ht⟩) hS.2.2 d_Tok_placeAt_31
    · have h := And.right h c_9
      refine lv_iload_n hx hb d_Tok_placeAt_12 rfl (lv_at hl 1 rfl) ?_
      refine lv_aload_n hx hb d_Tok_placeAt_13 rfl (lv_at hl 0 rfl) ?_
      refine va_get (D := (dC, dI)) (ci := 9) (v := .ref a_tk_places) (C := "LoopInduction$Tokens") (T := F_Tok) (N := 7) hx hb hts iC_Tok hown hK hP 0 rfl rfl 3 (by decide) fl_20 (fun _ h9 => h9) rfl d_Tok_placeAt_14 ?_
      refine va_alen (v := 1201) hx hb hK hP 1 0 rfl rfl rfl d_Tok_placeAt_17 ?_
      refine lv_icmp_ge (tgt := 30) hx hb d_Tok_placeAt_18 (by decide) (fun c_18 => ?_) (fun c_18 => ?_)
      · have h := And.left h c_18
        refine lv_iconst (v := 0) hx hb d_Tok_placeAt_30 (by decide) ?_
        rw [← hQ]
        have hP9 := hP
        have hD9 := hD
        exact W.iret (v := 0) hx hb hr (fun t ht hW => ⟨⟨0, (), rfl, h, by rw [ht]; exact hP9, va_K.moved hW.alike hK, hD9⟩, hS.F ht⟩) hS.2.2 d_Tok_placeAt_31
      · have h := And.right h c_18
        refine lv_aload_n hx hb d_Tok_placeAt_21 rfl (lv_at hl 0 rfl) ?_
        refine va_get (D := (dC, dI)) (ci := 9) (v := .ref a_tk_places) (C := "LoopInduction$Tokens") (T := F_Tok) (N := 7) hx hb hts iC_Tok hown hK hP 0 rfl rfl 3 (by decide) fl_20 (fun _ h9 => h9) rfl d_Tok_placeAt_22 ?_
        refine lv_iload_n hx hb d_Tok_placeAt_25 rfl (lv_at hl 1 rfl) ?_
        obtain ⟨hin_26, h⟩ := h
        refine va_iald hx hb hK hP 1 0 rfl rfl hin_26 d_Tok_placeAt_26 ?_
        refine lv_goto (tgt := 31) hx hb d_Tok_placeAt_27 (by decide) ?_
        rw [← hQ]
        have hP9 := hP
        have hD9 := hD
        exact W.iret (v := tk_places (x1 : Int32).toNatClampNeg) hx hb hr (fun t ht hW => ⟨⟨(tk_places (x1 : Int32).toNatClampNeg), (), rfl, h, by rw [ht]; exact hP9, va_K.moved hW.alike hK, hD9⟩, hS.F ht⟩) hS.2.2 d_Tok_placeAt_31
