abbrev b_Loop_choices : ByteArray := prog_5_method_2_code
abbrev y_Loop_choices : MethodName := ⟨"LoopInduction$Loop", "choices", "()I"⟩
abbrev w_Loop_choices : List Cond := .code y_Loop_choices b_Loop_choices 1 (some .int) :: allW
theorem pn_Loop_choices : y_Loop_choices.cls ≠ "java/lang/invoke/MethodHandle" ∧ y_Loop_choices.cls ≠ "java/lang/invoke/VarHandle" ∧ (parseMethodDescriptor y_Loop_choices.desc).map (fun d => d.parameters.length) = some 0 := by decide +kernel
theorem pd_Loop_choices : y_Loop_choices.cls = "LoopInduction$Loop" ∧ y_Loop_choices.cls ≠ "java/lang/invoke/MethodHandle" ∧ y_Loop_choices.cls ≠ "java/lang/invoke/VarHandle" ∧ (parseMethodDescriptor y_Loop_choices.desc).map (fun d => d.parameters.length) = some 0 := by decide +kernel
abbrev b_Loop_guesses : ByteArray := prog_5_method_3_code
abbrev y_Loop_guesses : MethodName := ⟨"LoopInduction$Loop", "guesses", "()I"⟩
abbrev w_Loop_guesses : List Cond := .code y_Loop_guesses b_Loop_guesses 1 (some .int) :: allW
theorem pn_Loop_guesses : y_Loop_guesses.cls ≠ "java/lang/invoke/MethodHandle" ∧ y_Loop_guesses.cls ≠ "java/lang/invoke/VarHandle" ∧ (parseMethodDescriptor y_Loop_guesses.desc).map (fun d => d.parameters.length) = some 0 := by decide +kernel
theorem pd_Loop_guesses : y_Loop_guesses.cls = "LoopInduction$Loop" ∧ y_Loop_guesses.cls ≠ "java/lang/invoke/MethodHandle" ∧ y_Loop_guesses.cls ≠ "java/lang/invoke/VarHandle" ∧ (parseMethodDescriptor y_Loop_guesses.desc).map (fun d => d.parameters.length) = some 0 := by decide +kernel
abbrev b_Loop_unaries : ByteArray := prog_5_method_4_code
abbrev y_Loop_unaries : MethodName := ⟨"LoopInduction$Loop", "unaries", "()I"⟩
abbrev w_Loop_unaries : List Cond := .code y_Loop_unaries b_Loop_unaries 1 (some .int) :: allW
theorem pn_Loop_unaries : y_Loop_unaries.cls ≠ "java/lang/invoke/MethodHandle" ∧ y_Loop_unaries.cls ≠ "java/lang/invoke/VarHandle" ∧ (parseMethodDescriptor y_Loop_unaries.desc).map (fun d => d.parameters.length) = some 0 := by decide +kernel
theorem pd_Loop_unaries : y_Loop_unaries.cls = "LoopInduction$Loop" ∧ y_Loop_unaries.cls ≠ "java/lang/invoke/MethodHandle" ∧ y_Loop_unaries.cls ≠ "java/lang/invoke/VarHandle" ∧ (parseMethodDescriptor y_Loop_unaries.desc).map (fun d => d.parameters.length) = some 0 := by decide +kernel
abbrev b_Loop_isRanked : ByteArray := prog_5_method_5_code
abbrev y_Loop_isRanked : MethodName := ⟨"LoopInduction$Loop", "isRanked", "()Z"⟩
abbrev w_Loop_isRanked : List Cond := .code y_Loop_isRanked b_Loop_isRanked 1 (some .boolean) :: allW
theorem pn_Loop_isRanked : y_Loop_isRanked.cls ≠ "java/lang/invoke/MethodHandle" ∧ y_Loop_isRanked.cls ≠ "java/lang/invoke/VarHandle" ∧ (parseMethodDescriptor y_Loop_isRanked.desc).map (fun d => d.parameters.length) = some 0 := by decide +kernel
theorem pd_Loop_isRanked : y_Loop_isRanked.cls = "LoopInduction$Loop" ∧ y_Loop_isRanked.cls ≠ "java/lang/invoke/MethodHandle" ∧ y_Loop_isRanked.cls ≠ "java/lang/invoke/VarHandle" ∧ (parseMethodDescriptor y_Loop_isRanked.desc).map (fun d => d.parameters.length) = some 0 := by decide +kernel
abbrev b_Loop_hasAll : ByteArray := prog_5_method_6_code
abbrev y_Loop_hasAll : MethodName := ⟨"LoopInduction$Loop", "hasAll", "(II)Z"⟩
abbrev w_Loop_hasAll : List Cond := .code y_Loop_hasAll b_Loop_hasAll 3 (some .boolean) :: allW
theorem pn_Loop_hasAll : y_Loop_hasAll.cls ≠ "java/lang/invoke/MethodHandle" ∧ y_Loop_hasAll.cls ≠ "java/lang/invoke/VarHandle" ∧ (parseMethodDescriptor y_Loop_hasAll.desc).map (fun d => d.parameters.length) = some 2 := by decide +kernel
theorem pd_Loop_hasAll : y_Loop_hasAll.cls = "LoopInduction$Loop" ∧ y_Loop_hasAll.cls ≠ "java/lang/invoke/MethodHandle" ∧ y_Loop_hasAll.cls ≠ "java/lang/invoke/VarHandle" ∧ (parseMethodDescriptor y_Loop_hasAll.desc).map (fun d => d.parameters.length) = some 2 := by decide +kernel
abbrev b_Loop_markReached : ByteArray := prog_5_method_7_code
abbrev y_Loop_markReached : MethodName := ⟨"LoopInduction$Loop", "markReached", "(I)V"⟩
abbrev w_Loop_markReached : List Cond := .code y_Loop_markReached b_Loop_markReached 2 none :: allW
theorem pn_Loop_markReached : y_Loop_markReached.cls ≠ "java/lang/invoke/MethodHandle" ∧ y_Loop_markReached.cls ≠ "java/lang/invoke/VarHandle" ∧ (parseMethodDescriptor y_Loop_markReached.desc).map (fun d => d.parameters.length) = some 1 := by decide +kernel
theorem pd_Loop_markReached : y_Loop_markReached.cls = "LoopInduction$Loop" ∧ y_Loop_markReached.cls ≠ "java/lang/invoke/MethodHandle" ∧ y_Loop_markReached.cls ≠ "java/lang/invoke/VarHandle" ∧ (parseMethodDescriptor y_Loop_markReached.desc).map (fun d => d.parameters.length) = some 1 := by decide +kernel
abbrev b_Loop_guessesOf : ByteArray := prog_5_method_8_code
abbrev y_Loop_guessesOf : MethodName := ⟨"LoopInduction$Loop", "guessesOf", "(I)I"⟩
abbrev w_Loop_guessesOf : List Cond := .code y_Loop_guessesOf b_Loop_guessesOf 2 (some .int) :: allW
theorem pn_Loop_guessesOf : y_Loop_guessesOf.cls ≠ "java/lang/invoke/MethodHandle" ∧ y_Loop_guessesOf.cls ≠ "java/lang/invoke/VarHandle" ∧ (parseMethodDescriptor y_Loop_guessesOf.desc).map (fun d => d.parameters.length) = some 1 := by decide +kernel
theorem pd_Loop_guessesOf : y_Loop_guessesOf.cls = "LoopInduction$Loop" ∧ y_Loop_guessesOf.cls ≠ "java/lang/invoke/MethodHandle" ∧ y_Loop_guessesOf.cls ≠ "java/lang/invoke/VarHandle" ∧ (parseMethodDescriptor y_Loop_guessesOf.desc).map (fun d => d.parameters.length) = some 1 := by decide +kernel
abbrev b_Loop_rankOf : ByteArray := prog_5_method_9_code
abbrev y_Loop_rankOf : MethodName := ⟨"LoopInduction$Loop", "rankOf", "(I)I"⟩
abbrev w_Loop_rankOf : List Cond := .code y_Loop_rankOf b_Loop_rankOf 2 (some .int) :: allW
theorem pn_Loop_rankOf : y_Loop_rankOf.cls ≠ "java/lang/invoke/MethodHandle" ∧ y_Loop_rankOf.cls ≠ "java/lang/invoke/VarHandle" ∧ (parseMethodDescriptor y_Loop_rankOf.desc).map (fun d => d.parameters.length) = some 1 := by decide +kernel
theorem pd_Loop_rankOf : y_Loop_rankOf.cls = "LoopInduction$Loop" ∧ y_Loop_rankOf.cls ≠ "java/lang/invoke/MethodHandle" ∧ y_Loop_rankOf.cls ≠ "java/lang/invoke/VarHandle" ∧ (parseMethodDescriptor y_Loop_rankOf.desc).map (fun d => d.parameters.length) = some 1 := by decide +kernel
abbrev b_Loop_turn : ByteArray := prog_5_method_10_code
abbrev y_Loop_turn : MethodName := ⟨"LoopInduction$Loop", "turn", "(II)I"⟩
abbrev w_Loop_turn : List Cond := .code y_Loop_turn b_Loop_turn 3 (some .int) :: allW
theorem pn_Loop_turn : y_Loop_turn.cls ≠ "java/lang/invoke/MethodHandle" ∧ y_Loop_turn.cls ≠ "java/lang/invoke/VarHandle" ∧ (parseMethodDescriptor y_Loop_turn.desc).map (fun d => d.parameters.length) = some 2 := by decide +kernel
theorem pd_Loop_turn : y_Loop_turn.cls = "LoopInduction$Loop" ∧ y_Loop_turn.cls ≠ "java/lang/invoke/MethodHandle" ∧ y_Loop_turn.cls ≠ "java/lang/invoke/VarHandle" ∧ (parseMethodDescriptor y_Loop_turn.desc).map (fun d => d.parameters.length) = some 2 := by decide +kernel
abbrev b_Loop_firstSource : ByteArray := prog_5_method_11_code
abbrev y_Loop_firstSource : MethodName := ⟨"LoopInduction$Loop", "firstSource", "(I)I"⟩
abbrev w_Loop_firstSource : List Cond := .code y_Loop_firstSource b_Loop_firstSource 2 (some .int) :: allW
theorem pn_Loop_firstSource : y_Loop_firstSource.cls ≠ "java/lang/invoke/MethodHandle" ∧ y_Loop_firstSource.cls ≠ "java/lang/invoke/VarHandle" ∧ (parseMethodDescriptor y_Loop_firstSource.desc).map (fun d => d.parameters.length) = some 1 := by decide +kernel
theorem pd_Loop_firstSource : y_Loop_firstSource.cls = "LoopInduction$Loop" ∧ y_Loop_firstSource.cls ≠ "java/lang/invoke/MethodHandle" ∧ y_Loop_firstSource.cls ≠ "java/lang/invoke/VarHandle" ∧ (parseMethodDescriptor y_Loop_firstSource.desc).map (fun d => d.parameters.length) = some 1 := by decide +kernel
abbrev b_Loop_lastSource : ByteArray := prog_5_method_12_code
abbrev y_Loop_lastSource : MethodName := ⟨"LoopInduction$Loop", "lastSource", "(I)I"⟩
abbrev w_Loop_lastSource : List Cond := .code y_Loop_lastSource b_Loop_lastSource 2 (some .int) :: allW
theorem pn_Loop_lastSource : y_Loop_lastSource.cls ≠ "java/lang/invoke/MethodHandle" ∧ y_Loop_lastSource.cls ≠ "java/lang/invoke/VarHandle" ∧ (parseMethodDescriptor y_Loop_lastSource.desc).map (fun d => d.parameters.length) = some 1 := by decide +kernel
theorem pd_Loop_lastSource : y_Loop_lastSource.cls = "LoopInduction$Loop" ∧ y_Loop_lastSource.cls ≠ "java/lang/invoke/MethodHandle" ∧ y_Loop_lastSource.cls ≠ "java/lang/invoke/VarHandle" ∧ (parseMethodDescriptor y_Loop_lastSource.desc).map (fun d => d.parameters.length) = some 1 := by decide +kernel
abbrev b_Loop_sourceAt : ByteArray := prog_5_method_13_code
abbrev y_Loop_sourceAt : MethodName := ⟨"LoopInduction$Loop", "sourceAt", "(I)I"⟩
abbrev w_Loop_sourceAt : List Cond := .code y_Loop_sourceAt b_Loop_sourceAt 2 (some .int) :: allW
theorem pn_Loop_sourceAt : y_Loop_sourceAt.cls ≠ "java/lang/invoke/MethodHandle" ∧ y_Loop_sourceAt.cls ≠ "java/lang/invoke/VarHandle" ∧ (parseMethodDescriptor y_Loop_sourceAt.desc).map (fun d => d.parameters.length) = some 1 := by decide +kernel
theorem pd_Loop_sourceAt : y_Loop_sourceAt.cls = "LoopInduction$Loop" ∧ y_Loop_sourceAt.cls ≠ "java/lang/invoke/MethodHandle" ∧ y_Loop_sourceAt.cls ≠ "java/lang/invoke/VarHandle" ∧ (parseMethodDescriptor y_Loop_sourceAt.desc).map (fun d => d.parameters.length) = some 1 := by decide +kernel
abbrev b_Loop_countWith : ByteArray := prog_5_method_14_code
abbrev y_Loop_countWith : MethodName := ⟨"LoopInduction$Loop", "countWith", "(I)I"⟩
abbrev w_Loop_countWith : List Cond := .code y_Loop_countWith b_Loop_countWith 4 (some .int) :: allW
theorem pn_Loop_countWith : y_Loop_countWith.cls ≠ "java/lang/invoke/MethodHandle" ∧ y_Loop_countWith.cls ≠ "java/lang/invoke/VarHandle" ∧ (parseMethodDescriptor y_Loop_countWith.desc).map (fun d => d.parameters.length) = some 1 := by decide +kernel
theorem pd_Loop_countWith : y_Loop_countWith.cls = "LoopInduction$Loop" ∧ y_Loop_countWith.cls ≠ "java/lang/invoke/MethodHandle" ∧ y_Loop_countWith.cls ≠ "java/lang/invoke/VarHandle" ∧ (parseMethodDescriptor y_Loop_countWith.desc).map (fun d => d.parameters.length) = some 1 := by decide +kernel
abbrev b_Loop_countTurns : ByteArray := prog_5_method_15_code
abbrev y_Loop_countTurns : MethodName := ⟨"LoopInduction$Loop", "countTurns", "([I)V"⟩
abbrev w_Loop_countTurns : List Cond := .code y_Loop_countTurns b_Loop_countTurns 4 none :: allW
theorem pn_Loop_countTurns : y_Loop_countTurns.cls ≠ "java/lang/invoke/MethodHandle" ∧ y_Loop_countTurns.cls ≠ "java/lang/invoke/VarHandle" ∧ (parseMethodDescriptor y_Loop_countTurns.desc).map (fun d => d.parameters.length) = some 1 := by decide +kernel
theorem pd_Loop_countTurns : y_Loop_countTurns.cls = "LoopInduction$Loop" ∧ y_Loop_countTurns.cls ≠ "java/lang/invoke/MethodHandle" ∧ y_Loop_countTurns.cls ≠ "java/lang/invoke/VarHandle" ∧ (parseMethodDescriptor y_Loop_countTurns.desc).map (fun d => d.parameters.length) = some 1 := by decide +kernel
abbrev b_Loop_loadFact : ByteArray := prog_5_method_17_code
abbrev y_Loop_loadFact : MethodName := ⟨"LoopInduction$Loop", "loadFact", "(LLoopInduction$Code;II)V"⟩
abbrev w_Loop_loadFact : List Cond := .code y_Loop_loadFact b_Loop_loadFact 5 none :: allW
theorem pn_Loop_loadFact : y_Loop_loadFact.cls ≠ "java/lang/invoke/MethodHandle" ∧ y_Loop_loadFact.cls ≠ "java/lang/invoke/VarHandle" ∧ (parseMethodDescriptor y_Loop_loadFact.desc).map (fun d => d.parameters.length) = some 3 := by decide +kernel
theorem pd_Loop_loadFact : y_Loop_loadFact.cls = "LoopInduction$Loop" ∧ y_Loop_loadFact.cls ≠ "java/lang/invoke/MethodHandle" ∧ y_Loop_loadFact.cls ≠ "java/lang/invoke/VarHandle" ∧ (parseMethodDescriptor y_Loop_loadFact.desc).map (fun d => d.parameters.length) = some 3 := by decide +kernel
abbrev b_Loop_loadAssignment : ByteArray := prog_5_method_19_code
abbrev y_Loop_loadAssignment : MethodName := ⟨"LoopInduction$Loop", "loadAssignment", "(LLoopInduction$Code;II)V"⟩
abbrev w_Loop_loadAssignment : List Cond := .code y_Loop_loadAssignment b_Loop_loadAssignment 8 none :: allW
theorem pn_Loop_loadAssignment : y_Loop_loadAssignment.cls ≠ "java/lang/invoke/MethodHandle" ∧ y_Loop_loadAssignment.cls ≠ "java/lang/invoke/VarHandle" ∧ (parseMethodDescriptor y_Loop_loadAssignment.desc).map (fun d => d.parameters.length) = some 3 := by decide +kernel
theorem pd_Loop_loadAssignment : y_Loop_loadAssignment.cls = "LoopInduction$Loop" ∧ y_Loop_loadAssignment.cls ≠ "java/lang/invoke/MethodHandle" ∧ y_Loop_loadAssignment.cls ≠ "java/lang/invoke/VarHandle" ∧ (parseMethodDescriptor y_Loop_loadAssignment.desc).map (fun d => d.parameters.length) = some 3 := by decide +kernel
abbrev b_Loop_loadChoice : ByteArray := prog_5_method_18_code
abbrev y_Loop_loadChoice : MethodName := ⟨"LoopInduction$Loop", "loadChoice", "(LLoopInduction$Code;I)V"⟩
abbrev w_Loop_loadChoice : List Cond := .code y_Loop_loadChoice b_Loop_loadChoice 5 none :: allW
theorem pn_Loop_loadChoice : y_Loop_loadChoice.cls ≠ "java/lang/invoke/MethodHandle" ∧ y_Loop_loadChoice.cls ≠ "java/lang/invoke/VarHandle" ∧ (parseMethodDescriptor y_Loop_loadChoice.desc).map (fun d => d.parameters.length) = some 2 := by decide +kernel
theorem pd_Loop_loadChoice : y_Loop_loadChoice.cls = "LoopInduction$Loop" ∧ y_Loop_loadChoice.cls ≠ "java/lang/invoke/MethodHandle" ∧ y_Loop_loadChoice.cls ≠ "java/lang/invoke/VarHandle" ∧ (parseMethodDescriptor y_Loop_loadChoice.desc).map (fun d => d.parameters.length) = some 2 := by decide +kernel
abbrev b_Loop_markEnds : ByteArray := prog_5_method_20_code
abbrev y_Loop_markEnds : MethodName := ⟨"LoopInduction$Loop", "markEnds", "()V"⟩
abbrev w_Loop_markEnds : List Cond := .code y_Loop_markEnds b_Loop_markEnds 2 none :: allW
theorem pn_Loop_markEnds : y_Loop_markEnds.cls ≠ "java/lang/invoke/MethodHandle" ∧ y_Loop_markEnds.cls ≠ "java/lang/invoke/VarHandle" ∧ (parseMethodDescriptor y_Loop_markEnds.desc).map (fun d => d.parameters.length) = some 0 := by decide +kernel
theorem pd_Loop_markEnds : y_Loop_markEnds.cls = "LoopInduction$Loop" ∧ y_Loop_markEnds.cls ≠ "java/lang/invoke/MethodHandle" ∧ y_Loop_markEnds.cls ≠ "java/lang/invoke/VarHandle" ∧ (parseMethodDescriptor y_Loop_markEnds.desc).map (fun d => d.parameters.length) = some 0 := by decide +kernel
abbrev b_Loop_putSource : ByteArray := prog_5_method_22_code
abbrev y_Loop_putSource : MethodName := ⟨"LoopInduction$Loop", "putSource", "(II)V"⟩
abbrev w_Loop_putSource : List Cond := .code y_Loop_putSource b_Loop_putSource 4 none :: allW
theorem pn_Loop_putSource : y_Loop_putSource.cls ≠ "java/lang/invoke/MethodHandle" ∧ y_Loop_putSource.cls ≠ "java/lang/invoke/VarHandle" ∧ (parseMethodDescriptor y_Loop_putSource.desc).map (fun d => d.parameters.length) = some 2 := by decide +kernel
theorem pd_Loop_putSource : y_Loop_putSource.cls = "LoopInduction$Loop" ∧ y_Loop_putSource.cls ≠ "java/lang/invoke/MethodHandle" ∧ y_Loop_putSource.cls ≠ "java/lang/invoke/VarHandle" ∧ (parseMethodDescriptor y_Loop_putSource.desc).map (fun d => d.parameters.length) = some 2 := by decide +kernel
abbrev b_Loop_linkSources : ByteArray := prog_5_method_21_code
abbrev y_Loop_linkSources : MethodName := ⟨"LoopInduction$Loop", "linkSources", "()V"⟩
abbrev w_Loop_linkSources : List Cond := .code y_Loop_linkSources b_Loop_linkSources 4 none :: allW
theorem pn_Loop_linkSources : y_Loop_linkSources.cls ≠ "java/lang/invoke/MethodHandle" ∧ y_Loop_linkSources.cls ≠ "java/lang/invoke/VarHandle" ∧ (parseMethodDescriptor y_Loop_linkSources.desc).map (fun d => d.parameters.length) = some 0 := by decide +kernel
theorem pd_Loop_linkSources : y_Loop_linkSources.cls = "LoopInduction$Loop" ∧ y_Loop_linkSources.cls ≠ "java/lang/invoke/MethodHandle" ∧ y_Loop_linkSources.cls ≠ "java/lang/invoke/VarHandle" ∧ (parseMethodDescriptor y_Loop_linkSources.desc).map (fun d => d.parameters.length) = some 0 := by decide +kernel
abbrev b_Loop_load : ByteArray := prog_5_method_16_code
abbrev y_Loop_load : MethodName := ⟨"LoopInduction$Loop", "load", "(LLoopInduction$Parser;LLoopInduction$Code;)V"⟩
abbrev w_Loop_load : List Cond := .code y_Loop_load b_Loop_load 4 none :: allW
theorem pn_Loop_load : y_Loop_load.cls ≠ "java/lang/invoke/MethodHandle" ∧ y_Loop_load.cls ≠ "java/lang/invoke/VarHandle" ∧ (parseMethodDescriptor y_Loop_load.desc).map (fun d => d.parameters.length) = some 2 := by decide +kernel
theorem pd_Loop_load : y_Loop_load.cls = "LoopInduction$Loop" ∧ y_Loop_load.cls ≠ "java/lang/invoke/MethodHandle" ∧ y_Loop_load.cls ≠ "java/lang/invoke/VarHandle" ∧ (parseMethodDescriptor y_Loop_load.desc).map (fun d => d.parameters.length) = some 2 := by decide +kernel
theorem d_Loop_choices_0 : decode b_Loop_choices 0 = .ok (.aload_n 0, 1) := by decide +kernel
theorem d_Loop_choices_1 : decode b_Loop_choices 1 = .ok (.getfield 24, 3) := by decide +kernel
theorem d_Loop_choices_4 : decode b_Loop_choices 4 = .ok (.ireturn, 1) := by decide +kernel
theorem d_Loop_guesses_0 : decode b_Loop_guesses 0 = .ok (.aload_n 0, 1) := by decide +kernel
theorem d_Loop_guesses_1 : decode b_Loop_guesses 1 = .ok (.getfield 28, 3) := by decide +kernel
theorem d_Loop_guesses_4 : decode b_Loop_guesses 4 = .ok (.ireturn, 1) := by decide +kernel
theorem d_Loop_unaries_0 : decode b_Loop_unaries 0 = .ok (.aload_n 0, 1) := by decide +kernel
theorem d_Loop_unaries_1 : decode b_Loop_unaries 1 = .ok (.getfield 31, 3) := by decide +kernel
theorem d_Loop_unaries_4 : decode b_Loop_unaries 4 = .ok (.ireturn, 1) := by decide +kernel
theorem d_Loop_isRanked_0 : decode b_Loop_isRanked 0 = .ok (.aload_n 0, 1) := by decide +kernel
theorem d_Loop_isRanked_1 : decode b_Loop_isRanked 1 = .ok (.getfield 34, 3) := by decide +kernel
theorem d_Loop_isRanked_4 : decode b_Loop_isRanked 4 = .ok (.ireturn, 1) := by decide +kernel
theorem d_Loop_hasAll_0 : decode b_Loop_hasAll 0 = .ok (.iload_n 1, 1) := by decide +kernel
theorem d_Loop_hasAll_1 : decode b_Loop_hasAll 1 = .ok (.invokestatic 47, 3) := by decide +kernel
theorem d_Loop_hasAll_4 : decode b_Loop_hasAll 4 = .ok (.ifCond .eq 19, 3) := by decide +kernel
theorem d_Loop_hasAll_7 : decode b_Loop_hasAll 7 = .ok (.aload_n 0, 1) := by decide +kernel
theorem d_Loop_hasAll_8 : decode b_Loop_hasAll 8 = .ok (.getfield 11, 3) := by decide +kernel
theorem d_Loop_hasAll_11 : decode b_Loop_hasAll 11 = .ok (.iload_n 1, 1) := by decide +kernel
theorem d_Loop_hasAll_12 : decode b_Loop_hasAll 12 = .ok (.iaload, 1) := by decide +kernel
theorem d_Loop_hasAll_13 : decode b_Loop_hasAll 13 = .ok (.iload_n 2, 1) := by decide +kernel
theorem d_Loop_hasAll_14 : decode b_Loop_hasAll 14 = .ok (.iand, 1) := by decide +kernel
theorem d_Loop_hasAll_15 : decode b_Loop_hasAll 15 = .ok (.iload_n 2, 1) := by decide +kernel
theorem d_Loop_hasAll_16 : decode b_Loop_hasAll 16 = .ok (.if_icmp .ne 7, 3) := by decide +kernel
theorem d_Loop_hasAll_19 : decode b_Loop_hasAll 19 = .ok (.iconst 1, 1) := by decide +kernel
theorem d_Loop_hasAll_20 : decode b_Loop_hasAll 20 = .ok (.goto 4, 3) := by decide +kernel
theorem d_Loop_hasAll_23 : decode b_Loop_hasAll 23 = .ok (.iconst 0, 1) := by decide +kernel
theorem d_Loop_hasAll_24 : decode b_Loop_hasAll 24 = .ok (.ireturn, 1) := by decide +kernel
theorem d_Loop_markReached_0 : decode b_Loop_markReached 0 = .ok (.iload_n 1, 1) := by decide +kernel
theorem d_Loop_markReached_1 : decode b_Loop_markReached 1 = .ok (.invokestatic 47, 3) := by decide +kernel
theorem d_Loop_markReached_4 : decode b_Loop_markReached 4 = .ok (.ifCond .eq 13, 3) := by decide +kernel
theorem d_Loop_markReached_7 : decode b_Loop_markReached 7 = .ok (.aload_n 0, 1) := by decide +kernel
theorem d_Loop_markReached_8 : decode b_Loop_markReached 8 = .ok (.getfield 11, 3) := by decide +kernel
theorem d_Loop_markReached_11 : decode b_Loop_markReached 11 = .ok (.iload_n 1, 1) := by decide +kernel
theorem d_Loop_markReached_12 : decode b_Loop_markReached 12 = .ok (.dup2, 1) := by decide +kernel
theorem d_Loop_markReached_13 : decode b_Loop_markReached 13 = .ok (.iaload, 1) := by decide +kernel
theorem d_Loop_markReached_14 : decode b_Loop_markReached 14 = .ok (.iconst 4, 1) := by decide +kernel
theorem d_Loop_markReached_15 : decode b_Loop_markReached 15 = .ok (.ior, 1) := by decide +kernel
theorem d_Loop_markReached_16 : decode b_Loop_markReached 16 = .ok (.iastore, 1) := by decide +kernel
theorem d_Loop_markReached_17 : decode b_Loop_markReached 17 = .ok (.return_, 1) := by decide +kernel
theorem d_Loop_guessesOf_0 : decode b_Loop_guessesOf 0 = .ok (.iload_n 1, 1) := by decide +kernel
theorem d_Loop_guessesOf_1 : decode b_Loop_guessesOf 1 = .ok (.invokestatic 47, 3) := by decide +kernel
theorem d_Loop_guessesOf_4 : decode b_Loop_guessesOf 4 = .ok (.ifCond .eq 18, 3) := by decide +kernel
theorem d_Loop_guessesOf_7 : decode b_Loop_guessesOf 7 = .ok (.aload_n 0, 1) := by decide +kernel
theorem d_Loop_guessesOf_8 : decode b_Loop_guessesOf 8 = .ok (.getfield 11, 3) := by decide +kernel
theorem d_Loop_guessesOf_11 : decode b_Loop_guessesOf 11 = .ok (.iload_n 1, 1) := by decide +kernel
theorem d_Loop_guessesOf_12 : decode b_Loop_guessesOf 12 = .ok (.iaload, 1) := by decide +kernel
theorem d_Loop_guessesOf_13 : decode b_Loop_guessesOf 13 = .ok (.iconst 4, 1) := by decide +kernel
theorem d_Loop_guessesOf_14 : decode b_Loop_guessesOf 14 = .ok (.ishr, 1) := by decide +kernel
theorem d_Loop_guessesOf_15 : decode b_Loop_guessesOf 15 = .ok (.sipush 4095, 3) := by decide +kernel
theorem d_Loop_guessesOf_18 : decode b_Loop_guessesOf 18 = .ok (.iand, 1) := by decide +kernel
theorem d_Loop_guessesOf_19 : decode b_Loop_guessesOf 19 = .ok (.goto 4, 3) := by decide +kernel
theorem d_Loop_guessesOf_22 : decode b_Loop_guessesOf 22 = .ok (.iconst 0, 1) := by decide +kernel
theorem d_Loop_guessesOf_23 : decode b_Loop_guessesOf 23 = .ok (.ireturn, 1) := by decide +kernel
theorem d_Loop_rankOf_0 : decode b_Loop_rankOf 0 = .ok (.iload_n 1, 1) := by decide +kernel
theorem d_Loop_rankOf_1 : decode b_Loop_rankOf 1 = .ok (.invokestatic 47, 3) := by decide +kernel
theorem d_Loop_rankOf_4 : decode b_Loop_rankOf 4 = .ok (.ifCond .eq 18, 3) := by decide +kernel
theorem d_Loop_rankOf_7 : decode b_Loop_rankOf 7 = .ok (.aload_n 0, 1) := by decide +kernel
theorem d_Loop_rankOf_8 : decode b_Loop_rankOf 8 = .ok (.getfield 11, 3) := by decide +kernel
theorem d_Loop_rankOf_11 : decode b_Loop_rankOf 11 = .ok (.iload_n 1, 1) := by decide +kernel
theorem d_Loop_rankOf_12 : decode b_Loop_rankOf 12 = .ok (.iaload, 1) := by decide +kernel
theorem d_Loop_rankOf_13 : decode b_Loop_rankOf 13 = .ok (.bipush 16, 2) := by decide +kernel
theorem d_Loop_rankOf_15 : decode b_Loop_rankOf 15 = .ok (.ishr, 1) := by decide +kernel
theorem d_Loop_rankOf_16 : decode b_Loop_rankOf 16 = .ok (.bipush 15, 2) := by decide +kernel
theorem d_Loop_rankOf_18 : decode b_Loop_rankOf 18 = .ok (.iand, 1) := by decide +kernel
theorem d_Loop_rankOf_19 : decode b_Loop_rankOf 19 = .ok (.goto 4, 3) := by decide +kernel
theorem d_Loop_rankOf_22 : decode b_Loop_rankOf 22 = .ok (.iconst 0, 1) := by decide +kernel
theorem d_Loop_rankOf_23 : decode b_Loop_rankOf 23 = .ok (.ireturn, 1) := by decide +kernel
theorem d_Loop_turn_0 : decode b_Loop_turn 0 = .ok (.iload_n 1, 1) := by decide +kernel
theorem d_Loop_turn_1 : decode b_Loop_turn 1 = .ok (.invokestatic 47, 3) := by decide +kernel
theorem d_Loop_turn_4 : decode b_Loop_turn 4 = .ok (.ifCond .eq 21, 3) := by decide +kernel
theorem d_Loop_turn_7 : decode b_Loop_turn 7 = .ok (.iload_n 2, 1) := by decide +kernel
theorem d_Loop_turn_8 : decode b_Loop_turn 8 = .ok (.ifCond .lt 17, 3) := by decide +kernel
theorem d_Loop_turn_11 : decode b_Loop_turn 11 = .ok (.iload_n 2, 1) := by decide +kernel
theorem d_Loop_turn_12 : decode b_Loop_turn 12 = .ok (.aload_n 0, 1) := by decide +kernel
theorem d_Loop_turn_13 : decode b_Loop_turn 13 = .ok (.getfield 24, 3) := by decide +kernel
theorem d_Loop_turn_16 : decode b_Loop_turn 16 = .ok (.if_icmp .ge 9, 3) := by decide +kernel
theorem d_Loop_turn_19 : decode b_Loop_turn 19 = .ok (.iload_n 2, 1) := by decide +kernel
theorem d_Loop_turn_20 : decode b_Loop_turn 20 = .ok (.bipush 6, 2) := by decide +kernel
theorem d_Loop_turn_22 : decode b_Loop_turn 22 = .ok (.if_icmp .lt 5, 3) := by decide +kernel
theorem d_Loop_turn_25 : decode b_Loop_turn 25 = .ok (.iconst (-1), 1) := by decide +kernel
theorem d_Loop_turn_26 : decode b_Loop_turn 26 = .ok (.ireturn, 1) := by decide +kernel
theorem d_Loop_turn_27 : decode b_Loop_turn 27 = .ok (.aload_n 0, 1) := by decide +kernel
theorem d_Loop_turn_28 : decode b_Loop_turn 28 = .ok (.getfield 15, 3) := by decide +kernel
theorem d_Loop_turn_31 : decode b_Loop_turn 31 = .ok (.iload_n 2, 1) := by decide +kernel
theorem d_Loop_turn_32 : decode b_Loop_turn 32 = .ok (.sipush 4096, 3) := by decide +kernel
theorem d_Loop_turn_35 : decode b_Loop_turn 35 = .ok (.imul, 1) := by decide +kernel
theorem d_Loop_turn_36 : decode b_Loop_turn 36 = .ok (.iload_n 1, 1) := by decide +kernel
theorem d_Loop_turn_37 : decode b_Loop_turn 37 = .ok (.iadd, 1) := by decide +kernel
theorem d_Loop_turn_38 : decode b_Loop_turn 38 = .ok (.iaload, 1) := by decide +kernel
theorem d_Loop_turn_39 : decode b_Loop_turn 39 = .ok (.ireturn, 1) := by decide +kernel
theorem d_Loop_firstSource_0 : decode b_Loop_firstSource 0 = .ok (.iload_n 1, 1) := by decide +kernel
theorem d_Loop_firstSource_1 : decode b_Loop_firstSource 1 = .ok (.invokestatic 47, 3) := by decide +kernel
theorem d_Loop_firstSource_4 : decode b_Loop_firstSource 4 = .ok (.ifCond .eq 12, 3) := by decide +kernel
theorem d_Loop_firstSource_7 : decode b_Loop_firstSource 7 = .ok (.aload_n 0, 1) := by decide +kernel
theorem d_Loop_firstSource_8 : decode b_Loop_firstSource 8 = .ok (.getfield 18, 3) := by decide +kernel
theorem d_Loop_firstSource_11 : decode b_Loop_firstSource 11 = .ok (.iload_n 1, 1) := by decide +kernel
theorem d_Loop_firstSource_12 : decode b_Loop_firstSource 12 = .ok (.iaload, 1) := by decide +kernel
theorem d_Loop_firstSource_13 : decode b_Loop_firstSource 13 = .ok (.goto 4, 3) := by decide +kernel
theorem d_Loop_firstSource_16 : decode b_Loop_firstSource 16 = .ok (.iconst 0, 1) := by decide +kernel
theorem d_Loop_firstSource_17 : decode b_Loop_firstSource 17 = .ok (.ireturn, 1) := by decide +kernel
theorem d_Loop_lastSource_0 : decode b_Loop_lastSource 0 = .ok (.iload_n 1, 1) := by decide +kernel
theorem d_Loop_lastSource_1 : decode b_Loop_lastSource 1 = .ok (.invokestatic 47, 3) := by decide +kernel
theorem d_Loop_lastSource_4 : decode b_Loop_lastSource 4 = .ok (.ifCond .eq 16, 3) := by decide +kernel
theorem d_Loop_lastSource_7 : decode b_Loop_lastSource 7 = .ok (.aload_n 0, 1) := by decide +kernel
theorem d_Loop_lastSource_8 : decode b_Loop_lastSource 8 = .ok (.getfield 18, 3) := by decide +kernel
theorem d_Loop_lastSource_11 : decode b_Loop_lastSource 11 = .ok (.iload_n 1, 1) := by decide +kernel
theorem d_Loop_lastSource_12 : decode b_Loop_lastSource 12 = .ok (.iconst 1, 1) := by decide +kernel
theorem d_Loop_lastSource_13 : decode b_Loop_lastSource 13 = .ok (.iadd, 1) := by decide +kernel
theorem d_Loop_lastSource_14 : decode b_Loop_lastSource 14 = .ok (.iaload, 1) := by decide +kernel
theorem d_Loop_lastSource_15 : decode b_Loop_lastSource 15 = .ok (.iconst 1, 1) := by decide +kernel
theorem d_Loop_lastSource_16 : decode b_Loop_lastSource 16 = .ok (.isub, 1) := by decide +kernel
theorem d_Loop_lastSource_17 : decode b_Loop_lastSource 17 = .ok (.goto 4, 3) := by decide +kernel
theorem d_Loop_lastSource_20 : decode b_Loop_lastSource 20 = .ok (.iconst (-1), 1) := by decide +kernel
theorem d_Loop_lastSource_21 : decode b_Loop_lastSource 21 = .ok (.ireturn, 1) := by decide +kernel
theorem d_Loop_sourceAt_0 : decode b_Loop_sourceAt 0 = .ok (.iload_n 1, 1) := by decide +kernel
theorem d_Loop_sourceAt_1 : decode b_Loop_sourceAt 1 = .ok (.ifCond .lt 21, 3) := by decide +kernel
theorem d_Loop_sourceAt_4 : decode b_Loop_sourceAt 4 = .ok (.iload_n 1, 1) := by decide +kernel
theorem d_Loop_sourceAt_5 : decode b_Loop_sourceAt 5 = .ok (.aload_n 0, 1) := by decide +kernel
theorem d_Loop_sourceAt_6 : decode b_Loop_sourceAt 6 = .ok (.getfield 21, 3) := by decide +kernel
theorem d_Loop_sourceAt_9 : decode b_Loop_sourceAt 9 = .ok (.arraylength, 1) := by decide +kernel
theorem d_Loop_sourceAt_10 : decode b_Loop_sourceAt 10 = .ok (.if_icmp .ge 12, 3) := by decide +kernel
theorem d_Loop_sourceAt_13 : decode b_Loop_sourceAt 13 = .ok (.aload_n 0, 1) := by decide +kernel
theorem d_Loop_sourceAt_14 : decode b_Loop_sourceAt 14 = .ok (.getfield 21, 3) := by decide +kernel
theorem d_Loop_sourceAt_17 : decode b_Loop_sourceAt 17 = .ok (.iload_n 1, 1) := by decide +kernel
theorem d_Loop_sourceAt_18 : decode b_Loop_sourceAt 18 = .ok (.iaload, 1) := by decide +kernel
theorem d_Loop_sourceAt_19 : decode b_Loop_sourceAt 19 = .ok (.goto 4, 3) := by decide +kernel
theorem d_Loop_sourceAt_22 : decode b_Loop_sourceAt 22 = .ok (.iconst 0, 1) := by decide +kernel
theorem d_Loop_sourceAt_23 : decode b_Loop_sourceAt 23 = .ok (.ireturn, 1) := by decide +kernel
theorem d_Loop_countWith_0 : decode b_Loop_countWith 0 = .ok (.iconst 0, 1) := by decide +kernel
theorem d_Loop_countWith_1 : decode b_Loop_countWith 1 = .ok (.istore_n 2, 1) := by decide +kernel
theorem d_Loop_countWith_2 : decode b_Loop_countWith 2 = .ok (.iconst 0, 1) := by decide +kernel
theorem d_Loop_countWith_3 : decode b_Loop_countWith 3 = .ok (.istore_n 3, 1) := by decide +kernel
theorem d_Loop_countWith_4 : decode b_Loop_countWith 4 = .ok (.iload_n 3, 1) := by decide +kernel
theorem d_Loop_countWith_5 : decode b_Loop_countWith 5 = .ok (.sipush 4096, 3) := by decide +kernel
theorem d_Loop_countWith_8 : decode b_Loop_countWith 8 = .ok (.if_icmp .ge 21, 3) := by decide +kernel
theorem d_Loop_countWith_11 : decode b_Loop_countWith 11 = .ok (.aload_n 0, 1) := by decide +kernel
theorem d_Loop_countWith_12 : decode b_Loop_countWith 12 = .ok (.iload_n 3, 1) := by decide +kernel
theorem d_Loop_countWith_13 : decode b_Loop_countWith 13 = .ok (.iload_n 1, 1) := by decide +kernel
theorem d_Loop_countWith_14 : decode b_Loop_countWith 14 = .ok (.invokevirtual 51, 3) := by decide +kernel
theorem d_Loop_countWith_17 : decode b_Loop_countWith 17 = .ok (.ifCond .eq 6, 3) := by decide +kernel
theorem d_Loop_countWith_20 : decode b_Loop_countWith 20 = .ok (.iinc 2 1, 3) := by decide +kernel
theorem d_Loop_countWith_23 : decode b_Loop_countWith 23 = .ok (.iinc 3 1, 3) := by decide +kernel
theorem d_Loop_countWith_26 : decode b_Loop_countWith 26 = .ok (.goto (-22), 3) := by decide +kernel
theorem d_Loop_countWith_29 : decode b_Loop_countWith 29 = .ok (.iload_n 2, 1) := by decide +kernel
theorem d_Loop_countWith_30 : decode b_Loop_countWith 30 = .ok (.ireturn, 1) := by decide +kernel
theorem d_Loop_countTurns_0 : decode b_Loop_countTurns 0 = .ok (.iconst 0, 1) := by decide +kernel
theorem d_Loop_countTurns_1 : decode b_Loop_countTurns 1 = .ok (.istore_n 2, 1) := by decide +kernel
theorem d_Loop_countTurns_2 : decode b_Loop_countTurns 2 = .ok (.iload_n 2, 1) := by decide +kernel
theorem d_Loop_countTurns_3 : decode b_Loop_countTurns 3 = .ok (.sipush 4096, 3) := by decide +kernel
theorem d_Loop_countTurns_6 : decode b_Loop_countTurns 6 = .ok (.if_icmp .ge 52, 3) := by decide +kernel
theorem d_Loop_countTurns_9 : decode b_Loop_countTurns 9 = .ok (.iload_n 2, 1) := by decide +kernel
theorem d_Loop_countTurns_10 : decode b_Loop_countTurns 10 = .ok (.aload_n 1, 1) := by decide +kernel
theorem d_Loop_countTurns_11 : decode b_Loop_countTurns 11 = .ok (.arraylength, 1) := by decide +kernel
theorem d_Loop_countTurns_12 : decode b_Loop_countTurns 12 = .ok (.if_icmp .ge 46, 3) := by decide +kernel
theorem d_Loop_countTurns_15 : decode b_Loop_countTurns 15 = .ok (.aload_n 1, 1) := by decide +kernel
theorem d_Loop_countTurns_16 : decode b_Loop_countTurns 16 = .ok (.iload_n 2, 1) := by decide +kernel
theorem d_Loop_countTurns_17 : decode b_Loop_countTurns 17 = .ok (.iconst 0, 1) := by decide +kernel
theorem d_Loop_countTurns_18 : decode b_Loop_countTurns 18 = .ok (.iastore, 1) := by decide +kernel
theorem d_Loop_countTurns_19 : decode b_Loop_countTurns 19 = .ok (.iconst 0, 1) := by decide +kernel
theorem d_Loop_countTurns_20 : decode b_Loop_countTurns 20 = .ok (.istore_n 3, 1) := by decide +kernel
theorem d_Loop_countTurns_21 : decode b_Loop_countTurns 21 = .ok (.iload_n 3, 1) := by decide +kernel
theorem d_Loop_countTurns_22 : decode b_Loop_countTurns 22 = .ok (.aload_n 0, 1) := by decide +kernel
theorem d_Loop_countTurns_23 : decode b_Loop_countTurns 23 = .ok (.getfield 24, 3) := by decide +kernel
theorem d_Loop_countTurns_26 : decode b_Loop_countTurns 26 = .ok (.if_icmp .ge 26, 3) := by decide +kernel
theorem d_Loop_countTurns_29 : decode b_Loop_countTurns 29 = .ok (.aload_n 0, 1) := by decide +kernel
theorem d_Loop_countTurns_30 : decode b_Loop_countTurns 30 = .ok (.iload_n 2, 1) := by decide +kernel
theorem d_Loop_countTurns_31 : decode b_Loop_countTurns 31 = .ok (.iload_n 3, 1) := by decide +kernel
theorem d_Loop_countTurns_32 : decode b_Loop_countTurns 32 = .ok (.invokevirtual 55, 3) := by decide +kernel
theorem d_Loop_countTurns_35 : decode b_Loop_countTurns 35 = .ok (.iconst (-1), 1) := by decide +kernel
theorem d_Loop_countTurns_36 : decode b_Loop_countTurns 36 = .ok (.if_icmp .eq 10, 3) := by decide +kernel
theorem d_Loop_countTurns_39 : decode b_Loop_countTurns 39 = .ok (.aload_n 1, 1) := by decide +kernel
theorem d_Loop_countTurns_40 : decode b_Loop_countTurns 40 = .ok (.iload_n 2, 1) := by decide +kernel
theorem d_Loop_countTurns_41 : decode b_Loop_countTurns 41 = .ok (.dup2, 1) := by decide +kernel
theorem d_Loop_countTurns_42 : decode b_Loop_countTurns 42 = .ok (.iaload, 1) := by decide +kernel
theorem d_Loop_countTurns_43 : decode b_Loop_countTurns 43 = .ok (.iconst 1, 1) := by decide +kernel
theorem d_Loop_countTurns_44 : decode b_Loop_countTurns 44 = .ok (.iadd, 1) := by decide +kernel
theorem d_Loop_countTurns_45 : decode b_Loop_countTurns 45 = .ok (.iastore, 1) := by decide +kernel
theorem d_Loop_countTurns_46 : decode b_Loop_countTurns 46 = .ok (.iinc 3 1, 3) := by decide +kernel
theorem d_Loop_countTurns_49 : decode b_Loop_countTurns 49 = .ok (.goto (-28), 3) := by decide +kernel
theorem d_Loop_countTurns_52 : decode b_Loop_countTurns 52 = .ok (.iinc 2 1, 3) := by decide +kernel
theorem d_Loop_countTurns_55 : decode b_Loop_countTurns 55 = .ok (.goto (-53), 3) := by decide +kernel
theorem d_Loop_countTurns_58 : decode b_Loop_countTurns 58 = .ok (.return_, 1) := by decide +kernel
theorem d_Loop_loadFact_0 : decode b_Loop_loadFact 0 = .ok (.aload_n 1, 1) := by decide +kernel
theorem d_Loop_loadFact_1 : decode b_Loop_loadFact 1 = .ok (.iload_n 2, 1) := by decide +kernel
theorem d_Loop_loadFact_2 : decode b_Loop_loadFact 2 = .ok (.invokevirtual 70, 3) := by decide +kernel
theorem d_Loop_loadFact_5 : decode b_Loop_loadFact 5 = .ok (.ifCond .ne 4, 3) := by decide +kernel
theorem d_Loop_loadFact_8 : decode b_Loop_loadFact 8 = .ok (.return_, 1) := by decide +kernel
theorem d_Loop_loadFact_9 : decode b_Loop_loadFact 9 = .ok (.aload_n 1, 1) := by decide +kernel
theorem d_Loop_loadFact_10 : decode b_Loop_loadFact 10 = .ok (.iload_n 2, 1) := by decide +kernel
theorem d_Loop_loadFact_11 : decode b_Loop_loadFact 11 = .ok (.aload_n 0, 1) := by decide +kernel
theorem d_Loop_loadFact_12 : decode b_Loop_loadFact 12 = .ok (.getfield 44, 3) := by decide +kernel
theorem d_Loop_loadFact_15 : decode b_Loop_loadFact 15 = .ok (.invokevirtual 93, 3) := by decide +kernel
theorem d_Loop_loadFact_18 : decode b_Loop_loadFact 18 = .ok (.iconst 0, 1) := by decide +kernel
theorem d_Loop_loadFact_19 : decode b_Loop_loadFact 19 = .ok (.istore 4, 2) := by decide +kernel
theorem d_Loop_loadFact_21 : decode b_Loop_loadFact 21 = .ok (.iload 4, 2) := by decide +kernel
theorem d_Loop_loadFact_23 : decode b_Loop_loadFact 23 = .ok (.sipush 4096, 3) := by decide +kernel
theorem d_Loop_loadFact_26 : decode b_Loop_loadFact 26 = .ok (.if_icmp .ge 28, 3) := by decide +kernel
theorem d_Loop_loadFact_29 : decode b_Loop_loadFact 29 = .ok (.aload_n 0, 1) := by decide +kernel
theorem d_Loop_loadFact_30 : decode b_Loop_loadFact 30 = .ok (.getfield 11, 3) := by decide +kernel
theorem d_Loop_loadFact_33 : decode b_Loop_loadFact 33 = .ok (.iload 4, 2) := by decide +kernel
theorem d_Loop_loadFact_35 : decode b_Loop_loadFact 35 = .ok (.dup2, 1) := by decide +kernel
theorem d_Loop_loadFact_36 : decode b_Loop_loadFact 36 = .ok (.iaload, 1) := by decide +kernel
theorem d_Loop_loadFact_37 : decode b_Loop_loadFact 37 = .ok (.aload_n 0, 1) := by decide +kernel
theorem d_Loop_loadFact_38 : decode b_Loop_loadFact 38 = .ok (.getfield 44, 3) := by decide +kernel
theorem d_Loop_loadFact_41 : decode b_Loop_loadFact 41 = .ok (.iload 4, 2) := by decide +kernel
theorem d_Loop_loadFact_43 : decode b_Loop_loadFact 43 = .ok (.iaload, 1) := by decide +kernel
theorem d_Loop_loadFact_44 : decode b_Loop_loadFact 44 = .ok (.iload_n 3, 1) := by decide +kernel
theorem d_Loop_loadFact_45 : decode b_Loop_loadFact 45 = .ok (.ishl, 1) := by decide +kernel
theorem d_Loop_loadFact_46 : decode b_Loop_loadFact 46 = .ok (.ior, 1) := by decide +kernel
theorem d_Loop_loadFact_47 : decode b_Loop_loadFact 47 = .ok (.iastore, 1) := by decide +kernel
theorem d_Loop_loadFact_48 : decode b_Loop_loadFact 48 = .ok (.iinc 4 1, 3) := by decide +kernel
theorem d_Loop_loadFact_51 : decode b_Loop_loadFact 51 = .ok (.goto (-30), 3) := by decide +kernel
theorem d_Loop_loadFact_54 : decode b_Loop_loadFact 54 = .ok (.return_, 1) := by decide +kernel
theorem d_Loop_loadAssignment_0 : decode b_Loop_loadAssignment 0 = .ok (.bipush 21, 2) := by decide +kernel
theorem d_Loop_loadAssignment_2 : decode b_Loop_loadAssignment 2 = .ok (.iload_n 2, 1) := by decide +kernel
theorem d_Loop_loadAssignment_3 : decode b_Loop_loadAssignment 3 = .ok (.iconst 3, 1) := by decide +kernel
theorem d_Loop_loadAssignment_4 : decode b_Loop_loadAssignment 4 = .ok (.imul, 1) := by decide +kernel
theorem d_Loop_loadAssignment_5 : decode b_Loop_loadAssignment 5 = .ok (.iadd, 1) := by decide +kernel
theorem d_Loop_loadAssignment_6 : decode b_Loop_loadAssignment 6 = .ok (.iload_n 3, 1) := by decide +kernel
theorem d_Loop_loadAssignment_7 : decode b_Loop_loadAssignment 7 = .ok (.iadd, 1) := by decide +kernel
theorem d_Loop_loadAssignment_8 : decode b_Loop_loadAssignment 8 = .ok (.istore 4, 2) := by decide +kernel
theorem d_Loop_loadAssignment_10 : decode b_Loop_loadAssignment 10 = .ok (.aload_n 1, 1) := by decide +kernel
theorem d_Loop_loadAssignment_11 : decode b_Loop_loadAssignment 11 = .ok (.iload 4, 2) := by decide +kernel
theorem d_Loop_loadAssignment_13 : decode b_Loop_loadAssignment 13 = .ok (.invokevirtual 70, 3) := by decide +kernel
theorem d_Loop_loadAssignment_16 : decode b_Loop_loadAssignment 16 = .ok (.ifCond .ne 4, 3) := by decide +kernel
theorem d_Loop_loadAssignment_19 : decode b_Loop_loadAssignment 19 = .ok (.return_, 1) := by decide +kernel
theorem d_Loop_loadAssignment_20 : decode b_Loop_loadAssignment 20 = .ok (.aload_n 1, 1) := by decide +kernel
theorem d_Loop_loadAssignment_21 : decode b_Loop_loadAssignment 21 = .ok (.iload 4, 2) := by decide +kernel
theorem d_Loop_loadAssignment_23 : decode b_Loop_loadAssignment 23 = .ok (.aload_n 0, 1) := by decide +kernel
theorem d_Loop_loadAssignment_24 : decode b_Loop_loadAssignment 24 = .ok (.getfield 44, 3) := by decide +kernel
theorem d_Loop_loadAssignment_27 : decode b_Loop_loadAssignment 27 = .ok (.invokevirtual 93, 3) := by decide +kernel
theorem d_Loop_loadAssignment_30 : decode b_Loop_loadAssignment 30 = .ok (.iload_n 2, 1) := by decide +kernel
theorem d_Loop_loadAssignment_31 : decode b_Loop_loadAssignment 31 = .ok (.sipush 4096, 3) := by decide +kernel
theorem d_Loop_loadAssignment_34 : decode b_Loop_loadAssignment 34 = .ok (.imul, 1) := by decide +kernel
theorem d_Loop_loadAssignment_35 : decode b_Loop_loadAssignment 35 = .ok (.istore 5, 2) := by decide +kernel
theorem d_Loop_loadAssignment_37 : decode b_Loop_loadAssignment 37 = .ok (.iconst 4, 1) := by decide +kernel
theorem d_Loop_loadAssignment_38 : decode b_Loop_loadAssignment 38 = .ok (.iload_n 3, 1) := by decide +kernel
theorem d_Loop_loadAssignment_39 : decode b_Loop_loadAssignment 39 = .ok (.imul, 1) := by decide +kernel
theorem d_Loop_loadAssignment_40 : decode b_Loop_loadAssignment 40 = .ok (.istore 6, 2) := by decide +kernel
theorem d_Loop_loadAssignment_42 : decode b_Loop_loadAssignment 42 = .ok (.iconst 0, 1) := by decide +kernel
theorem d_Loop_loadAssignment_43 : decode b_Loop_loadAssignment 43 = .ok (.istore 7, 2) := by decide +kernel
theorem d_Loop_loadAssignment_45 : decode b_Loop_loadAssignment 45 = .ok (.iload 7, 2) := by decide +kernel
theorem d_Loop_loadAssignment_47 : decode b_Loop_loadAssignment 47 = .ok (.sipush 4096, 3) := by decide +kernel
theorem d_Loop_loadAssignment_50 : decode b_Loop_loadAssignment 50 = .ok (.if_icmp .ge 48, 3) := by decide +kernel
theorem d_Loop_loadAssignment_53 : decode b_Loop_loadAssignment 53 = .ok (.aload_n 0, 1) := by decide +kernel
theorem d_Loop_loadAssignment_54 : decode b_Loop_loadAssignment 54 = .ok (.getfield 15, 3) := by decide +kernel
theorem d_Loop_loadAssignment_57 : decode b_Loop_loadAssignment 57 = .ok (.iload 5, 2) := by decide +kernel
theorem d_Loop_loadAssignment_59 : decode b_Loop_loadAssignment 59 = .ok (.iload 7, 2) := by decide +kernel
theorem d_Loop_loadAssignment_61 : decode b_Loop_loadAssignment 61 = .ok (.iadd, 1) := by decide +kernel
theorem d_Loop_loadAssignment_62 : decode b_Loop_loadAssignment 62 = .ok (.aload_n 0, 1) := by decide +kernel
theorem d_Loop_loadAssignment_63 : decode b_Loop_loadAssignment 63 = .ok (.getfield 15, 3) := by decide +kernel
theorem d_Loop_loadAssignment_66 : decode b_Loop_loadAssignment 66 = .ok (.iload 5, 2) := by decide +kernel
theorem d_Loop_loadAssignment_68 : decode b_Loop_loadAssignment 68 = .ok (.iload 7, 2) := by decide +kernel
theorem d_Loop_loadAssignment_70 : decode b_Loop_loadAssignment 70 = .ok (.iadd, 1) := by decide +kernel
theorem d_Loop_loadAssignment_71 : decode b_Loop_loadAssignment 71 = .ok (.iaload, 1) := by decide +kernel
theorem d_Loop_loadAssignment_72 : decode b_Loop_loadAssignment 72 = .ok (.bipush 15, 2) := by decide +kernel
theorem d_Loop_loadAssignment_74 : decode b_Loop_loadAssignment 74 = .ok (.iload 6, 2) := by decide +kernel
theorem d_Loop_loadAssignment_76 : decode b_Loop_loadAssignment 76 = .ok (.ishl, 1) := by decide +kernel
theorem d_Loop_loadAssignment_77 : decode b_Loop_loadAssignment 77 = .ok (.iconst (-1), 1) := by decide +kernel
theorem d_Loop_loadAssignment_78 : decode b_Loop_loadAssignment 78 = .ok (.ixor, 1) := by decide +kernel
theorem d_Loop_loadAssignment_79 : decode b_Loop_loadAssignment 79 = .ok (.iand, 1) := by decide +kernel
theorem d_Loop_loadAssignment_80 : decode b_Loop_loadAssignment 80 = .ok (.aload_n 0, 1) := by decide +kernel
theorem d_Loop_loadAssignment_81 : decode b_Loop_loadAssignment 81 = .ok (.getfield 44, 3) := by decide +kernel
theorem d_Loop_loadAssignment_84 : decode b_Loop_loadAssignment 84 = .ok (.iload 7, 2) := by decide +kernel
theorem d_Loop_loadAssignment_86 : decode b_Loop_loadAssignment 86 = .ok (.iaload, 1) := by decide +kernel
theorem d_Loop_loadAssignment_87 : decode b_Loop_loadAssignment 87 = .ok (.iload 6, 2) := by decide +kernel
theorem d_Loop_loadAssignment_89 : decode b_Loop_loadAssignment 89 = .ok (.ishl, 1) := by decide +kernel
theorem d_Loop_loadAssignment_90 : decode b_Loop_loadAssignment 90 = .ok (.ior, 1) := by decide +kernel
theorem d_Loop_loadAssignment_91 : decode b_Loop_loadAssignment 91 = .ok (.iastore, 1) := by decide +kernel
theorem d_Loop_loadAssignment_92 : decode b_Loop_loadAssignment 92 = .ok (.iinc 7 1, 3) := by decide +kernel
theorem d_Loop_loadAssignment_95 : decode b_Loop_loadAssignment 95 = .ok (.goto (-50), 3) := by decide +kernel
theorem d_Loop_loadAssignment_98 : decode b_Loop_loadAssignment 98 = .ok (.return_, 1) := by decide +kernel
theorem d_Loop_loadChoice_0 : decode b_Loop_loadChoice 0 = .ok (.iload_n 2, 1) := by decide +kernel
theorem d_Loop_loadChoice_1 : decode b_Loop_loadChoice 1 = .ok (.ifCond .lt 9, 3) := by decide +kernel
theorem d_Loop_loadChoice_4 : decode b_Loop_loadChoice 4 = .ok (.iload_n 2, 1) := by decide +kernel
theorem d_Loop_loadChoice_5 : decode b_Loop_loadChoice 5 = .ok (.bipush 6, 2) := by decide +kernel
theorem d_Loop_loadChoice_7 : decode b_Loop_loadChoice 7 = .ok (.if_icmp .lt 4, 3) := by decide +kernel
theorem d_Loop_loadChoice_10 : decode b_Loop_loadChoice 10 = .ok (.return_, 1) := by decide +kernel
theorem d_Loop_loadChoice_11 : decode b_Loop_loadChoice 11 = .ok (.iload_n 2, 1) := by decide +kernel
theorem d_Loop_loadChoice_12 : decode b_Loop_loadChoice 12 = .ok (.sipush 4096, 3) := by decide +kernel
theorem d_Loop_loadChoice_15 : decode b_Loop_loadChoice 15 = .ok (.imul, 1) := by decide +kernel
theorem d_Loop_loadChoice_16 : decode b_Loop_loadChoice 16 = .ok (.istore_n 3, 1) := by decide +kernel
theorem d_Loop_loadChoice_17 : decode b_Loop_loadChoice 17 = .ok (.iconst 0, 1) := by decide +kernel
theorem d_Loop_loadChoice_18 : decode b_Loop_loadChoice 18 = .ok (.istore 4, 2) := by decide +kernel
theorem d_Loop_loadChoice_20 : decode b_Loop_loadChoice 20 = .ok (.iload 4, 2) := by decide +kernel
theorem d_Loop_loadChoice_22 : decode b_Loop_loadChoice 22 = .ok (.sipush 4096, 3) := by decide +kernel
theorem d_Loop_loadChoice_25 : decode b_Loop_loadChoice 25 = .ok (.if_icmp .ge 20, 3) := by decide +kernel
theorem d_Loop_loadChoice_28 : decode b_Loop_loadChoice 28 = .ok (.aload_n 0, 1) := by decide +kernel
theorem d_Loop_loadChoice_29 : decode b_Loop_loadChoice 29 = .ok (.getfield 15, 3) := by decide +kernel
theorem d_Loop_loadChoice_32 : decode b_Loop_loadChoice 32 = .ok (.iload_n 3, 1) := by decide +kernel
theorem d_Loop_loadChoice_33 : decode b_Loop_loadChoice 33 = .ok (.iload 4, 2) := by decide +kernel
theorem d_Loop_loadChoice_35 : decode b_Loop_loadChoice 35 = .ok (.iadd, 1) := by decide +kernel
theorem d_Loop_loadChoice_36 : decode b_Loop_loadChoice 36 = .ok (.iload 4, 2) := by decide +kernel
theorem d_Loop_loadChoice_38 : decode b_Loop_loadChoice 38 = .ok (.iastore, 1) := by decide +kernel
theorem d_Loop_loadChoice_39 : decode b_Loop_loadChoice 39 = .ok (.iinc 4 1, 3) := by decide +kernel
theorem d_Loop_loadChoice_42 : decode b_Loop_loadChoice 42 = .ok (.goto (-22), 3) := by decide +kernel
theorem d_Loop_loadChoice_45 : decode b_Loop_loadChoice 45 = .ok (.iconst 0, 1) := by decide +kernel
theorem d_Loop_loadChoice_46 : decode b_Loop_loadChoice 46 = .ok (.istore 4, 2) := by decide +kernel
theorem d_Loop_loadChoice_48 : decode b_Loop_loadChoice 48 = .ok (.iload 4, 2) := by decide +kernel
theorem d_Loop_loadChoice_50 : decode b_Loop_loadChoice 50 = .ok (.iconst 3, 1) := by decide +kernel
theorem d_Loop_loadChoice_51 : decode b_Loop_loadChoice 51 = .ok (.if_icmp .ge 17, 3) := by decide +kernel
theorem d_Loop_loadChoice_54 : decode b_Loop_loadChoice 54 = .ok (.aload_n 0, 1) := by decide +kernel
theorem d_Loop_loadChoice_55 : decode b_Loop_loadChoice 55 = .ok (.aload_n 1, 1) := by decide +kernel
theorem d_Loop_loadChoice_56 : decode b_Loop_loadChoice 56 = .ok (.iload_n 2, 1) := by decide +kernel
theorem d_Loop_loadChoice_57 : decode b_Loop_loadChoice 57 = .ok (.iload 4, 2) := by decide +kernel
theorem d_Loop_loadChoice_59 : decode b_Loop_loadChoice 59 = .ok (.invokevirtual 97, 3) := by decide +kernel
theorem d_Loop_loadChoice_62 : decode b_Loop_loadChoice 62 = .ok (.iinc 4 1, 3) := by decide +kernel
theorem d_Loop_loadChoice_65 : decode b_Loop_loadChoice 65 = .ok (.goto (-17), 3) := by decide +kernel
theorem d_Loop_loadChoice_68 : decode b_Loop_loadChoice 68 = .ok (.aload_n 1, 1) := by decide +kernel
theorem d_Loop_loadChoice_69 : decode b_Loop_loadChoice 69 = .ok (.bipush 15, 2) := by decide +kernel
theorem d_Loop_loadChoice_71 : decode b_Loop_loadChoice 71 = .ok (.iload_n 2, 1) := by decide +kernel
theorem d_Loop_loadChoice_72 : decode b_Loop_loadChoice 72 = .ok (.iadd, 1) := by decide +kernel
theorem d_Loop_loadChoice_73 : decode b_Loop_loadChoice 73 = .ok (.aload_n 0, 1) := by decide +kernel
theorem d_Loop_loadChoice_74 : decode b_Loop_loadChoice 74 = .ok (.getfield 44, 3) := by decide +kernel
theorem d_Loop_loadChoice_77 : decode b_Loop_loadChoice 77 = .ok (.invokevirtual 93, 3) := by decide +kernel
theorem d_Loop_loadChoice_80 : decode b_Loop_loadChoice 80 = .ok (.iconst 0, 1) := by decide +kernel
theorem d_Loop_loadChoice_81 : decode b_Loop_loadChoice 81 = .ok (.istore 4, 2) := by decide +kernel
theorem d_Loop_loadChoice_83 : decode b_Loop_loadChoice 83 = .ok (.iload 4, 2) := by decide +kernel
theorem d_Loop_loadChoice_85 : decode b_Loop_loadChoice 85 = .ok (.sipush 4096, 3) := by decide +kernel
theorem d_Loop_loadChoice_88 : decode b_Loop_loadChoice 88 = .ok (.if_icmp .ge 29, 3) := by decide +kernel
theorem d_Loop_loadChoice_91 : decode b_Loop_loadChoice 91 = .ok (.aload_n 0, 1) := by decide +kernel
theorem d_Loop_loadChoice_92 : decode b_Loop_loadChoice 92 = .ok (.getfield 44, 3) := by decide +kernel
theorem d_Loop_loadChoice_95 : decode b_Loop_loadChoice 95 = .ok (.iload 4, 2) := by decide +kernel
theorem d_Loop_loadChoice_97 : decode b_Loop_loadChoice 97 = .ok (.iaload, 1) := by decide +kernel
theorem d_Loop_loadChoice_98 : decode b_Loop_loadChoice 98 = .ok (.ifCond .ne 13, 3) := by decide +kernel
theorem d_Loop_loadChoice_101 : decode b_Loop_loadChoice 101 = .ok (.aload_n 0, 1) := by decide +kernel
theorem d_Loop_loadChoice_102 : decode b_Loop_loadChoice 102 = .ok (.getfield 15, 3) := by decide +kernel
theorem d_Loop_loadChoice_105 : decode b_Loop_loadChoice 105 = .ok (.iload_n 3, 1) := by decide +kernel
theorem d_Loop_loadChoice_106 : decode b_Loop_loadChoice 106 = .ok (.iload 4, 2) := by decide +kernel
theorem d_Loop_loadChoice_108 : decode b_Loop_loadChoice 108 = .ok (.iadd, 1) := by decide +kernel
theorem d_Loop_loadChoice_109 : decode b_Loop_loadChoice 109 = .ok (.iconst (-1), 1) := by decide +kernel
theorem d_Loop_loadChoice_110 : decode b_Loop_loadChoice 110 = .ok (.iastore, 1) := by decide +kernel
theorem d_Loop_loadChoice_111 : decode b_Loop_loadChoice 111 = .ok (.iinc 4 1, 3) := by decide +kernel
theorem d_Loop_loadChoice_114 : decode b_Loop_loadChoice 114 = .ok (.goto (-31), 3) := by decide +kernel
theorem d_Loop_loadChoice_117 : decode b_Loop_loadChoice 117 = .ok (.return_, 1) := by decide +kernel
theorem d_Loop_markEnds_0 : decode b_Loop_markEnds 0 = .ok (.aload_n 0, 1) := by decide +kernel
theorem d_Loop_markEnds_1 : decode b_Loop_markEnds 1 = .ok (.aload_n 0, 1) := by decide +kernel
theorem d_Loop_markEnds_2 : decode b_Loop_markEnds 2 = .ok (.getfield 44, 3) := by decide +kernel
theorem d_Loop_markEnds_5 : decode b_Loop_markEnds 5 = .ok (.invokevirtual 100, 3) := by decide +kernel
theorem d_Loop_markEnds_8 : decode b_Loop_markEnds 8 = .ok (.iconst 0, 1) := by decide +kernel
theorem d_Loop_markEnds_9 : decode b_Loop_markEnds 9 = .ok (.istore_n 1, 1) := by decide +kernel
theorem d_Loop_markEnds_10 : decode b_Loop_markEnds 10 = .ok (.iload_n 1, 1) := by decide +kernel
theorem d_Loop_markEnds_11 : decode b_Loop_markEnds 11 = .ok (.sipush 4096, 3) := by decide +kernel
theorem d_Loop_markEnds_14 : decode b_Loop_markEnds 14 = .ok (.if_icmp .ge 29, 3) := by decide +kernel
theorem d_Loop_markEnds_17 : decode b_Loop_markEnds 17 = .ok (.aload_n 0, 1) := by decide +kernel
theorem d_Loop_markEnds_18 : decode b_Loop_markEnds 18 = .ok (.getfield 44, 3) := by decide +kernel
theorem d_Loop_markEnds_21 : decode b_Loop_markEnds 21 = .ok (.iload_n 1, 1) := by decide +kernel
theorem d_Loop_markEnds_22 : decode b_Loop_markEnds 22 = .ok (.iaload, 1) := by decide +kernel
theorem d_Loop_markEnds_23 : decode b_Loop_markEnds 23 = .ok (.ifCond .ne 14, 3) := by decide +kernel
theorem d_Loop_markEnds_26 : decode b_Loop_markEnds 26 = .ok (.aload_n 0, 1) := by decide +kernel
theorem d_Loop_markEnds_27 : decode b_Loop_markEnds 27 = .ok (.getfield 11, 3) := by decide +kernel
theorem d_Loop_markEnds_30 : decode b_Loop_markEnds 30 = .ok (.iload_n 1, 1) := by decide +kernel
theorem d_Loop_markEnds_31 : decode b_Loop_markEnds 31 = .ok (.dup2, 1) := by decide +kernel
theorem d_Loop_markEnds_32 : decode b_Loop_markEnds 32 = .ok (.iaload, 1) := by decide +kernel
theorem d_Loop_markEnds_33 : decode b_Loop_markEnds 33 = .ok (.bipush 8, 2) := by decide +kernel
theorem d_Loop_markEnds_35 : decode b_Loop_markEnds 35 = .ok (.ior, 1) := by decide +kernel
theorem d_Loop_markEnds_36 : decode b_Loop_markEnds 36 = .ok (.iastore, 1) := by decide +kernel
theorem d_Loop_markEnds_37 : decode b_Loop_markEnds 37 = .ok (.iinc 1 1, 3) := by decide +kernel
theorem d_Loop_markEnds_40 : decode b_Loop_markEnds 40 = .ok (.goto (-30), 3) := by decide +kernel
theorem d_Loop_markEnds_43 : decode b_Loop_markEnds 43 = .ok (.return_, 1) := by decide +kernel
theorem d_Loop_putSource_0 : decode b_Loop_putSource 0 = .ok (.iload_n 2, 1) := by decide +kernel
theorem d_Loop_putSource_1 : decode b_Loop_putSource 1 = .ok (.invokestatic 47, 3) := by decide +kernel
theorem d_Loop_putSource_4 : decode b_Loop_putSource 4 = .ok (.ifCond .ne 4, 3) := by decide +kernel
theorem d_Loop_putSource_7 : decode b_Loop_putSource 7 = .ok (.return_, 1) := by decide +kernel
theorem d_Loop_putSource_8 : decode b_Loop_putSource 8 = .ok (.aload_n 0, 1) := by decide +kernel
theorem d_Loop_putSource_9 : decode b_Loop_putSource 9 = .ok (.getfield 18, 3) := by decide +kernel
theorem d_Loop_putSource_12 : decode b_Loop_putSource 12 = .ok (.iload_n 2, 1) := by decide +kernel
theorem d_Loop_putSource_13 : decode b_Loop_putSource 13 = .ok (.iaload, 1) := by decide +kernel
theorem d_Loop_putSource_14 : decode b_Loop_putSource 14 = .ok (.iconst 1, 1) := by decide +kernel
theorem d_Loop_putSource_15 : decode b_Loop_putSource 15 = .ok (.isub, 1) := by decide +kernel
theorem d_Loop_putSource_16 : decode b_Loop_putSource 16 = .ok (.istore_n 3, 1) := by decide +kernel
theorem d_Loop_putSource_17 : decode b_Loop_putSource 17 = .ok (.iload_n 3, 1) := by decide +kernel
theorem d_Loop_putSource_18 : decode b_Loop_putSource 18 = .ok (.ifCond .lt 26, 3) := by decide +kernel
theorem d_Loop_putSource_21 : decode b_Loop_putSource 21 = .ok (.iload_n 3, 1) := by decide +kernel
theorem d_Loop_putSource_22 : decode b_Loop_putSource 22 = .ok (.aload_n 0, 1) := by decide +kernel
theorem d_Loop_putSource_23 : decode b_Loop_putSource 23 = .ok (.getfield 21, 3) := by decide +kernel
theorem d_Loop_putSource_26 : decode b_Loop_putSource 26 = .ok (.arraylength, 1) := by decide +kernel
theorem d_Loop_putSource_27 : decode b_Loop_putSource 27 = .ok (.if_icmp .ge 17, 3) := by decide +kernel
theorem d_Loop_putSource_30 : decode b_Loop_putSource 30 = .ok (.aload_n 0, 1) := by decide +kernel
theorem d_Loop_putSource_31 : decode b_Loop_putSource 31 = .ok (.getfield 18, 3) := by decide +kernel
theorem d_Loop_putSource_34 : decode b_Loop_putSource 34 = .ok (.iload_n 2, 1) := by decide +kernel
theorem d_Loop_putSource_35 : decode b_Loop_putSource 35 = .ok (.iload_n 3, 1) := by decide +kernel
theorem d_Loop_putSource_36 : decode b_Loop_putSource 36 = .ok (.iastore, 1) := by decide +kernel
theorem d_Loop_putSource_37 : decode b_Loop_putSource 37 = .ok (.aload_n 0, 1) := by decide +kernel
theorem d_Loop_putSource_38 : decode b_Loop_putSource 38 = .ok (.getfield 21, 3) := by decide +kernel
theorem d_Loop_putSource_41 : decode b_Loop_putSource 41 = .ok (.iload_n 3, 1) := by decide +kernel
theorem d_Loop_putSource_42 : decode b_Loop_putSource 42 = .ok (.iload_n 1, 1) := by decide +kernel
theorem d_Loop_putSource_43 : decode b_Loop_putSource 43 = .ok (.iastore, 1) := by decide +kernel
theorem d_Loop_putSource_44 : decode b_Loop_putSource 44 = .ok (.return_, 1) := by decide +kernel
theorem d_Loop_linkSources_0 : decode b_Loop_linkSources 0 = .ok (.aload_n 0, 1) := by decide +kernel
theorem d_Loop_linkSources_1 : decode b_Loop_linkSources 1 = .ok (.getfield 18, 3) := by decide +kernel
theorem d_Loop_linkSources_4 : decode b_Loop_linkSources 4 = .ok (.iconst 0, 1) := by decide +kernel
theorem d_Loop_linkSources_5 : decode b_Loop_linkSources 5 = .ok (.invokestatic 73, 3) := by decide +kernel
theorem d_Loop_linkSources_8 : decode b_Loop_linkSources 8 = .ok (.iconst 0, 1) := by decide +kernel
theorem d_Loop_linkSources_9 : decode b_Loop_linkSources 9 = .ok (.istore_n 1, 1) := by decide +kernel
theorem d_Loop_linkSources_10 : decode b_Loop_linkSources 10 = .ok (.iload_n 1, 1) := by decide +kernel
theorem d_Loop_linkSources_11 : decode b_Loop_linkSources 11 = .ok (.sipush 4096, 3) := by decide +kernel
theorem d_Loop_linkSources_14 : decode b_Loop_linkSources 14 = .ok (.if_icmp .ge 49, 3) := by decide +kernel
theorem d_Loop_linkSources_17 : decode b_Loop_linkSources 17 = .ok (.iconst 0, 1) := by decide +kernel
theorem d_Loop_linkSources_18 : decode b_Loop_linkSources 18 = .ok (.istore_n 2, 1) := by decide +kernel
theorem d_Loop_linkSources_19 : decode b_Loop_linkSources 19 = .ok (.iload_n 2, 1) := by decide +kernel
theorem d_Loop_linkSources_20 : decode b_Loop_linkSources 20 = .ok (.aload_n 0, 1) := by decide +kernel
theorem d_Loop_linkSources_21 : decode b_Loop_linkSources 21 = .ok (.getfield 24, 3) := by decide +kernel
theorem d_Loop_linkSources_24 : decode b_Loop_linkSources 24 = .ok (.if_icmp .ge 33, 3) := by decide +kernel
theorem d_Loop_linkSources_27 : decode b_Loop_linkSources 27 = .ok (.aload_n 0, 1) := by decide +kernel
theorem d_Loop_linkSources_28 : decode b_Loop_linkSources 28 = .ok (.iload_n 1, 1) := by decide +kernel
theorem d_Loop_linkSources_29 : decode b_Loop_linkSources 29 = .ok (.iload_n 2, 1) := by decide +kernel
theorem d_Loop_linkSources_30 : decode b_Loop_linkSources 30 = .ok (.invokevirtual 55, 3) := by decide +kernel
theorem d_Loop_linkSources_33 : decode b_Loop_linkSources 33 = .ok (.istore_n 3, 1) := by decide +kernel
theorem d_Loop_linkSources_34 : decode b_Loop_linkSources 34 = .ok (.iload_n 3, 1) := by decide +kernel
theorem d_Loop_linkSources_35 : decode b_Loop_linkSources 35 = .ok (.invokestatic 47, 3) := by decide +kernel
theorem d_Loop_linkSources_38 : decode b_Loop_linkSources 38 = .ok (.ifCond .eq 13, 3) := by decide +kernel
theorem d_Loop_linkSources_41 : decode b_Loop_linkSources 41 = .ok (.aload_n 0, 1) := by decide +kernel
theorem d_Loop_linkSources_42 : decode b_Loop_linkSources 42 = .ok (.getfield 18, 3) := by decide +kernel
theorem d_Loop_linkSources_45 : decode b_Loop_linkSources 45 = .ok (.iload_n 3, 1) := by decide +kernel
theorem d_Loop_linkSources_46 : decode b_Loop_linkSources 46 = .ok (.dup2, 1) := by decide +kernel
theorem d_Loop_linkSources_47 : decode b_Loop_linkSources 47 = .ok (.iaload, 1) := by decide +kernel
theorem d_Loop_linkSources_48 : decode b_Loop_linkSources 48 = .ok (.iconst 1, 1) := by decide +kernel
theorem d_Loop_linkSources_49 : decode b_Loop_linkSources 49 = .ok (.iadd, 1) := by decide +kernel
theorem d_Loop_linkSources_50 : decode b_Loop_linkSources 50 = .ok (.iastore, 1) := by decide +kernel
theorem d_Loop_linkSources_51 : decode b_Loop_linkSources 51 = .ok (.iinc 2 1, 3) := by decide +kernel
theorem d_Loop_linkSources_54 : decode b_Loop_linkSources 54 = .ok (.goto (-35), 3) := by decide +kernel
theorem d_Loop_linkSources_57 : decode b_Loop_linkSources 57 = .ok (.iinc 1 1, 3) := by decide +kernel
theorem d_Loop_linkSources_60 : decode b_Loop_linkSources 60 = .ok (.goto (-50), 3) := by decide +kernel
theorem d_Loop_linkSources_63 : decode b_Loop_linkSources 63 = .ok (.iconst 0, 1) := by decide +kernel
theorem d_Loop_linkSources_64 : decode b_Loop_linkSources 64 = .ok (.istore_n 1, 1) := by decide +kernel
theorem d_Loop_linkSources_65 : decode b_Loop_linkSources 65 = .ok (.iload_n 1, 1) := by decide +kernel
theorem d_Loop_linkSources_66 : decode b_Loop_linkSources 66 = .ok (.sipush 4096, 3) := by decide +kernel
theorem d_Loop_linkSources_69 : decode b_Loop_linkSources 69 = .ok (.if_icmp .ge 26, 3) := by decide +kernel
theorem d_Loop_linkSources_72 : decode b_Loop_linkSources 72 = .ok (.aload_n 0, 1) := by decide +kernel
theorem d_Loop_linkSources_73 : decode b_Loop_linkSources 73 = .ok (.getfield 18, 3) := by decide +kernel
theorem d_Loop_linkSources_76 : decode b_Loop_linkSources 76 = .ok (.iload_n 1, 1) := by decide +kernel
theorem d_Loop_linkSources_77 : decode b_Loop_linkSources 77 = .ok (.iconst 1, 1) := by decide +kernel
theorem d_Loop_linkSources_78 : decode b_Loop_linkSources 78 = .ok (.iadd, 1) := by decide +kernel
theorem d_Loop_linkSources_79 : decode b_Loop_linkSources 79 = .ok (.dup2, 1) := by decide +kernel
theorem d_Loop_linkSources_80 : decode b_Loop_linkSources 80 = .ok (.iaload, 1) := by decide +kernel
theorem d_Loop_linkSources_81 : decode b_Loop_linkSources 81 = .ok (.aload_n 0, 1) := by decide +kernel
theorem d_Loop_linkSources_82 : decode b_Loop_linkSources 82 = .ok (.getfield 18, 3) := by decide +kernel
theorem d_Loop_linkSources_85 : decode b_Loop_linkSources 85 = .ok (.iload_n 1, 1) := by decide +kernel
theorem d_Loop_linkSources_86 : decode b_Loop_linkSources 86 = .ok (.iaload, 1) := by decide +kernel
theorem d_Loop_linkSources_87 : decode b_Loop_linkSources 87 = .ok (.iadd, 1) := by decide +kernel
theorem d_Loop_linkSources_88 : decode b_Loop_linkSources 88 = .ok (.iastore, 1) := by decide +kernel
theorem d_Loop_linkSources_89 : decode b_Loop_linkSources 89 = .ok (.iinc 1 1, 3) := by decide +kernel
theorem d_Loop_linkSources_92 : decode b_Loop_linkSources 92 = .ok (.goto (-27), 3) := by decide +kernel
theorem d_Loop_linkSources_95 : decode b_Loop_linkSources 95 = .ok (.sipush 4095, 3) := by decide +kernel
theorem d_Loop_linkSources_98 : decode b_Loop_linkSources 98 = .ok (.istore_n 1, 1) := by decide +kernel
theorem d_Loop_linkSources_99 : decode b_Loop_linkSources 99 = .ok (.iload_n 1, 1) := by decide +kernel
theorem d_Loop_linkSources_100 : decode b_Loop_linkSources 100 = .ok (.ifCond .lt 36, 3) := by decide +kernel
theorem d_Loop_linkSources_103 : decode b_Loop_linkSources 103 = .ok (.iconst 0, 1) := by decide +kernel
theorem d_Loop_linkSources_104 : decode b_Loop_linkSources 104 = .ok (.istore_n 2, 1) := by decide +kernel
theorem d_Loop_linkSources_105 : decode b_Loop_linkSources 105 = .ok (.iload_n 2, 1) := by decide +kernel
theorem d_Loop_linkSources_106 : decode b_Loop_linkSources 106 = .ok (.aload_n 0, 1) := by decide +kernel
theorem d_Loop_linkSources_107 : decode b_Loop_linkSources 107 = .ok (.getfield 24, 3) := by decide +kernel
theorem d_Loop_linkSources_110 : decode b_Loop_linkSources 110 = .ok (.if_icmp .ge 20, 3) := by decide +kernel
theorem d_Loop_linkSources_113 : decode b_Loop_linkSources 113 = .ok (.aload_n 0, 1) := by decide +kernel
theorem d_Loop_linkSources_114 : decode b_Loop_linkSources 114 = .ok (.iload_n 1, 1) := by decide +kernel
theorem d_Loop_linkSources_115 : decode b_Loop_linkSources 115 = .ok (.aload_n 0, 1) := by decide +kernel
theorem d_Loop_linkSources_116 : decode b_Loop_linkSources 116 = .ok (.iload_n 1, 1) := by decide +kernel
theorem d_Loop_linkSources_117 : decode b_Loop_linkSources 117 = .ok (.iload_n 2, 1) := by decide +kernel
theorem d_Loop_linkSources_118 : decode b_Loop_linkSources 118 = .ok (.invokevirtual 55, 3) := by decide +kernel
theorem d_Loop_linkSources_121 : decode b_Loop_linkSources 121 = .ok (.invokevirtual 104, 3) := by decide +kernel
theorem d_Loop_linkSources_124 : decode b_Loop_linkSources 124 = .ok (.iinc 2 1, 3) := by decide +kernel
theorem d_Loop_linkSources_127 : decode b_Loop_linkSources 127 = .ok (.goto (-22), 3) := by decide +kernel
theorem d_Loop_linkSources_130 : decode b_Loop_linkSources 130 = .ok (.iinc 1 (-1), 3) := by decide +kernel
theorem d_Loop_linkSources_133 : decode b_Loop_linkSources 133 = .ok (.goto (-34), 3) := by decide +kernel
theorem d_Loop_linkSources_136 : decode b_Loop_linkSources 136 = .ok (.return_, 1) := by decide +kernel
theorem d_Loop_load_0 : decode b_Loop_load 0 = .ok (.aload_n 0, 1) := by decide +kernel
theorem d_Loop_load_1 : decode b_Loop_load 1 = .ok (.aload_n 1, 1) := by decide +kernel
theorem d_Loop_load_2 : decode b_Loop_load 2 = .ok (.invokevirtual 59, 3) := by decide +kernel
theorem d_Loop_load_5 : decode b_Loop_load 5 = .ok (.putfield 24, 3) := by decide +kernel
theorem d_Loop_load_8 : decode b_Loop_load 8 = .ok (.aload_n 0, 1) := by decide +kernel
theorem d_Loop_load_9 : decode b_Loop_load 9 = .ok (.aload_n 1, 1) := by decide +kernel
theorem d_Loop_load_10 : decode b_Loop_load 10 = .ok (.invokevirtual 64, 3) := by decide +kernel
theorem d_Loop_load_13 : decode b_Loop_load 13 = .ok (.putfield 28, 3) := by decide +kernel
theorem d_Loop_load_16 : decode b_Loop_load 16 = .ok (.aload_n 0, 1) := by decide +kernel
theorem d_Loop_load_17 : decode b_Loop_load 17 = .ok (.aload_n 1, 1) := by decide +kernel
theorem d_Loop_load_18 : decode b_Loop_load 18 = .ok (.invokevirtual 66, 3) := by decide +kernel
theorem d_Loop_load_21 : decode b_Loop_load 21 = .ok (.putfield 31, 3) := by decide +kernel
theorem d_Loop_load_24 : decode b_Loop_load 24 = .ok (.aload_n 0, 1) := by decide +kernel
theorem d_Loop_load_25 : decode b_Loop_load 25 = .ok (.aload_n 2, 1) := by decide +kernel
theorem d_Loop_load_26 : decode b_Loop_load 26 = .ok (.iconst 2, 1) := by decide +kernel
theorem d_Loop_load_27 : decode b_Loop_load 27 = .ok (.invokevirtual 70, 3) := by decide +kernel
theorem d_Loop_load_30 : decode b_Loop_load 30 = .ok (.putfield 34, 3) := by decide +kernel
theorem d_Loop_load_33 : decode b_Loop_load 33 = .ok (.aload_n 0, 1) := by decide +kernel
theorem d_Loop_load_34 : decode b_Loop_load 34 = .ok (.getfield 11, 3) := by decide +kernel
theorem d_Loop_load_37 : decode b_Loop_load 37 = .ok (.iconst 0, 1) := by decide +kernel
theorem d_Loop_load_38 : decode b_Loop_load 38 = .ok (.invokestatic 73, 3) := by decide +kernel
theorem d_Loop_load_41 : decode b_Loop_load 41 = .ok (.aload_n 0, 1) := by decide +kernel
theorem d_Loop_load_42 : decode b_Loop_load 42 = .ok (.aload_n 2, 1) := by decide +kernel
theorem d_Loop_load_43 : decode b_Loop_load 43 = .ok (.iconst 0, 1) := by decide +kernel
theorem d_Loop_load_44 : decode b_Loop_load 44 = .ok (.iconst 0, 1) := by decide +kernel
theorem d_Loop_load_45 : decode b_Loop_load 45 = .ok (.invokevirtual 79, 3) := by decide +kernel
theorem d_Loop_load_48 : decode b_Loop_load 48 = .ok (.aload_n 0, 1) := by decide +kernel
theorem d_Loop_load_49 : decode b_Loop_load 49 = .ok (.aload_n 2, 1) := by decide +kernel
theorem d_Loop_load_50 : decode b_Loop_load 50 = .ok (.iconst 1, 1) := by decide +kernel
theorem d_Loop_load_51 : decode b_Loop_load 51 = .ok (.iconst 1, 1) := by decide +kernel
theorem d_Loop_load_52 : decode b_Loop_load 52 = .ok (.invokevirtual 79, 3) := by decide +kernel
theorem d_Loop_load_55 : decode b_Loop_load 55 = .ok (.iconst 0, 1) := by decide +kernel
theorem d_Loop_load_56 : decode b_Loop_load 56 = .ok (.istore_n 3, 1) := by decide +kernel
theorem d_Loop_load_57 : decode b_Loop_load 57 = .ok (.iload_n 3, 1) := by decide +kernel
theorem d_Loop_load_58 : decode b_Loop_load 58 = .ok (.aload_n 0, 1) := by decide +kernel
theorem d_Loop_load_59 : decode b_Loop_load 59 = .ok (.getfield 28, 3) := by decide +kernel
theorem d_Loop_load_62 : decode b_Loop_load 62 = .ok (.if_icmp .ge 20, 3) := by decide +kernel
theorem d_Loop_load_65 : decode b_Loop_load 65 = .ok (.aload_n 0, 1) := by decide +kernel
theorem d_Loop_load_66 : decode b_Loop_load 66 = .ok (.aload_n 2, 1) := by decide +kernel
theorem d_Loop_load_67 : decode b_Loop_load 67 = .ok (.iconst 3, 1) := by decide +kernel
theorem d_Loop_load_68 : decode b_Loop_load 68 = .ok (.iload_n 3, 1) := by decide +kernel
theorem d_Loop_load_69 : decode b_Loop_load 69 = .ok (.iadd, 1) := by decide +kernel
theorem d_Loop_load_70 : decode b_Loop_load 70 = .ok (.iconst 4, 1) := by decide +kernel
theorem d_Loop_load_71 : decode b_Loop_load 71 = .ok (.iload_n 3, 1) := by decide +kernel
theorem d_Loop_load_72 : decode b_Loop_load 72 = .ok (.iadd, 1) := by decide +kernel
theorem d_Loop_load_73 : decode b_Loop_load 73 = .ok (.invokevirtual 79, 3) := by decide +kernel
theorem d_Loop_load_76 : decode b_Loop_load 76 = .ok (.iinc 3 1, 3) := by decide +kernel
theorem d_Loop_load_79 : decode b_Loop_load 79 = .ok (.goto (-22), 3) := by decide +kernel
theorem d_Loop_load_82 : decode b_Loop_load 82 = .ok (.aload_n 0, 1) := by decide +kernel
theorem d_Loop_load_83 : decode b_Loop_load 83 = .ok (.aload_n 2, 1) := by decide +kernel
theorem d_Loop_load_84 : decode b_Loop_load 84 = .ok (.iconst 2, 1) := by decide +kernel
theorem d_Loop_load_85 : decode b_Loop_load 85 = .ok (.bipush 16, 2) := by decide +kernel
theorem d_Loop_load_87 : decode b_Loop_load 87 = .ok (.invokevirtual 79, 3) := by decide +kernel
theorem d_Loop_load_90 : decode b_Loop_load 90 = .ok (.iconst 0, 1) := by decide +kernel
theorem d_Loop_load_91 : decode b_Loop_load 91 = .ok (.istore_n 3, 1) := by decide +kernel
theorem d_Loop_load_92 : decode b_Loop_load 92 = .ok (.iload_n 3, 1) := by decide +kernel
theorem d_Loop_load_93 : decode b_Loop_load 93 = .ok (.aload_n 0, 1) := by decide +kernel
theorem d_Loop_load_94 : decode b_Loop_load 94 = .ok (.getfield 24, 3) := by decide +kernel
theorem d_Loop_load_97 : decode b_Loop_load 97 = .ok (.if_icmp .ge 15, 3) := by decide +kernel
theorem d_Loop_load_100 : decode b_Loop_load 100 = .ok (.aload_n 0, 1) := by decide +kernel
theorem d_Loop_load_101 : decode b_Loop_load 101 = .ok (.aload_n 2, 1) := by decide +kernel
theorem d_Loop_load_102 : decode b_Loop_load 102 = .ok (.iload_n 3, 1) := by decide +kernel
theorem d_Loop_load_103 : decode b_Loop_load 103 = .ok (.invokevirtual 83, 3) := by decide +kernel
theorem d_Loop_load_106 : decode b_Loop_load 106 = .ok (.iinc 3 1, 3) := by decide +kernel
theorem d_Loop_load_109 : decode b_Loop_load 109 = .ok (.goto (-17), 3) := by decide +kernel
theorem d_Loop_load_112 : decode b_Loop_load 112 = .ok (.aload_n 0, 1) := by decide +kernel
theorem d_Loop_load_113 : decode b_Loop_load 113 = .ok (.invokevirtual 87, 3) := by decide +kernel
theorem d_Loop_load_116 : decode b_Loop_load 116 = .ok (.aload_n 0, 1) := by decide +kernel
theorem d_Loop_load_117 : decode b_Loop_load 117 = .ok (.invokevirtual 90, 3) := by decide +kernel
theorem d_Loop_load_120 : decode b_Loop_load 120 = .ok (.return_, 1) := by decide +kernel
set_option maxHeartbeats 4000000 in
set_option maxRecDepth 100000 in
theorem c_Loop_choices (l : Launch) (dC : Nat → ClassId) (dI : Nat → Nat → Nat) (cI cB cZ : ClassId) (adK adV : Nat → Nat) (sz : Nat) (a_lp a_lp_facts a_lp_turns a_lp_first a_lp_src a_s1 : Nat) (lp_choices : Int32) (lp_guesses : Int32) (lp_unaries : Int32) (lp_ranked : Int32) (post : Int32 → Prop) (h : wp_Loop_choices lp_choices post) : Met l y_Loop_choices w_Loop_choices ({ frames := 0, cells := 0, slots := 0, locals := 0 }) (pc_ (dC, dI) [(cI, .int), (cB, .byte), (cZ, .boolean)] [(a_lp, .inr (4, [.ref a_lp_facts, .ref a_lp_turns, .ref a_lp_first, .ref a_lp_src, .ref a_s1, .int lp_choices, .int lp_guesses, .int lp_unaries, .int lp_ranked]))] sz adK adV [.ref a_lp]) (va_Qi (fun (r : Int32) (u : Unit) => post r ) (fun (u : Unit) t => bw_ (dC, dI) [(cI, .int), (cB, .byte), (cZ, .boolean)] (va_A [(a_lp, .inr (4, [.ref a_lp_facts, .ref a_lp_turns, .ref a_lp_first, .ref a_lp_src, .ref a_s1, .int lp_choices, .int lp_guesses, .int lp_unaries, .int lp_ranked]))] sz) [(a_lp, .inr (4, [.ref a_lp_facts, .ref a_lp_turns, .ref a_lp_first, .ref a_lp_src, .ref a_s1, .int lp_choices, .int lp_guesses, .int lp_unaries, .int lp_ranked]))] t) (va_A [(a_lp, .inr (4, [.ref a_lp_facts, .ref a_lp_turns, .ref a_lp_first, .ref a_lp_src, .ref a_s1, .int lp_choices, .int lp_guesses, .int lp_unaries, .int lp_ranked]))] sz)) 0 0 (va_A [(a_lp, .inr (4, [.ref a_lp_facts, .ref a_lp_turns, .ref a_lp_first, .ref a_lp_src, .ref a_s1, .int lp_choices, .int lp_guesses, .int lp_unaries, .int lp_ranked]))] sz) := by
  refine Met.ofW (cc := b_Loop_choices) (maxL := 1) (ret := (some .int)) (by decide) rfl ?_
  intro p e s m args below meth c s₁ B hml hv
  obtain ⟨rfl, hsz, hP, hK, hD0, hN, hT⟩ := hv
  have hx := B.exec
  have hb := B.bytes
  have hr := B.returns
  have hts := atoms_spec (ws := w_Loop_choices) B.pre
  have hown : s.vm.findClass "LoopInduction$Loop" = some m.cls := findClass_of_methodNamed B.named
  have hlocks := B.notSynchronized
  subst hsz
  have hD := hD0.self (sz := s.heap.size)
  generalize hAe : va_A [(a_lp, .inr (4, [.ref a_lp_facts, .ref a_lp_turns, .ref a_lp_first, .ref a_lp_src, .ref a_s1, .int lp_choices, .int lp_guesses, .int lp_unaries, .int lp_ranked]))] s.heap.size = A at hD hT ⊢
  have hA : ∀ q : Nat, s.heap.size ≤ q → A q := fun q h => by rw [← hAe]; exact Or.inr h
  have hS : va_S A s.heap s.heap [] := va_S.rf
  generalize hQ : MQ below _ _ s 0 0 _ = QQ
  have hl := lv_entry ([.ref a_lp]) (n := 1) (Nat.le_of_ble_eq_true rfl)
  rw [lg_entry_eq]
  generalize (lg_sl ([.ref a_lp]) ++ List.replicate (1 - (lg_sl ([.ref a_lp])).length) Slot.unset).toArray = ls at hl ⊢
  have hl : lv_has ls 1 [(0, .ref a_lp)] := hl
  have fl_24 := (hts _ (List.mem_cons_of_mem _ m_259))
  refine lv_aload_n hx hb d_Loop_choices_0 rfl (lv_at hl 0 rfl) ?_
  refine va_get (D := (dC, dI)) (ci := 4) (v := .int lp_choices) (C := "LoopInduction$Loop") (T := F_Loop) (N := 9) hx hb hts iC_Loop hown hK hP 0 rfl rfl 5 (by decide) fl_24 (fun _ h9 => h9) rfl d_Loop_choices_1 ?_
  rw [← hQ]
  have hP9 := hP
  have hD9 := hD
  exact W.iret (v := lp_choices) hx hb hr (fun t ht hW => ⟨⟨lp_choices, (), rfl, h, by rw [ht]; exact hP9, va_K.moved hW.alike hK, hD9⟩, hS.F ht⟩) hS.2.2 d_Loop_choices_4
set_option maxHeartbeats 4000000 in
set_option maxRecDepth 100000 in
theorem c_Loop_guesses (l : Launch) (dC : Nat → ClassId) (dI : Nat → Nat → Nat) (cI cB cZ : ClassId) (adK adV : Nat → Nat) (sz : Nat) (a_lp a_lp_facts a_lp_turns a_lp_first a_lp_src a_s1 : Nat) (lp_choices : Int32) (lp_guesses : Int32) (lp_unaries : Int32) (lp_ranked : Int32) (post : Int32 → Prop) (h : wp_Loop_guesses lp_guesses post) : Met l y_Loop_guesses w_Loop_guesses ({ frames := 0, cells := 0, slots := 0, locals := 0 }) (pc_ (dC, dI) [(cI, .int), (cB, .byte), (cZ, .boolean)] [(a_lp, .inr (4, [.ref a_lp_facts, .ref a_lp_turns, .ref a_lp_first, .ref a_lp_src, .ref a_s1, .int lp_choices, .int lp_guesses, .int lp_unaries, .int lp_ranked]))] sz adK adV [.ref a_lp]) (va_Qi (fun (r : Int32) (u : Unit) => post r ) (fun (u : Unit) t => bw_ (dC, dI) [(cI, .int), (cB, .byte), (cZ, .boolean)] (va_A [(a_lp, .inr (4, [.ref a_lp_facts, .ref a_lp_turns, .ref a_lp_first, .ref a_lp_src, .ref a_s1, .int lp_choices, .int lp_guesses, .int lp_unaries, .int lp_ranked]))] sz) [(a_lp, .inr (4, [.ref a_lp_facts, .ref a_lp_turns, .ref a_lp_first, .ref a_lp_src, .ref a_s1, .int lp_choices, .int lp_guesses, .int lp_unaries, .int lp_ranked]))] t) (va_A [(a_lp, .inr (4, [.ref a_lp_facts, .ref a_lp_turns, .ref a_lp_first, .ref a_lp_src, .ref a_s1, .int lp_choices, .int lp_guesses, .int lp_unaries, .int lp_ranked]))] sz)) 0 0 (va_A [(a_lp, .inr (4, [.ref a_lp_facts, .ref a_lp_turns, .ref a_lp_first, .ref a_lp_src, .ref a_s1, .int lp_choices, .int lp_guesses, .int lp_unaries, .int lp_ranked]))] sz) := by
  refine Met.ofW (cc := b_Loop_guesses) (maxL := 1) (ret := (some .int)) (by decide) rfl ?_
  intro p e s m args below meth c s₁ B hml hv
  obtain ⟨rfl, hsz, hP, hK, hD0, hN, hT⟩ := hv
  have hx := B.exec
  have hb := B.bytes
  have hr := B.returns
  have hts := atoms_spec (ws := w_Loop_guesses) B.pre
  have hown : s.vm.findClass "LoopInduction$Loop" = some m.cls := findClass_of_methodNamed B.named
  have hlocks := B.notSynchronized
  subst hsz
  have hD := hD0.self (sz := s.heap.size)
  generalize hAe : va_A [(a_lp, .inr (4, [.ref a_lp_facts, .ref a_lp_turns, .ref a_lp_first, .ref a_lp_src, .ref a_s1, .int lp_choices, .int lp_guesses, .int lp_unaries, .int lp_ranked]))] s.heap.size = A at hD hT ⊢
  have hA : ∀ q : Nat, s.heap.size ≤ q → A q := fun q h => by rw [← hAe]; exact Or.inr h
  have hS : va_S A s.heap s.heap [] := va_S.rf
  generalize hQ : MQ below _ _ s 0 0 _ = QQ
  have hl := lv_entry ([.ref a_lp]) (n := 1) (Nat.le_of_ble_eq_true rfl)
  rw [lg_entry_eq]
  generalize (lg_sl ([.ref a_lp]) ++ List.replicate (1 - (lg_sl ([.ref a_lp])).length) Slot.unset).toArray = ls at hl ⊢
  have hl : lv_has ls 1 [(0, .ref a_lp)] := hl
  have fl_28 := (hts _ (List.mem_cons_of_mem _ m_260))
  refine lv_aload_n hx hb d_Loop_guesses_0 rfl (lv_at hl 0 rfl) ?_
  refine va_get (D := (dC, dI)) (ci := 4) (v := .int lp_guesses) (C := "LoopInduction$Loop") (T := F_Loop) (N := 9) hx hb hts iC_Loop hown hK hP 0 rfl rfl 6 (by decide) fl_28 (fun _ h9 => h9) rfl d_Loop_guesses_1 ?_
  rw [← hQ]
  have hP9 := hP
  have hD9 := hD
  exact W.iret (v := lp_guesses) hx hb hr (fun t ht hW => ⟨⟨lp_guesses, (), rfl, h, by rw [ht]; exact hP9, va_K.moved hW.alike hK, hD9⟩, hS.F ht⟩) hS.2.2 d_Loop_guesses_4
set_option maxHeartbeats 4000000 in
set_option maxRecDepth 100000 in
theorem c_Loop_unaries (l : Launch) (dC : Nat → ClassId) (dI : Nat → Nat → Nat) (cI cB cZ : ClassId) (adK adV : Nat → Nat) (sz : Nat) (a_lp a_lp_facts a_lp_turns a_lp_first a_lp_src a_s1 : Nat) (lp_choices : Int32) (lp_guesses : Int32) (lp_unaries : Int32) (lp_ranked : Int32) (post : Int32 → Prop) (h : wp_Loop_unaries lp_unaries post) : Met l y_Loop_unaries w_Loop_unaries ({ frames := 0, cells := 0, slots := 0, locals := 0 }) (pc_ (dC, dI) [(cI, .int), (cB, .byte), (cZ, .boolean)] [(a_lp, .inr (4, [.ref a_lp_facts, .ref a_lp_turns, .ref a_lp_first, .ref a_lp_src, .ref a_s1, .int lp_choices, .int lp_guesses, .int lp_unaries, .int lp_ranked]))] sz adK adV [.ref a_lp]) (va_Qi (fun (r : Int32) (u : Unit) => post r ) (fun (u : Unit) t => bw_ (dC, dI) [(cI, .int), (cB, .byte), (cZ, .boolean)] (va_A [(a_lp, .inr (4, [.ref a_lp_facts, .ref a_lp_turns, .ref a_lp_first, .ref a_lp_src, .ref a_s1, .int lp_choices, .int lp_guesses, .int lp_unaries, .int lp_ranked]))] sz) [(a_lp, .inr (4, [.ref a_lp_facts, .ref a_lp_turns, .ref a_lp_first, .ref a_lp_src, .ref a_s1, .int lp_choices, .int lp_guesses, .int lp_unaries, .int lp_ranked]))] t) (va_A [(a_lp, .inr (4, [.ref a_lp_facts, .ref a_lp_turns, .ref a_lp_first, .ref a_lp_src, .ref a_s1, .int lp_choices, .int lp_guesses, .int lp_unaries, .int lp_ranked]))] sz)) 0 0 (va_A [(a_lp, .inr (4, [.ref a_lp_facts, .ref a_lp_turns, .ref a_lp_first, .ref a_lp_src, .ref a_s1, .int lp_choices, .int lp_guesses, .int lp_unaries, .int lp_ranked]))] sz) := by
  refine Met.ofW (cc := b_Loop_unaries) (maxL := 1) (ret := (some .int)) (by decide) rfl ?_
  intro p e s m args below meth c s₁ B hml hv
  obtain ⟨rfl, hsz, hP, hK, hD0, hN, hT⟩ := hv
  have hx := B.exec
  have hb := B.bytes
  have hr := B.returns
  have hts := atoms_spec (ws := w_Loop_unaries) B.pre
  have hown : s.vm.findClass "LoopInduction$Loop" = some m.cls := findClass_of_methodNamed B.named
  have hlocks := B.notSynchronized
  subst hsz
  have hD := hD0.self (sz := s.heap.size)
  generalize hAe : va_A [(a_lp, .inr (4, [.ref a_lp_facts, .ref a_lp_turns, .ref a_lp_first, .ref a_lp_src, .ref a_s1, .int lp_choices, .int lp_guesses, .int lp_unaries, .int lp_ranked]))] s.heap.size = A at hD hT ⊢
  have hA : ∀ q : Nat, s.heap.size ≤ q → A q := fun q h => by rw [← hAe]; exact Or.inr h
  have hS : va_S A s.heap s.heap [] := va_S.rf
  generalize hQ : MQ below _ _ s 0 0 _ = QQ
  have hl := lv_entry ([.ref a_lp]) (n := 1) (Nat.le_of_ble_eq_true rfl)
  rw [lg_entry_eq]
  generalize (lg_sl ([.ref a_lp]) ++ List.replicate (1 - (lg_sl ([.ref a_lp])).length) Slot.unset).toArray = ls at hl ⊢
  have hl : lv_has ls 1 [(0, .ref a_lp)] := hl
  have fl_31 := (hts _ (List.mem_cons_of_mem _ m_261))
  refine lv_aload_n hx hb d_Loop_unaries_0 rfl (lv_at hl 0 rfl) ?_
  refine va_get (D := (dC, dI)) (ci := 4) (v := .int lp_unaries) (C := "LoopInduction$Loop") (T := F_Loop) (N := 9) hx hb hts iC_Loop hown hK hP 0 rfl rfl 7 (by decide) fl_31 (fun _ h9 => h9) rfl d_Loop_unaries_1 ?_
  rw [← hQ]
  have hP9 := hP
  have hD9 := hD
  exact W.iret (v := lp_unaries) hx hb hr (fun t ht hW => ⟨⟨lp_unaries, (), rfl, h, by rw [ht]; exact hP9, va_K.moved hW.alike hK, hD9⟩, hS.F ht⟩) hS.2.2 d_Loop_unaries_4
set_option maxHeartbeats 4000000 in
set_option maxRecDepth 100000 in
theorem c_Loop_isRanked (l : Launch) (dC : Nat → ClassId) (dI : Nat → Nat → Nat) (cI cB cZ : ClassId) (adK adV : Nat → Nat) (sz : Nat) (a_lp a_lp_facts a_lp_turns a_lp_first a_lp_src a_s1 : Nat) (lp_choices : Int32) (lp_guesses : Int32) (lp_unaries : Int32) (lp_ranked : Int32) (post : Int32 → Prop) (h : wp_Loop_isRanked lp_ranked post) : Met l y_Loop_isRanked w_Loop_isRanked ({ frames := 0, cells := 0, slots := 0, locals := 0 }) (pc_ (dC, dI) [(cI, .int), (cB, .byte), (cZ, .boolean)] [(a_lp, .inr (4, [.ref a_lp_facts, .ref a_lp_turns, .ref a_lp_first, .ref a_lp_src, .ref a_s1, .int lp_choices, .int lp_guesses, .int lp_unaries, .int lp_ranked]))] sz adK adV [.ref a_lp]) (va_Qi (fun (r : Int32) (u : Unit) => post r ) (fun (u : Unit) t => bw_ (dC, dI) [(cI, .int), (cB, .byte), (cZ, .boolean)] (va_A [(a_lp, .inr (4, [.ref a_lp_facts, .ref a_lp_turns, .ref a_lp_first, .ref a_lp_src, .ref a_s1, .int lp_choices, .int lp_guesses, .int lp_unaries, .int lp_ranked]))] sz) [(a_lp, .inr (4, [.ref a_lp_facts, .ref a_lp_turns, .ref a_lp_first, .ref a_lp_src, .ref a_s1, .int lp_choices, .int lp_guesses, .int lp_unaries, .int lp_ranked]))] t) (va_A [(a_lp, .inr (4, [.ref a_lp_facts, .ref a_lp_turns, .ref a_lp_first, .ref a_lp_src, .ref a_s1, .int lp_choices, .int lp_guesses, .int lp_unaries, .int lp_ranked]))] sz)) 0 0 (va_A [(a_lp, .inr (4, [.ref a_lp_facts, .ref a_lp_turns, .ref a_lp_first, .ref a_lp_src, .ref a_s1, .int lp_choices, .int lp_guesses, .int lp_unaries, .int lp_ranked]))] sz) := by
  refine Met.ofW (cc := b_Loop_isRanked) (maxL := 1) (ret := (some .boolean)) (by decide) rfl ?_
  intro p e s m args below meth c s₁ B hml hv
  obtain ⟨rfl, hsz, hP, hK, hD0, hN, hT⟩ := hv
  have hx := B.exec
  have hb := B.bytes
  have hr := B.returns
  have hts := atoms_spec (ws := w_Loop_isRanked) B.pre
  have hown : s.vm.findClass "LoopInduction$Loop" = some m.cls := findClass_of_methodNamed B.named
  have hlocks := B.notSynchronized
  subst hsz
  have hD := hD0.self (sz := s.heap.size)
  generalize hAe : va_A [(a_lp, .inr (4, [.ref a_lp_facts, .ref a_lp_turns, .ref a_lp_first, .ref a_lp_src, .ref a_s1, .int lp_choices, .int lp_guesses, .int lp_unaries, .int lp_ranked]))] s.heap.size = A at hD hT ⊢
  have hA : ∀ q : Nat, s.heap.size ≤ q → A q := fun q h => by rw [← hAe]; exact Or.inr h
  have hS : va_S A s.heap s.heap [] := va_S.rf
  generalize hQ : MQ below _ _ s 0 0 _ = QQ
  have hl := lv_entry ([.ref a_lp]) (n := 1) (Nat.le_of_ble_eq_true rfl)
  rw [lg_entry_eq]
  generalize (lg_sl ([.ref a_lp]) ++ List.replicate (1 - (lg_sl ([.ref a_lp])).length) Slot.unset).toArray = ls at hl ⊢
  have hl : lv_has ls 1 [(0, .ref a_lp)] := hl
  have fl_34 := (hts _ (List.mem_cons_of_mem _ m_262))
  refine lv_aload_n hx hb d_Loop_isRanked_0 rfl (lv_at hl 0 rfl) ?_
  refine va_get (D := (dC, dI)) (ci := 4) (v := .int lp_ranked) (C := "LoopInduction$Loop") (T := F_Loop) (N := 9) hx hb hts iC_Loop hown hK hP 0 rfl rfl 8 (by decide) fl_34 (fun _ h9 => h9) rfl d_Loop_isRanked_1 ?_
  rw [← hQ]
  have hP9 := hP
  have hD9 := hD
  obtain ⟨hz9, h⟩ := h
  exact W.zret (v := lp_ranked) hx hb hr (vp_zn hz9) (fun t ht hW => ⟨⟨lp_ranked, (), rfl, h, by rw [ht]; exact hP9, va_K.moved hW.alike hK, hD9⟩, hS.F ht⟩) hS.2.2 d_Loop_isRanked_4
set_option maxHeartbeats 4000000 in
set_option maxRecDepth 100000 in
theorem c_Loop_hasAll (l : Launch) (dC : Nat → ClassId) (dI : Nat → Nat → Nat) (cI cB cZ : ClassId) (adK adV : Nat → Nat) (sz : Nat) (a_lp a_lp_facts a_lp_turns a_lp_first a_lp_src a_s1 : Nat) (lp_choices : Int32) (lp_guesses : Int32) (lp_unaries : Int32) (lp_ranked : Int32) (lp_facts : Nat → Int32) (x1 : Int32) (x2 : Int32) (post : Int32 → Prop) (h : wp_Loop_hasAll x1 x2 lp_facts post) : Met l y_Loop_hasAll w_Loop_hasAll ({ frames := 1, cells := 0, slots := 0, locals := 20 }) (pc_ (dC, dI) [(cI, .int), (cB, .byte), (cZ, .boolean)] [(a_lp, .inr (4, [.ref a_lp_facts, .ref a_lp_turns, .ref a_lp_first, .ref a_lp_src, .ref a_s1, .int lp_choices, .int lp_guesses, .int lp_unaries, .int lp_ranked])), (a_lp_facts, .inl (cI, 4096, .inl lp_facts))] sz adK adV [.ref a_lp, .int x1, .int x2]) (va_Qi (fun (r : Int32) (u : Unit) => post r ) (fun (u : Unit) t => bw_ (dC, dI) [(cI, .int), (cB, .byte), (cZ, .boolean)] (va_A [(a_lp, .inr (4, [.ref a_lp_facts, .ref a_lp_turns, .ref a_lp_first, .ref a_lp_src, .ref a_s1, .int lp_choices, .int lp_guesses, .int lp_unaries, .int lp_ranked])), (a_lp_facts, .inl (cI, 4096, .inl lp_facts))] sz) [(a_lp, .inr (4, [.ref a_lp_facts, .ref a_lp_turns, .ref a_lp_first, .ref a_lp_src, .ref a_s1, .int lp_choices, .int lp_guesses, .int lp_unaries, .int lp_ranked])), (a_lp_facts, .inl (cI, 4096, .inl lp_facts))] t) (va_A [(a_lp, .inr (4, [.ref a_lp_facts, .ref a_lp_turns, .ref a_lp_first, .ref a_lp_src, .ref a_s1, .int lp_choices, .int lp_guesses, .int lp_unaries, .int lp_ranked])), (a_lp_facts, .inl (cI, 4096, .inl lp_facts))] sz)) 0 0 (va_A [(a_lp, .inr (4, [.ref a_lp_facts, .ref a_lp_turns, .ref a_lp_first, .ref a_lp_src, .ref a_s1, .int lp_choices, .int lp_guesses, .int lp_unaries, .int lp_ranked])), (a_lp_facts, .inl (cI, 4096, .inl lp_facts))] sz) := by
  refine Met.ofW (cc := b_Loop_hasAll) (maxL := 3) (ret := (some .boolean)) (by decide) rfl ?_
  intro p e s m args below meth c s₁ B hml hv
  obtain ⟨rfl, hsz, hP, hK, hD0, hN, hT⟩ := hv
  have hx := B.exec
  have hb := B.bytes
  have hr := B.returns
  have hts := atoms_spec (ws := w_Loop_hasAll) B.pre
  have hown : s.vm.findClass "LoopInduction$Loop" = some m.cls := findClass_of_methodNamed B.named
  have hlocks := B.notSynchronized
  subst hsz
  have hD := hD0.self (sz := s.heap.size)
  generalize hAe : va_A [(a_lp, .inr (4, [.ref a_lp_facts, .ref a_lp_turns, .ref a_lp_first, .ref a_lp_src, .ref a_s1, .int lp_choices, .int lp_guesses, .int lp_unaries, .int lp_ranked])), (a_lp_facts, .inl (cI, 4096, .inl lp_facts))] s.heap.size = A at hD hT ⊢
  have hA : ∀ q : Nat, s.heap.size ≤ q → A q := fun q h => by rw [← hAe]; exact Or.inr h
  have hS : va_S A s.heap s.heap [] := va_S.rf
  generalize hQ : MQ below _ _ s 0 0 _ = QQ
  have hl := lv_entry ([.ref a_lp, .int x1, .int x2]) (n := 3) (Nat.le_of_ble_eq_true rfl)
  rw [lg_entry_eq]
  generalize (lg_sl ([.ref a_lp, .int x1, .int x2]) ++ List.replicate (3 - (lg_sl ([.ref a_lp, .int x1, .int x2])).length) Slot.unset).toArray = ls at hl ⊢
  have hl : lv_has ls 3 [(0, .ref a_lp), (1, .int x1), (2, .int x2)] := hl
  have fl_11 := (hts _ (List.mem_cons_of_mem _ m_254))
  refine lv_iload_n hx hb d_Loop_hasAll_0 rfl (lv_at hl 1 rfl) ?_
  refine jn_i (wr := [(a_lp, .inr (4, [.ref a_lp_facts, .ref a_lp_turns, .ref a_lp_first, .ref a_lp_src, .ref a_s1, .int lp_choices, .int lp_guesses, .int lp_unaries, .int lp_ranked])), (a_lp_facts, .inl (cI, 4096, .inl lp_facts))]) (va_runSN (As := [.int x1]) (rest := []) ⟨hx, hb, hml, hown, hts⟩ (c_LI_isState l dC dI cI cB cZ adK adV _ x1 _ h) ⟨va_cnB 1 hts (ga_ m_762) rfl rfl rfl (hN _ (List.mem_of_getElem? (i := 4) rfl)) (hts _ (List.mem_cons_of_mem _ m_85)) pn_LI_isState ⟨Nat.le_of_ble_eq_true rfl, Nat.le_of_ble_eq_true rfl⟩, (hts _ (List.mem_cons_of_mem _ m_761)), trivial⟩ ⟨pc_blind, pc_of (hP.sub [] rfl) hK (hD.sub [] (by decide) rfl) hN hT hS hA⟩ rfl rfl hl.1 rfl (lv_room (Nat.le_of_ble_eq_true rfl)) d_Loop_hasAll_1 ⟨Nat.zero_le _, Nat.zero_le _⟩) hP hD hS hA [] [0, 1] rfl rfl (by decide) (by decide) (fun r_1 u_ H locs h hP hD hS => ?_)
  have hP : va_P (dC, dI) vwCl [(a_lp, .inr (4, [.ref a_lp_facts, .ref a_lp_turns, .ref a_lp_first, .ref a_lp_src, .ref a_s1, .int lp_choices, .int lp_guesses, .int lp_unaries, .int lp_ranked])), (a_lp_facts, .inl (cI, 4096, .inl lp_facts))] H := hP
  have hD : va_D A [(a_lp, .inr (4, [.ref a_lp_facts, .ref a_lp_turns, .ref a_lp_first, .ref a_lp_src, .ref a_s1, .int lp_choices, .int lp_guesses, .int lp_unaries, .int lp_ranked])), (a_lp_facts, .inl (cI, 4096, .inl lp_facts))] := hD
  refine lv_if_eq (tgt := 23) hx hb d_Loop_hasAll_4 (by decide) (fun c_4 => ?_) (fun c_4 => ?_)
  · have h := And.left h c_4
    refine lv_iconst (v := 0) hx hb d_Loop_hasAll_23 (by decide) ?_
    rw [← hQ]
    have hP9 := hP
    have hD9 := hD
    exact W.zret (v := 0) hx hb hr rfl (fun t ht hW => ⟨⟨0, (), rfl, h, by rw [ht]; exact hP9, va_K.moved hW.alike hK, hD9⟩, hS.F ht⟩) hS.2.2 d_Loop_hasAll_24
  · have h := And.right h c_4
    refine lv_aload_n hx hb d_Loop_hasAll_7 rfl (lv_at hl 0 rfl) ?_
    refine va_get (D := (dC, dI)) (ci := 4) (v := .ref a_lp_facts) (C := "LoopInduction$Loop") (T := F_Loop) (N := 9) hx hb hts iC_Loop hown hK hP 0 rfl rfl 0 (by decide) fl_11 (fun _ h9 => h9) rfl d_Loop_hasAll_8 ?_
    refine lv_iload_n hx hb d_Loop_hasAll_11 rfl (lv_at hl 1 rfl) ?_
    obtain ⟨hin_12, h⟩ := h
    refine va_iald hx hb hK hP 1 0 rfl rfl hin_12 d_Loop_hasAll_12 ?_
    refine lv_iload_n hx hb d_Loop_hasAll_13 rfl (lv_at hl 2 rfl) ?_
    refine lv_iand hx hb d_Loop_hasAll_14 ?_
    refine lv_iload_n hx hb d_Loop_hasAll_15 rfl (lv_at hl 2 rfl) ?_
    refine lv_icmp_ne (tgt := 23) hx hb d_Loop_hasAll_16 (by decide) (fun c_16 => ?_) (fun c_16 => ?_)
    · have h := And.left h c_16
      refine lv_iconst (v := 0) hx hb d_Loop_hasAll_23 (by decide) ?_
      rw [← hQ]
      have hP9 := hP
      have hD9 := hD
      exact W.zret (v := 0) hx hb hr rfl (fun t ht hW => ⟨⟨0, (), rfl, h, by rw [ht]; exact hP9, va_K.moved hW.alike hK, hD9⟩, hS.F ht⟩) hS.2.2 d_Loop_hasAll_24
    · have h := And.right h c_16
      refine lv_iconst (v := 1) hx hb d_Loop_hasAll_19 (by decide) ?_
      refine lv_goto (tgt := 24) hx hb d_Loop_hasAll_20 (by decide) ?_
      rw [← hQ]
      have hP9 := hP
      have hD9 := hD
      exact W.zret (v := 1) hx hb hr rfl (fun t ht hW => ⟨⟨1, (), rfl, h, by rw [ht]; exact hP9, va_K.moved hW.alike hK, hD9⟩, hS.F ht⟩) hS.2.2 d_Loop_hasAll_24
set_option maxHeartbeats 4000000 in
set_option maxRecDepth 100000 in
theorem c_Loop_markReached (l : Launch) (dC : Nat → ClassId) (dI : Nat → Nat → Nat) (cI cB cZ : ClassId) (adK adV : Nat → Nat) (sz : Nat) (a_lp a_lp_facts a_lp_turns a_lp_first a_lp_src a_s1 : Nat) (lp_choices : Int32) (lp_guesses : Int32) (lp_unaries : Int32) (lp_ranked : Int32) (lp_facts : Nat → Int32) (x1 : Int32) (post : (Nat → Int32) → Prop) (h : wp_Loop_markReached x1 lp_facts post) : Met l y_Loop_markReached w_Loop_markReached ({ frames := 1, cells := 0, slots := 0, locals := 20 }) (pc_ (dC, dI) [(cI, .int), (cB, .byte), (cZ, .boolean)] [(a_lp, .inr (4, [.ref a_lp_facts, .ref a_lp_turns, .ref a_lp_first, .ref a_lp_src, .ref a_s1, .int lp_choices, .int lp_guesses, .int lp_unaries, .int lp_ranked])), (a_lp_facts, .inl (cI, 4096, .inl lp_facts))] sz adK adV [.ref a_lp, .int x1]) (va_Qv (fun (u : (Nat → Int32)) => post u) (fun (u : (Nat → Int32)) t => bw_ (dC, dI) [(cI, .int), (cB, .byte), (cZ, .boolean)] (va_A [(a_lp, .inr (4, [.ref a_lp_facts, .ref a_lp_turns, .ref a_lp_first, .ref a_lp_src, .ref a_s1, .int lp_choices, .int lp_guesses, .int lp_unaries, .int lp_ranked])), (a_lp_facts, .inl (cI, 4096, .inl lp_facts))] sz) [(a_lp, .inr (4, [.ref a_lp_facts, .ref a_lp_turns, .ref a_lp_first, .ref a_lp_src, .ref a_s1, .int lp_choices, .int lp_guesses, .int lp_unaries, .int lp_ranked])), (a_lp_facts, .inl (cI, 4096, .inl u))] t) (va_A [(a_lp, .inr (4, [.ref a_lp_facts, .ref a_lp_turns, .ref a_lp_first, .ref a_lp_src, .ref a_s1, .int lp_choices, .int lp_guesses, .int lp_unaries, .int lp_ranked])), (a_lp_facts, .inl (cI, 4096, .inl lp_facts))] sz)) 0 0 (va_A [(a_lp, .inr (4, [.ref a_lp_facts, .ref a_lp_turns, .ref a_lp_first, .ref a_lp_src, .ref a_s1, .int lp_choices, .int lp_guesses, .int lp_unaries, .int lp_ranked])), (a_lp_facts, .inl (cI, 4096, .inl lp_facts))] sz) := by
  refine Met.ofW (cc := b_Loop_markReached) (maxL := 2) (ret := none) (by decide) rfl ?_
  intro p e s m args below meth c s₁ B hml hv
  obtain ⟨rfl, hsz, hP, hK, hD0, hN, hT⟩ := hv
  have hx := B.exec
  have hb := B.bytes
  have hr := B.returns
  have hts := atoms_spec (ws := w_Loop_markReached) B.pre
  have hown : s.vm.findClass "LoopInduction$Loop" = some m.cls := findClass_of_methodNamed B.named
  have hlocks := B.notSynchronized
  subst hsz
  have hD := hD0.self (sz := s.heap.size)
  generalize hAe : va_A [(a_lp, .inr (4, [.ref a_lp_facts, .ref a_lp_turns, .ref a_lp_first, .ref a_lp_src, .ref a_s1, .int lp_choices, .int lp_guesses, .int lp_unaries, .int lp_ranked])), (a_lp_facts, .inl (cI, 4096, .inl lp_facts))] s.heap.size = A at hD hT ⊢
  have hA : ∀ q : Nat, s.heap.size ≤ q → A q := fun q h => by rw [← hAe]; exact Or.inr h
  have hS : va_S A s.heap s.heap [] := va_S.rf
  generalize hQ : MQ below _ _ s 0 0 _ = QQ
  have hl := lv_entry ([.ref a_lp, .int x1]) (n := 2) (Nat.le_of_ble_eq_true rfl)
  rw [lg_entry_eq]
  generalize (lg_sl ([.ref a_lp, .int x1]) ++ List.replicate (2 - (lg_sl ([.ref a_lp, .int x1])).length) Slot.unset).toArray = ls at hl ⊢
  have hl : lv_has ls 2 [(0, .ref a_lp), (1, .int x1)] := hl
  have fl_11 := (hts _ (List.mem_cons_of_mem _ m_254))
  refine lv_iload_n hx hb d_Loop_markReached_0 rfl (lv_at hl 1 rfl) ?_
  refine jn_i (wr := [(a_lp, .inr (4, [.ref a_lp_facts, .ref a_lp_turns, .ref a_lp_first, .ref a_lp_src, .ref a_s1, .int lp_choices, .int lp_guesses, .int lp_unaries, .int lp_ranked])), (a_lp_facts, .inl (cI, 4096, .inl lp_facts))]) (va_runSN (As := [.int x1]) (rest := []) ⟨hx, hb, hml, hown, hts⟩ (c_LI_isState l dC dI cI cB cZ adK adV _ x1 _ h) ⟨va_cnB 1 hts (ga_ m_762) rfl rfl rfl (hN _ (List.mem_of_getElem? (i := 4) rfl)) (hts _ (List.mem_cons_of_mem _ m_85)) pn_LI_isState ⟨Nat.le_of_ble_eq_true rfl, Nat.le_of_ble_eq_true rfl⟩, (hts _ (List.mem_cons_of_mem _ m_761)), trivial⟩ ⟨pc_blind, pc_of (hP.sub [] rfl) hK (hD.sub [] (by decide) rfl) hN hT hS hA⟩ rfl rfl hl.1 rfl (lv_room (Nat.le_of_ble_eq_true rfl)) d_Loop_markReached_1 ⟨Nat.zero_le _, Nat.zero_le _⟩) hP hD hS hA [] [0, 1] rfl rfl (by decide) (by decide) (fun r_1 u_ H locs h hP hD hS => ?_)
  have hP : va_P (dC, dI) vwCl [(a_lp, .inr (4, [.ref a_lp_facts, .ref a_lp_turns, .ref a_lp_first, .ref a_lp_src, .ref a_s1, .int lp_choices, .int lp_guesses, .int lp_unaries, .int lp_ranked])), (a_lp_facts, .inl (cI, 4096, .inl lp_facts))] H := hP
  have hD : va_D A [(a_lp, .inr (4, [.ref a_lp_facts, .ref a_lp_turns, .ref a_lp_first, .ref a_lp_src, .ref a_s1, .int lp_choices, .int lp_guesses, .int lp_unaries, .int lp_ranked])), (a_lp_facts, .inl (cI, 4096, .inl lp_facts))] := hD
  refine lv_if_eq (tgt := 17) hx hb d_Loop_markReached_4 (by decide) (fun c_4 => ?_) (fun c_4 => ?_)
  · have h := And.left h c_4
    rw [← hQ]
    have hP9 := hP
    have hD9 := hD
    exact W.vret hx hb hr (fun t ht hW => ⟨⟨(lp_facts), rfl, h, by rw [ht]; exact hP9, va_K.moved hW.alike hK, hD9⟩, hS.F ht⟩) hS.2.2 d_Loop_markReached_17
  · have h := And.right h c_4
    refine lv_aload_n hx hb d_Loop_markReached_7 rfl (lv_at hl 0 rfl) ?_
    refine va_get (D := (dC, dI)) (ci := 4) (v := .ref a_lp_facts) (C := "LoopInduction$Loop") (T := F_Loop) (N := 9) hx hb hts iC_Loop hown hK hP 0 rfl rfl 0 (by decide) fl_11 (fun _ h9 => h9) rfl d_Loop_markReached_8 ?_
    refine lv_iload_n hx hb d_Loop_markReached_11 rfl (lv_at hl 1 rfl) ?_
    refine lv_dup2_11 hx hb d_Loop_markReached_12 rfl rfl ?_
    obtain ⟨hin_13, h⟩ := h
    refine va_iald hx hb hK hP 1 0 rfl rfl hin_13 d_Loop_markReached_13 ?_
    refine lv_iconst (v := 4) hx hb d_Loop_markReached_14 (by decide) ?_
    refine lv_ior hx hb d_Loop_markReached_15 ?_
    obtain ⟨hin_16, h⟩ := h
    refine va_iast hx hb hK hP hD hS 1 0 rfl rfl hin_16 d_Loop_markReached_16 (fun H locs hP hD hS => ?_)
    have hP : va_P (dC, dI) vwCl [(a_lp, .inr (4, [.ref a_lp_facts, .ref a_lp_turns, .ref a_lp_first, .ref a_lp_src, .ref a_s1, .int lp_choices, .int lp_guesses, .int lp_unaries, .int lp_ranked])), (a_lp_facts, .inl (cI, 4096, .inl (upd lp_facts (x1 : Int32).toNatClampNeg ((lp_facts (x1 : Int32).toNatClampNeg) ||| 4))))] H := hP
    have hD : va_D A [(a_lp, .inr (4, [.ref a_lp_facts, .ref a_lp_turns, .ref a_lp_first, .ref a_lp_src, .ref a_s1, .int lp_choices, .int lp_guesses, .int lp_unaries, .int lp_ranked])), (a_lp_facts, .inl (cI, 4096, .inl (upd lp_facts (x1 : Int32).toNatClampNeg ((lp_facts (x1 : Int32).toNatClampNeg) ||| 4))))] := hD
    rw [← hQ]
    have hP9 := hP
    have hD9 := hD
    exact W.vret hx hb hr (fun t ht hW => ⟨⟨(upd lp_facts (x1 : Int32).toNatClampNeg ((lp_facts (x1 : Int32).toNatClampNeg) ||| 4)), rfl, h, by rw [ht]; exact hP9, va_K.moved hW.alike hK, hD9⟩, hS.F ht⟩) hS.2.2 d_Loop_markReached_17
set_option maxHeartbeats 4000000 in
set_option maxRecDepth 100000 in
theorem c_Loop_guessesOf (l : Launch) (dC : Nat → ClassId) (dI : Nat → Nat → Nat) (cI cB cZ : ClassId) (adK adV : Nat → Nat) (sz : Nat) (a_lp a_lp_facts a_lp_turns a_lp_first a_lp_src a_s1 : Nat) (lp_choices : Int32) (lp_guesses : Int32) (lp_unaries : Int32) (lp_ranked : Int32) (lp_facts : Nat → Int32) (x1 : Int32) (post : Int32 → Prop) (h : wp_Loop_guessesOf x1 lp_facts post) : Met l y_Loop_guessesOf w_Loop_guessesOf ({ frames := 1, cells := 0, slots := 0, locals := 20 }) (pc_ (dC, dI) [(cI, .int), (cB, .byte), (cZ, .boolean)] [(a_lp, .inr (4, [.ref a_lp_facts, .ref a_lp_turns, .ref a_lp_first, .ref a_lp_src, .ref a_s1, .int lp_choices, .int lp_guesses, .int lp_unaries, .int lp_ranked])), (a_lp_facts, .inl (cI, 4096, .inl lp_facts))] sz adK adV [.ref a_lp, .int x1]) (va_Qi (fun (r : Int32) (u : Unit) => post r ) (fun (u : Unit) t => bw_ (dC, dI) [(cI, .int), (cB, .byte), (cZ, .boolean)] (va_A [(a_lp, .inr (4, [.ref a_lp_facts, .ref a_lp_turns, .ref a_lp_first, .ref a_lp_src, .ref a_s1, .int lp_choices, .int lp_guesses, .int lp_unaries, .int lp_ranked])), (a_lp_facts, .inl (cI, 4096, .inl lp_facts))] sz) [(a_lp, .inr (4, [.ref a_lp_facts, .ref a_lp_turns, .ref a_lp_first, .ref a_lp_src, .ref a_s1, .int lp_choices, .int lp_guesses, .int lp_unaries, .int lp_ranked])), (a_lp_facts, .inl (cI, 4096, .inl lp_facts))] t) (va_A [(a_lp, .inr (4, [.ref a_lp_facts, .ref a_lp_turns, .ref a_lp_first, .ref a_lp_src, .ref a_s1, .int lp_choices, .int lp_guesses, .int lp_unaries, .int lp_ranked])), (a_lp_facts, .inl (cI, 4096, .inl lp_facts))] sz)) 0 0 (va_A [(a_lp, .inr (4, [.ref a_lp_facts, .ref a_lp_turns, .ref a_lp_first, .ref a_lp_src, .ref a_s1, .int lp_choices, .int lp_guesses, .int lp_unaries, .int lp_ranked])), (a_lp_facts, .inl (cI, 4096, .inl lp_facts))] sz) := by
  refine Met.ofW (cc := b_Loop_guessesOf) (maxL := 2) (ret := (some .int)) (by decide) rfl ?_
  intro p e s m args below meth c s₁ B hml hv
  obtain ⟨rfl, hsz, hP, hK, hD0, hN, hT⟩ := hv
  have hx := B.exec
  have hb := B.bytes
  have hr := B.returns
  have hts := atoms_spec (ws := w_Loop_guessesOf) B.pre
  have hown : s.vm.findClass "LoopInduction$Loop" = some m.cls := findClass_of_methodNamed B.named
  have hlocks := B.notSynchronized
  subst hsz
  have hD := hD0.self (sz := s.heap.size)
  generalize hAe : va_A [(a_lp, .inr (4, [.ref a_lp_facts, .ref a_lp_turns, .ref a_lp_first, .ref a_lp_src, .ref a_s1, .int lp_choices, .int lp_guesses, .int lp_unaries, .int lp_ranked])), (a_lp_facts, .inl (cI, 4096, .inl lp_facts))] s.heap.size = A at hD hT ⊢
  have hA : ∀ q : Nat, s.heap.size ≤ q → A q := fun q h => by rw [← hAe]; exact Or.inr h
  have hS : va_S A s.heap s.heap [] := va_S.rf
  generalize hQ : MQ below _ _ s 0 0 _ = QQ
  have hl := lv_entry ([.ref a_lp, .int x1]) (n := 2) (Nat.le_of_ble_eq_true rfl)
  rw [lg_entry_eq]
  generalize (lg_sl ([.ref a_lp, .int x1]) ++ List.replicate (2 - (lg_sl ([.ref a_lp, .int x1])).length) Slot.unset).toArray = ls at hl ⊢
  have hl : lv_has ls 2 [(0, .ref a_lp), (1, .int x1)] := hl
  have fl_11 := (hts _ (List.mem_cons_of_mem _ m_254))
  refine lv_iload_n hx hb d_Loop_guessesOf_0 rfl (lv_at hl 1 rfl) ?_
  refine jn_i (wr := [(a_lp, .inr (4, [.ref a_lp_facts, .ref a_lp_turns, .ref a_lp_first, .ref a_lp_src, .ref a_s1, .int lp_choices, .int lp_guesses, .int lp_unaries, .int lp_ranked])), (a_lp_facts, .inl (cI, 4096, .inl lp_facts))]) (va_runSN (As := [.int x1]) (rest := []) ⟨hx, hb, hml, hown, hts⟩ (c_LI_isState l dC dI cI cB cZ adK adV _ x1 _ h) ⟨va_cnB 1 hts (ga_ m_762) rfl rfl rfl (hN _ (List.mem_of_getElem? (i := 4) rfl)) (hts _ (List.mem_cons_of_mem _ m_85)) pn_LI_isState ⟨Nat.le_of_ble_eq_true rfl, Nat.le_of_ble_eq_true rfl⟩, (hts _ (List.mem_cons_of_mem _ m_761)), trivial⟩ ⟨pc_blind, pc_of (hP.sub [] rfl) hK (hD.sub [] (by decide) rfl) hN hT hS hA⟩ rfl rfl hl.1 rfl (lv_room (Nat.le_of_ble_eq_true rfl)) d_Loop_guessesOf_1 ⟨Nat.zero_le _, Nat.zero_le _⟩) hP hD hS hA [] [0, 1] rfl rfl (by decide) (by decide) (fun r_1 u_ H locs h hP hD hS => ?_)
  have hP : va_P (dC, dI) vwCl [(a_lp, .inr (4, [.ref a_lp_facts, .ref a_lp_turns, .ref a_lp_first, .ref a_lp_src, .ref a_s1, .int lp_choices, .int lp_guesses, .int lp_unaries, .int lp_ranked])), (a_lp_facts, .inl (cI, 4096, .inl lp_facts))] H := hP
  have hD : va_D A [(a_lp, .inr (4, [.ref a_lp_facts, .ref a_lp_turns, .ref a_lp_first, .ref a_lp_src, .ref a_s1, .int lp_choices, .int lp_guesses, .int lp_unaries, .int lp_ranked])), (a_lp_facts, .inl (cI, 4096, .inl lp_facts))] := hD
  refine lv_if_eq (tgt := 22) hx hb d_Loop_guessesOf_4 (by decide) (fun c_4 => ?_) (fun c_4 => ?_)
  · have h := And.left h c_4
    refine lv_iconst (v := 0) hx hb d_Loop_guessesOf_22 (by decide) ?_
    rw [← hQ]
    have hP9 := hP
    have hD9 := hD
    exact W.iret (v := 0) hx hb hr (fun t ht hW => ⟨⟨0, (), rfl, h, by rw [ht]; exact hP9, va_K.moved hW.alike hK, hD9⟩, hS.F ht⟩) hS.2.2 d_Loop_guessesOf_23
  · have h := And.right h c_4
    refine lv_aload_n hx hb d_Loop_guessesOf_7 rfl (lv_at hl 0 rfl) ?_
    refine va_get (D := (dC, dI)) (ci := 4) (v := .ref a_lp_facts) (C := "LoopInduction$Loop") (T := F_Loop) (N := 9) hx hb hts iC_Loop hown hK hP 0 rfl rfl 0 (by decide) fl_11 (fun _ h9 => h9) rfl d_Loop_guessesOf_8 ?_
    refine lv_iload_n hx hb d_Loop_guessesOf_11 rfl (lv_at hl 1 rfl) ?_
    obtain ⟨hin_12, h⟩ := h
    refine va_iald hx hb hK hP 1 0 rfl rfl hin_12 d_Loop_guessesOf_12 ?_
    refine lv_iconst (v := 4) hx hb d_Loop_guessesOf_13 (by decide) ?_
    refine lv_ishr hx hb d_Loop_guessesOf_14 ?_
    refine lv_sipush (v := 4095) hx hb d_Loop_guessesOf_15 (by decide) ?_
    refine lv_iand hx hb d_Loop_guessesOf_18 ?_
    refine lv_goto (tgt := 23) hx hb d_Loop_guessesOf_19 (by decide) ?_
    rw [← hQ]
    have hP9 := hP
    have hD9 := hD
    exact W.iret (v := ((lp_facts (x1 : Int32).toNatClampNeg) >>> (4 &&& 31)) &&& 4095) hx hb hr (fun t ht hW => ⟨⟨(((lp_facts (x1 : Int32).toNatClampNeg) >>> (4 &&& 31)) &&& 4095), (), rfl, h, by rw [ht]; exact hP9, va_K.moved hW.alike hK, hD9⟩, hS.F ht⟩) hS.2.2 d_Loop_guessesOf_23
set_option maxHeartbeats 4000000 in
set_option maxRecDepth 100000 in
theorem c_Loop_rankOf (l : Launch) (dC : Nat → ClassId) (dI : Nat → Nat → Nat) (cI cB cZ : ClassId) (adK adV : Nat → Nat) (sz : Nat) (a_lp a_lp_facts a_lp_turns a_lp_first a_lp_src a_s1 : Nat) (lp_choices : Int32) (lp_guesses : Int32) (lp_unaries : Int32) (lp_ranked : Int32) (lp_facts : Nat → Int32) (x1 : Int32) (post : Int32 → Prop) (h : wp_Loop_rankOf x1 lp_facts post) : Met l y_Loop_rankOf w_Loop_rankOf ({ frames := 1, cells := 0, slots := 0, locals := 20 }) (pc_ (dC, dI) [(cI, .int), (cB, .byte), (cZ, .boolean)] [(a_lp, .inr (4, [.ref a_lp_facts, .ref a_lp_turns, .ref a_lp_first, .ref a_lp_src, .ref a_s1, .int lp_choices, .int lp_guesses, .int lp_unaries, .int lp_ranked])), (a_lp_facts, .inl (cI, 4096, .inl lp_facts))] sz adK adV [.ref a_lp, .int x1]) (va_Qi (fun (r : Int32) (u : Unit) => post r ) (fun (u : Unit) t => bw_ (dC, dI) [(cI, .int), (cB, .byte), (cZ, .boolean)] (va_A [(a_lp, .inr (4, [.ref a_lp_facts, .ref a_lp_turns, .ref a_lp_first, .ref a_lp_src, .ref a_s1, .int lp_choices, .int lp_guesses, .int lp_unaries, .int lp_ranked])), (a_lp_facts, .inl (cI, 4096, .inl lp_facts))] sz) [(a_lp, .inr (4, [.ref a_lp_facts, .ref a_lp_turns, .ref a_lp_first, .ref a_lp_src, .ref a_s1, .int lp_choices, .int lp_guesses, .int lp_unaries, .int lp_ranked])), (a_lp_facts, .inl (cI, 4096, .inl lp_facts))] t) (va_A [(a_lp, .inr (4, [.ref a_lp_facts, .ref a_lp_turns, .ref a_lp_first, .ref a_lp_src, .ref a_s1, .int lp_choices, .int lp_guesses, .int lp_unaries, .int lp_ranked])), (a_lp_facts, .inl (cI, 4096, .inl lp_facts))] sz)) 0 0 (va_A [(a_lp, .inr (4, [.ref a_lp_facts, .ref a_lp_turns, .ref a_lp_first, .ref a_lp_src, .ref a_s1, .int lp_choices, .int lp_guesses, .int lp_unaries, .int lp_ranked])), (a_lp_facts, .inl (cI, 4096, .inl lp_facts))] sz) := by
  refine Met.ofW (cc := b_Loop_rankOf) (maxL := 2) (ret := (some .int)) (by decide) rfl ?_
  intro p e s m args below meth c s₁ B hml hv
  obtain ⟨rfl, hsz, hP, hK, hD0, hN, hT⟩ := hv
  have hx := B.exec
  have hb := B.bytes
  have hr := B.returns
  have hts := atoms_spec (ws := w_Loop_rankOf) B.pre
  have hown : s.vm.findClass "LoopInduction$Loop" = some m.cls := findClass_of_methodNamed B.named
  have hlocks := B.notSynchronized
  subst hsz
  have hD := hD0.self (sz := s.heap.size)
  generalize hAe : va_A [(a_lp, .inr (4, [.ref a_lp_facts, .ref a_lp_turns, .ref a_lp_first, .ref a_lp_src, .ref a_s1, .int lp_choices, .int lp_guesses, .int lp_unaries, .int lp_ranked])), (a_lp_facts, .inl (cI, 4096, .inl lp_facts))] s.heap.size = A at hD hT ⊢
  have hA : ∀ q : Nat, s.heap.size ≤ q → A q := fun q h => by rw [← hAe]; exact Or.inr h
  have hS : va_S A s.heap s.heap [] := va_S.rf
  generalize hQ : MQ below _ _ s 0 0 _ = QQ
  have hl := lv_entry ([.ref a_lp, .int x1]) (n := 2) (Nat.le_of_ble_eq_true rfl)
  rw [lg_entry_eq]
  generalize (lg_sl ([.ref a_lp, .int x1]) ++ List.replicate (2 - (lg_sl ([.ref a_lp, .int x1])).length) Slot.unset).toArray = ls at hl ⊢
  have hl : lv_has ls 2 [(0, .ref a_lp), (1, .int x1)] := hl
  have fl_11 := (hts _ (List.mem_cons_of_mem _ m_254))
  refine lv_iload_n hx hb d_Loop_rankOf_0 rfl (lv_at hl 1 rfl) ?_
  refine jn_i (wr := [(a_lp, .inr (4, [.ref a_lp_facts, .ref a_lp_turns, .ref a_lp_first, .ref a_lp_src, .ref a_s1, .int lp_choices, .int lp_guesses, .int lp_unaries, .int lp_ranked])), (a_lp_facts, .inl (cI, 4096, .inl lp_facts))]) (va_runSN (As := [.int x1]) (rest := []) ⟨hx, hb, hml, hown, hts⟩ (c_LI_isState l dC dI cI cB cZ adK adV _ x1 _ h) ⟨va_cnB 1 hts (ga_ m_762) rfl rfl rfl (hN _ (List.mem_of_getElem? (i := 4) rfl)) (hts _ (List.mem_cons_of_mem _ m_85)) pn_LI_isState ⟨Nat.le_of_ble_eq_true rfl, Nat.le_of_ble_eq_true rfl⟩, (hts _ (List.mem_cons_of_mem _ m_761)), trivial⟩ ⟨pc_blind, pc_of (hP.sub [] rfl) hK (hD.sub [] (by decide) rfl) hN hT hS hA⟩ rfl rfl hl.1 rfl (lv_room (Nat.le_of_ble_eq_true rfl)) d_Loop_rankOf_1 ⟨Nat.zero_le _, Nat.zero_le _⟩) hP hD hS hA [] [0, 1] rfl rfl (by decide) (by decide) (fun r_1 u_ H locs h hP hD hS => ?_)
  have hP : va_P (dC, dI) vwCl [(a_lp, .inr (4, [.ref a_lp_facts, .ref a_lp_turns, .ref a_lp_first, .ref a_lp_src, .ref a_s1, .int lp_choices, .int lp_guesses, .int lp_unaries, .int lp_ranked])), (a_lp_facts, .inl (cI, 4096, .inl lp_facts))] H := hP
  have hD : va_D A [(a_lp, .inr (4, [.ref a_lp_facts, .ref a_lp_turns, .ref a_lp_first, .ref a_lp_src, .ref a_s1, .int lp_choices, .int lp_guesses, .int lp_unaries, .int lp_ranked])), (a_lp_facts, .inl (cI, 4096, .inl lp_facts))] := hD
  refine lv_if_eq (tgt := 22) hx hb d_Loop_rankOf_4 (by decide) (fun c_4 => ?_) (fun c_4 => ?_)
  · have h := And.left h c_4
    refine lv_iconst (v := 0) hx hb d_Loop_rankOf_22 (by decide) ?_
    rw [← hQ]
    have hP9 := hP
    have hD9 := hD
    exact W.iret (v := 0) hx hb hr (fun t ht hW => ⟨⟨0, (), rfl, h, by rw [ht]; exact hP9, va_K.moved hW.alike hK, hD9⟩, hS.F ht⟩) hS.2.2 d_Loop_rankOf_23
  · have h := And.right h c_4
    refine lv_aload_n hx hb d_Loop_rankOf_7 rfl (lv_at hl 0 rfl) ?_
    refine va_get (D := (dC, dI)) (ci := 4) (v := .ref a_lp_facts) (C := "LoopInduction$Loop") (T := F_Loop) (N := 9) hx hb hts iC_Loop hown hK hP 0 rfl rfl 0 (by decide) fl_11 (fun _ h9 => h9) rfl d_Loop_rankOf_8 ?_
    refine lv_iload_n hx hb d_Loop_rankOf_11 rfl (lv_at hl 1 rfl) ?_
    obtain ⟨hin_12, h⟩ := h
    refine va_iald hx hb hK hP 1 0 rfl rfl hin_12 d_Loop_rankOf_12 ?_
    refine lv_bipush (v := 16) hx hb d_Loop_rankOf_13 (by decide) ?_
    refine lv_ishr hx hb d_Loop_rankOf_15 ?_
    refine lv_bipush (v := 15) hx hb d_Loop_rankOf_16 (by decide) ?_
    refine lv_iand hx hb d_Loop_rankOf_18 ?_
    refine lv_goto (tgt := 23) hx hb d_Loop_rankOf_19 (by decide) ?_
    rw [← hQ]
    have hP9 := hP
    have hD9 := hD
    exact W.iret (v := ((lp_facts (x1 : Int32).toNatClampNeg) >>> (16 &&& 31)) &&& 15) hx hb hr (fun t ht hW => ⟨⟨(((lp_facts (x1 : Int32).toNatClampNeg) >>> (16 &&& 31)) &&& 15), (), rfl, h, by rw [ht]; exact hP9, va_K.moved hW.alike hK, hD9⟩, hS.F ht⟩) hS.2.2 d_Loop_rankOf_23
set_option maxHeartbeats 4000000 in
set_option maxRecDepth 100000 in
theorem c_Loop_turn (l : Launch) (dC : Nat → ClassId) (dI : Nat → Nat → Nat) (cI cB cZ : ClassId) (adK adV : Nat → Nat) (sz : Nat) (a_lp a_lp_facts a_lp_turns a_lp_first a_lp_src a_s1 : Nat) (lp_choices : Int32) (lp_guesses : Int32) (lp_unaries : Int32) (lp_ranked : Int32) (lp_turns : Nat → Int32) (x1 : Int32) (x2 : Int32) (post : Int32 → Prop) (h : wp_Loop_turn x1 x2 lp_choices lp_turns post) : Met l y_Loop_turn w_Loop_turn ({ frames := 1, cells := 0, slots := 0, locals := 20 }) (pc_ (dC, dI) [(cI, .int), (cB, .byte), (cZ, .boolean)] [(a_lp, .inr (4, [.ref a_lp_facts, .ref a_lp_turns, .ref a_lp_first, .ref a_lp_src, .ref a_s1, .int lp_choices, .int lp_guesses, .int lp_unaries, .int lp_ranked])), (a_lp_turns, .inl (cI, 24576, .inl lp_turns))] sz adK adV [.ref a_lp, .int x1, .int x2]) (va_Qi (fun (r : Int32) (u : Unit) => post r ) (fun (u : Unit) t => bw_ (dC, dI) [(cI, .int), (cB, .byte), (cZ, .boolean)] (va_A [(a_lp, .inr (4, [.ref a_lp_facts, .ref a_lp_turns, .ref a_lp_first, .ref a_lp_src, .ref a_s1, .int lp_choices, .int lp_guesses, .int lp_unaries, .int lp_ranked])), (a_lp_turns, .inl (cI, 24576, .inl lp_turns))] sz) [(a_lp, .inr (4, [.ref a_lp_facts, .ref a_lp_turns, .ref a_lp_first, .ref a_lp_src, .ref a_s1, .int lp_choices, .int lp_guesses, .int lp_unaries, .int lp_ranked])), (a_lp_turns, .inl (cI, 24576, .inl lp_turns))] t) (va_A [(a_lp, .inr (4, [.ref a_lp_facts, .ref a_lp_turns, .ref a_lp_first, .ref a_lp_src, .ref a_s1, .int lp_choices, .int lp_guesses, .int lp_unaries, .int lp_ranked])), (a_lp_turns, .inl (cI, 24576, .inl lp_turns))] sz)) 0 0 (va_A [(a_lp, .inr (4, [.ref a_lp_facts, .ref a_lp_turns, .ref a_lp_first, .ref a_lp_src, .ref a_s1, .int lp_choices, .int lp_guesses, .int lp_unaries, .int lp_ranked])), (a_lp_turns, .inl (cI, 24576, .inl lp_turns))] sz) := by
  refine Met.ofW (cc := b_Loop_turn) (maxL := 3) (ret := (some .int)) (by decide) rfl ?_
  intro p e s m args below meth c s₁ B hml hv
  obtain ⟨rfl, hsz, hP, hK, hD0, hN, hT⟩ := hv
  have hx := B.exec
  have hb := B.bytes
  have hr := B.returns
  have hts := atoms_spec (ws := w_Loop_turn) B.pre
  have hown : s.vm.findClass "LoopInduction$Loop" = some m.cls := findClass_of_methodNamed B.named
  have hlocks := B.notSynchronized
  subst hsz
  have hD := hD0.self (sz := s.heap.size)
  generalize hAe : va_A [(a_lp, .inr (4, [.ref a_lp_facts, .ref a_lp_turns, .ref a_lp_first, .ref a_lp_src, .ref a_s1, .int lp_choices, .int lp_guesses, .int lp_unaries, .int lp_ranked])), (a_lp_turns, .inl (cI, 24576, .inl lp_turns))] s.heap.size = A at hD hT ⊢
  have hA : ∀ q : Nat, s.heap.size ≤ q → A q := fun q h => by rw [← hAe]; exact Or.inr h
  have hS : va_S A s.heap s.heap [] := va_S.rf
  generalize hQ : MQ below _ _ s 0 0 _ = QQ
  have hl := lv_entry ([.ref a_lp, .int x1, .int x2]) (n := 3) (Nat.le_of_ble_eq_true rfl)
  rw [lg_entry_eq]
  generalize (lg_sl ([.ref a_lp, .int x1, .int x2]) ++ List.replicate (3 - (lg_sl ([.ref a_lp, .int x1, .int x2])).length) Slot.unset).toArray = ls at hl ⊢
  have hl : lv_has ls 3 [(0, .ref a_lp), (1, .int x1), (2, .int x2)] := hl
  have fl_15 := (hts _ (List.mem_cons_of_mem _ m_255))
  have fl_24 := (hts _ (List.mem_cons_of_mem _ m_259))
  refine lv_iload_n hx hb d_Loop_turn_0 rfl (lv_at hl 1 rfl) ?_
  refine jn_i (wr := [(a_lp, .inr (4, [.ref a_lp_facts, .ref a_lp_turns, .ref a_lp_first, .ref a_lp_src, .ref a_s1, .int lp_choices, .int lp_guesses, .int lp_unaries, .int lp_ranked])), (a_lp_turns, .inl (cI, 24576, .inl lp_turns))]) (va_runSN (As := [.int x1]) (rest := []) ⟨hx, hb, hml, hown, hts⟩ (c_LI_isState l dC dI cI cB cZ adK adV _ x1 _ h) ⟨va_cnB 1 hts (ga_ m_762) rfl rfl rfl (hN _ (List.mem_of_getElem? (i := 4) rfl)) (hts _ (List.mem_cons_of_mem _ m_85)) pn_LI_isState ⟨Nat.le_of_ble_eq_true rfl, Nat.le_of_ble_eq_true rfl⟩, (hts _ (List.mem_cons_of_mem _ m_761)), trivial⟩ ⟨pc_blind, pc_of (hP.sub [] rfl) hK (hD.sub [] (by decide) rfl) hN hT hS hA⟩ rfl rfl hl.1 rfl (lv_room (Nat.le_of_ble_eq_true rfl)) d_Loop_turn_1 ⟨Nat.zero_le _, Nat.zero_le _⟩) hP hD hS hA [] [0, 1] rfl rfl (by decide) (by decide) (fun r_1 u_ H locs h hP hD hS => ?_)
  have hP : va_P (dC, dI) vwCl [(a_lp, .inr (4, [.ref a_lp_facts, .ref a_lp_turns, .ref a_lp_first, .ref a_lp_src, .ref a_s1, .int lp_choices, .int lp_guesses, .int lp_unaries, .int lp_ranked])), (a_lp_turns, .inl (cI, 24576, .inl lp_turns))] H := hP
  have hD : va_D A [(a_lp, .inr (4, [.ref a_lp_facts, .ref a_lp_turns, .ref a_lp_first, .ref a_lp_src, .ref a_s1, .int lp_choices, .int lp_guesses, .int lp_unaries, .int lp_ranked])), (a_lp_turns, .inl (cI, 24576, .inl lp_turns))] := hD
  refine lv_if_eq (tgt := 25) hx hb d_Loop_turn_4 (by decide) (fun c_4 => ?_) (fun c_4 => ?_)
  · have h := And.left h c_4
    refine lv_iconst (v := (-1)) hx hb d_Loop_turn_25 (by decide) ?_
    rw [← hQ]
    have hP9 := hP
    have hD9 := hD
    exact W.iret (v := (-1)) hx hb hr (fun t ht hW => ⟨⟨(-1), (), rfl, h, by rw [ht]; exact hP9, va_K.moved hW.alike hK, hD9⟩, hS.F ht⟩) hS.2.2 d_Loop_turn_26
  · have h := And.right h c_4
    refine lv_iload_n hx hb d_Loop_turn_7 rfl (lv_at hl 2 rfl) ?_
    refine lv_if_lt (tgt := 25) hx hb d_Loop_turn_8 (by decide) (fun c_8 => ?_) (fun c_8 => ?_)
    · have h := And.left h c_8
      refine lv_iconst (v := (-1)) hx hb d_Loop_turn_25 (by decide) ?_
      rw [← hQ]
      have hP9 := hP
      have hD9 := hD
      exact W.iret (v := (-1)) hx hb hr (fun t ht hW => ⟨⟨(-1), (), rfl, h, by rw [ht]; exact hP9, va_K.moved hW.alike hK, hD9⟩, hS.F ht⟩) hS.2.2 d_Loop_turn_26
    · have h := And.right h c_8
      refine lv_iload_n hx hb d_Loop_turn_11 rfl (lv_at hl 2 rfl) ?_
      refine lv_aload_n hx hb d_Loop_turn_12 rfl (lv_at hl 0 rfl) ?_
      refine va_get (D := (dC, dI)) (ci := 4) (v := .int lp_choices) (C := "LoopInduction$Loop") (T := F_Loop) (N := 9) hx hb hts iC_Loop hown hK hP 0 rfl rfl 5 (by decide) fl_24 (fun _ h9 => h9) rfl d_Loop_turn_13 ?_
      refine lv_icmp_ge (tgt := 25) hx hb d_Loop_turn_16 (by decide) (fun c_16 => ?_) (fun c_16 => ?_)
      · have h := And.left h c_16
        refine lv_iconst (v := (-1)) hx hb d_Loop_turn_25 (by decide) ?_
        rw [← hQ]
        have hP9 := hP
        have hD9 := hD
        exact W.iret (v := (-1)) hx hb hr (fun t ht hW => ⟨⟨(-1), (), rfl, h, by rw [ht]; exact hP9, va_K.moved hW.alike hK, hD9⟩, hS.F ht⟩) hS.2.2 d_Loop_turn_26
      · have h := And.right h c_16
        refine lv_iload_n hx hb d_Loop_turn_19 rfl (lv_at hl 2 rfl) ?_
        refine lv_bipush (v := 6) hx hb d_Loop_turn_20 (by decide) ?_
        refine lv_icmp_lt (tgt := 27) hx hb d_Loop_turn_22 (by decide) (fun c_22 => ?_) (fun c_22 => ?_)
        · have h := And.left h c_22
          refine lv_aload_n hx hb d_Loop_turn_27 rfl (lv_at hl 0 rfl) ?_
          refine va_get (D := (dC, dI)) (ci := 4) (v := .ref a_lp_turns) (C := "LoopInduction$Loop") (T := F_Loop) (N := 9) hx hb hts iC_Loop hown hK hP 0 rfl rfl 1 (by decide) fl_15 (fun _ h9 => h9) rfl d_Loop_turn_28 ?_
          refine lv_iload_n hx hb d_Loop_turn_31 rfl (lv_at hl 2 rfl) ?_
          refine lv_sipush (v := 4096) hx hb d_Loop_turn_32 (by decide) ?_
          refine lv_imul hx hb d_Loop_turn_35 ?_
          refine lv_iload_n hx hb d_Loop_turn_36 rfl (lv_at hl 1 rfl) ?_
          refine lv_iadd hx hb d_Loop_turn_37 ?_
          obtain ⟨hin_38, h⟩ := h
          refine va_iald hx hb hK hP 1 0 rfl rfl hin_38 d_Loop_turn_38 ?_
          rw [← hQ]
          have hP9 := hP
          have hD9 := hD
          exact W.iret (v := lp_turns ((x2 * 4096) + x1 : Int32).toNatClampNeg) hx hb hr (fun t ht hW => ⟨⟨(lp_turns ((x2 * 4096) + x1 : Int32).toNatClampNeg), (), rfl, h, by rw [ht]; exact hP9, va_K.moved hW.alike hK, hD9⟩, hS.F ht⟩) hS.2.2 d_Loop_turn_39
        · have h := And.right h c_22
          refine lv_iconst (v := (-1)) hx hb d_Loop_turn_25 (by decide) ?_
          rw [← hQ]
          have hP9 := hP
          have hD9 := hD
          exact W.iret (v := (-1)) hx hb hr (fun t ht hW => ⟨⟨(-1), (), rfl, h, by rw [ht]; exact hP9, va_K.moved hW.alike hK, hD9⟩, hS.F ht⟩) hS.2.2 d_Loop_turn_26
set_option maxHeartbeats 4000000 in
set_option maxRecDepth 100000 in
theorem c_Loop_firstSource (l : Launch) (dC : Nat → ClassId) (dI : Nat → Nat → Nat) (cI cB cZ : ClassId) (adK adV : Nat → Nat) (sz : Nat) (a_lp a_lp_facts a_lp_turns a_lp_first a_lp_src a_s1 : Nat) (lp_choices : Int32) (lp_guesses : Int32) (lp_unaries : Int32) (lp_ranked : Int32) (lp_first : Nat → Int32) (x1 : Int32) (post : Int32 → Prop) (h : wp_Loop_firstSource x1 lp_first post) : Met l y_Loop_firstSource w_Loop_firstSource ({ frames := 1, cells := 0, slots := 0, locals := 20 }) (pc_ (dC, dI) [(cI, .int), (cB, .byte), (cZ, .boolean)] [(a_lp, .inr (4, [.ref a_lp_facts, .ref a_lp_turns, .ref a_lp_first, .ref a_lp_src, .ref a_s1, .int lp_choices, .int lp_guesses, .int lp_unaries, .int lp_ranked])), (a_lp_first, .inl (cI, 4097, .inl lp_first))] sz adK adV [.ref a_lp, .int x1]) (va_Qi (fun (r : Int32) (u : Unit) => post r ) (fun (u : Unit) t => bw_ (dC, dI) [(cI, .int), (cB, .byte), (cZ, .boolean)] (va_A [(a_lp, .inr (4, [.ref a_lp_facts, .ref a_lp_turns, .ref a_lp_first, .ref a_lp_src, .ref a_s1, .int lp_choices, .int lp_guesses, .int lp_unaries, .int lp_ranked])), (a_lp_first, .inl (cI, 4097, .inl lp_first))] sz) [(a_lp, .inr (4, [.ref a_lp_facts, .ref a_lp_turns, .ref a_lp_first, .ref a_lp_src, .ref a_s1, .int lp_choices, .int lp_guesses, .int lp_unaries, .int lp_ranked])), (a_lp_first, .inl (cI, 4097, .inl lp_first))] t) (va_A [(a_lp, .inr (4, [.ref a_lp_facts, .ref a_lp_turns, .ref a_lp_first, .ref a_lp_src, .ref a_s1, .int lp_choices, .int lp_guesses, .int lp_unaries, .int lp_ranked])), (a_lp_first, .inl (cI, 4097, .inl lp_first))] sz)) 0 0 (va_A [(a_lp, .inr (4, [.ref a_lp_facts, .ref a_lp_turns, .ref a_lp_first, .ref a_lp_src, .ref a_s1, .int lp_choices, .int lp_guesses, .int lp_unaries, .int lp_ranked])), (a_lp_first, .inl (cI, 4097, .inl lp_first))] sz) := by
  refine Met.ofW (cc := b_Loop_firstSource) (maxL := 2) (ret := (some .int)) (by decide) rfl ?_
  intro p e s m args below meth c s₁ B hml hv
  obtain ⟨rfl, hsz, hP, hK, hD0, hN, hT⟩ := hv
  have hx := B.exec
  have hb := B.bytes
  have hr := B.returns
  have hts := atoms_spec (ws := w_Loop_firstSource) B.pre
  have hown : s.vm.findClass "LoopInduction$Loop" = some m.cls := findClass_of_methodNamed B.named
  have hlocks := B.notSynchronized
  subst hsz
  have hD := hD0.self (sz := s.heap.size)
  generalize hAe : va_A [(a_lp, .inr (4, [.ref a_lp_facts, .ref a_lp_turns, .ref a_lp_first, .ref a_lp_src, .ref a_s1, .int lp_choices, .int lp_guesses, .int lp_unaries, .int lp_ranked])), (a_lp_first, .inl (cI, 4097, .inl lp_first))] s.heap.size = A at hD hT ⊢
  have hA : ∀ q : Nat, s.heap.size ≤ q → A q := fun q h => by rw [← hAe]; exact Or.inr h
  have hS : va_S A s.heap s.heap [] := va_S.rf
  generalize hQ : MQ below _ _ s 0 0 _ = QQ
  have hl := lv_entry ([.ref a_lp, .int x1]) (n := 2) (Nat.le_of_ble_eq_true rfl)
  rw [lg_entry_eq]
  generalize (lg_sl ([.ref a_lp, .int x1]) ++ List.replicate (2 - (lg_sl ([.ref a_lp, .int x1])).length) Slot.unset).toArray = ls at hl ⊢
  have hl : lv_has ls 2 [(0, .ref a_lp), (1, .int x1)] := hl
  have fl_18 := (hts _ (List.mem_cons_of_mem _ m_256))
  refine lv_iload_n hx hb d_Loop_firstSource_0 rfl (lv_at hl 1 rfl) ?_
  refine jn_i (wr := [(a_lp, .inr (4, [.ref a_lp_facts, .ref a_lp_turns, .ref a_lp_first, .ref a_lp_src, .ref a_s1, .int lp_choices, .int lp_guesses, .int lp_unaries, .int lp_ranked])), (a_lp_first, .inl (cI, 4097, .inl lp_first))]) (va_runSN (As := [.int x1]) (rest := []) ⟨hx, hb, hml, hown, hts⟩ (c_LI_isState l dC dI cI cB cZ adK adV _ x1 _ h) ⟨va_cnB 1 hts (ga_ m_762) rfl rfl rfl (hN _ (List.mem_of_getElem? (i := 4) rfl)) (hts _ (List.mem_cons_of_mem _ m_85)) pn_LI_isState ⟨Nat.le_of_ble_eq_true rfl, Nat.le_of_ble_eq_true rfl⟩, (hts _ (List.mem_cons_of_mem _ m_761)), trivial⟩ ⟨pc_blind, pc_of (hP.sub [] rfl) hK (hD.sub [] (by decide) rfl) hN hT hS hA⟩ rfl rfl hl.1 rfl (lv_room (Nat.le_of_ble_eq_true rfl)) d_Loop_firstSource_1 ⟨Nat.zero_le _, Nat.zero_le _⟩) hP hD hS hA [] [0, 1] rfl rfl (by decide) (by decide) (fun r_1 u_ H locs h hP hD hS => ?_)
  have hP : va_P (dC, dI) vwCl [(a_lp, .inr (4, [.ref a_lp_facts, .ref a_lp_turns, .ref a_lp_first, .ref a_lp_src, .ref a_s1, .int lp_choices, .int lp_guesses, .int lp_unaries, .int lp_ranked])), (a_lp_first, .inl (cI, 4097, .inl lp_first))] H := hP
  have hD : va_D A [(a_lp, .inr (4, [.ref a_lp_facts, .ref a_lp_turns, .ref a_lp_first, .ref a_lp_src, .ref a_s1, .int lp_choices, .int lp_guesses, .int lp_unaries, .int lp_ranked])), (a_lp_first, .inl (cI, 4097, .inl lp_first))] := hD
  refine lv_if_eq (tgt := 16) hx hb d_Loop_firstSource_4 (by decide) (fun c_4 => ?_) (fun c_4 => ?_)
  · have h := And.left h c_4
    refine lv_iconst (v := 0) hx hb d_Loop_firstSource_16 (by decide) ?_
    rw [← hQ]
    have hP9 := hP
    have hD9 := hD
    exact W.iret (v := 0) hx hb hr (fun t ht hW => ⟨⟨0, (), rfl, h, by rw [ht]; exact hP9, va_K.moved hW.alike hK, hD9⟩, hS.F ht⟩) hS.2.2 d_Loop_firstSource_17
  · have h := And.right h c_4
    refine lv_aload_n hx hb d_Loop_firstSource_7 rfl (lv_at hl 0 rfl) ?_
    refine va_get (D := (dC, dI)) (ci := 4) (v := .ref a_lp_first) (C := "LoopInduction$Loop") (T := F_Loop) (N := 9) hx hb hts iC_Loop hown hK hP 0 rfl rfl 2 (by decide) fl_18 (fun _ h9 => h9) rfl d_Loop_firstSource_8 ?_
    refine lv_iload_n hx hb d_Loop_firstSource_11 rfl (lv_at hl 1 rfl) ?_
    obtain ⟨hin_12, h⟩ := h
    refine va_iald hx hb hK hP 1 0 rfl rfl hin_12 d_Loop_firstSource_12 ?_
    refine lv_goto (tgt := 17) hx hb d_Loop_firstSource_13 (by decide) ?_
    rw [← hQ]
    have hP9 := hP
    have hD9 := hD
    exact W.iret (v := lp_first (x1 : Int32).toNatClampNeg) hx hb hr (fun t ht hW => ⟨⟨(lp_first (x1 : Int32).toNatClampNeg), (), rfl, h, by rw [ht]; exact hP9, va_K.moved hW.alike hK, hD9⟩, hS.F ht⟩) hS.2.2 d_Loop_firstSource_17
set_option maxHeartbeats 4000000 in
set_option maxRecDepth 100000 in
theorem c_Loop_lastSource (l : Launch) (dC : Nat → ClassId) (dI : Nat → Nat → Nat) (cI cB cZ : ClassId) (adK adV : Nat → Nat) (sz : Nat) (a_lp a_lp_facts a_lp_turns a_lp_first a_lp_src a_s1 : Nat) (lp_choices : Int32) (lp_guesses : Int32) (lp_unaries : Int32) (lp_ranked : Int32) (lp_first : Nat → Int32) (x1 : Int32) (post : Int32 → Prop) (h : wp_Loop_lastSource x1 lp_first post) : Met l y_Loop_lastSource w_Loop_lastSource ({ frames := 1, cells := 0, slots := 0, locals := 20 }) (pc_ (dC, dI) [(cI, .int), (cB, .byte), (cZ, .boolean)] [(a_lp, .inr (4, [.ref a_lp_facts, .ref a_lp_turns, .ref a_lp_first, .ref a_lp_src, .ref a_s1, .int lp_choices, .int lp_guesses, .int lp_unaries, .int lp_ranked])), (a_lp_first, .inl (cI, 4097, .inl lp_first))] sz adK adV [.ref a_lp, .int x1]) (va_Qi (fun (r : Int32) (u : Unit) => post r ) (fun (u : Unit) t => bw_ (dC, dI) [(cI, .int), (cB, .byte), (cZ, .boolean)] (va_A [(a_lp, .inr (4, [.ref a_lp_facts, .ref a_lp_turns, .ref a_lp_first, .ref a_lp_src, .ref a_s1, .int lp_choices, .int lp_guesses, .int lp_unaries, .int lp_ranked])), (a_lp_first, .inl (cI, 4097, .inl lp_first))] sz) [(a_lp, .inr (4, [.ref a_lp_facts, .ref a_lp_turns, .ref a_lp_first, .ref a_lp_src, .ref a_s1, .int lp_choices, .int lp_guesses, .int lp_unaries, .int lp_ranked])), (a_lp_first, .inl (cI, 4097, .inl lp_first))] t) (va_A [(a_lp, .inr (4, [.ref a_lp_facts, .ref a_lp_turns, .ref a_lp_first, .ref a_lp_src, .ref a_s1, .int lp_choices, .int lp_guesses, .int lp_unaries, .int lp_ranked])), (a_lp_first, .inl (cI, 4097, .inl lp_first))] sz)) 0 0 (va_A [(a_lp, .inr (4, [.ref a_lp_facts, .ref a_lp_turns, .ref a_lp_first, .ref a_lp_src, .ref a_s1, .int lp_choices, .int lp_guesses, .int lp_unaries, .int lp_ranked])), (a_lp_first, .inl (cI, 4097, .inl lp_first))] sz) := by
  refine Met.ofW (cc := b_Loop_lastSource) (maxL := 2) (ret := (some .int)) (by decide) rfl ?_
  intro p e s m args below meth c s₁ B hml hv
  obtain ⟨rfl, hsz, hP, hK, hD0, hN, hT⟩ := hv
  have hx := B.exec
  have hb := B.bytes
  have hr := B.returns
  have hts := atoms_spec (ws := w_Loop_lastSource) B.pre
  have hown : s.vm.findClass "LoopInduction$Loop" = some m.cls := findClass_of_methodNamed B.named
  have hlocks := B.notSynchronized
  subst hsz
  have hD := hD0.self (sz := s.heap.size)
  generalize hAe : va_A [(a_lp, .inr (4, [.ref a_lp_facts, .ref a_lp_turns, .ref a_lp_first, .ref a_lp_src, .ref a_s1, .int lp_choices, .int lp_guesses, .int lp_unaries, .int lp_ranked])), (a_lp_first, .inl (cI, 4097, .inl lp_first))] s.heap.size = A at hD hT ⊢
  have hA : ∀ q : Nat, s.heap.size ≤ q → A q := fun q h => by rw [← hAe]; exact Or.inr h
  have hS : va_S A s.heap s.heap [] := va_S.rf
  generalize hQ : MQ below _ _ s 0 0 _ = QQ
  have hl := lv_entry ([.ref a_lp, .int x1]) (n := 2) (Nat.le_of_ble_eq_true rfl)
  rw [lg_entry_eq]
  generalize (lg_sl ([.ref a_lp, .int x1]) ++ List.replicate (2 - (lg_sl ([.ref a_lp, .int x1])).length) Slot.unset).toArray = ls at hl ⊢
  have hl : lv_has ls 2 [(0, .ref a_lp), (1, .int x1)] := hl
  have fl_18 := (hts _ (List.mem_cons_of_mem _ m_256))
  refine lv_iload_n hx hb d_Loop_lastSource_0 rfl (lv_at hl 1 rfl) ?_
  refine jn_i (wr := [(a_lp, .inr (4, [.ref a_lp_facts, .ref a_lp_turns, .ref a_lp_first, .ref a_lp_src, .ref a_s1, .int lp_choices, .int lp_guesses, .int lp_unaries, .int lp_ranked])), (a_lp_first, .inl (cI, 4097, .inl lp_first))]) (va_runSN (As := [.int x1]) (rest := []) ⟨hx, hb, hml, hown, hts⟩ (c_LI_isState l dC dI cI cB cZ adK adV _ x1 _ h) ⟨va_cnB 1 hts (ga_ m_762) rfl rfl rfl (hN _ (List.mem_of_getElem? (i := 4) rfl)) (hts _ (List.mem_cons_of_mem _ m_85)) pn_LI_isState ⟨Nat.le_of_ble_eq_true rfl, Nat.le_of_ble_eq_true rfl⟩, (hts _ (List.mem_cons_of_mem _ m_761)), trivial⟩ ⟨pc_blind, pc_of (hP.sub [] rfl) hK (hD.sub [] (by decide) rfl) hN hT hS hA⟩ rfl rfl hl.1 rfl (lv_room (Nat.le_of_ble_eq_true rfl)) d_Loop_lastSource_1 ⟨Nat.zero_le _, Nat.zero_le _⟩) hP hD hS hA [] [0, 1] rfl rfl (by decide) (by decide) (fun r_1 u_ H locs h hP hD hS => ?_)
  have hP : va_P (dC, dI) vwCl [(a_lp, .inr (4, [.ref a_lp_facts, .ref a_lp_turns, .ref a_lp_first, .ref a_lp_src, .ref a_s1, .int lp_choices, .int lp_guesses, .int lp_unaries, .int lp_ranked])), (a_lp_first, .inl (cI, 4097, .inl lp_first))] H := hP
  have hD : va_D A [(a_lp, .inr (4, [.ref a_lp_facts, .ref a_lp_turns, .ref a_lp_first, .ref a_lp_src, .ref a_s1, .int lp_choices, .int lp_guesses, .int lp_unaries, .int lp_ranked])), (a_lp_first, .inl (cI, 4097, .inl lp_first))] := hD
  refine lv_if_eq (tgt := 20) hx hb d_Loop_lastSource_4 (by decide) (fun c_4 => ?_) (fun c_4 => ?_)
  · have h := And.left h c_4
    refine lv_iconst (v := (-1)) hx hb d_Loop_lastSource_20 (by decide) ?_
    rw [← hQ]
    have hP9 := hP
    have hD9 := hD
    exact W.iret (v := (-1)) hx hb hr (fun t ht hW => ⟨⟨(-1), (), rfl, h, by rw [ht]; exact hP9, va_K.moved hW.alike hK, hD9⟩, hS.F ht⟩) hS.2.2 d_Loop_lastSource_21
  · have h := And.right h c_4
    refine lv_aload_n hx hb d_Loop_lastSource_7 rfl (lv_at hl 0 rfl) ?_
    refine va_get (D := (dC, dI)) (ci := 4) (v := .ref a_lp_first) (C := "LoopInduction$Loop") (T := F_Loop) (N := 9) hx hb hts iC_Loop hown hK hP 0 rfl rfl 2 (by decide) fl_18 (fun _ h9 => h9) rfl d_Loop_lastSource_8 ?_
    refine lv_iload_n hx hb d_Loop_lastSource_11 rfl (lv_at hl 1 rfl) ?_
    refine lv_iconst (v := 1) hx hb d_Loop_lastSource_12 (by decide) ?_
    refine lv_iadd hx hb d_Loop_lastSource_13 ?_
    obtain ⟨hin_14, h⟩ := h
    refine va_iald hx hb hK hP 1 0 rfl rfl hin_14 d_Loop_lastSource_14 ?_
    refine lv_iconst (v := 1) hx hb d_Loop_lastSource_15 (by decide) ?_
    refine lv_isub hx hb d_Loop_lastSource_16 ?_
    refine lv_goto (tgt := 21) hx hb d_Loop_lastSource_17 (by decide) ?_
    rw [← hQ]
    have hP9 := hP
    have hD9 := hD
    exact W.iret (v := (lp_first (x1 + 1 : Int32).toNatClampNeg) - 1) hx hb hr (fun t ht hW => ⟨⟨((lp_first (x1 + 1 : Int32).toNatClampNeg) - 1), (), rfl, h, by rw [ht]; exact hP9, va_K.moved hW.alike hK, hD9⟩, hS.F ht⟩) hS.2.2 d_Loop_lastSource_21
set_option maxHeartbeats 4000000 in
set_option maxRecDepth 100000 in
theorem c_Loop_sourceAt (l : Launch) (dC : Nat → ClassId) (dI : Nat → Nat → Nat) (cI cB cZ : ClassId) (adK adV : Nat → Nat) (sz : Nat) (a_lp a_lp_facts a_lp_turns a_lp_first a_lp_src a_s1 : Nat) (lp_choices : Int32) (lp_guesses : Int32) (lp_unaries : Int32) (lp_ranked : Int32) (lp_src : Nat → Int32) (x1 : Int32) (post : Int32 → Prop) (h : wp_Loop_sourceAt x1 lp_src post) : Met l y_Loop_sourceAt w_Loop_sourceAt ({ frames := 0, cells := 0, slots := 0, locals := 0 }) (pc_ (dC, dI) [(cI, .int), (cB, .byte), (cZ, .boolean)] [(a_lp, .inr (4, [.ref a_lp_facts, .ref a_lp_turns, .ref a_lp_first, .ref a_lp_src, .ref a_s1, .int lp_choices, .int lp_guesses, .int lp_unaries, .int lp_ranked])), (a_lp_src, .inl (cI, 24576, .inl lp_src))] sz adK adV [.ref a_lp, .int x1]) (va_Qi (fun (r : Int32) (u : Unit) => post r ) (fun (u : Unit) t => bw_ (dC, dI) [(cI, .int), (cB, .byte), (cZ, .boolean)] (va_A [(a_lp, .inr (4, [.ref a_lp_facts, .ref a_lp_turns, .ref a_lp_first, .ref a_lp_src, .ref a_s1, .int lp_choices, .int lp_guesses, .int lp_unaries, .int lp_ranked])), (a_lp_src, .inl (cI, 24576, .inl lp_src))] sz) [(a_lp, .inr (4, [.ref a_lp_facts, .ref a_lp_turns, .ref a_lp_first, .ref a_lp_src, .ref a_s1, .int lp_choices, .int lp_guesses, .int lp_unaries, .int lp_ranked])), (a_lp_src, .inl (cI, 24576, .inl lp_src))] t) (va_A [(a_lp, .inr (4, [.ref a_lp_facts, .ref a_lp_turns, .ref a_lp_first, .ref a_lp_src, .ref a_s1, .int lp_choices, .int lp_guesses, .int lp_unaries, .int lp_ranked])), (a_lp_src, .inl (cI, 24576, .inl lp_src))] sz)) 0 0 (va_A [(a_lp, .inr (4, [.ref a_lp_facts, .ref a_lp_turns, .ref a_lp_first, .ref a_lp_src, .ref a_s1, .int lp_choices, .int lp_guesses, .int lp_unaries, .int lp_ranked])), (a_lp_src, .inl (cI, 24576, .inl lp_src))] sz) := by
  refine Met.ofW (cc := b_Loop_sourceAt) (maxL := 2) (ret := (some .int)) (by decide) rfl ?_
  intro p e s m args below meth c s₁ B hml hv
  obtain ⟨rfl, hsz, hP, hK, hD0, hN, hT⟩ := hv
  have hx := B.exec
  have hb := B.bytes
  have hr := B.returns
  have hts := atoms_spec (ws := w_Loop_sourceAt) B.pre
  have hown : s.vm.findClass "LoopInduction$Loop" = some m.cls := findClass_of_methodNamed B.named
  have hlocks := B.notSynchronized
  subst hsz
  have hD := hD0.self (sz := s.heap.size)
  generalize hAe : va_A [(a_lp, .inr (4, [.ref a_lp_facts, .ref a_lp_turns, .ref a_lp_first, .ref a_lp_src, .ref a_s1, .int lp_choices, .int lp_guesses, .int lp_unaries, .int lp_ranked])), (a_lp_src, .inl (cI, 24576, .inl lp_src))] s.heap.size = A at hD hT ⊢
  have hA : ∀ q : Nat, s.heap.size ≤ q → A q := fun q h => by rw [← hAe]; exact Or.inr h
  have hS : va_S A s.heap s.heap [] := va_S.rf
  generalize hQ : MQ below _ _ s 0 0 _ = QQ
  have hl := lv_entry ([.ref a_lp, .int x1]) (n := 2) (Nat.le_of_ble_eq_true rfl)
  rw [lg_entry_eq]
  generalize (lg_sl ([.ref a_lp, .int x1]) ++ List.replicate (2 - (lg_sl ([.ref a_lp, .int x1])).length) Slot.unset).toArray = ls at hl ⊢
  have hl : lv_has ls 2 [(0, .ref a_lp), (1, .int x1)] := hl
  have fl_21 := (hts _ (List.mem_cons_of_mem _ m_257))
  refine lv_iload_n hx hb d_Loop_sourceAt_0 rfl (lv_at hl 1 rfl) ?_
  refine lv_if_lt (tgt := 22) hx hb d_Loop_sourceAt_1 (by decide) (fun c_1 => ?_) (fun c_1 => ?_)
  · have h := And.left h c_1
    refine lv_iconst (v := 0) hx hb d_Loop_sourceAt_22 (by decide) ?_
    rw [← hQ]
    have hP9 := hP
    have hD9 := hD
    exact W.iret (v := 0) hx hb hr (fun t ht hW => ⟨⟨0, (), rfl, h, by rw [ht]; exact hP9, va_K.moved hW.alike hK, hD9⟩, hS.F ht⟩) hS.2.2 d_Loop_sourceAt_23
  · have h := And.right h c_1
    refine lv_iload_n hx hb d_Loop_sourceAt_4 rfl (lv_at hl 1 rfl) ?_
    refine lv_aload_n hx hb d_Loop_sourceAt_5 rfl (lv_at hl 0 rfl) ?_
    refine va_get (D := (dC, dI)) (ci := 4) (v := .ref a_lp_src) (C := "LoopInduction$Loop") (T := F_Loop) (N := 9) hx hb hts iC_Loop hown hK hP 0 rfl rfl 3 (by decide) fl_21 (fun _ h9 => h9) rfl d_Loop_sourceAt_6 ?_
    refine va_alen (v := 24576) hx hb hK hP 1 0 rfl rfl rfl d_Loop_sourceAt_9 ?_
    refine lv_icmp_ge (tgt := 22) hx hb d_Loop_sourceAt_10 (by decide) (fun c_10 => ?_) (fun c_10 => ?_)
    · have h := And.left h c_10
      refine lv_iconst (v := 0) hx hb d_Loop_sourceAt_22 (by decide) ?_
      rw [← hQ]
      have hP9 := hP
      have hD9 := hD
      exact W.iret (v := 0) hx hb hr (fun t ht hW => ⟨⟨0, (), rfl, h, by rw [ht]; exact hP9, va_K.moved hW.alike hK, hD9⟩, hS.F ht⟩) hS.2.2 d_Loop_sourceAt_23
    · have h := And.right h c_10
      refine lv_aload_n hx hb d_Loop_sourceAt_13 rfl (lv_at hl 0 rfl) ?_
      refine va_get (D := (dC, dI)) (ci := 4) (v := .ref a_lp_src) (C := "LoopInduction$Loop") (T := F_Loop) (N := 9) hx hb hts iC_Loop hown hK hP 0 rfl rfl 3 (by decide) fl_21 (fun _ h9 => h9) rfl d_Loop_sourceAt_14 ?_
      refine lv_iload_n hx hb d_Loop_sourceAt_17 rfl (lv_at hl 1 rfl) ?_
      obtain ⟨hin_18, h⟩ := h
      refine va_iald hx hb hK hP 1 0 rfl rfl hin_18 d_Loop_sourceAt_18 ?_
      refine lv_goto (tgt := 23) hx hb d_Loop_sourceAt_19 (by decide) ?_
      rw [← hQ]
      have hP9 := hP
      have hD9 := hD
      exact W.iret (v := lp_src (x1 : Int32).toNatClampNeg) hx hb hr (fun t ht hW => ⟨⟨(lp_src (x1 : Int32).toNatClampNeg), (), rfl, h, by rw [ht]; exact hP9, va_K.moved hW.alike hK, hD9⟩, hS.F ht⟩) hS.2.2 d_Loop_sourceAt_23
set_option maxHeartbeats 4000000 in
set_option maxRecDepth 100000 in
theorem c_Loop_countWith (l : Launch) (dC : Nat → ClassId) (dI : Nat → Nat → Nat) (cI cB cZ : ClassId) (adK adV : Nat → Nat) (sz : Nat) (a_lp a_lp_facts a_lp_turns a_lp_first a_lp_src a_s1 : Nat) (lp_choices : Int32) (lp_guesses : Int32) (lp_unaries : Int32) (lp_ranked : Int32) (lp_facts : Nat → Int32) (x1 : Int32) (post : Int32 → Prop) (h : wp_Loop_countWith x1 lp_facts post) : Met l y_Loop_countWith w_Loop_countWith ({ frames := 2, cells := 0, slots := 0, locals := 42 }) (pc_ (dC, dI) [(cI, .int), (cB, .byte), (cZ, .boolean)] [(a_lp, .inr (4, [.ref a_lp_facts, .ref a_lp_turns, .ref a_lp_first, .ref a_lp_src, .ref a_s1, .int lp_choices, .int lp_guesses, .int lp_unaries, .int lp_ranked])), (a_lp_facts, .inl (cI, 4096, .inl lp_facts))] sz adK adV [.ref a_lp, .int x1]) (va_Qi (fun (r : Int32) (u : Unit) => post r ) (fun (u : Unit) t => bw_ (dC, dI) [(cI, .int), (cB, .byte), (cZ, .boolean)] (va_A [(a_lp, .inr (4, [.ref a_lp_facts, .ref a_lp_turns, .ref a_lp_first, .ref a_lp_src, .ref a_s1, .int lp_choices, .int lp_guesses, .int lp_unaries, .int lp_ranked])), (a_lp_facts, .inl (cI, 4096, .inl lp_facts))] sz) [(a_lp, .inr (4, [.ref a_lp_facts, .ref a_lp_turns, .ref a_lp_first, .ref a_lp_src, .ref a_s1, .int lp_choices, .int lp_guesses, .int lp_unaries, .int lp_ranked])), (a_lp_facts, .inl (cI, 4096, .inl lp_facts))] t) (va_A [(a_lp, .inr (4, [.ref a_lp_facts, .ref a_lp_turns, .ref a_lp_first, .ref a_lp_src, .ref a_s1, .int lp_choices, .int lp_guesses, .int lp_unaries, .int lp_ranked])), (a_lp_facts, .inl (cI, 4096, .inl lp_facts))] sz)) 0 0 (va_A [(a_lp, .inr (4, [.ref a_lp_facts, .ref a_lp_turns, .ref a_lp_first, .ref a_lp_src, .ref a_s1, .int lp_choices, .int lp_guesses, .int lp_unaries, .int lp_ranked])), (a_lp_facts, .inl (cI, 4096, .inl lp_facts))] sz) := by
  refine Met.ofW (cc := b_Loop_countWith) (maxL := 4) (ret := (some .int)) (by decide) rfl ?_
  intro p e s m args below meth c s₁ B hml hv
  obtain ⟨rfl, hsz, hP, hK, hD0, hN, hT⟩ := hv
  have hx := B.exec
  have hb := B.bytes
  have hr := B.returns
  have hts := atoms_spec (ws := w_Loop_countWith) B.pre
  have hown : s.vm.findClass "LoopInduction$Loop" = some m.cls := findClass_of_methodNamed B.named
  have hlocks := B.notSynchronized
  subst hsz
  have hD := hD0.self (sz := s.heap.size)
  generalize hAe : va_A [(a_lp, .inr (4, [.ref a_lp_facts, .ref a_lp_turns, .ref a_lp_first, .ref a_lp_src, .ref a_s1, .int lp_choices, .int lp_guesses, .int lp_unaries, .int lp_ranked])), (a_lp_facts, .inl (cI, 4096, .inl lp_facts))] s.heap.size = A at hD hT ⊢
  have hA : ∀ q : Nat, s.heap.size ≤ q → A q := fun q h => by rw [← hAe]; exact Or.inr h
  have hS : va_S A s.heap s.heap [] := va_S.rf
  generalize hQ : MQ below _ _ s 0 0 _ = QQ
  have hl := lv_entry ([.ref a_lp, .int x1]) (n := 4) (Nat.le_of_ble_eq_true rfl)
  rw [lg_entry_eq]
  generalize (lg_sl ([.ref a_lp, .int x1]) ++ List.replicate (4 - (lg_sl ([.ref a_lp, .int x1])).length) Slot.unset).toArray = ls at hl ⊢
  have hl : lv_has ls 4 [(0, .ref a_lp), (1, .int x1)] := hl
  refine lv_iconst (v := 0) hx hb d_Loop_countWith_0 (by decide) ?_
  refine lv_istore_n (lv' := [(2, .int 0), (0, .ref a_lp), (1, .int x1)]) hx hb d_Loop_countWith_1 rfl hl (by decide) rfl (fun ls hl => ?_)
  refine lv_iconst (v := 0) hx hb d_Loop_countWith_2 (by decide) ?_
  refine lv_istore_n (lv' := [(3, .int 0), (2, .int 0), (0, .ref a_lp), (1, .int x1)]) hx hb d_Loop_countWith_3 rfl hl (by decide) rfl (fun ls hl => ?_)
  have L4_q_3 : ∀ (k29 : Int32 → Prop) (hk29 : ∀ (x2_4 : Int32), k29 x2_4 → ∀ (H : Heap) (locs : List Loc), va_P (dC, dI) vwCl [(a_lp, .inr (4, [.ref a_lp_facts, .ref a_lp_turns, .ref a_lp_first, .ref a_lp_src, .ref a_s1, .int lp_choices, .int lp_guesses, .int lp_unaries, .int lp_ranked])), (a_lp_facts, .inl (cI, 4096, .inl lp_facts))] H → va_D A [(a_lp, .inr (4, [.ref a_lp_facts, .ref a_lp_turns, .ref a_lp_first, .ref a_lp_src, .ref a_s1, .int lp_choices, .int lp_guesses, .int lp_unaries, .int lp_ranked])), (a_lp_facts, .inl (cI, 4096, .inl lp_facts))] → va_S A s.heap H locs → ∀ ls : Array Slot, lv_has ls 4 [(2, .int x2_4)] → W p l e (headSpec w_Loop_countWith ({ frames := 2, cells := 0, slots := 0, locals := 42 })).room s m (([.ref a_lp, .int x1] : List Value).toArray) below meth c H locs 0 0 QQ (F0 m 29 ls [])) (n : Nat) (x2_1 : Int32) (x3_2 : Int32), wp_Loop_countWith_L4 x1 lp_facts k29 n x2_1 x3_2 → ∀ (H : Heap) (locs : List Loc), va_P (dC, dI) vwCl [(a_lp, .inr (4, [.ref a_lp_facts, .ref a_lp_turns, .ref a_lp_first, .ref a_lp_src, .ref a_s1, .int lp_choices, .int lp_guesses, .int lp_unaries, .int lp_ranked])), (a_lp_facts, .inl (cI, 4096, .inl lp_facts))] H → va_D A [(a_lp, .inr (4, [.ref a_lp_facts, .ref a_lp_turns, .ref a_lp_first, .ref a_lp_src, .ref a_s1, .int lp_choices, .int lp_guesses, .int lp_unaries, .int lp_ranked])), (a_lp_facts, .inl (cI, 4096, .inl lp_facts))] → va_S A s.heap H locs → ∀ ls : Array Slot, lv_has ls 4 [(0, .ref a_lp), (1, .int x1), (2, .int x2_1), (3, .int x3_2)] → W p l e (headSpec w_Loop_countWith ({ frames := 2, cells := 0, slots := 0, locals := 42 })).room s m (([.ref a_lp, .int x1] : List Value).toArray) below meth c H locs 0 0 QQ (F0 m 4 ls []) := by
    intro k29 hk29 n
    induction n with
    | zero => intro x2_1 x3_2 h; exact (show False from h).elim
    | succ n il =>
      intro x2_1 x3_2 h
      intro H locs hP hD hS ls hl
      refine lv_iload_n hx hb d_Loop_countWith_4 rfl (lv_at hl 3 rfl) ?_
      refine lv_sipush (v := 4096) hx hb d_Loop_countWith_5 (by decide) ?_
      refine lv_icmp_ge (tgt := 29) hx hb d_Loop_countWith_8 (by decide) (fun c_8 => ?_) (fun c_8 => ?_)
      · have h := And.left h c_8
        exact hk29 _ h _ _ hP hD hS _ (lv_sub hl [2] rfl)
      · have h := And.right h c_8
        refine lv_aload_n hx hb d_Loop_countWith_11 rfl (lv_at hl 0 rfl) ?_
        refine lv_iload_n hx hb d_Loop_countWith_12 rfl (lv_at hl 3 rfl) ?_
        refine lv_iload_n hx hb d_Loop_countWith_13 rfl (lv_at hl 1 rfl) ?_
        refine jn_i (wr := []) (va_runV (As := [.int x3_2, .int x1]) (rest := []) ⟨hx, hb, hml, hown, hts⟩ (c_Loop_hasAll l dC dI cI cB cZ adK adV _ a_lp a_lp_facts a_lp_turns a_lp_first a_lp_src a_s1 lp_choices lp_guesses lp_unaries lp_ranked lp_facts x3_2 x1 _ h) (cwV 2 hts (gv_ m_931 m_785 m_786 m_92 m_787) rfl rfl rfl pd_Loop_hasAll ⟨Nat.le_of_ble_eq_true rfl, Nat.le_of_ble_eq_true rfl⟩) ⟨pc_blind, va_recv hK hP (ci := 4) (q0 := 0) rfl rfl, pc_of (hP.sub [0, 1] rfl) hK (hD.sub [0, 1] (by decide) rfl) hN hT hS hA⟩ rfl rfl hl.1 rfl (lv_room (Nat.le_of_ble_eq_true rfl)) d_Loop_countWith_14 ⟨Nat.zero_le _, Nat.zero_le _⟩) hP hD hS hA [0, 1] [] rfl rfl (by decide) (by decide) (fun r_5 u_ H locs h hP hD hS => ?_)
        have hP : va_P (dC, dI) vwCl [(a_lp, .inr (4, [.ref a_lp_facts, .ref a_lp_turns, .ref a_lp_first, .ref a_lp_src, .ref a_s1, .int lp_choices, .int lp_guesses, .int lp_unaries, .int lp_ranked])), (a_lp_facts, .inl (cI, 4096, .inl lp_facts))] H := hP
        have hD : va_D A [(a_lp, .inr (4, [.ref a_lp_facts, .ref a_lp_turns, .ref a_lp_first, .ref a_lp_src, .ref a_s1, .int lp_choices, .int lp_guesses, .int lp_unaries, .int lp_ranked])), (a_lp_facts, .inl (cI, 4096, .inl lp_facts))] := hD
        refine lv_if_eq (tgt := 23) hx hb d_Loop_countWith_17 (by decide) (fun c_17 => ?_) (fun c_17 => ?_)
        · have h := And.left h c_17
          refine lv_iinc (v := x3_2 + 1) (lv' := [(3, .int (x3_2 + 1)), (0, .ref a_lp), (1, .int x1), (2, .int x2_1)]) hx hb d_Loop_countWith_23 hl (k := 3) rfl rfl (by decide) rfl (fun ls hl => ?_)
          refine lv_goto (tgt := 4) hx hb d_Loop_countWith_26 (by decide) ?_
          exact il _ _ h _ _ hP hD hS _ (lv_sub hl [1, 2, 3, 0] rfl)
        · have h := And.right h c_17
          refine lv_iinc (v := x2_1 + 1) (lv' := [(2, .int (x2_1 + 1)), (0, .ref a_lp), (1, .int x1), (3, .int x3_2)]) hx hb d_Loop_countWith_20 hl (k := 2) rfl rfl (by decide) rfl (fun ls hl => ?_)
          refine lv_iinc (v := x3_2 + 1) (lv' := [(3, .int (x3_2 + 1)), (2, .int (x2_1 + 1)), (0, .ref a_lp), (1, .int x1)]) hx hb d_Loop_countWith_23 hl (k := 3) rfl rfl (by decide) rfl (fun ls hl => ?_)
          refine lv_goto (tgt := 4) hx hb d_Loop_countWith_26 (by decide) ?_
          exact il _ _ h _ _ hP hD hS _ (lv_sub hl [2, 3, 1, 0] rfl)
  obtain ⟨n_, h⟩ := h
  refine L4_q_3 _ ?_ n_ _ _ h _ _ hP hD hS _ (lv_sub hl [2, 3, 1, 0] rfl)
  intro x2_6 h
  intro H locs hP hD hS ls hl
  refine lv_iload_n hx hb d_Loop_countWith_29 rfl (lv_at hl 0 rfl) ?_
  rw [← hQ]
  have hP9 := hP
  have hD9 := hD
  exact W.iret (v := x2_6) hx hb hr (fun t ht hW => ⟨⟨x2_6, (), rfl, h, by rw [ht]; exact hP9, va_K.moved hW.alike hK, hD9⟩, hS.F ht⟩) hS.2.2 d_Loop_countWith_30
set_option maxHeartbeats 4000000 in
set_option maxRecDepth 100000 in
theorem c_Loop_countTurns (l : Launch) (dC : Nat → ClassId) (dI : Nat → Nat → Nat) (cI cB cZ : ClassId) (adK adV : Nat → Nat) (sz : Nat) (a_lp a_lp_facts a_lp_turns a_lp_first a_lp_src a_s1 a_X0 : Nat) (lp_choices : Int32) (lp_guesses : Int32) (lp_unaries : Int32) (lp_ranked : Int32) (lp_turns : Nat → Int32) (X0 : Nat → Int32) (post : (Nat → Int32) → Prop) (h : wp_Loop_countTurns lp_choices lp_turns X0 post) : Met l y_Loop_countTurns w_Loop_countTurns ({ frames := 2, cells := 0, slots := 0, locals := 42 }) (pc_ (dC, dI) [(cI, .int), (cB, .byte), (cZ, .boolean)] [(a_lp, .inr (4, [.ref a_lp_facts, .ref a_lp_turns, .ref a_lp_first, .ref a_lp_src, .ref a_s1, .int lp_choices, .int lp_guesses, .int lp_unaries, .int lp_ranked])), (a_lp_turns, .inl (cI, 24576, .inl lp_turns)), (a_X0, .inl (cI, 4096, .inl X0))] sz adK adV [.ref a_lp, .ref a_X0]) (va_Qv (fun (u : (Nat → Int32)) => post u) (fun (u : (Nat → Int32)) t => bw_ (dC, dI) [(cI, .int), (cB, .byte), (cZ, .boolean)] (va_A [(a_lp, .inr (4, [.ref a_lp_facts, .ref a_lp_turns, .ref a_lp_first, .ref a_lp_src, .ref a_s1, .int lp_choices, .int lp_guesses, .int lp_unaries, .int lp_ranked])), (a_lp_turns, .inl (cI, 24576, .inl lp_turns)), (a_X0, .inl (cI, 4096, .inl X0))] sz) [(a_lp, .inr (4, [.ref a_lp_facts, .ref a_lp_turns, .ref a_lp_first, .ref a_lp_src, .ref a_s1, .int lp_choices, .int lp_guesses, .int lp_unaries, .int lp_ranked])), (a_lp_turns, .inl (cI, 24576, .inl lp_turns)), (a_X0, .inl (cI, 4096, .inl u))] t) (va_A [(a_lp, .inr (4, [.ref a_lp_facts, .ref a_lp_turns, .ref a_lp_first, .ref a_lp_src, .ref a_s1, .int lp_choices, .int lp_guesses, .int lp_unaries, .int lp_ranked])), (a_lp_turns, .inl (cI, 24576, .inl lp_turns)), (a_X0, .inl (cI, 4096, .inl X0))] sz)) 0 0 (va_A [(a_lp, .inr (4, [.ref a_lp_facts, .ref a_lp_turns, .ref a_lp_first, .ref a_lp_src, .ref a_s1, .int lp_choices, .int lp_guesses, .int lp_unaries, .int lp_ranked])), (a_lp_turns, .inl (cI, 24576, .inl lp_turns)), (a_X0, .inl (cI, 4096, .inl X0))] sz) := by
  refine Met.ofW (cc := b_Loop_countTurns) (maxL := 4) (ret := none) (by decide) rfl ?_
  intro p e s m args below meth c s₁ B hml hv
  obtain ⟨rfl, hsz, hP, hK, hD0, hN, hT⟩ := hv
  have hx := B.exec
  have hb := B.bytes
  have hr := B.returns
  have hts := atoms_spec (ws := w_Loop_countTurns) B.pre
  have hown : s.vm.findClass "LoopInduction$Loop" = some m.cls := findClass_of_methodNamed B.named
  have hlocks := B.notSynchronized
  subst hsz
  have hD := hD0.self (sz := s.heap.size)
  generalize hAe : va_A [(a_lp, .inr (4, [.ref a_lp_facts, .ref a_lp_turns, .ref a_lp_first, .ref a_lp_src, .ref a_s1, .int lp_choices, .int lp_guesses, .int lp_unaries, .int lp_ranked])), (a_lp_turns, .inl (cI, 24576, .inl lp_turns)), (a_X0, .inl (cI, 4096, .inl X0))] s.heap.size = A at hD hT ⊢
  have hA : ∀ q : Nat, s.heap.size ≤ q → A q := fun q h => by rw [← hAe]; exact Or.inr h
  have hS : va_S A s.heap s.heap [] := va_S.rf
  generalize hQ : MQ below _ _ s 0 0 _ = QQ
  have hl := lv_entry ([.ref a_lp, .ref a_X0]) (n := 4) (Nat.le_of_ble_eq_true rfl)
  rw [lg_entry_eq]
  generalize (lg_sl ([.ref a_lp, .ref a_X0]) ++ List.replicate (4 - (lg_sl ([.ref a_lp, .ref a_X0])).length) Slot.unset).toArray = ls at hl ⊢
  have hl : lv_has ls 4 [(0, .ref a_lp), (1, .ref a_X0)] := hl
  have fl_24 := (hts _ (List.mem_cons_of_mem _ m_259))
  refine lv_iconst (v := 0) hx hb d_Loop_countTurns_0 (by decide) ?_
  refine lv_istore_n (lv' := [(2, .int 0), (0, .ref a_lp), (1, .ref a_X0)]) hx hb d_Loop_countTurns_1 rfl hl (by decide) rfl (fun ls hl => ?_)
  have L2_q_3 : ∀ (k58 : (Nat → Int32) → Prop) (hk58 : ∀ (X0_4 : Nat → Int32), k58 X0_4 → ∀ (H : Heap) (locs : List Loc), va_P (dC, dI) vwCl [(a_lp, .inr (4, [.ref a_lp_facts, .ref a_lp_turns, .ref a_lp_first, .ref a_lp_src, .ref a_s1, .int lp_choices, .int lp_guesses, .int lp_unaries, .int lp_ranked])), (a_lp_turns, .inl (cI, 24576, .inl lp_turns)), (a_X0, .inl (cI, 4096, .inl X0_4))] H → va_D A [(a_lp, .inr (4, [.ref a_lp_facts, .ref a_lp_turns, .ref a_lp_first, .ref a_lp_src, .ref a_s1, .int lp_choices, .int lp_guesses, .int lp_unaries, .int lp_ranked])), (a_lp_turns, .inl (cI, 24576, .inl lp_turns)), (a_X0, .inl (cI, 4096, .inl X0_4))] → va_S A s.heap H locs → ∀ ls : Array Slot, lv_has ls 4 [] → W p l e (headSpec w_Loop_countTurns ({ frames := 2, cells := 0, slots := 0, locals := 42 })).room s m (([.ref a_lp, .ref a_X0] : List Value).toArray) below meth c H locs 0 0 QQ (F0 m 58 ls [])) (n : Nat) (x2_1 : Int32) (X0_2 : Nat → Int32), wp_Loop_countTurns_L2 lp_choices lp_turns k58 n x2_1 X0_2 → ∀ (H : Heap) (locs : List Loc), va_P (dC, dI) vwCl [(a_lp, .inr (4, [.ref a_lp_facts, .ref a_lp_turns, .ref a_lp_first, .ref a_lp_src, .ref a_s1, .int lp_choices, .int lp_guesses, .int lp_unaries, .int lp_ranked])), (a_lp_turns, .inl (cI, 24576, .inl lp_turns)), (a_X0, .inl (cI, 4096, .inl X0_2))] H → va_D A [(a_lp, .inr (4, [.ref a_lp_facts, .ref a_lp_turns, .ref a_lp_first, .ref a_lp_src, .ref a_s1, .int lp_choices, .int lp_guesses, .int lp_unaries, .int lp_ranked])), (a_lp_turns, .inl (cI, 24576, .inl lp_turns)), (a_X0, .inl (cI, 4096, .inl X0_2))] → va_S A s.heap H locs → ∀ ls : Array Slot, lv_has ls 4 [(0, .ref a_lp), (1, .ref a_X0), (2, .int x2_1)] → W p l e (headSpec w_Loop_countTurns ({ frames := 2, cells := 0, slots := 0, locals := 42 })).room s m (([.ref a_lp, .ref a_X0] : List Value).toArray) below meth c H locs 0 0 QQ (F0 m 2 ls []) := by
    intro k58 hk58 n
    induction n with
    | zero => intro x2_1 X0_2 h; exact (show False from h).elim
    | succ n il =>
      intro x2_1 X0_2 h
      intro H locs hP hD hS ls hl
      refine lv_iload_n hx hb d_Loop_countTurns_2 rfl (lv_at hl 2 rfl) ?_
      refine lv_sipush (v := 4096) hx hb d_Loop_countTurns_3 (by decide) ?_
      refine lv_icmp_ge (tgt := 58) hx hb d_Loop_countTurns_6 (by decide) (fun c_6 => ?_) (fun c_6 => ?_)
      · have h := And.left h c_6
        exact hk58 _ h _ _ hP hD hS _ (lv_sub hl [] rfl)
      · have h := And.right h c_6
        refine lv_iload_n hx hb d_Loop_countTurns_9 rfl (lv_at hl 2 rfl) ?_
        refine lv_aload_n hx hb d_Loop_countTurns_10 rfl (lv_at hl 1 rfl) ?_
        refine va_alen (v := 4096) hx hb hK hP 2 0 rfl rfl rfl d_Loop_countTurns_11 ?_
        refine lv_icmp_ge (tgt := 58) hx hb d_Loop_countTurns_12 (by decide) (fun c_12 => ?_) (fun c_12 => ?_)
        · have h := And.left h c_12
          exact hk58 _ h _ _ hP hD hS _ (lv_sub hl [] rfl)
        · have h := And.right h c_12
          refine lv_aload_n hx hb d_Loop_countTurns_15 rfl (lv_at hl 1 rfl) ?_
          refine lv_iload_n hx hb d_Loop_countTurns_16 rfl (lv_at hl 2 rfl) ?_
          refine lv_iconst (v := 0) hx hb d_Loop_countTurns_17 (by decide) ?_
          obtain ⟨hin_18, h⟩ := h
          refine va_iast hx hb hK hP hD hS 2 0 rfl rfl hin_18 d_Loop_countTurns_18 (fun H locs hP hD hS => ?_)
          have hP : va_P (dC, dI) vwCl [(a_lp, .inr (4, [.ref a_lp_facts, .ref a_lp_turns, .ref a_lp_first, .ref a_lp_src, .ref a_s1, .int lp_choices, .int lp_guesses, .int lp_unaries, .int lp_ranked])), (a_lp_turns, .inl (cI, 24576, .inl lp_turns)), (a_X0, .inl (cI, 4096, .inl (upd X0_2 (x2_1 : Int32).toNatClampNeg 0)))] H := hP
          have hD : va_D A [(a_lp, .inr (4, [.ref a_lp_facts, .ref a_lp_turns, .ref a_lp_first, .ref a_lp_src, .ref a_s1, .int lp_choices, .int lp_guesses, .int lp_unaries, .int lp_ranked])), (a_lp_turns, .inl (cI, 24576, .inl lp_turns)), (a_X0, .inl (cI, 4096, .inl (upd X0_2 (x2_1 : Int32).toNatClampNeg 0)))] := hD
          refine lv_iconst (v := 0) hx hb d_Loop_countTurns_19 (by decide) ?_
          refine lv_istore_n (lv' := [(3, .int 0), (0, .ref a_lp), (1, .ref a_X0), (2, .int x2_1)]) hx hb d_Loop_countTurns_20 rfl hl (by decide) rfl (fun ls hl => ?_)
          have L21_q_7 : ∀ (k52 : (Nat → Int32) → Prop) (hk52 : ∀ (X0_8 : Nat → Int32), k52 X0_8 → ∀ (H : Heap) (locs : List Loc), va_P (dC, dI) vwCl [(a_lp, .inr (4, [.ref a_lp_facts, .ref a_lp_turns, .ref a_lp_first, .ref a_lp_src, .ref a_s1, .int lp_choices, .int lp_guesses, .int lp_unaries, .int lp_ranked])), (a_lp_turns, .inl (cI, 24576, .inl lp_turns)), (a_X0, .inl (cI, 4096, .inl X0_8))] H → va_D A [(a_lp, .inr (4, [.ref a_lp_facts, .ref a_lp_turns, .ref a_lp_first, .ref a_lp_src, .ref a_s1, .int lp_choices, .int lp_guesses, .int lp_unaries, .int lp_ranked])), (a_lp_turns, .inl (cI, 24576, .inl lp_turns)), (a_X0, .inl (cI, 4096, .inl X0_8))] → va_S A s.heap H locs → ∀ ls : Array Slot, lv_has ls 4 [(0, .ref a_lp), (1, .ref a_X0), (2, .int x2_1)] → W p l e (headSpec w_Loop_countTurns ({ frames := 2, cells := 0, slots := 0, locals := 42 })).room s m (([.ref a_lp, .ref a_X0] : List Value).toArray) below meth c H locs 0 0 QQ (F0 m 52 ls [])) (n : Nat) (x3_5 : Int32) (X0_6 : Nat → Int32), wp_Loop_countTurns_L21 x2_1 lp_choices lp_turns k52 n x3_5 X0_6 → ∀ (H : Heap) (locs : List Loc), va_P (dC, dI) vwCl [(a_lp, .inr (4, [.ref a_lp_facts, .ref a_lp_turns, .ref a_lp_first, .ref a_lp_src, .ref a_s1, .int lp_choices, .int lp_guesses, .int lp_unaries, .int lp_ranked])), (a_lp_turns, .inl (cI, 24576, .inl lp_turns)), (a_X0, .inl (cI, 4096, .inl X0_6))] H → va_D A [(a_lp, .inr (4, [.ref a_lp_facts, .ref a_lp_turns, .ref a_lp_first, .ref a_lp_src, .ref a_s1, .int lp_choices, .int lp_guesses, .int lp_unaries, .int lp_ranked])), (a_lp_turns, .inl (cI, 24576, .inl lp_turns)), (a_X0, .inl (cI, 4096, .inl X0_6))] → va_S A s.heap H locs → ∀ ls : Array Slot, lv_has ls 4 [(0, .ref a_lp), (1, .ref a_X0), (2, .int x2_1), (3, .int x3_5)] → W p l e (headSpec w_Loop_countTurns ({ frames := 2, cells := 0, slots := 0, locals := 42 })).room s m (([.ref a_lp, .ref a_X0] : List Value).toArray) below meth c H locs 0 0 QQ (F0 m 21 ls []) := by
            intro k52 hk52 n
            induction n with
            | zero => intro x3_5 X0_6 h; exact (show False from h).elim
            | succ n il =>
              intro x3_5 X0_6 h
              intro H locs hP hD hS ls hl
              refine lv_iload_n hx hb d_Loop_countTurns_21 rfl (lv_at hl 3 rfl) ?_
              refine lv_aload_n hx hb d_Loop_countTurns_22 rfl (lv_at hl 0 rfl) ?_
              refine va_get (D := (dC, dI)) (ci := 4) (v := .int lp_choices) (C := "LoopInduction$Loop") (T := F_Loop) (N := 9) hx hb hts iC_Loop hown hK hP 0 rfl rfl 5 (by decide) fl_24 (fun _ h9 => h9) rfl d_Loop_countTurns_23 ?_
              refine lv_icmp_ge (tgt := 52) hx hb d_Loop_countTurns_26 (by decide) (fun c_26 => ?_) (fun c_26 => ?_)
              · have h := And.left h c_26
                exact hk52 _ h _ _ hP hD hS _ (lv_sub hl [0, 1, 2] rfl)
              · have h := And.right h c_26
                refine lv_aload_n hx hb d_Loop_countTurns_29 rfl (lv_at hl 0 rfl) ?_
                refine lv_iload_n hx hb d_Loop_countTurns_30 rfl (lv_at hl 2 rfl) ?_
                refine lv_iload_n hx hb d_Loop_countTurns_31 rfl (lv_at hl 3 rfl) ?_
                refine jn_i (wr := [(a_X0, .inl (cI, 4096, .inl X0_6))]) (va_runV (As := [.int x2_1, .int x3_5]) (rest := []) ⟨hx, hb, hml, hown, hts⟩ (c_Loop_turn l dC dI cI cB cZ adK adV _ a_lp a_lp_facts a_lp_turns a_lp_first a_lp_src a_s1 lp_choices lp_guesses lp_unaries lp_ranked lp_turns x2_1 x3_5 _ h) (cwV 2 hts (gv_ m_756 m_757 m_758 m_92 m_759) rfl rfl rfl pd_Loop_turn ⟨Nat.le_of_ble_eq_true rfl, Nat.le_of_ble_eq_true rfl⟩) ⟨pc_blind, va_recv hK hP (ci := 4) (q0 := 0) rfl rfl, pc_of (hP.sub [0, 1] rfl) hK (hD.sub [0, 1] (by decide) rfl) hN hT hS hA⟩ rfl rfl hl.1 rfl (lv_room (Nat.le_of_ble_eq_true rfl)) d_Loop_countTurns_32 ⟨Nat.zero_le _, Nat.zero_le _⟩) hP hD hS hA [0, 1] [2] rfl rfl (by decide) (by decide) (fun r_9 u_ H locs h hP hD hS => ?_)
                have hP : va_P (dC, dI) vwCl [(a_X0, .inl (cI, 4096, .inl X0_6)), (a_lp, .inr (4, [.ref a_lp_facts, .ref a_lp_turns, .ref a_lp_first, .ref a_lp_src, .ref a_s1, .int lp_choices, .int lp_guesses, .int lp_unaries, .int lp_ranked])), (a_lp_turns, .inl (cI, 24576, .inl lp_turns))] H := hP
                have hD : va_D A [(a_X0, .inl (cI, 4096, .inl X0_6)), (a_lp, .inr (4, [.ref a_lp_facts, .ref a_lp_turns, .ref a_lp_first, .ref a_lp_src, .ref a_s1, .int lp_choices, .int lp_guesses, .int lp_unaries, .int lp_ranked])), (a_lp_turns, .inl (cI, 24576, .inl lp_turns))] := hD
                refine lv_iconst (v := (-1)) hx hb d_Loop_countTurns_35 (by decide) ?_
                refine lv_icmp_eq (tgt := 46) hx hb d_Loop_countTurns_36 (by decide) (fun c_36 => ?_) (fun c_36 => ?_)
                · have h := And.left h c_36
                  refine lv_iinc (v := x3_5 + 1) (lv' := [(3, .int (x3_5 + 1)), (0, .ref a_lp), (1, .ref a_X0), (2, .int x2_1)]) hx hb d_Loop_countTurns_46 hl (k := 3) rfl rfl (by decide) rfl (fun ls hl => ?_)
                  refine lv_goto (tgt := 21) hx hb d_Loop_countTurns_49 (by decide) ?_
                  exact il _ _ h _ _ (hP.sub [1, 2, 0] rfl) (hD.sub [1, 2, 0] (by decide) rfl) hS _ (lv_sub hl [1, 2, 3, 0] rfl)
                · have h := And.right h c_36
                  refine lv_aload_n hx hb d_Loop_countTurns_39 rfl (lv_at hl 1 rfl) ?_
                  refine lv_iload_n hx hb d_Loop_countTurns_40 rfl (lv_at hl 2 rfl) ?_
                  refine lv_dup2_11 hx hb d_Loop_countTurns_41 rfl rfl ?_
                  obtain ⟨hin_42, h⟩ := h
                  refine va_iald hx hb hK hP 0 0 rfl rfl hin_42 d_Loop_countTurns_42 ?_
                  refine lv_iconst (v := 1) hx hb d_Loop_countTurns_43 (by decide) ?_
                  refine lv_iadd hx hb d_Loop_countTurns_44 ?_
                  obtain ⟨hin_45, h⟩ := h
                  refine va_iast hx hb hK hP hD hS 0 0 rfl rfl hin_45 d_Loop_countTurns_45 (fun H locs hP hD hS => ?_)
                  have hP : va_P (dC, dI) vwCl [(a_X0, .inl (cI, 4096, .inl (upd X0_6 (x2_1 : Int32).toNatClampNeg ((X0_6 (x2_1 : Int32).toNatClampNeg) + 1)))), (a_lp, .inr (4, [.ref a_lp_facts, .ref a_lp_turns, .ref a_lp_first, .ref a_lp_src, .ref a_s1, .int lp_choices, .int lp_guesses, .int lp_unaries, .int lp_ranked])), (a_lp_turns, .inl (cI, 24576, .inl lp_turns))] H := hP
                  have hD : va_D A [(a_X0, .inl (cI, 4096, .inl (upd X0_6 (x2_1 : Int32).toNatClampNeg ((X0_6 (x2_1 : Int32).toNatClampNeg) + 1)))), (a_lp, .inr (4, [.ref a_lp_facts, .ref a_lp_turns, .ref a_lp_first, .ref a_lp_src, .ref a_s1, .int lp_choices, .int lp_guesses, .int lp_unaries, .int lp_ranked])), (a_lp_turns, .inl (cI, 24576, .inl lp_turns))] := hD
                  refine lv_iinc (v := x3_5 + 1) (lv' := [(3, .int (x3_5 + 1)), (0, .ref a_lp), (1, .ref a_X0), (2, .int x2_1)]) hx hb d_Loop_countTurns_46 hl (k := 3) rfl rfl (by decide) rfl (fun ls hl => ?_)
                  refine lv_goto (tgt := 21) hx hb d_Loop_countTurns_49 (by decide) ?_
                  exact il _ _ h _ _ (hP.sub [1, 2, 0] rfl) (hD.sub [1, 2, 0] (by decide) rfl) hS _ (lv_sub hl [1, 2, 3, 0] rfl)
          obtain ⟨n_, h⟩ := h
          refine L21_q_7 _ ?_ n_ _ _ h _ _ hP hD hS _ (lv_sub hl [1, 2, 3, 0] rfl)
          intro X0_10 h
          intro H locs hP hD hS ls hl
          refine lv_iinc (v := x2_1 + 1) (lv' := [(2, .int (x2_1 + 1)), (0, .ref a_lp), (1, .ref a_X0)]) hx hb d_Loop_countTurns_52 hl (k := 2) rfl rfl (by decide) rfl (fun ls hl => ?_)
          refine lv_goto (tgt := 2) hx hb d_Loop_countTurns_55 (by decide) ?_
          exact il _ _ h _ _ hP hD hS _ (lv_sub hl [1, 2, 0] rfl)
  obtain ⟨n_, h⟩ := h
  refine L2_q_3 _ ?_ n_ _ _ h _ _ hP hD hS _ (lv_sub hl [1, 2, 0] rfl)
  intro X0_11 h
  intro H locs hP hD hS ls hl
  rw [← hQ]
  have hP9 := hP
  have hD9 := hD
  exact W.vret hx hb hr (fun t ht hW => ⟨⟨(X0_11), rfl, h, by rw [ht]; exact hP9, va_K.moved hW.alike hK, hD9⟩, hS.F ht⟩) hS.2.2 d_Loop_countTurns_58
set_option maxHeartbeats 4000000 in
set_option maxRecDepth 100000 in
theorem c_Loop_loadFact (l : Launch) (dC : Nat → ClassId) (dI : Nat → Nat → Nat) (cI cB cZ : ClassId) (adK adV : Nat → Nat) (sz : Nat) (a_cd a_cd_steps a_cd_starts a_cd_stops a_cd_used a_cd_stack a_lp a_lp_facts a_lp_turns a_lp_first a_lp_src a_s1 : Nat) (cd_size : Int32) (cd_section : Int32) (cd_height : Int32) (cd_steps : Nat → Int32) (cd_starts : Nat → Int32) (cd_stops : Nat → Int32) (cd_used : Nat → Int32) (cd_stack : Nat → Int32) (lp_choices : Int32) (lp_guesses : Int32) (lp_unaries : Int32) (lp_ranked : Int32) (lp_facts : Nat → Int32) (s1 : Nat → Int32) (x2 : Int32) (x3 : Int32) (post : Int32 → (Nat → Int32) → (Nat → Int32) → (Nat → Int32) → Prop) (h : wp_Loop_loadFact x2 x3 cd_height cd_steps cd_starts cd_stops cd_used cd_stack lp_facts s1 post) : Met l y_Loop_loadFact w_Loop_loadFact ({ frames := 3, cells := 0, slots := 0, locals := 73 }) (pc_ (dC, dI) [(cI, .int), (cB, .byte), (cZ, .boolean)] [(a_cd, .inr (1, [.ref a_cd_steps, .ref a_cd_starts, .ref a_cd_stops, .ref a_cd_used, .ref a_cd_stack, .int cd_size, .int cd_section, .int cd_height])), (a_cd_steps, .inl (cI, 1200, .inl cd_steps)), (a_cd_starts, .inl (cI, 39, .inl cd_starts)), (a_cd_stops, .inl (cI, 39, .inl cd_stops)), (a_cd_used, .inl (cI, 39, .inl cd_used)), (a_cd_stack, .inl (cI, 100, .inl cd_stack)), (a_lp, .inr (4, [.ref a_lp_facts, .ref a_lp_turns, .ref a_lp_first, .ref a_lp_src, .ref a_s1, .int lp_choices, .int lp_guesses, .int lp_unaries, .int lp_ranked])), (a_lp_facts, .inl (cI, 4096, .inl lp_facts)), (a_s1, .inl (cI, 4096, .inl s1))] sz adK adV [.ref a_lp, .ref a_cd, .int x2, .int x3]) (va_Qv (fun (u : Int32 × (Nat → Int32) × (Nat → Int32) × (Nat → Int32)) => post u.1 u.2.1 u.2.2.1 u.2.2.2) (fun (u : Int32 × (Nat → Int32) × (Nat → Int32) × (Nat → Int32)) t => bw_ (dC, dI) [(cI, .int), (cB, .byte), (cZ, .boolean)] (va_A [(a_cd, .inr (1, [.ref a_cd_steps, .ref a_cd_starts, .ref a_cd_stops, .ref a_cd_used, .ref a_cd_stack, .int cd_size, .int cd_section, .int cd_height])), (a_cd_steps, .inl (cI, 1200, .inl cd_steps)), (a_cd_starts, .inl (cI, 39, .inl cd_starts)), (a_cd_stops, .inl (cI, 39, .inl cd_stops)), (a_cd_used, .inl (cI, 39, .inl cd_used)), (a_cd_stack, .inl (cI, 100, .inl cd_stack)), (a_lp, .inr (4, [.ref a_lp_facts, .ref a_lp_turns, .ref a_lp_first, .ref a_lp_src, .ref a_s1, .int lp_choices, .int lp_guesses, .int lp_unaries, .int lp_ranked])), (a_lp_facts, .inl (cI, 4096, .inl lp_facts)), (a_s1, .inl (cI, 4096, .inl s1))] sz) [(a_cd, .inr (1, [.ref a_cd_steps, .ref a_cd_starts, .ref a_cd_stops, .ref a_cd_used, .ref a_cd_stack, .int cd_size, .int cd_section, .int u.1])), (a_cd_steps, .inl (cI, 1200, .inl cd_steps)), (a_cd_starts, .inl (cI, 39, .inl cd_starts)), (a_cd_stops, .inl (cI, 39, .inl cd_stops)), (a_cd_used, .inl (cI, 39, .inl cd_used)), (a_cd_stack, .inl (cI, 100, .inl u.2.1)), (a_lp, .inr (4, [.ref a_lp_facts, .ref a_lp_turns, .ref a_lp_first, .ref a_lp_src, .ref a_s1, .int lp_choices, .int lp_guesses, .int lp_unaries, .int lp_ranked])), (a_lp_facts, .inl (cI, 4096, .inl u.2.2.1)), (a_s1, .inl (cI, 4096, .inl u.2.2.2))] t) (va_A [(a_cd, .inr (1, [.ref a_cd_steps, .ref a_cd_starts, .ref a_cd_stops, .ref a_cd_used, .ref a_cd_stack, .int cd_size, .int cd_section, .int cd_height])), (a_cd_steps, .inl (cI, 1200, .inl cd_steps)), (a_cd_starts, .inl (cI, 39, .inl cd_starts)), (a_cd_stops, .inl (cI, 39, .inl cd_stops)), (a_cd_used, .inl (cI, 39, .inl cd_used)), (a_cd_stack, .inl (cI, 100, .inl cd_stack)), (a_lp, .inr (4, [.ref a_lp_facts, .ref a_lp_turns, .ref a_lp_first, .ref a_lp_src, .ref a_s1, .int lp_choices, .int lp_guesses, .int lp_unaries, .int lp_ranked])), (a_lp_facts, .inl (cI, 4096, .inl lp_facts)), (a_s1, .inl (cI, 4096, .inl s1))] sz)) 0 0 (va_A [(a_cd, .inr (1, [.ref a_cd_steps, .ref a_cd_starts, .ref a_cd_stops, .ref a_cd_used, .ref a_cd_stack, .int cd_size, .int cd_section, .int cd_height])), (a_cd_steps, .inl (cI, 1200, .inl cd_steps)), (a_cd_starts, .inl (cI, 39, .inl cd_starts)), (a_cd_stops, .inl (cI, 39, .inl cd_stops)), (a_cd_used, .inl (cI, 39, .inl cd_used)), (a_cd_stack, .inl (cI, 100, .inl cd_stack)), (a_lp, .inr (4, [.ref a_lp_facts, .ref a_lp_turns, .ref a_lp_first, .ref a_lp_src, .ref a_s1, .int lp_choices, .int lp_guesses, .int lp_unaries, .int lp_ranked])), (a_lp_facts, .inl (cI, 4096, .inl lp_facts)), (a_s1, .inl (cI, 4096, .inl s1))] sz) := by
  refine Met.ofW (cc := b_Loop_loadFact) (maxL := 5) (ret := none) (by decide) rfl ?_
  intro p e s m args below meth c s₁ B hml hv
  obtain ⟨rfl, hsz, hP, hK, hD0, hN, hT⟩ := hv
  have hx := B.exec
  have hb := B.bytes
  have hr := B.returns
  have hts := atoms_spec (ws := w_Loop_loadFact) B.pre
  have hown : s.vm.findClass "LoopInduction$Loop" = some m.cls := findClass_of_methodNamed B.named
  have hlocks := B.notSynchronized
  subst hsz
  have hD := hD0.self (sz := s.heap.size)
  generalize hAe : va_A [(a_cd, .inr (1, [.ref a_cd_steps, .ref a_cd_starts, .ref a_cd_stops, .ref a_cd_used, .ref a_cd_stack, .int cd_size, .int cd_section, .int cd_height])), (a_cd_steps, .inl (cI, 1200, .inl cd_steps)), (a_cd_starts, .inl (cI, 39, .inl cd_starts)), (a_cd_stops, .inl (cI, 39, .inl cd_stops)), (a_cd_used, .inl (cI, 39, .inl cd_used)), (a_cd_stack, .inl (cI, 100, .inl cd_stack)), (a_lp, .inr (4, [.ref a_lp_facts, .ref a_lp_turns, .ref a_lp_first, .ref a_lp_src, .ref a_s1, .int lp_choices, .int lp_guesses, .int lp_unaries, .int lp_ranked])), (a_lp_facts, .inl (cI, 4096, .inl lp_facts)), (a_s1, .inl (cI, 4096, .inl s1))] s.heap.size = A at hD hT ⊢
  have hA : ∀ q : Nat, s.heap.size ≤ q → A q := fun q h => by rw [← hAe]; exact Or.inr h
  have hS : va_S A s.heap s.heap [] := va_S.rf
  generalize hQ : MQ below _ _ s 0 0 _ = QQ
  have hl := lv_entry ([.ref a_lp, .ref a_cd, .int x2, .int x3]) (n := 5) (Nat.le_of_ble_eq_true rfl)
  rw [lg_entry_eq]
  generalize (lg_sl ([.ref a_lp, .ref a_cd, .int x2, .int x3]) ++ List.replicate (5 - (lg_sl ([.ref a_lp, .ref a_cd, .int x2, .int x3])).length) Slot.unset).toArray = ls at hl ⊢
  have hl : lv_has ls 5 [(0, .ref a_lp), (1, .ref a_cd), (2, .int x2), (3, .int x3)] := hl
  have fl_11 := (hts _ (List.mem_cons_of_mem _ m_254))
  have fl_44 := (hts _ (List.mem_cons_of_mem _ m_258))
  refine lv_aload_n hx hb d_Loop_loadFact_0 rfl (lv_at hl 1 rfl) ?_
  refine lv_iload_n hx hb d_Loop_loadFact_1 rfl (lv_at hl 2 rfl) ?_
  refine jn_i (wr := [(a_cd_steps, .inl (cI, 1200, .inl cd_steps)), (a_cd_stops, .inl (cI, 39, .inl cd_stops)), (a_cd_used, .inl (cI, 39, .inl cd_used)), (a_cd_stack, .inl (cI, 100, .inl cd_stack)), (a_lp, .inr (4, [.ref a_lp_facts, .ref a_lp_turns, .ref a_lp_first, .ref a_lp_src, .ref a_s1, .int lp_choices, .int lp_guesses, .int lp_unaries, .int lp_ranked])), (a_lp_facts, .inl (cI, 4096, .inl lp_facts)), (a_s1, .inl (cI, 4096, .inl s1))]) (va_runV (As := [.int x2]) (rest := []) ⟨hx, hb, hml, hown, hts⟩ (c_Code_isTold l dC dI cI cB cZ adK adV _ a_cd a_cd_steps a_cd_starts a_cd_stops a_cd_used a_cd_stack cd_size cd_section cd_height cd_starts x2 _ h) (cwV 1 hts (gv_ m_714 m_687 m_688 m_88 m_689) rfl rfl rfl pd_Code_isTold ⟨Nat.le_of_ble_eq_true rfl, Nat.le_of_ble_eq_true rfl⟩) ⟨pc_blind, va_recv hK hP (ci := 1) (q0 := 0) rfl rfl, pc_of (hP.sub [0, 2] rfl) hK (hD.sub [0, 2] (by decide) rfl) hN hT hS hA⟩ rfl rfl hl.1 rfl (lv_room (Nat.le_of_ble_eq_true rfl)) d_Loop_loadFact_2 ⟨Nat.zero_le _, Nat.zero_le _⟩) hP hD hS hA [0, 2] [1, 3, 4, 5, 6, 7, 8] rfl rfl (by decide) (by decide) (fun r_1 u_ H locs h hP hD hS => ?_)
  have hP : va_P (dC, dI) vwCl [(a_cd_steps, .inl (cI, 1200, .inl cd_steps)), (a_cd_stops, .inl (cI, 39, .inl cd_stops)), (a_cd_used, .inl (cI, 39, .inl cd_used)), (a_cd_stack, .inl (cI, 100, .inl cd_stack)), (a_lp, .inr (4, [.ref a_lp_facts, .ref a_lp_turns, .ref a_lp_first, .ref a_lp_src, .ref a_s1, .int lp_choices, .int lp_guesses, .int lp_unaries, .int lp_ranked])), (a_lp_facts, .inl (cI, 4096, .inl lp_facts)), (a_s1, .inl (cI, 4096, .inl s1)), (a_cd, .inr (1, [.ref a_cd_steps, .ref a_cd_starts, .ref a_cd_stops, .ref a_cd_used, .ref a_cd_stack, .int cd_size, .int cd_section, .int cd_height])), (a_cd_starts, .inl (cI, 39, .inl cd_starts))] H := hP
  have hD : va_D A [(a_cd_steps, .inl (cI, 1200, .inl cd_steps)), (a_cd_stops, .inl (cI, 39, .inl cd_stops)), (a_cd_used, .inl (cI, 39, .inl cd_used)), (a_cd_stack, .inl (cI, 100, .inl cd_stack)), (a_lp, .inr (4, [.ref a_lp_facts, .ref a_lp_turns, .ref a_lp_first, .ref a_lp_src, .ref a_s1, .int lp_choices, .int lp_guesses, .int lp_unaries, .int lp_ranked])), (a_lp_facts, .inl (cI, 4096, .inl lp_facts)), (a_s1, .inl (cI, 4096, .inl s1)), (a_cd, .inr (1, [.ref a_cd_steps, .ref a_cd_starts, .ref a_cd_stops, .ref a_cd_used, .ref a_cd_stack, .int cd_size, .int cd_section, .int cd_height])), (a_cd_starts, .inl (cI, 39, .inl cd_starts))] := hD
  refine lv_if_ne (tgt := 9) hx hb d_Loop_loadFact_5 (by decide) (fun c_5 => ?_) (fun c_5 => ?_)
  · have h := And.left h c_5
    refine lv_aload_n hx hb d_Loop_loadFact_9 rfl (lv_at hl 1 rfl) ?_
    refine lv_iload_n hx hb d_Loop_loadFact_10 rfl (lv_at hl 2 rfl) ?_
    refine lv_aload_n hx hb d_Loop_loadFact_11 rfl (lv_at hl 0 rfl) ?_
    refine va_get (D := (dC, dI)) (ci := 4) (v := .ref a_s1) (C := "LoopInduction$Loop") (T := F_Loop) (N := 9) hx hb hts iC_Loop hown hK hP 4 rfl rfl 4 (by decide) fl_44 (fun _ h9 => h9) rfl d_Loop_loadFact_12 ?_
    refine jn_v (wr := [(a_lp, .inr (4, [.ref a_lp_facts, .ref a_lp_turns, .ref a_lp_first, .ref a_lp_src, .ref a_s1, .int lp_choices, .int lp_guesses, .int lp_unaries, .int lp_ranked])), (a_lp_facts, .inl (cI, 4096, .inl lp_facts))]) (va_runV (As := [.int x2, .ref a_s1]) (rest := []) ⟨hx, hb, hml, hown, hts⟩ (c_Code_tabulate l dC dI cI cB cZ adK adV _ a_cd a_cd_steps a_cd_starts a_cd_stops a_cd_used a_cd_stack a_s1 cd_size cd_section cd_height cd_steps cd_starts cd_stops cd_used cd_stack s1 x2 _ h) (cwV 2 hts (gv_ m_720 m_721 m_722 m_88 m_723) rfl rfl rfl pd_Code_tabulate ⟨Nat.le_of_ble_eq_true rfl, Nat.le_of_ble_eq_true rfl⟩) ⟨pc_blind, va_recv hK hP (ci := 1) (q0 := 7) rfl rfl, pc_of (hP.sub [7, 0, 8, 1, 2, 3, 6] rfl) hK (hD.sub [7, 0, 8, 1, 2, 3, 6] (by decide) rfl) hN hT hS hA⟩ rfl rfl hl.1 rfl (lv_room (Nat.le_of_ble_eq_true rfl)) d_Loop_loadFact_15 ⟨Nat.zero_le _, Nat.zero_le _⟩) hP hD hS hA [7, 0, 8, 1, 2, 3, 6] [4, 5] rfl rfl (by decide) (by decide) (fun u_ H locs h hP hD hS => ?_)
    obtain ⟨cd_height_2, cd_stack_3, s1_4⟩ := u_
    have hP : va_P (dC, dI) vwCl [(a_lp, .inr (4, [.ref a_lp_facts, .ref a_lp_turns, .ref a_lp_first, .ref a_lp_src, .ref a_s1, .int lp_choices, .int lp_guesses, .int lp_unaries, .int lp_ranked])), (a_lp_facts, .inl (cI, 4096, .inl lp_facts)), (a_cd, .inr (1, [.ref a_cd_steps, .ref a_cd_starts, .ref a_cd_stops, .ref a_cd_used, .ref a_cd_stack, .int cd_size, .int cd_section, .int cd_height_2])), (a_cd_steps, .inl (cI, 1200, .inl cd_steps)), (a_cd_starts, .inl (cI, 39, .inl cd_starts)), (a_cd_stops, .inl (cI, 39, .inl cd_stops)), (a_cd_used, .inl (cI, 39, .inl cd_used)), (a_cd_stack, .inl (cI, 100, .inl cd_stack_3)), (a_s1, .inl (cI, 4096, .inl s1_4))] H := hP
    have hD : va_D A [(a_lp, .inr (4, [.ref a_lp_facts, .ref a_lp_turns, .ref a_lp_first, .ref a_lp_src, .ref a_s1, .int lp_choices, .int lp_guesses, .int lp_unaries, .int lp_ranked])), (a_lp_facts, .inl (cI, 4096, .inl lp_facts)), (a_cd, .inr (1, [.ref a_cd_steps, .ref a_cd_starts, .ref a_cd_stops, .ref a_cd_used, .ref a_cd_stack, .int cd_size, .int cd_section, .int cd_height_2])), (a_cd_steps, .inl (cI, 1200, .inl cd_steps)), (a_cd_starts, .inl (cI, 39, .inl cd_starts)), (a_cd_stops, .inl (cI, 39, .inl cd_stops)), (a_cd_used, .inl (cI, 39, .inl cd_used)), (a_cd_stack, .inl (cI, 100, .inl cd_stack_3)), (a_s1, .inl (cI, 4096, .inl s1_4))] := hD
    refine lv_iconst (v := 0) hx hb d_Loop_loadFact_18 (by decide) ?_
    refine lv_istore (lv' := [(4, .int 0), (0, .ref a_lp), (1, .ref a_cd), (2, .int x2), (3, .int x3)]) hx hb d_Loop_loadFact_19 hl (by decide) rfl (fun ls hl => ?_)
    have L21_q_7 : ∀ (k54 : (Nat → Int32) → Prop) (hk54 : ∀ (lp_facts_8 : Nat → Int32), k54 lp_facts_8 → ∀ (H : Heap) (locs : List Loc), va_P (dC, dI) vwCl [(a_lp, .inr (4, [.ref a_lp_facts, .ref a_lp_turns, .ref a_lp_first, .ref a_lp_src, .ref a_s1, .int lp_choices, .int lp_guesses, .int lp_unaries, .int lp_ranked])), (a_lp_facts, .inl (cI, 4096, .inl lp_facts_8)), (a_cd, .inr (1, [.ref a_cd_steps, .ref a_cd_starts, .ref a_cd_stops, .ref a_cd_used, .ref a_cd_stack, .int cd_size, .int cd_section, .int cd_height_2])), (a_cd_steps, .inl (cI, 1200, .inl cd_steps)), (a_cd_starts, .inl (cI, 39, .inl cd_starts)), (a_cd_stops, .inl (cI, 39, .inl cd_stops)), (a_cd_used, .inl (cI, 39, .inl cd_used)), (a_cd_stack, .inl (cI, 100, .inl cd_stack_3)), (a_s1, .inl (cI, 4096, .inl s1_4))] H → va_D A [(a_lp, .inr (4, [.ref a_lp_facts, .ref a_lp_turns, .ref a_lp_first, .ref a_lp_src, .ref a_s1, .int lp_choices, .int lp_guesses, .int lp_unaries, .int lp_ranked])), (a_lp_facts, .inl (cI, 4096, .inl lp_facts_8)), (a_cd, .inr (1, [.ref a_cd_steps, .ref a_cd_starts, .ref a_cd_stops, .ref a_cd_used, .ref a_cd_stack, .int cd_size, .int cd_section, .int cd_height_2])), (a_cd_steps, .inl (cI, 1200, .inl cd_steps)), (a_cd_starts, .inl (cI, 39, .inl cd_starts)), (a_cd_stops, .inl (cI, 39, .inl cd_stops)), (a_cd_used, .inl (cI, 39, .inl cd_used)), (a_cd_stack, .inl (cI, 100, .inl cd_stack_3)), (a_s1, .inl (cI, 4096, .inl s1_4))] → va_S A s.heap H locs → ∀ ls : Array Slot, lv_has ls 5 [] → W p l e (headSpec w_Loop_loadFact ({ frames := 3, cells := 0, slots := 0, locals := 73 })).room s m (([.ref a_lp, .ref a_cd, .int x2, .int x3] : List Value).toArray) below meth c H locs 0 0 QQ (F0 m 54 ls [])) (n : Nat) (x4_5 : Int32) (lp_facts_6 : Nat → Int32), wp_Loop_loadFact_L21 x3 s1_4 k54 n x4_5 lp_facts_6 → ∀ (H : Heap) (locs : List Loc), va_P (dC, dI) vwCl [(a_lp, .inr (4, [.ref a_lp_facts, .ref a_lp_turns, .ref a_lp_first, .ref a_lp_src, .ref a_s1, .int lp_choices, .int lp_guesses, .int lp_unaries, .int lp_ranked])), (a_lp_facts, .inl (cI, 4096, .inl lp_facts_6)), (a_cd, .inr (1, [.ref a_cd_steps, .ref a_cd_starts, .ref a_cd_stops, .ref a_cd_used, .ref a_cd_stack, .int cd_size, .int cd_section, .int cd_height_2])), (a_cd_steps, .inl (cI, 1200, .inl cd_steps)), (a_cd_starts, .inl (cI, 39, .inl cd_starts)), (a_cd_stops, .inl (cI, 39, .inl cd_stops)), (a_cd_used, .inl (cI, 39, .inl cd_used)), (a_cd_stack, .inl (cI, 100, .inl cd_stack_3)), (a_s1, .inl (cI, 4096, .inl s1_4))] H → va_D A [(a_lp, .inr (4, [.ref a_lp_facts, .ref a_lp_turns, .ref a_lp_first, .ref a_lp_src, .ref a_s1, .int lp_choices, .int lp_guesses, .int lp_unaries, .int lp_ranked])), (a_lp_facts, .inl (cI, 4096, .inl lp_facts_6)), (a_cd, .inr (1, [.ref a_cd_steps, .ref a_cd_starts, .ref a_cd_stops, .ref a_cd_used, .ref a_cd_stack, .int cd_size, .int cd_section, .int cd_height_2])), (a_cd_steps, .inl (cI, 1200, .inl cd_steps)), (a_cd_starts, .inl (cI, 39, .inl cd_starts)), (a_cd_stops, .inl (cI, 39, .inl cd_stops)), (a_cd_used, .inl (cI, 39, .inl cd_used)), (a_cd_stack, .inl (cI, 100, .inl cd_stack_3)), (a_s1, .inl (cI, 4096, .inl s1_4))] → va_S A s.heap H locs → ∀ ls : Array Slot, lv_has ls 5 [(0, .ref a_lp), (3, .int x3), (4, .int x4_5)] → W p l e (headSpec w_Loop_loadFact ({ frames := 3, cells := 0, slots := 0, locals := 73 })).room s m (([.ref a_lp, .ref a_cd, .int x2, .int x3] : List Value).toArray) below meth c H locs 0 0 QQ (F0 m 21 ls []) := by
      intro k54 hk54 n
      induction n with
      | zero => intro x4_5 lp_facts_6 h; exact (show False from h).elim
      | succ n il =>
        intro x4_5 lp_facts_6 h
        intro H locs hP hD hS ls hl
        refine lv_iload hx hb d_Loop_loadFact_21 (lv_at hl 2 rfl) ?_
        refine lv_sipush (v := 4096) hx hb d_Loop_loadFact_23 (by decide) ?_
        refine lv_icmp_ge (tgt := 54) hx hb d_Loop_loadFact_26 (by decide) (fun c_26 => ?_) (fun c_26 => ?_)
        · have h := And.left h c_26
          exact hk54 _ h _ _ hP hD hS _ (lv_sub hl [] rfl)
        · have h := And.right h c_26
          refine lv_aload_n hx hb d_Loop_loadFact_29 rfl (lv_at hl 0 rfl) ?_
          refine va_get (D := (dC, dI)) (ci := 4) (v := .ref a_lp_facts) (C := "LoopInduction$Loop") (T := F_Loop) (N := 9) hx hb hts iC_Loop hown hK hP 0 rfl rfl 0 (by decide) fl_11 (fun _ h9 => h9) rfl d_Loop_loadFact_30 ?_
          refine lv_iload hx hb d_Loop_loadFact_33 (lv_at hl 2 rfl) ?_
          refine lv_dup2_11 hx hb d_Loop_loadFact_35 rfl rfl ?_
          obtain ⟨hin_36, h⟩ := h
          refine va_iald hx hb hK hP 1 0 rfl rfl hin_36 d_Loop_loadFact_36 ?_
          refine lv_aload_n hx hb d_Loop_loadFact_37 rfl (lv_at hl 0 rfl) ?_
          refine va_get (D := (dC, dI)) (ci := 4) (v := .ref a_s1) (C := "LoopInduction$Loop") (T := F_Loop) (N := 9) hx hb hts iC_Loop hown hK hP 0 rfl rfl 4 (by decide) fl_44 (fun _ h9 => h9) rfl d_Loop_loadFact_38 ?_
          refine lv_iload hx hb d_Loop_loadFact_41 (lv_at hl 2 rfl) ?_
          obtain ⟨hin_43, h⟩ := h
          refine va_iald hx hb hK hP 8 0 rfl rfl hin_43 d_Loop_loadFact_43 ?_
          refine lv_iload_n hx hb d_Loop_loadFact_44 rfl (lv_at hl 1 rfl) ?_
          refine lv_ishl hx hb d_Loop_loadFact_45 ?_
          refine lv_ior hx hb d_Loop_loadFact_46 ?_
          obtain ⟨hin_47, h⟩ := h
          refine va_iast hx hb hK hP hD hS 1 0 rfl rfl hin_47 d_Loop_loadFact_47 (fun H locs hP hD hS => ?_)
          have hP : va_P (dC, dI) vwCl [(a_lp, .inr (4, [.ref a_lp_facts, .ref a_lp_turns, .ref a_lp_first, .ref a_lp_src, .ref a_s1, .int lp_choices, .int lp_guesses, .int lp_unaries, .int lp_ranked])), (a_lp_facts, .inl (cI, 4096, .inl (upd lp_facts_6 (x4_5 : Int32).toNatClampNeg ((lp_facts_6 (x4_5 : Int32).toNatClampNeg) ||| ((s1_4 (x4_5 : Int32).toNatClampNeg) <<< (x3 &&& 31)))))), (a_cd, .inr (1, [.ref a_cd_steps, .ref a_cd_starts, .ref a_cd_stops, .ref a_cd_used, .ref a_cd_stack, .int cd_size, .int cd_section, .int cd_height_2])), (a_cd_steps, .inl (cI, 1200, .inl cd_steps)), (a_cd_starts, .inl (cI, 39, .inl cd_starts)), (a_cd_stops, .inl (cI, 39, .inl cd_stops)), (a_cd_used, .inl (cI, 39, .inl cd_used)), (a_cd_stack, .inl (cI, 100, .inl cd_stack_3)), (a_s1, .inl (cI, 4096, .inl s1_4))] H := hP
          have hD : va_D A [(a_lp, .inr (4, [.ref a_lp_facts, .ref a_lp_turns, .ref a_lp_first, .ref a_lp_src, .ref a_s1, .int lp_choices, .int lp_guesses, .int lp_unaries, .int lp_ranked])), (a_lp_facts, .inl (cI, 4096, .inl (upd lp_facts_6 (x4_5 : Int32).toNatClampNeg ((lp_facts_6 (x4_5 : Int32).toNatClampNeg) ||| ((s1_4 (x4_5 : Int32).toNatClampNeg) <<< (x3 &&& 31)))))), (a_cd, .inr (1, [.ref a_cd_steps, .ref a_cd_starts, .ref a_cd_stops, .ref a_cd_used, .ref a_cd_stack, .int cd_size, .int cd_section, .int cd_height_2])), (a_cd_steps, .inl (cI, 1200, .inl cd_steps)), (a_cd_starts, .inl (cI, 39, .inl cd_starts)), (a_cd_stops, .inl (cI, 39, .inl cd_stops)), (a_cd_used, .inl (cI, 39, .inl cd_used)), (a_cd_stack, .inl (cI, 100, .inl cd_stack_3)), (a_s1, .inl (cI, 4096, .inl s1_4))] := hD
          refine lv_iinc (v := x4_5 + 1) (lv' := [(4, .int (x4_5 + 1)), (0, .ref a_lp), (3, .int x3)]) hx hb d_Loop_loadFact_48 hl (k := 2) rfl rfl (by decide) rfl (fun ls hl => ?_)
          refine lv_goto (tgt := 21) hx hb d_Loop_loadFact_51 (by decide) ?_
          exact il _ _ h _ _ hP hD hS _ (lv_sub hl [1, 2, 0] rfl)
    obtain ⟨n_, h⟩ := h
    refine L21_q_7 _ ?_ n_ _ _ h _ _ hP hD hS _ (lv_sub hl [1, 4, 0] rfl)
    intro lp_facts_9 h
    intro H locs hP hD hS ls hl
    rw [← hQ]
    have hP9 := hP.sub (ws' := [(a_cd, .inr (1, [.ref a_cd_steps, .ref a_cd_starts, .ref a_cd_stops, .ref a_cd_used, .ref a_cd_stack, .int cd_size, .int cd_section, .int cd_height_2])), (a_cd_steps, .inl (cI, 1200, .inl cd_steps)), (a_cd_starts, .inl (cI, 39, .inl cd_starts)), (a_cd_stops, .inl (cI, 39, .inl cd_stops)), (a_cd_used, .inl (cI, 39, .inl cd_used)), (a_cd_stack, .inl (cI, 100, .inl cd_stack_3)), (a_lp, .inr (4, [.ref a_lp_facts, .ref a_lp_turns, .ref a_lp_first, .ref a_lp_src, .ref a_s1, .int lp_choices, .int lp_guesses, .int lp_unaries, .int lp_ranked])), (a_lp_facts, .inl (cI, 4096, .inl lp_facts_9)), (a_s1, .inl (cI, 4096, .inl s1_4))]) [2, 3, 4, 5, 6, 7, 0, 1, 8] rfl
    have hD9 := hD.sub (ws' := [(a_cd, .inr (1, [.ref a_cd_steps, .ref a_cd_starts, .ref a_cd_stops, .ref a_cd_used, .ref a_cd_stack, .int cd_size, .int cd_section, .int cd_height_2])), (a_cd_steps, .inl (cI, 1200, .inl cd_steps)), (a_cd_starts, .inl (cI, 39, .inl cd_starts)), (a_cd_stops, .inl (cI, 39, .inl cd_stops)), (a_cd_used, .inl (cI, 39, .inl cd_used)), (a_cd_stack, .inl (cI, 100, .inl cd_stack_3)), (a_lp, .inr (4, [.ref a_lp_facts, .ref a_lp_turns, .ref a_lp_first, .ref a_lp_src, .ref a_s1, .int lp_choices, .int lp_guesses, .int lp_unaries, .int lp_ranked])), (a_lp_facts, .inl (cI, 4096, .inl lp_facts_9)), (a_s1, .inl (cI, 4096, .inl s1_4))]) [2, 3, 4, 5, 6, 7, 0, 1, 8] (by decide) rfl
    exact W.vret hx hb hr (fun t ht hW => ⟨⟨(cd_height_2, cd_stack_3, lp_facts_9, s1_4), rfl, h, by rw [ht]; exact hP9, va_K.moved hW.alike hK, hD9⟩, hS.F ht⟩) hS.2.2 d_Loop_loadFact_54
  · have h := And.right h c_5
    rw [← hQ]
    have hP9 := hP.sub (ws' := [(a_cd, .inr (1, [.ref a_cd_steps, .ref a_cd_starts, .ref a_cd_stops, .ref a_cd_used, .ref a_cd_stack, .int cd_size, .int cd_section, .int cd_height])), (a_cd_steps, .inl (cI, 1200, .inl cd_steps)), (a_cd_starts, .inl (cI, 39, .inl cd_starts)), (a_cd_stops, .inl (cI, 39, .inl cd_stops)), (a_cd_used, .inl (cI, 39, .inl cd_used)), (a_cd_stack, .inl (cI, 100, .inl cd_stack)), (a_lp, .inr (4, [.ref a_lp_facts, .ref a_lp_turns, .ref a_lp_first, .ref a_lp_src, .ref a_s1, .int lp_choices, .int lp_guesses, .int lp_unaries, .int lp_ranked])), (a_lp_facts, .inl (cI, 4096, .inl lp_facts)), (a_s1, .inl (cI, 4096, .inl s1))]) [7, 0, 8, 1, 2, 3, 4, 5, 6] rfl
    have hD9 := hD.sub (ws' := [(a_cd, .inr (1, [.ref a_cd_steps, .ref a_cd_starts, .ref a_cd_stops, .ref a_cd_used, .ref a_cd_stack, .int cd_size, .int cd_section, .int cd_height])), (a_cd_steps, .inl (cI, 1200, .inl cd_steps)), (a_cd_starts, .inl (cI, 39, .inl cd_starts)), (a_cd_stops, .inl (cI, 39, .inl cd_stops)), (a_cd_used, .inl (cI, 39, .inl cd_used)), (a_cd_stack, .inl (cI, 100, .inl cd_stack)), (a_lp, .inr (4, [.ref a_lp_facts, .ref a_lp_turns, .ref a_lp_first, .ref a_lp_src, .ref a_s1, .int lp_choices, .int lp_guesses, .int lp_unaries, .int lp_ranked])), (a_lp_facts, .inl (cI, 4096, .inl lp_facts)), (a_s1, .inl (cI, 4096, .inl s1))]) [7, 0, 8, 1, 2, 3, 4, 5, 6] (by decide) rfl
    exact W.vret hx hb hr (fun t ht hW => ⟨⟨(cd_height, cd_stack, lp_facts, s1), rfl, h, by rw [ht]; exact hP9, va_K.moved hW.alike hK, hD9⟩, hS.F ht⟩) hS.2.2 d_Loop_loadFact_8
set_option maxHeartbeats 4000000 in
set_option maxRecDepth 100000 in
theorem c_Loop_loadAssignment (l : Launch) (dC : Nat → ClassId) (dI : Nat → Nat → Nat) (cI cB cZ : ClassId) (adK adV : Nat → Nat) (sz : Nat) (a_cd a_cd_steps a_cd_starts a_cd_stops a_cd_used a_cd_stack a_lp a_lp_facts a_lp_turns a_lp_first a_lp_src a_s1 : Nat) (cd_size : Int32) (cd_section : Int32) (cd_height : Int32) (cd_steps : Nat → Int32) (cd_starts : Nat → Int32) (cd_stops : Nat → Int32) (cd_used : Nat → Int32) (cd_stack : Nat → Int32) (lp_choices : Int32) (lp_guesses : Int32) (lp_unaries : Int32) (lp_ranked : Int32) (lp_turns : Nat → Int32) (s1 : Nat → Int32) (x2 : Int32) (x3 : Int32) (post : Int32 → (Nat → Int32) → (Nat → Int32) → (Nat → Int32) → Prop) (h : wp_Loop_loadAssignment x2 x3 cd_height cd_steps cd_starts cd_stops cd_used cd_stack lp_turns s1 post) : Met l y_Loop_loadAssignment w_Loop_loadAssignment ({ frames := 3, cells := 0, slots := 0, locals := 73 }) (pc_ (dC, dI) [(cI, .int), (cB, .byte), (cZ, .boolean)] [(a_cd, .inr (1, [.ref a_cd_steps, .ref a_cd_starts, .ref a_cd_stops, .ref a_cd_used, .ref a_cd_stack, .int cd_size, .int cd_section, .int cd_height])), (a_cd_steps, .inl (cI, 1200, .inl cd_steps)), (a_cd_starts, .inl (cI, 39, .inl cd_starts)), (a_cd_stops, .inl (cI, 39, .inl cd_stops)), (a_cd_used, .inl (cI, 39, .inl cd_used)), (a_cd_stack, .inl (cI, 100, .inl cd_stack)), (a_lp, .inr (4, [.ref a_lp_facts, .ref a_lp_turns, .ref a_lp_first, .ref a_lp_src, .ref a_s1, .int lp_choices, .int lp_guesses, .int lp_unaries, .int lp_ranked])), (a_lp_turns, .inl (cI, 24576, .inl lp_turns)), (a_s1, .inl (cI, 4096, .inl s1))] sz adK adV [.ref a_lp, .ref a_cd, .int x2, .int x3]) (va_Qv (fun (u : Int32 × (Nat → Int32) × (Nat → Int32) × (Nat → Int32)) => post u.1 u.2.1 u.2.2.1 u.2.2.2) (fun (u : Int32 × (Nat → Int32) × (Nat → Int32) × (Nat → Int32)) t => bw_ (dC, dI) [(cI, .int), (cB, .byte), (cZ, .boolean)] (va_A [(a_cd, .inr (1, [.ref a_cd_steps, .ref a_cd_starts, .ref a_cd_stops, .ref a_cd_used, .ref a_cd_stack, .int cd_size, .int cd_section, .int cd_height])), (a_cd_steps, .inl (cI, 1200, .inl cd_steps)), (a_cd_starts, .inl (cI, 39, .inl cd_starts)), (a_cd_stops, .inl (cI, 39, .inl cd_stops)), (a_cd_used, .inl (cI, 39, .inl cd_used)), (a_cd_stack, .inl (cI, 100, .inl cd_stack)), (a_lp, .inr (4, [.ref a_lp_facts, .ref a_lp_turns, .ref a_lp_first, .ref a_lp_src, .ref a_s1, .int lp_choices, .int lp_guesses, .int lp_unaries, .int lp_ranked])), (a_lp_turns, .inl (cI, 24576, .inl lp_turns)), (a_s1, .inl (cI, 4096, .inl s1))] sz) [(a_cd, .inr (1, [.ref a_cd_steps, .ref a_cd_starts, .ref a_cd_stops, .ref a_cd_used, .ref a_cd_stack, .int cd_size, .int cd_section, .int u.1])), (a_cd_steps, .inl (cI, 1200, .inl cd_steps)), (a_cd_starts, .inl (cI, 39, .inl cd_starts)), (a_cd_stops, .inl (cI, 39, .inl cd_stops)), (a_cd_used, .inl (cI, 39, .inl cd_used)), (a_cd_stack, .inl (cI, 100, .inl u.2.1)), (a_lp, .inr (4, [.ref a_lp_facts, .ref a_lp_turns, .ref a_lp_first, .ref a_lp_src, .ref a_s1, .int lp_choices, .int lp_guesses, .int lp_unaries, .int lp_ranked])), (a_lp_turns, .inl (cI, 24576, .inl u.2.2.1)), (a_s1, .inl (cI, 4096, .inl u.2.2.2))] t) (va_A [(a_cd, .inr (1, [.ref a_cd_steps, .ref a_cd_starts, .ref a_cd_stops, .ref a_cd_used, .ref a_cd_stack, .int cd_size, .int cd_section, .int cd_height])), (a_cd_steps, .inl (cI, 1200, .inl cd_steps)), (a_cd_starts, .inl (cI, 39, .inl cd_starts)), (a_cd_stops, .inl (cI, 39, .inl cd_stops)), (a_cd_used, .inl (cI, 39, .inl cd_used)), (a_cd_stack, .inl (cI, 100, .inl cd_stack)), (a_lp, .inr (4, [.ref a_lp_facts, .ref a_lp_turns, .ref a_lp_first, .ref a_lp_src, .ref a_s1, .int lp_choices, .int lp_guesses, .int lp_unaries, .int lp_ranked])), (a_lp_turns, .inl (cI, 24576, .inl lp_turns)), (a_s1, .inl (cI, 4096, .inl s1))] sz)) 0 0 (va_A [(a_cd, .inr (1, [.ref a_cd_steps, .ref a_cd_starts, .ref a_cd_stops, .ref a_cd_used, .ref a_cd_stack, .int cd_size, .int cd_section, .int cd_height])), (a_cd_steps, .inl (cI, 1200, .inl cd_steps)), (a_cd_starts, .inl (cI, 39, .inl cd_starts)), (a_cd_stops, .inl (cI, 39, .inl cd_stops)), (a_cd_used, .inl (cI, 39, .inl cd_used)), (a_cd_stack, .inl (cI, 100, .inl cd_stack)), (a_lp, .inr (4, [.ref a_lp_facts, .ref a_lp_turns, .ref a_lp_first, .ref a_lp_src, .ref a_s1, .int lp_choices, .int lp_guesses, .int lp_unaries, .int lp_ranked])), (a_lp_turns, .inl (cI, 24576, .inl lp_turns)), (a_s1, .inl (cI, 4096, .inl s1))] sz) := by
  refine Met.ofW (cc := b_Loop_loadAssignment) (maxL := 8) (ret := none) (by decide) rfl ?_
  intro p e s m args below meth c s₁ B hml hv
  obtain ⟨rfl, hsz, hP, hK, hD0, hN, hT⟩ := hv
  have hx := B.exec
  have hb := B.bytes
  have hr := B.returns
  have hts := atoms_spec (ws := w_Loop_loadAssignment) B.pre
  have hown : s.vm.findClass "LoopInduction$Loop" = some m.cls := findClass_of_methodNamed B.named
  have hlocks := B.notSynchronized
  subst hsz
  have hD := hD0.self (sz := s.heap.size)
  generalize hAe : va_A [(a_cd, .inr (1, [.ref a_cd_steps, .ref a_cd_starts, .ref a_cd_stops, .ref a_cd_used, .ref a_cd_stack, .int cd_size, .int cd_section, .int cd_height])), (a_cd_steps, .inl (cI, 1200, .inl cd_steps)), (a_cd_starts, .inl (cI, 39, .inl cd_starts)), (a_cd_stops, .inl (cI, 39, .inl cd_stops)), (a_cd_used, .inl (cI, 39, .inl cd_used)), (a_cd_stack, .inl (cI, 100, .inl cd_stack)), (a_lp, .inr (4, [.ref a_lp_facts, .ref a_lp_turns, .ref a_lp_first, .ref a_lp_src, .ref a_s1, .int lp_choices, .int lp_guesses, .int lp_unaries, .int lp_ranked])), (a_lp_turns, .inl (cI, 24576, .inl lp_turns)), (a_s1, .inl (cI, 4096, .inl s1))] s.heap.size = A at hD hT ⊢
  have hA : ∀ q : Nat, s.heap.size ≤ q → A q := fun q h => by rw [← hAe]; exact Or.inr h
  have hS : va_S A s.heap s.heap [] := va_S.rf
  generalize hQ : MQ below _ _ s 0 0 _ = QQ
  have hl := lv_entry ([.ref a_lp, .ref a_cd, .int x2, .int x3]) (n := 8) (Nat.le_of_ble_eq_true rfl)
  rw [lg_entry_eq]
  generalize (lg_sl ([.ref a_lp, .ref a_cd, .int x2, .int x3]) ++ List.replicate (8 - (lg_sl ([.ref a_lp, .ref a_cd, .int x2, .int x3])).length) Slot.unset).toArray = ls at hl ⊢
  have hl : lv_has ls 8 [(0, .ref a_lp), (1, .ref a_cd), (2, .int x2), (3, .int x3)] := hl
  have fl_15 := (hts _ (List.mem_cons_of_mem _ m_255))
  have fl_44 := (hts _ (List.mem_cons_of_mem _ m_258))
  refine lv_bipush (v := 21) hx hb d_Loop_loadAssignment_0 (by decide) ?_
  refine lv_iload_n hx hb d_Loop_loadAssignment_2 rfl (lv_at hl 2 rfl) ?_
  refine lv_iconst (v := 3) hx hb d_Loop_loadAssignment_3 (by decide) ?_
  refine lv_imul hx hb d_Loop_loadAssignment_4 ?_
  refine lv_iadd hx hb d_Loop_loadAssignment_5 ?_
  refine lv_iload_n hx hb d_Loop_loadAssignment_6 rfl (lv_at hl 3 rfl) ?_
  refine lv_iadd hx hb d_Loop_loadAssignment_7 ?_
  refine lv_topi (fun x4_1 ex4_1 => ?_)
  have h := h x4_1 ex4_1
  refine lv_istore (lv' := [(4, .int x4_1), (0, .ref a_lp), (1, .ref a_cd), (2, .int x2), (3, .int x3)]) hx hb d_Loop_loadAssignment_8 hl (by decide) rfl (fun ls hl => ?_)
  refine lv_aload_n hx hb d_Loop_loadAssignment_10 rfl (lv_at hl 2 rfl) ?_
  refine lv_iload hx hb d_Loop_loadAssignment_11 (lv_at hl 0 rfl) ?_
  refine jn_i (wr := [(a_cd_steps, .inl (cI, 1200, .inl cd_steps)), (a_cd_stops, .inl (cI, 39, .inl cd_stops)), (a_cd_used, .inl (cI, 39, .inl cd_used)), (a_cd_stack, .inl (cI, 100, .inl cd_stack)), (a_lp, .inr (4, [.ref a_lp_facts, .ref a_lp_turns, .ref a_lp_first, .ref a_lp_src, .ref a_s1, .int lp_choices, .int lp_guesses, .int lp_unaries, .int lp_ranked])), (a_lp_turns, .inl (cI, 24576, .inl lp_turns)), (a_s1, .inl (cI, 4096, .inl s1))]) (va_runV (As := [.int x4_1]) (rest := []) ⟨hx, hb, hml, hown, hts⟩ (c_Code_isTold l dC dI cI cB cZ adK adV _ a_cd a_cd_steps a_cd_starts a_cd_stops a_cd_used a_cd_stack cd_size cd_section cd_height cd_starts x4_1 _ h) (cwV 1 hts (gv_ m_714 m_687 m_688 m_88 m_689) rfl rfl rfl pd_Code_isTold ⟨Nat.le_of_ble_eq_true rfl, Nat.le_of_ble_eq_true rfl⟩) ⟨pc_blind, va_recv hK hP (ci := 1) (q0 := 0) rfl rfl, pc_of (hP.sub [0, 2] rfl) hK (hD.sub [0, 2] (by decide) rfl) hN hT hS hA⟩ rfl rfl hl.1 rfl (lv_room (Nat.le_of_ble_eq_true rfl)) d_Loop_loadAssignment_13 ⟨Nat.zero_le _, Nat.zero_le _⟩) hP hD hS hA [0, 2] [1, 3, 4, 5, 6, 7, 8] rfl rfl (by decide) (by decide) (fun r_2 u_ H locs h hP hD hS => ?_)
  have hP : va_P (dC, dI) vwCl [(a_cd_steps, .inl (cI, 1200, .inl cd_steps)), (a_cd_stops, .inl (cI, 39, .inl cd_stops)), (a_cd_used, .inl (cI, 39, .inl cd_used)), (a_cd_stack, .inl (cI, 100, .inl cd_stack)), (a_lp, .inr (4, [.ref a_lp_facts, .ref a_lp_turns, .ref a_lp_first, .ref a_lp_src, .ref a_s1, .int lp_choices, .int lp_guesses, .int lp_unaries, .int lp_ranked])), (a_lp_turns, .inl (cI, 24576, .inl lp_turns)), (a_s1, .inl (cI, 4096, .inl s1)), (a_cd, .inr (1, [.ref a_cd_steps, .ref a_cd_starts, .ref a_cd_stops, .ref a_cd_used, .ref a_cd_stack, .int cd_size, .int cd_section, .int cd_height])), (a_cd_starts, .inl (cI, 39, .inl cd_starts))] H := hP
  have hD : va_D A [(a_cd_steps, .inl (cI, 1200, .inl cd_steps)), (a_cd_stops, .inl (cI, 39, .inl cd_stops)), (a_cd_used, .inl (cI, 39, .inl cd_used)), (a_cd_stack, .inl (cI, 100, .inl cd_stack)), (a_lp, .inr (4, [.ref a_lp_facts, .ref a_lp_turns, .ref a_lp_first, .ref a_lp_src, .ref a_s1, .int lp_choices, .int lp_guesses, .int lp_unaries, .int lp_ranked])), (a_lp_turns, .inl (cI, 24576, .inl lp_turns)), (a_s1, .inl (cI, 4096, .inl s1)), (a_cd, .inr (1, [.ref a_cd_steps, .ref a_cd_starts, .ref a_cd_stops, .ref a_cd_used, .ref a_cd_stack, .int cd_size, .int cd_section, .int cd_height])), (a_cd_starts, .inl (cI, 39, .inl cd_starts))] := hD
  refine lv_if_ne (tgt := 20) hx hb d_Loop_loadAssignment_16 (by decide) (fun c_16 => ?_) (fun c_16 => ?_)
  · have h := And.left h c_16
    refine lv_aload_n hx hb d_Loop_loadAssignment_20 rfl (lv_at hl 2 rfl) ?_
    refine lv_iload hx hb d_Loop_loadAssignment_21 (lv_at hl 0 rfl) ?_
    refine lv_aload_n hx hb d_Loop_loadAssignment_23 rfl (lv_at hl 1 rfl) ?_
    refine va_get (D := (dC, dI)) (ci := 4) (v := .ref a_s1) (C := "LoopInduction$Loop") (T := F_Loop) (N := 9) hx hb hts iC_Loop hown hK hP 4 rfl rfl 4 (by decide) fl_44 (fun _ h9 => h9) rfl d_Loop_loadAssignment_24 ?_
    refine jn_v (wr := [(a_lp, .inr (4, [.ref a_lp_facts, .ref a_lp_turns, .ref a_lp_first, .ref a_lp_src, .ref a_s1, .int lp_choices, .int lp_guesses, .int lp_unaries, .int lp_ranked])), (a_lp_turns, .inl (cI, 24576, .inl lp_turns))]) (va_runV (As := [.int x4_1, .ref a_s1]) (rest := []) ⟨hx, hb, hml, hown, hts⟩ (c_Code_tabulate l dC dI cI cB cZ adK adV _ a_cd a_cd_steps a_cd_starts a_cd_stops a_cd_used a_cd_stack a_s1 cd_size cd_section cd_height cd_steps cd_starts cd_stops cd_used cd_stack s1 x4_1 _ h) (cwV 2 hts (gv_ m_720 m_721 m_722 m_88 m_723) rfl rfl rfl pd_Code_tabulate ⟨Nat.le_of_ble_eq_true rfl, Nat.le_of_ble_eq_true rfl⟩) ⟨pc_blind, va_recv hK hP (ci := 1) (q0 := 7) rfl rfl, pc_of (hP.sub [7, 0, 8, 1, 2, 3, 6] rfl) hK (hD.sub [7, 0, 8, 1, 2, 3, 6] (by decide) rfl) hN hT hS hA⟩ rfl rfl hl.1 rfl (lv_room (Nat.le_of_ble_eq_true rfl)) d_Loop_loadAssignment_27 ⟨Nat.zero_le _, Nat.zero_le _⟩) hP hD hS hA [7, 0, 8, 1, 2, 3, 6] [4, 5] rfl rfl (by decide) (by decide) (fun u_ H locs h hP hD hS => ?_)
    obtain ⟨cd_height_3, cd_stack_4, s1_5⟩ := u_
    have hP : va_P (dC, dI) vwCl [(a_lp, .inr (4, [.ref a_lp_facts, .ref a_lp_turns, .ref a_lp_first, .ref a_lp_src, .ref a_s1, .int lp_choices, .int lp_guesses, .int lp_unaries, .int lp_ranked])), (a_lp_turns, .inl (cI, 24576, .inl lp_turns)), (a_cd, .inr (1, [.ref a_cd_steps, .ref a_cd_starts, .ref a_cd_stops, .ref a_cd_used, .ref a_cd_stack, .int cd_size, .int cd_section, .int cd_height_3])), (a_cd_steps, .inl (cI, 1200, .inl cd_steps)), (a_cd_starts, .inl (cI, 39, .inl cd_starts)), (a_cd_stops, .inl (cI, 39, .inl cd_stops)), (a_cd_used, .inl (cI, 39, .inl cd_used)), (a_cd_stack, .inl (cI, 100, .inl cd_stack_4)), (a_s1, .inl (cI, 4096, .inl s1_5))] H := hP
    have hD : va_D A [(a_lp, .inr (4, [.ref a_lp_facts, .ref a_lp_turns, .ref a_lp_first, .ref a_lp_src, .ref a_s1, .int lp_choices, .int lp_guesses, .int lp_unaries, .int lp_ranked])), (a_lp_turns, .inl (cI, 24576, .inl lp_turns)), (a_cd, .inr (1, [.ref a_cd_steps, .ref a_cd_starts, .ref a_cd_stops, .ref a_cd_used, .ref a_cd_stack, .int cd_size, .int cd_section, .int cd_height_3])), (a_cd_steps, .inl (cI, 1200, .inl cd_steps)), (a_cd_starts, .inl (cI, 39, .inl cd_starts)), (a_cd_stops, .inl (cI, 39, .inl cd_stops)), (a_cd_used, .inl (cI, 39, .inl cd_used)), (a_cd_stack, .inl (cI, 100, .inl cd_stack_4)), (a_s1, .inl (cI, 4096, .inl s1_5))] := hD
    refine lv_iload_n hx hb d_Loop_loadAssignment_30 rfl (lv_at hl 3 rfl) ?_
    refine lv_sipush (v := 4096) hx hb d_Loop_loadAssignment_31 (by decide) ?_
    refine lv_imul hx hb d_Loop_loadAssignment_34 ?_
    refine lv_topi (fun x5_6 ex5_6 => ?_)
    have h := h x5_6 ex5_6
    refine lv_istore (lv' := [(5, .int x5_6), (4, .int x4_1), (0, .ref a_lp), (1, .ref a_cd), (2, .int x2), (3, .int x3)]) hx hb d_Loop_loadAssignment_35 hl (by decide) rfl (fun ls hl => ?_)
    refine lv_iconst (v := 4) hx hb d_Loop_loadAssignment_37 (by decide) ?_
    refine lv_iload_n hx hb d_Loop_loadAssignment_38 rfl (lv_at hl 5 rfl) ?_
    refine lv_imul hx hb d_Loop_loadAssignment_39 ?_
    refine lv_topi (fun x6_7 ex6_7 => ?_)
    have h := h x6_7 ex6_7
    refine lv_istore (lv' := [(6, .int x6_7), (5, .int x5_6), (4, .int x4_1), (0, .ref a_lp), (1, .ref a_cd), (2, .int x2), (3, .int x3)]) hx hb d_Loop_loadAssignment_40 hl (by decide) rfl (fun ls hl => ?_)
    refine lv_iconst (v := 0) hx hb d_Loop_loadAssignment_42 (by decide) ?_
    refine lv_istore (lv' := [(7, .int 0), (6, .int x6_7), (5, .int x5_6), (4, .int x4_1), (0, .ref a_lp), (1, .ref a_cd), (2, .int x2), (3, .int x3)]) hx hb d_Loop_loadAssignment_43 hl (by decide) rfl (fun ls hl => ?_)
    have L45_q_10 : ∀ (k98 : (Nat → Int32) → Prop) (hk98 : ∀ (lp_turns_11 : Nat → Int32), k98 lp_turns_11 → ∀ (H : Heap) (locs : List Loc), va_P (dC, dI) vwCl [(a_lp, .inr (4, [.ref a_lp_facts, .ref a_lp_turns, .ref a_lp_first, .ref a_lp_src, .ref a_s1, .int lp_choices, .int lp_guesses, .int lp_unaries, .int lp_ranked])), (a_lp_turns, .inl (cI, 24576, .inl lp_turns_11)), (a_cd, .inr (1, [.ref a_cd_steps, .ref a_cd_starts, .ref a_cd_stops, .ref a_cd_used, .ref a_cd_stack, .int cd_size, .int cd_section, .int cd_height_3])), (a_cd_steps, .inl (cI, 1200, .inl cd_steps)), (a_cd_starts, .inl (cI, 39, .inl cd_starts)), (a_cd_stops, .inl (cI, 39, .inl cd_stops)), (a_cd_used, .inl (cI, 39, .inl cd_used)), (a_cd_stack, .inl (cI, 100, .inl cd_stack_4)), (a_s1, .inl (cI, 4096, .inl s1_5))] H → va_D A [(a_lp, .inr (4, [.ref a_lp_facts, .ref a_lp_turns, .ref a_lp_first, .ref a_lp_src, .ref a_s1, .int lp_choices, .int lp_guesses, .int lp_unaries, .int lp_ranked])), (a_lp_turns, .inl (cI, 24576, .inl lp_turns_11)), (a_cd, .inr (1, [.ref a_cd_steps, .ref a_cd_starts, .ref a_cd_stops, .ref a_cd_used, .ref a_cd_stack, .int cd_size, .int cd_section, .int cd_height_3])), (a_cd_steps, .inl (cI, 1200, .inl cd_steps)), (a_cd_starts, .inl (cI, 39, .inl cd_starts)), (a_cd_stops, .inl (cI, 39, .inl cd_stops)), (a_cd_used, .inl (cI, 39, .inl cd_used)), (a_cd_stack, .inl (cI, 100, .inl cd_stack_4)), (a_s1, .inl (cI, 4096, .inl s1_5))] → va_S A s.heap H locs → ∀ ls : Array Slot, lv_has ls 8 [] → W p l e (headSpec w_Loop_loadAssignment ({ frames := 3, cells := 0, slots := 0, locals := 73 })).room s m (([.ref a_lp, .ref a_cd, .int x2, .int x3] : List Value).toArray) below meth c H locs 0 0 QQ (F0 m 98 ls [])) (n : Nat) (x7_8 : Int32) (lp_turns_9 : Nat → Int32), wp_Loop_loadAssignment_L45 x5_6 x6_7 s1_5 k98 n x7_8 lp_turns_9 → ∀ (H : Heap) (locs : List Loc), va_P (dC, dI) vwCl [(a_lp, .inr (4, [.ref a_lp_facts, .ref a_lp_turns, .ref a_lp_first, .ref a_lp_src, .ref a_s1, .int lp_choices, .int lp_guesses, .int lp_unaries, .int lp_ranked])), (a_lp_turns, .inl (cI, 24576, .inl lp_turns_9)), (a_cd, .inr (1, [.ref a_cd_steps, .ref a_cd_starts, .ref a_cd_stops, .ref a_cd_used, .ref a_cd_stack, .int cd_size, .int cd_section, .int cd_height_3])), (a_cd_steps, .inl (cI, 1200, .inl cd_steps)), (a_cd_starts, .inl (cI, 39, .inl cd_starts)), (a_cd_stops, .inl (cI, 39, .inl cd_stops)), (a_cd_used, .inl (cI, 39, .inl cd_used)), (a_cd_stack, .inl (cI, 100, .inl cd_stack_4)), (a_s1, .inl (cI, 4096, .inl s1_5))] H → va_D A [(a_lp, .inr (4, [.ref a_lp_facts, .ref a_lp_turns, .ref a_lp_first, .ref a_lp_src, .ref a_s1, .int lp_choices, .int lp_guesses, .int lp_unaries, .int lp_ranked])), (a_lp_turns, .inl (cI, 24576, .inl lp_turns_9)), (a_cd, .inr (1, [.ref a_cd_steps, .ref a_cd_starts, .ref a_cd_stops, .ref a_cd_used, .ref a_cd_stack, .int cd_size, .int cd_section, .int cd_height_3])), (a_cd_steps, .inl (cI, 1200, .inl cd_steps)), (a_cd_starts, .inl (cI, 39, .inl cd_starts)), (a_cd_stops, .inl (cI, 39, .inl cd_stops)), (a_cd_used, .inl (cI, 39, .inl cd_used)), (a_cd_stack, .inl (cI, 100, .inl cd_stack_4)), (a_s1, .inl (cI, 4096, .inl s1_5))] → va_S A s.heap H locs → ∀ ls : Array Slot, lv_has ls 8 [(0, .ref a_lp), (5, .int x5_6), (6, .int x6_7), (7, .int x7_8)] → W p l e (headSpec w_Loop_loadAssignment ({ frames := 3, cells := 0, slots := 0, locals := 73 })).room s m (([.ref a_lp, .ref a_cd, .int x2, .int x3] : List Value).toArray) below meth c H locs 0 0 QQ (F0 m 45 ls []) := by
      intro k98 hk98 n
      induction n with
      | zero => intro x7_8 lp_turns_9 h; exact (show False from h).elim
      | succ n il =>
        intro x7_8 lp_turns_9 h
        intro H locs hP hD hS ls hl
        refine lv_iload hx hb d_Loop_loadAssignment_45 (lv_at hl 3 rfl) ?_
        refine lv_sipush (v := 4096) hx hb d_Loop_loadAssignment_47 (by decide) ?_
        refine lv_icmp_ge (tgt := 98) hx hb d_Loop_loadAssignment_50 (by decide) (fun c_50 => ?_) (fun c_50 => ?_)
        · have h := And.left h c_50
          exact hk98 _ h _ _ hP hD hS _ (lv_sub hl [] rfl)
        · have h := And.right h c_50
          refine lv_aload_n hx hb d_Loop_loadAssignment_53 rfl (lv_at hl 0 rfl) ?_
          refine va_get (D := (dC, dI)) (ci := 4) (v := .ref a_lp_turns) (C := "LoopInduction$Loop") (T := F_Loop) (N := 9) hx hb hts iC_Loop hown hK hP 0 rfl rfl 1 (by decide) fl_15 (fun _ h9 => h9) rfl d_Loop_loadAssignment_54 ?_
          refine lv_iload hx hb d_Loop_loadAssignment_57 (lv_at hl 1 rfl) ?_
          refine lv_iload hx hb d_Loop_loadAssignment_59 (lv_at hl 3 rfl) ?_
          refine lv_iadd hx hb d_Loop_loadAssignment_61 ?_
          refine lv_aload_n hx hb d_Loop_loadAssignment_62 rfl (lv_at hl 0 rfl) ?_
          refine va_get (D := (dC, dI)) (ci := 4) (v := .ref a_lp_turns) (C := "LoopInduction$Loop") (T := F_Loop) (N := 9) hx hb hts iC_Loop hown hK hP 0 rfl rfl 1 (by decide) fl_15 (fun _ h9 => h9) rfl d_Loop_loadAssignment_63 ?_
          refine lv_iload hx hb d_Loop_loadAssignment_66 (lv_at hl 1 rfl) ?_
          refine lv_iload hx hb d_Loop_loadAssignment_68 (lv_at hl 3 rfl) ?_
          refine lv_iadd hx hb d_Loop_loadAssignment_70 ?_
          obtain ⟨hin_71, h⟩ := h
          refine va_iald hx hb hK hP 1 0 rfl rfl hin_71 d_Loop_loadAssignment_71 ?_
          refine lv_bipush (v := 15) hx hb d_Loop_loadAssignment_72 (by decide) ?_
          refine lv_iload hx hb d_Loop_loadAssignment_74 (lv_at hl 2 rfl) ?_
          refine lv_ishl hx hb d_Loop_loadAssignment_76 ?_
          refine lv_iconst (v := (-1)) hx hb d_Loop_loadAssignment_77 (by decide) ?_
          refine lv_ixor hx hb d_Loop_loadAssignment_78 ?_
          refine lv_iand hx hb d_Loop_loadAssignment_79 ?_
          refine lv_aload_n hx hb d_Loop_loadAssignment_80 rfl (lv_at hl 0 rfl) ?_
          refine va_get (D := (dC, dI)) (ci := 4) (v := .ref a_s1) (C := "LoopInduction$Loop") (T := F_Loop) (N := 9) hx hb hts iC_Loop hown hK hP 0 rfl rfl 4 (by decide) fl_44 (fun _ h9 => h9) rfl d_Loop_loadAssignment_81 ?_
          refine lv_iload hx hb d_Loop_loadAssignment_84 (lv_at hl 3 rfl) ?_
          obtain ⟨hin_86, h⟩ := h
          refine va_iald hx hb hK hP 8 0 rfl rfl hin_86 d_Loop_loadAssignment_86 ?_
          refine lv_iload hx hb d_Loop_loadAssignment_87 (lv_at hl 2 rfl) ?_
          refine lv_ishl hx hb d_Loop_loadAssignment_89 ?_
          refine lv_ior hx hb d_Loop_loadAssignment_90 ?_
          obtain ⟨hin_91, h⟩ := h
          refine va_iast hx hb hK hP hD hS 1 0 rfl rfl hin_91 d_Loop_loadAssignment_91 (fun H locs hP hD hS => ?_)
          have hP : va_P (dC, dI) vwCl [(a_lp, .inr (4, [.ref a_lp_facts, .ref a_lp_turns, .ref a_lp_first, .ref a_lp_src, .ref a_s1, .int lp_choices, .int lp_guesses, .int lp_unaries, .int lp_ranked])), (a_lp_turns, .inl (cI, 24576, .inl (upd lp_turns_9 (x5_6 + x7_8 : Int32).toNatClampNeg (((lp_turns_9 (x5_6 + x7_8 : Int32).toNatClampNeg) &&& ((15 <<< (x6_7 &&& 31)) ^^^ (-1))) ||| ((s1_5 (x7_8 : Int32).toNatClampNeg) <<< (x6_7 &&& 31)))))), (a_cd, .inr (1, [.ref a_cd_steps, .ref a_cd_starts, .ref a_cd_stops, .ref a_cd_used, .ref a_cd_stack, .int cd_size, .int cd_section, .int cd_height_3])), (a_cd_steps, .inl (cI, 1200, .inl cd_steps)), (a_cd_starts, .inl (cI, 39, .inl cd_starts)), (a_cd_stops, .inl (cI, 39, .inl cd_stops)), (a_cd_used, .inl (cI, 39, .inl cd_used)), (a_cd_stack, .inl (cI, 100, .inl cd_stack_4)), (a_s1, .inl (cI, 4096, .inl s1_5))] H := hP
          have hD : va_D A [(a_lp, .inr (4, [.ref a_lp_facts, .ref a_lp_turns, .ref a_lp_first, .ref a_lp_src, .ref a_s1, .int lp_choices, .int lp_guesses, .int lp_unaries, .int lp_ranked])), (a_lp_turns, .inl (cI, 24576, .inl (upd lp_turns_9 (x5_6 + x7_8 : Int32).toNatClampNeg (((lp_turns_9 (x5_6 + x7_8 : Int32).toNatClampNeg) &&& ((15 <<< (x6_7 &&& 31)) ^^^ (-1))) ||| ((s1_5 (x7_8 : Int32).toNatClampNeg) <<< (x6_7 &&& 31)))))), (a_cd, .inr (1, [.ref a_cd_steps, .ref a_cd_starts, .ref a_cd_stops, .ref a_cd_used, .ref a_cd_stack, .int cd_size, .int cd_section, .int cd_height_3])), (a_cd_steps, .inl (cI, 1200, .inl cd_steps)), (a_cd_starts, .inl (cI, 39, .inl cd_starts)), (a_cd_stops, .inl (cI, 39, .inl cd_stops)), (a_cd_used, .inl (cI, 39, .inl cd_used)), (a_cd_stack, .inl (cI, 100, .inl cd_stack_4)), (a_s1, .inl (cI, 4096, .inl s1_5))] := hD
          refine lv_iinc (v := x7_8 + 1) (lv' := [(7, .int (x7_8 + 1)), (0, .ref a_lp), (5, .int x5_6), (6, .int x6_7)]) hx hb d_Loop_loadAssignment_92 hl (k := 3) rfl rfl (by decide) rfl (fun ls hl => ?_)
          refine lv_goto (tgt := 45) hx hb d_Loop_loadAssignment_95 (by decide) ?_
          exact il _ _ h _ _ hP hD hS _ (lv_sub hl [1, 2, 3, 0] rfl)
    obtain ⟨n_, h⟩ := h
    refine L45_q_10 _ ?_ n_ _ _ h _ _ hP hD hS _ (lv_sub hl [4, 2, 1, 0] rfl)
    intro lp_turns_12 h
    intro H locs hP hD hS ls hl
    rw [← hQ]
    have hP9 := hP.sub (ws' := [(a_cd, .inr (1, [.ref a_cd_steps, .ref a_cd_starts, .ref a_cd_stops, .ref a_cd_used, .ref a_cd_stack, .int cd_size, .int cd_section, .int cd_height_3])), (a_cd_steps, .inl (cI, 1200, .inl cd_steps)), (a_cd_starts, .inl (cI, 39, .inl cd_starts)), (a_cd_stops, .inl (cI, 39, .inl cd_stops)), (a_cd_used, .inl (cI, 39, .inl cd_used)), (a_cd_stack, .inl (cI, 100, .inl cd_stack_4)), (a_lp, .inr (4, [.ref a_lp_facts, .ref a_lp_turns, .ref a_lp_first, .ref a_lp_src, .ref a_s1, .int lp_choices, .int lp_guesses, .int lp_unaries, .int lp_ranked])), (a_lp_turns, .inl (cI, 24576, .inl lp_turns_12)), (a_s1, .inl (cI, 4096, .inl s1_5))]) [2, 3, 4, 5, 6, 7, 0, 1, 8] rfl
    have hD9 := hD.sub (ws' := [(a_cd, .inr (1, [.ref a_cd_steps, .ref a_cd_starts, .ref a_cd_stops, .ref a_cd_used, .ref a_cd_stack, .int cd_size, .int cd_section, .int cd_height_3])), (a_cd_steps, .inl (cI, 1200, .inl cd_steps)), (a_cd_starts, .inl (cI, 39, .inl cd_starts)), (a_cd_stops, .inl (cI, 39, .inl cd_stops)), (a_cd_used, .inl (cI, 39, .inl cd_used)), (a_cd_stack, .inl (cI, 100, .inl cd_stack_4)), (a_lp, .inr (4, [.ref a_lp_facts, .ref a_lp_turns, .ref a_lp_first, .ref a_lp_src, .ref a_s1, .int lp_choices, .int lp_guesses, .int lp_unaries, .int lp_ranked])), (a_lp_turns, .inl (cI, 24576, .inl lp_turns_12)), (a_s1, .inl (cI, 4096, .inl s1_5))]) [2, 3, 4, 5, 6, 7, 0, 1, 8] (by decide) rfl
    exact W.vret hx hb hr (fun t ht hW => ⟨⟨(cd_height_3, cd_stack_4, lp_turns_12, s1_5), rfl, h, by rw [ht]; exact hP9, va_K.moved hW.alike hK, hD9⟩, hS.F ht⟩) hS.2.2 d_Loop_loadAssignment_98
  · have h := And.right h c_16
    rw [← hQ]
    have hP9 := hP.sub (ws' := [(a_cd, .inr (1, [.ref a_cd_steps, .ref a_cd_starts, .ref a_cd_stops, .ref a_cd_used, .ref a_cd_stack, .int cd_size, .int cd_section, .int cd_height])), (a_cd_steps, .inl (cI, 1200, .inl cd_steps)), (a_cd_starts, .inl (cI, 39, .inl cd_starts)), (a_cd_stops, .inl (cI, 39, .inl cd_stops)), (a_cd_used, .inl (cI, 39, .inl cd_used)), (a_cd_stack, .inl (cI, 100, .inl cd_stack)), (a_lp, .inr (4, [.ref a_lp_facts, .ref a_lp_turns, .ref a_lp_first, .ref a_lp_src, .ref a_s1, .int lp_choices, .int lp_guesses, .int lp_unaries, .int lp_ranked])), (a_lp_turns, .inl (cI, 24576, .inl lp_turns)), (a_s1, .inl (cI, 4096, .inl s1))]) [7, 0, 8, 1, 2, 3, 4, 5, 6] rfl
    have hD9 := hD.sub (ws' := [(a_cd, .inr (1, [.ref a_cd_steps, .ref a_cd_starts, .ref a_cd_stops, .ref a_cd_used, .ref a_cd_stack, .int cd_size, .int cd_section, .int cd_height])), (a_cd_steps, .inl (cI, 1200, .inl cd_steps)), (a_cd_starts, .inl (cI, 39, .inl cd_starts)), (a_cd_stops, .inl (cI, 39, .inl cd_stops)), (a_cd_used, .inl (cI, 39, .inl cd_used)), (a_cd_stack, .inl (cI, 100, .inl cd_stack)), (a_lp, .inr (4, [.ref a_lp_facts, .ref a_lp_turns, .ref a_lp_first, .ref a_lp_src, .ref a_s1, .int lp_choices, .int lp_guesses, .int lp_unaries, .int lp_ranked])), (a_lp_turns, .inl (cI, 24576, .inl lp_turns)), (a_s1, .inl (cI, 4096, .inl s1))]) [7, 0, 8, 1, 2, 3, 4, 5, 6] (by decide) rfl
    exact W.vret hx hb hr (fun t ht hW => ⟨⟨(cd_height, cd_stack, lp_turns, s1), rfl, h, by rw [ht]; exact hP9, va_K.moved hW.alike hK, hD9⟩, hS.F ht⟩) hS.2.2 d_Loop_loadAssignment_19
set_option maxHeartbeats 4000000 in
set_option maxRecDepth 100000 in
theorem c_Loop_loadChoice (l : Launch) (dC : Nat → ClassId) (dI : Nat → Nat → Nat) (cI cB cZ : ClassId) (adK adV : Nat → Nat) (sz : Nat) (a_cd a_cd_steps a_cd_starts a_cd_stops a_cd_used a_cd_stack a_lp a_lp_facts a_lp_turns a_lp_first a_lp_src a_s1 : Nat) (cd_size : Int32) (cd_section : Int32) (cd_height : Int32) (cd_steps : Nat → Int32) (cd_starts : Nat → Int32) (cd_stops : Nat → Int32) (cd_used : Nat → Int32) (cd_stack : Nat → Int32) (lp_choices : Int32) (lp_guesses : Int32) (lp_unaries : Int32) (lp_ranked : Int32) (lp_turns : Nat → Int32) (s1 : Nat → Int32) (x2 : Int32) (post : Int32 → (Nat → Int32) → (Nat → Int32) → (Nat → Int32) → Prop) (h : wp_Loop_loadChoice x2 cd_height cd_steps cd_starts cd_stops cd_used cd_stack lp_turns s1 post) : Met l y_Loop_loadChoice w_Loop_loadChoice ({ frames := 4, cells := 0, slots := 0, locals := 100 }) (pc_ (dC, dI) [(cI, .int), (cB, .byte), (cZ, .boolean)] [(a_cd, .inr (1, [.ref a_cd_steps, .ref a_cd_starts, .ref a_cd_stops, .ref a_cd_used, .ref a_cd_stack, .int cd_size, .int cd_section, .int cd_height])), (a_cd_steps, .inl (cI, 1200, .inl cd_steps)), (a_cd_starts, .inl (cI, 39, .inl cd_starts)), (a_cd_stops, .inl (cI, 39, .inl cd_stops)), (a_cd_used, .inl (cI, 39, .inl cd_used)), (a_cd_stack, .inl (cI, 100, .inl cd_stack)), (a_lp, .inr (4, [.ref a_lp_facts, .ref a_lp_turns, .ref a_lp_first, .ref a_lp_src, .ref a_s1, .int lp_choices, .int lp_guesses, .int lp_unaries, .int lp_ranked])), (a_lp_turns, .inl (cI, 24576, .inl lp_turns)), (a_s1, .inl (cI, 4096, .inl s1))] sz adK adV [.ref a_lp, .ref a_cd, .int x2]) (va_Qv (fun (u : Int32 × (Nat → Int32) × (Nat → Int32) × (Nat → Int32)) => post u.1 u.2.1 u.2.2.1 u.2.2.2) (fun (u : Int32 × (Nat → Int32) × (Nat → Int32) × (Nat → Int32)) t => bw_ (dC, dI) [(cI, .int), (cB, .byte), (cZ, .boolean)] (va_A [(a_cd, .inr (1, [.ref a_cd_steps, .ref a_cd_starts, .ref a_cd_stops, .ref a_cd_used, .ref a_cd_stack, .int cd_size, .int cd_section, .int cd_height])), (a_cd_steps, .inl (cI, 1200, .inl cd_steps)), (a_cd_starts, .inl (cI, 39, .inl cd_starts)), (a_cd_stops, .inl (cI, 39, .inl cd_stops)), (a_cd_used, .inl (cI, 39, .inl cd_used)), (a_cd_stack, .inl (cI, 100, .inl cd_stack)), (a_lp, .inr (4, [.ref a_lp_facts, .ref a_lp_turns, .ref a_lp_first, .ref a_lp_src, .ref a_s1, .int lp_choices, .int lp_guesses, .int lp_unaries, .int lp_ranked])), (a_lp_turns, .inl (cI, 24576, .inl lp_turns)), (a_s1, .inl (cI, 4096, .inl s1))] sz) [(a_cd, .inr (1, [.ref a_cd_steps, .ref a_cd_starts, .ref a_cd_stops, .ref a_cd_used, .ref a_cd_stack, .int cd_size, .int cd_section, .int u.1])), (a_cd_steps, .inl (cI, 1200, .inl cd_steps)), (a_cd_starts, .inl (cI, 39, .inl cd_starts)), (a_cd_stops, .inl (cI, 39, .inl cd_stops)), (a_cd_used, .inl (cI, 39, .inl cd_used)), (a_cd_stack, .inl (cI, 100, .inl u.2.1)), (a_lp, .inr (4, [.ref a_lp_facts, .ref a_lp_turns, .ref a_lp_first, .ref a_lp_src, .ref a_s1, .int lp_choices, .int lp_guesses, .int lp_unaries, .int lp_ranked])), (a_lp_turns, .inl (cI, 24576, .inl u.2.2.1)), (a_s1, .inl (cI, 4096, .inl u.2.2.2))] t) (va_A [(a_cd, .inr (1, [.ref a_cd_steps, .ref a_cd_starts, .ref a_cd_stops, .ref a_cd_used, .ref a_cd_stack, .int cd_size, .int cd_section, .int cd_height])), (a_cd_steps, .inl (cI, 1200, .inl cd_steps)), (a_cd_starts, .inl (cI, 39, .inl cd_starts)), (a_cd_stops, .inl (cI, 39, .inl cd_stops)), (a_cd_used, .inl (cI, 39, .inl cd_used)), (a_cd_stack, .inl (cI, 100, .inl cd_stack)), (a_lp, .inr (4, [.ref a_lp_facts, .ref a_lp_turns, .ref a_lp_first, .ref a_lp_src, .ref a_s1, .int lp_choices, .int lp_guesses, .int lp_unaries, .int lp_ranked])), (a_lp_turns, .inl (cI, 24576, .inl lp_turns)), (a_s1, .inl (cI, 4096, .inl s1))] sz)) 0 0 (va_A [(a_cd, .inr (1, [.ref a_cd_steps, .ref a_cd_starts, .ref a_cd_stops, .ref a_cd_used, .ref a_cd_stack, .int cd_size, .int cd_section, .int cd_height])), (a_cd_steps, .inl (cI, 1200, .inl cd_steps)), (a_cd_starts, .inl (cI, 39, .inl cd_starts)), (a_cd_stops, .inl (cI, 39, .inl cd_stops)), (a_cd_used, .inl (cI, 39, .inl cd_used)), (a_cd_stack, .inl (cI, 100, .inl cd_stack)), (a_lp, .inr (4, [.ref a_lp_facts, .ref a_lp_turns, .ref a_lp_first, .ref a_lp_src, .ref a_s1, .int lp_choices, .int lp_guesses, .int lp_unaries, .int lp_ranked])), (a_lp_turns, .inl (cI, 24576, .inl lp_turns)), (a_s1, .inl (cI, 4096, .inl s1))] sz) := by
  refine Met.ofW (cc := b_Loop_loadChoice) (maxL := 5) (ret := none) (by decide) rfl ?_
  intro p e s m args below meth c s₁ B hml hv
  obtain ⟨rfl, hsz, hP, hK, hD0, hN, hT⟩ := hv
  have hx := B.exec
  have hb := B.bytes
  have hr := B.returns
  have hts := atoms_spec (ws := w_Loop_loadChoice) B.pre
  have hown : s.vm.findClass "LoopInduction$Loop" = some m.cls := findClass_of_methodNamed B.named
  have hlocks := B.notSynchronized
  subst hsz
  have hD := hD0.self (sz := s.heap.size)
  generalize hAe : va_A [(a_cd, .inr (1, [.ref a_cd_steps, .ref a_cd_starts, .ref a_cd_stops, .ref a_cd_used, .ref a_cd_stack, .int cd_size, .int cd_section, .int cd_height])), (a_cd_steps, .inl (cI, 1200, .inl cd_steps)), (a_cd_starts, .inl (cI, 39, .inl cd_starts)), (a_cd_stops, .inl (cI, 39, .inl cd_stops)), (a_cd_used, .inl (cI, 39, .inl cd_used)), (a_cd_stack, .inl (cI, 100, .inl cd_stack)), (a_lp, .inr (4, [.ref a_lp_facts, .ref a_lp_turns, .ref a_lp_first, .ref a_lp_src, .ref a_s1, .int lp_choices, .int lp_guesses, .int lp_unaries, .int lp_ranked])), (a_lp_turns, .inl (cI, 24576, .inl lp_turns)), (a_s1, .inl (cI, 4096, .inl s1))] s.heap.size = A at hD hT ⊢
  have hA : ∀ q : Nat, s.heap.size ≤ q → A q := fun q h => by rw [← hAe]; exact Or.inr h
  have hS : va_S A s.heap s.heap [] := va_S.rf
  generalize hQ : MQ below _ _ s 0 0 _ = QQ
  have hl := lv_entry ([.ref a_lp, .ref a_cd, .int x2]) (n := 5) (Nat.le_of_ble_eq_true rfl)
  rw [lg_entry_eq]
  generalize (lg_sl ([.ref a_lp, .ref a_cd, .int x2]) ++ List.replicate (5 - (lg_sl ([.ref a_lp, .ref a_cd, .int x2])).length) Slot.unset).toArray = ls at hl ⊢
  have hl : lv_has ls 5 [(0, .ref a_lp), (1, .ref a_cd), (2, .int x2)] := hl
  have fl_15 := (hts _ (List.mem_cons_of_mem _ m_255))
  have fl_44 := (hts _ (List.mem_cons_of_mem _ m_258))
  refine lv_iload_n hx hb d_Loop_loadChoice_0 rfl (lv_at hl 2 rfl) ?_
  refine lv_if_lt (tgt := 10) hx hb d_Loop_loadChoice_1 (by decide) (fun c_1 => ?_) (fun c_1 => ?_)
  · have h := And.left h c_1
    rw [← hQ]
    have hP9 := hP
    have hD9 := hD
    exact W.vret hx hb hr (fun t ht hW => ⟨⟨(cd_height, cd_stack, lp_turns, s1), rfl, h, by rw [ht]; exact hP9, va_K.moved hW.alike hK, hD9⟩, hS.F ht⟩) hS.2.2 d_Loop_loadChoice_10
  · have h := And.right h c_1
    refine lv_iload_n hx hb d_Loop_loadChoice_4 rfl (lv_at hl 2 rfl) ?_
    refine lv_bipush (v := 6) hx hb d_Loop_loadChoice_5 (by decide) ?_
    refine lv_icmp_lt (tgt := 11) hx hb d_Loop_loadChoice_7 (by decide) (fun c_7 => ?_) (fun c_7 => ?_)
    · have h := And.left h c_7
      refine lv_iload_n hx hb d_Loop_loadChoice_11 rfl (lv_at hl 2 rfl) ?_
      refine lv_sipush (v := 4096) hx hb d_Loop_loadChoice_12 (by decide) ?_
      refine lv_imul hx hb d_Loop_loadChoice_15 ?_
      refine lv_topi (fun x3_1 ex3_1 => ?_)
      have h := h x3_1 ex3_1
      refine lv_istore_n (lv' := [(3, .int x3_1), (0, .ref a_lp), (1, .ref a_cd), (2, .int x2)]) hx hb d_Loop_loadChoice_16 rfl hl (by decide) rfl (fun ls hl => ?_)
      refine lv_iconst (v := 0) hx hb d_Loop_loadChoice_17 (by decide) ?_
      refine lv_istore (lv' := [(4, .int 0), (3, .int x3_1), (0, .ref a_lp), (1, .ref a_cd), (2, .int x2)]) hx hb d_Loop_loadChoice_18 hl (by decide) rfl (fun ls hl => ?_)
      have L20_q_4 : ∀ (k45 : (Nat → Int32) → Prop) (hk45 : ∀ (lp_turns_5 : Nat → Int32), k45 lp_turns_5 → ∀ (H : Heap) (locs : List Loc), va_P (dC, dI) vwCl [(a_cd, .inr (1, [.ref a_cd_steps, .ref a_cd_starts, .ref a_cd_stops, .ref a_cd_used, .ref a_cd_stack, .int cd_size, .int cd_section, .int cd_height])), (a_cd_steps, .inl (cI, 1200, .inl cd_steps)), (a_cd_starts, .inl (cI, 39, .inl cd_starts)), (a_cd_stops, .inl (cI, 39, .inl cd_stops)), (a_cd_used, .inl (cI, 39, .inl cd_used)), (a_cd_stack, .inl (cI, 100, .inl cd_stack)), (a_lp, .inr (4, [.ref a_lp_facts, .ref a_lp_turns, .ref a_lp_first, .ref a_lp_src, .ref a_s1, .int lp_choices, .int lp_guesses, .int lp_unaries, .int lp_ranked])), (a_lp_turns, .inl (cI, 24576, .inl lp_turns_5)), (a_s1, .inl (cI, 4096, .inl s1))] H → va_D A [(a_cd, .inr (1, [.ref a_cd_steps, .ref a_cd_starts, .ref a_cd_stops, .ref a_cd_used, .ref a_cd_stack, .int cd_size, .int cd_section, .int cd_height])), (a_cd_steps, .inl (cI, 1200, .inl cd_steps)), (a_cd_starts, .inl (cI, 39, .inl cd_starts)), (a_cd_stops, .inl (cI, 39, .inl cd_stops)), (a_cd_used, .inl (cI, 39, .inl cd_used)), (a_cd_stack, .inl (cI, 100, .inl cd_stack)), (a_lp, .inr (4, [.ref a_lp_facts, .ref a_lp_turns, .ref a_lp_first, .ref a_lp_src, .ref a_s1, .int lp_choices, .int lp_guesses, .int lp_unaries, .int lp_ranked])), (a_lp_turns, .inl (cI, 24576, .inl lp_turns_5)), (a_s1, .inl (cI, 4096, .inl s1))] → va_S A s.heap H locs → ∀ ls : Array Slot, lv_has ls 5 [(0, .ref a_lp), (1, .ref a_cd), (2, .int x2), (3, .int x3_1)] → W p l e (headSpec w_Loop_loadChoice ({ frames := 4, cells := 0, slots := 0, locals := 100 })).room s m (([.ref a_lp, .ref a_cd, .int x2] : List Value).toArray) below meth c H locs 0 0 QQ (F0 m 45 ls [])) (n : Nat) (x4_2 : Int32) (lp_turns_3 : Nat → Int32), wp_Loop_loadChoice_L20 x2 x3_1 k45 n x4_2 lp_turns_3 → ∀ (H : Heap) (locs : List Loc), va_P (dC, dI) vwCl [(a_cd, .inr (1, [.ref a_cd_steps, .ref a_cd_starts, .ref a_cd_stops, .ref a_cd_used, .ref a_cd_stack, .int cd_size, .int cd_section, .int cd_height])), (a_cd_steps, .inl (cI, 1200, .inl cd_steps)), (a_cd_starts, .inl (cI, 39, .inl cd_starts)), (a_cd_stops, .inl (cI, 39, .inl cd_stops)), (a_cd_used, .inl (cI, 39, .inl cd_used)), (a_cd_stack, .inl (cI, 100, .inl cd_stack)), (a_lp, .inr (4, [.ref a_lp_facts, .ref a_lp_turns, .ref a_lp_first, .ref a_lp_src, .ref a_s1, .int lp_choices, .int lp_guesses, .int lp_unaries, .int lp_ranked])), (a_lp_turns, .inl (cI, 24576, .inl lp_turns_3)), (a_s1, .inl (cI, 4096, .inl s1))] H → va_D A [(a_cd, .inr (1, [.ref a_cd_steps, .ref a_cd_starts, .ref a_cd_stops, .ref a_cd_used, .ref a_cd_stack, .int cd_size, .int cd_section, .int cd_height])), (a_cd_steps, .inl (cI, 1200, .inl cd_steps)), (a_cd_starts, .inl (cI, 39, .inl cd_starts)), (a_cd_stops, .inl (cI, 39, .inl cd_stops)), (a_cd_used, .inl (cI, 39, .inl cd_used)), (a_cd_stack, .inl (cI, 100, .inl cd_stack)), (a_lp, .inr (4, [.ref a_lp_facts, .ref a_lp_turns, .ref a_lp_first, .ref a_lp_src, .ref a_s1, .int lp_choices, .int lp_guesses, .int lp_unaries, .int lp_ranked])), (a_lp_turns, .inl (cI, 24576, .inl lp_turns_3)), (a_s1, .inl (cI, 4096, .inl s1))] → va_S A s.heap H locs → ∀ ls : Array Slot, lv_has ls 5 [(0, .ref a_lp), (1, .ref a_cd), (2, .int x2), (3, .int x3_1), (4, .int x4_2)] → W p l e (headSpec w_Loop_loadChoice ({ frames := 4, cells := 0, slots := 0, locals := 100 })).room s m (([.ref a_lp, .ref a_cd, .int x2] : List Value).toArray) below meth c H locs 0 0 QQ (F0 m 20 ls []) := by
        intro k45 hk45 n
        induction n with
        | zero => intro x4_2 lp_turns_3 h; exact (show False from h).elim
        | succ n il =>
          intro x4_2 lp_turns_3 h
          intro H locs hP hD hS ls hl
          refine lv_iload hx hb d_Loop_loadChoice_20 (lv_at hl 4 rfl) ?_
          refine lv_sipush (v := 4096) hx hb d_Loop_loadChoice_22 (by decide) ?_
          refine lv_icmp_ge (tgt := 45) hx hb d_Loop_loadChoice_25 (by decide) (fun c_25 => ?_) (fun c_25 => ?_)
          · have h := And.left h c_25
            exact hk45 _ h _ _ hP hD hS _ (lv_sub hl [0, 1, 2, 3] rfl)
          · have h := And.right h c_25
            refine lv_aload_n hx hb d_Loop_loadChoice_28 rfl (lv_at hl 0 rfl) ?_
            refine va_get (D := (dC, dI)) (ci := 4) (v := .ref a_lp_turns) (C := "LoopInduction$Loop") (T := F_Loop) (N := 9) hx hb hts iC_Loop hown hK hP 6 rfl rfl 1 (by decide) fl_15 (fun _ h9 => h9) rfl d_Loop_loadChoice_29 ?_
            refine lv_iload_n hx hb d_Loop_loadChoice_32 rfl (lv_at hl 3 rfl) ?_
            refine lv_iload hx hb d_Loop_loadChoice_33 (lv_at hl 4 rfl) ?_
            refine lv_iadd hx hb d_Loop_loadChoice_35 ?_
            refine lv_iload hx hb d_Loop_loadChoice_36 (lv_at hl 4 rfl) ?_
            obtain ⟨hin_38, h⟩ := h
            refine va_iast hx hb hK hP hD hS 7 0 rfl rfl hin_38 d_Loop_loadChoice_38 (fun H locs hP hD hS => ?_)
            have hP : va_P (dC, dI) vwCl [(a_cd, .inr (1, [.ref a_cd_steps, .ref a_cd_starts, .ref a_cd_stops, .ref a_cd_used, .ref a_cd_stack, .int cd_size, .int cd_section, .int cd_height])), (a_cd_steps, .inl (cI, 1200, .inl cd_steps)), (a_cd_starts, .inl (cI, 39, .inl cd_starts)), (a_cd_stops, .inl (cI, 39, .inl cd_stops)), (a_cd_used, .inl (cI, 39, .inl cd_used)), (a_cd_stack, .inl (cI, 100, .inl cd_stack)), (a_lp, .inr (4, [.ref a_lp_facts, .ref a_lp_turns, .ref a_lp_first, .ref a_lp_src, .ref a_s1, .int lp_choices, .int lp_guesses, .int lp_unaries, .int lp_ranked])), (a_lp_turns, .inl (cI, 24576, .inl (upd lp_turns_3 (x3_1 + x4_2 : Int32).toNatClampNeg x4_2))), (a_s1, .inl (cI, 4096, .inl s1))] H := hP
            have hD : va_D A [(a_cd, .inr (1, [.ref a_cd_steps, .ref a_cd_starts, .ref a_cd_stops, .ref a_cd_used, .ref a_cd_stack, .int cd_size, .int cd_section, .int cd_height])), (a_cd_steps, .inl (cI, 1200, .inl cd_steps)), (a_cd_starts, .inl (cI, 39, .inl cd_starts)), (a_cd_stops, .inl (cI, 39, .inl cd_stops)), (a_cd_used, .inl (cI, 39, .inl cd_used)), (a_cd_stack, .inl (cI, 100, .inl cd_stack)), (a_lp, .inr (4, [.ref a_lp_facts, .ref a_lp_turns, .ref a_lp_first, .ref a_lp_src, .ref a_s1, .int lp_choices, .int lp_guesses, .int lp_unaries, .int lp_ranked])), (a_lp_turns, .inl (cI, 24576, .inl (upd lp_turns_3 (x3_1 + x4_2 : Int32).toNatClampNeg x4_2))), (a_s1, .inl (cI, 4096, .inl s1))] := hD
            refine lv_iinc (v := x4_2 + 1) (lv' := [(4, .int (x4_2 + 1)), (0, .ref a_lp), (1, .ref a_cd), (2, .int x2), (3, .int x3_1)]) hx hb d_Loop_loadChoice_39 hl (k := 4) rfl rfl (by decide) rfl (fun ls hl => ?_)
            refine lv_goto (tgt := 20) hx hb d_Loop_loadChoice_42 (by decide) ?_
            exact il _ _ h _ _ hP hD hS _ (lv_sub hl [1, 2, 3, 4, 0] rfl)
      obtain ⟨n_, h⟩ := h
      refine L20_q_4 _ ?_ n_ _ _ h _ _ hP hD hS _ (lv_sub hl [2, 3, 4, 1, 0] rfl)
      intro lp_turns_6 h
      intro H locs hP hD hS ls hl
      refine lv_iconst (v := 0) hx hb d_Loop_loadChoice_45 (by decide) ?_
      refine lv_istore (lv' := [(4, .int 0), (0, .ref a_lp), (1, .ref a_cd), (2, .int x2), (3, .int x3_1)]) hx hb d_Loop_loadChoice_46 hl (by decide) rfl (fun ls hl => ?_)
      have L48_q_12 : ∀ (k68 : (Int32) → (Nat → Int32) → (Nat → Int32) → (Nat → Int32) → Prop) (hk68 : ∀ (cd_height_13 : Int32) (cd_stack_14 : Nat → Int32) (lp_turns_15 : Nat → Int32) (s1_16 : Nat → Int32), k68 cd_height_13 cd_stack_14 lp_turns_15 s1_16 → ∀ (H : Heap) (locs : List Loc), va_P (dC, dI) vwCl [(a_cd, .inr (1, [.ref a_cd_steps, .ref a_cd_starts, .ref a_cd_stops, .ref a_cd_used, .ref a_cd_stack, .int cd_size, .int cd_section, .int cd_height_13])), (a_cd_steps, .inl (cI, 1200, .inl cd_steps)), (a_cd_starts, .inl (cI, 39, .inl cd_starts)), (a_cd_stops, .inl (cI, 39, .inl cd_stops)), (a_cd_used, .inl (cI, 39, .inl cd_used)), (a_cd_stack, .inl (cI, 100, .inl cd_stack_14)), (a_lp, .inr (4, [.ref a_lp_facts, .ref a_lp_turns, .ref a_lp_first, .ref a_lp_src, .ref a_s1, .int lp_choices, .int lp_guesses, .int lp_unaries, .int lp_ranked])), (a_lp_turns, .inl (cI, 24576, .inl lp_turns_15)), (a_s1, .inl (cI, 4096, .inl s1_16))] H → va_D A [(a_cd, .inr (1, [.ref a_cd_steps, .ref a_cd_starts, .ref a_cd_stops, .ref a_cd_used, .ref a_cd_stack, .int cd_size, .int cd_section, .int cd_height_13])), (a_cd_steps, .inl (cI, 1200, .inl cd_steps)), (a_cd_starts, .inl (cI, 39, .inl cd_starts)), (a_cd_stops, .inl (cI, 39, .inl cd_stops)), (a_cd_used, .inl (cI, 39, .inl cd_used)), (a_cd_stack, .inl (cI, 100, .inl cd_stack_14)), (a_lp, .inr (4, [.ref a_lp_facts, .ref a_lp_turns, .ref a_lp_first, .ref a_lp_src, .ref a_s1, .int lp_choices, .int lp_guesses, .int lp_unaries, .int lp_ranked])), (a_lp_turns, .inl (cI, 24576, .inl lp_turns_15)), (a_s1, .inl (cI, 4096, .inl s1_16))] → va_S A s.heap H locs → ∀ ls : Array Slot, lv_has ls 5 [(0, .ref a_lp), (1, .ref a_cd), (2, .int x2), (3, .int x3_1)] → W p l e (headSpec w_Loop_loadChoice ({ frames := 4, cells := 0, slots := 0, locals := 100 })).room s m (([.ref a_lp, .ref a_cd, .int x2] : List Value).toArray) below meth c H locs 0 0 QQ (F0 m 68 ls [])) (n : Nat) (x4_7 : Int32) (cd_height_8 : Int32) (cd_stack_9 : Nat → Int32) (lp_turns_10 : Nat → Int32) (s1_11 : Nat → Int32), wp_Loop_loadChoice_L48 x2 x3_1 cd_steps cd_starts cd_stops cd_used k68 n x4_7 cd_height_8 cd_stack_9 lp_turns_10 s1_11 → ∀ (H : Heap) (locs : List Loc), va_P (dC, dI) vwCl [(a_cd, .inr (1, [.ref a_cd_steps, .ref a_cd_starts, .ref a_cd_stops, .ref a_cd_used, .ref a_cd_stack, .int cd_size, .int cd_section, .int cd_height_8])), (a_cd_steps, .inl (cI, 1200, .inl cd_steps)), (a_cd_starts, .inl (cI, 39, .inl cd_starts)), (a_cd_stops, .inl (cI, 39, .inl cd_stops)), (a_cd_used, .inl (cI, 39, .inl cd_used)), (a_cd_stack, .inl (cI, 100, .inl cd_stack_9)), (a_lp, .inr (4, [.ref a_lp_facts, .ref a_lp_turns, .ref a_lp_first, .ref a_lp_src, .ref a_s1, .int lp_choices, .int lp_guesses, .int lp_unaries, .int lp_ranked])), (a_lp_turns, .inl (cI, 24576, .inl lp_turns_10)), (a_s1, .inl (cI, 4096, .inl s1_11))] H → va_D A [(a_cd, .inr (1, [.ref a_cd_steps, .ref a_cd_starts, .ref a_cd_stops, .ref a_cd_used, .ref a_cd_stack, .int cd_size, .int cd_section, .int cd_height_8])), (a_cd_steps, .inl (cI, 1200, .inl cd_steps)), (a_cd_starts, .inl (cI, 39, .inl cd_starts)), (a_cd_stops, .inl (cI, 39, .inl cd_stops)), (a_cd_used, .inl (cI, 39, .inl cd_used)), (a_cd_stack, .inl (cI, 100, .inl cd_stack_9)), (a_lp, .inr (4, [.ref a_lp_facts, .ref a_lp_turns, .ref a_lp_first, .ref a_lp_src, .ref a_s1, .int lp_choices, .int lp_guesses, .int lp_unaries, .int lp_ranked])), (a_lp_turns, .inl (cI, 24576, .inl lp_turns_10)), (a_s1, .inl (cI, 4096, .inl s1_11))] → va_S A s.heap H locs → ∀ ls : Array Slot, lv_has ls 5 [(0, .ref a_lp), (1, .ref a_cd), (2, .int x2), (3, .int x3_1), (4, .int x4_7)] → W p l e (headSpec w_Loop_loadChoice ({ frames := 4, cells := 0, slots := 0, locals := 100 })).room s m (([.ref a_lp, .ref a_cd, .int x2] : List Value).toArray) below meth c H locs 0 0 QQ (F0 m 48 ls []) := by
        intro k68 hk68 n
        induction n with
        | zero => intro x4_7 cd_height_8 cd_stack_9 lp_turns_10 s1_11 h; exact (show False from h).elim
        | succ n il =>
          intro x4_7 cd_height_8 cd_stack_9 lp_turns_10 s1_11 h
          intro H locs hP hD hS ls hl
          refine lv_iload hx hb d_Loop_loadChoice_48 (lv_at hl 4 rfl) ?_
          refine lv_iconst (v := 3) hx hb d_Loop_loadChoice_50 (by decide) ?_
          refine lv_icmp_ge (tgt := 68) hx hb d_Loop_loadChoice_51 (by decide) (fun c_51 => ?_) (fun c_51 => ?_)
          · have h := And.left h c_51
            exact hk68 _ _ _ _ h _ _ hP hD hS _ (lv_sub hl [0, 1, 2, 3] rfl)
          · have h := And.right h c_51
            refine lv_aload_n hx hb d_Loop_loadChoice_54 rfl (lv_at hl 0 rfl) ?_
            refine lv_aload_n hx hb d_Loop_loadChoice_55 rfl (lv_at hl 1 rfl) ?_
            refine lv_iload_n hx hb d_Loop_loadChoice_56 rfl (lv_at hl 2 rfl) ?_
            refine lv_iload hx hb d_Loop_loadChoice_57 (lv_at hl 4 rfl) ?_
            refine jn_v (wr := []) (va_runV (As := [.ref a_cd, .int x2, .int x4_7]) (rest := []) ⟨hx, hb, hml, hown, hts⟩ (c_Loop_loadAssignment l dC dI cI cB cZ adK adV _ a_cd a_cd_steps a_cd_starts a_cd_stops a_cd_used a_cd_stack a_lp a_lp_facts a_lp_turns a_lp_first a_lp_src a_s1 cd_size cd_section cd_height_8 cd_steps cd_starts cd_stops cd_used cd_stack_9 lp_choices lp_guesses lp_unaries lp_ranked lp_turns_10 s1_11 x2 x4_7 _ h) (cwV 3 hts (gv_ m_744 m_746 m_25 m_92 m_747) rfl rfl rfl pd_Loop_loadAssignment ⟨Nat.le_of_ble_eq_true rfl, Nat.le_of_ble_eq_true rfl⟩) ⟨pc_blind, va_recv hK hP (ci := 4) (q0 := 6) rfl rfl, pc_of (hP.sub [0, 1, 2, 3, 4, 5, 6, 7, 8] rfl) hK (hD.sub [0, 1, 2, 3, 4, 5, 6, 7, 8] (by decide) rfl) hN hT hS hA⟩ rfl rfl hl.1 rfl (lv_room (Nat.le_of_ble_eq_true rfl)) d_Loop_loadChoice_59 ⟨Nat.zero_le _, Nat.zero_le _⟩) hP hD hS hA [0, 1, 2, 3, 4, 5, 6, 7, 8] [] rfl rfl (by decide) (by decide) (fun u_ H locs h hP hD hS => ?_)
            obtain ⟨cd_height_17, cd_stack_18, lp_turns_19, s1_20⟩ := u_
            have hP : va_P (dC, dI) vwCl [(a_cd, .inr (1, [.ref a_cd_steps, .ref a_cd_starts, .ref a_cd_stops, .ref a_cd_used, .ref a_cd_stack, .int cd_size, .int cd_section, .int cd_height_17])), (a_cd_steps, .inl (cI, 1200, .inl cd_steps)), (a_cd_starts, .inl (cI, 39, .inl cd_starts)), (a_cd_stops, .inl (cI, 39, .inl cd_stops)), (a_cd_used, .inl (cI, 39, .inl cd_used)), (a_cd_stack, .inl (cI, 100, .inl cd_stack_18)), (a_lp, .inr (4, [.ref a_lp_facts, .ref a_lp_turns, .ref a_lp_first, .ref a_lp_src, .ref a_s1, .int lp_choices, .int lp_guesses, .int lp_unaries, .int lp_ranked])), (a_lp_turns, .inl (cI, 24576, .inl lp_turns_19)), (a_s1, .inl (cI, 4096, .inl s1_20))] H := hP
            have hD : va_D A [(a_cd, .inr (1, [.ref a_cd_steps, .ref a_cd_starts, .ref a_cd_stops, .ref a_cd_used, .ref a_cd_stack, .int cd_size, .int cd_section, .int cd_height_17])), (a_cd_steps, .inl (cI, 1200, .inl cd_steps)), (a_cd_starts, .inl (cI, 39, .inl cd_starts)), (a_cd_stops, .inl (cI, 39, .inl cd_stops)), (a_cd_used, .inl (cI, 39, .inl cd_used)), (a_cd_stack, .inl (cI, 100, .inl cd_stack_18)), (a_lp, .inr (4, [.ref a_lp_facts, .ref a_lp_turns, .ref a_lp_first, .ref a_lp_src, .ref a_s1, .int lp_choices, .int lp_guesses, .int lp_unaries, .int lp_ranked])), (a_lp_turns, .inl (cI, 24576, .inl lp_turns_19)), (a_s1, .inl (cI, 4096, .inl s1_20))] := hD
            refine lv_iinc (v := x4_7 + 1) (lv' := [(4, .int (x4_7 + 1)), (0, .ref a_lp), (1, .ref a_cd), (2, .int x2), (3, .int x3_1)]) hx hb d_Loop_loadChoice_62 hl (k := 4) rfl rfl (by decide) rfl (fun ls hl => ?_)
            refine lv_goto (tgt := 48) hx hb d_Loop_loadChoice_65 (by decide) ?_
            exact il _ _ _ _ _ h _ _ hP hD hS _ (lv_sub hl [1, 2, 3, 4, 0] rfl)
      obtain ⟨n_, h⟩ := h
      refine L48_q_12 _ ?_ n_ _ _ _ _ _ h _ _ hP hD hS _ (lv_sub hl [1, 2, 3, 4, 0] rfl)
      intro cd_height_21 cd_stack_22 lp_turns_23 s1_24 h
      intro H locs hP hD hS ls hl
      refine lv_aload_n hx hb d_Loop_loadChoice_68 rfl (lv_at hl 1 rfl) ?_
      refine lv_bipush (v := 15) hx hb d_Loop_loadChoice_69 (by decide) ?_
      refine lv_iload_n hx hb d_Loop_loadChoice_71 rfl (lv_at hl 2 rfl) ?_
      refine lv_iadd hx hb d_Loop_loadChoice_72 ?_
      refine lv_aload_n hx hb d_Loop_loadChoice_73 rfl (lv_at hl 0 rfl) ?_
      refine va_get (D := (dC, dI)) (ci := 4) (v := .ref a_s1) (C := "LoopInduction$Loop") (T := F_Loop) (N := 9) hx hb hts iC_Loop hown hK hP 6 rfl rfl 4 (by decide) fl_44 (fun _ h9 => h9) rfl d_Loop_loadChoice_74 ?_
      refine jn_v (wr := [(a_lp, .inr (4, [.ref a_lp_facts, .ref a_lp_turns, .ref a_lp_first, .ref a_lp_src, .ref a_s1, .int lp_choices, .int lp_guesses, .int lp_unaries, .int lp_ranked])), (a_lp_turns, .inl (cI, 24576, .inl lp_turns_23))]) (va_runV (As := [.int (15 + x2), .ref a_s1]) (rest := []) ⟨hx, hb, hml, hown, hts⟩ (c_Code_tabulate l dC dI cI cB cZ adK adV _ a_cd a_cd_steps a_cd_starts a_cd_stops a_cd_used a_cd_stack a_s1 cd_size cd_section cd_height_21 cd_steps cd_starts cd_stops cd_used cd_stack_22 s1_24 (15 + x2) _ h) (cwV 2 hts (gv_ m_720 m_721 m_722 m_88 m_723) rfl rfl rfl pd_Code_tabulate ⟨Nat.le_of_ble_eq_true rfl, Nat.le_of_ble_eq_true rfl⟩) ⟨pc_blind, va_recv hK hP (ci := 1) (q0 := 0) rfl rfl, pc_of (hP.sub [0, 1, 2, 3, 4, 5, 8] rfl) hK (hD.sub [0, 1, 2, 3, 4, 5, 8] (by decide) rfl) hN hT hS hA⟩ rfl rfl hl.1 rfl (lv_room (Nat.le_of_ble_eq_true rfl)) d_Loop_loadChoice_77 ⟨Nat.zero_le _, Nat.zero_le _⟩) hP hD hS hA [0, 1, 2, 3, 4, 5, 8] [6, 7] rfl rfl (by decide) (by decide) (fun u_ H locs h hP hD hS => ?_)
      obtain ⟨cd_height_25, cd_stack_26, s1_27⟩ := u_
      have hP : va_P (dC, dI) vwCl [(a_lp, .inr (4, [.ref a_lp_facts, .ref a_lp_turns, .ref a_lp_first, .ref a_lp_src, .ref a_s1, .int lp_choices, .int lp_guesses, .int lp_unaries, .int lp_ranked])), (a_lp_turns, .inl (cI, 24576, .inl lp_turns_23)), (a_cd, .inr (1, [.ref a_cd_steps, .ref a_cd_starts, .ref a_cd_stops, .ref a_cd_used, .ref a_cd_stack, .int cd_size, .int cd_section, .int cd_height_25])), (a_cd_steps, .inl (cI, 1200, .inl cd_steps)), (a_cd_starts, .inl (cI, 39, .inl cd_starts)), (a_cd_stops, .inl (cI, 39, .inl cd_stops)), (a_cd_used, .inl (cI, 39, .inl cd_used)), (a_cd_stack, .inl (cI, 100, .inl cd_stack_26)), (a_s1, .inl (cI, 4096, .inl s1_27))] H := hP
      have hD : va_D A [(a_lp, .inr (4, [.ref a_lp_facts, .ref a_lp_turns, .ref a_lp_first, .ref a_lp_src, .ref a_s1, .int lp_choices, .int lp_guesses, .int lp_unaries, .int lp_ranked])), (a_lp_turns, .inl (cI, 24576, .inl lp_turns_23)), (a_cd, .inr (1, [.ref a_cd_steps, .ref a_cd_starts, .ref a_cd_stops, .ref a_cd_used, .ref a_cd_stack, .int cd_size, .int cd_section, .int cd_height_25])), (a_cd_steps, .inl (cI, 1200, .inl cd_steps)), (a_cd_starts, .inl (cI, 39, .inl cd_starts)), (a_cd_stops, .inl (cI, 39, .inl cd_stops)), (a_cd_used, .inl (cI, 39, .inl cd_used)), (a_cd_stack, .inl (cI, 100, .inl cd_stack_26)), (a_s1, .inl (cI, 4096, .inl s1_27))] := hD
      refine lv_iconst (v := 0) hx hb d_Loop_loadChoice_80 (by decide) ?_
      refine lv_istore (lv' := [(4, .int 0), (0, .ref a_lp), (1, .ref a_cd), (2, .int x2), (3, .int x3_1)]) hx hb d_Loop_loadChoice_81 hl (by decide) rfl (fun ls hl => ?_)
      have L83_q_30 : ∀ (k117 : (Nat → Int32) → Prop) (hk117 : ∀ (lp_turns_31 : Nat → Int32), k117 lp_turns_31 → ∀ (H : Heap) (locs : List Loc), va_P (dC, dI) vwCl [(a_lp, .inr (4, [.ref a_lp_facts, .ref a_lp_turns, .ref a_lp_first, .ref a_lp_src, .ref a_s1, .int lp_choices, .int lp_guesses, .int lp_unaries, .int lp_ranked])), (a_lp_turns, .inl (cI, 24576, .inl lp_turns_31)), (a_cd, .inr (1, [.ref a_cd_steps, .ref a_cd_starts, .ref a_cd_stops, .ref a_cd_used, .ref a_cd_stack, .int cd_size, .int cd_section, .int cd_height_25])), (a_cd_steps, .inl (cI, 1200, .inl cd_steps)), (a_cd_starts, .inl (cI, 39, .inl cd_starts)), (a_cd_stops, .inl (cI, 39, .inl cd_stops)), (a_cd_used, .inl (cI, 39, .inl cd_used)), (a_cd_stack, .inl (cI, 100, .inl cd_stack_26)), (a_s1, .inl (cI, 4096, .inl s1_27))] H → va_D A [(a_lp, .inr (4, [.ref a_lp_facts, .ref a_lp_turns, .ref a_lp_first, .ref a_lp_src, .ref a_s1, .int lp_choices, .int lp_guesses, .int lp_unaries, .int lp_ranked])), (a_lp_turns, .inl (cI, 24576, .inl lp_turns_31)), (a_cd, .inr (1, [.ref a_cd_steps, .ref a_cd_starts, .ref a_cd_stops, .ref a_cd_used, .ref a_cd_stack, .int cd_size, .int cd_section, .int cd_height_25])), (a_cd_steps, .inl (cI, 1200, .inl cd_steps)), (a_cd_starts, .inl (cI, 39, .inl cd_starts)), (a_cd_stops, .inl (cI, 39, .inl cd_stops)), (a_cd_used, .inl (cI, 39, .inl cd_used)), (a_cd_stack, .inl (cI, 100, .inl cd_stack_26)), (a_s1, .inl (cI, 4096, .inl s1_27))] → va_S A s.heap H locs → ∀ ls : Array Slot, lv_has ls 5 [] → W p l e (headSpec w_Loop_loadChoice ({ frames := 4, cells := 0, slots := 0, locals := 100 })).room s m (([.ref a_lp, .ref a_cd, .int x2] : List Value).toArray) below meth c H locs 0 0 QQ (F0 m 117 ls [])) (n : Nat) (x4_28 : Int32) (lp_turns_29 : Nat → Int32), wp_Loop_loadChoice_L83 x3_1 s1_27 k117 n x4_28 lp_turns_29 → ∀ (H : Heap) (locs : List Loc), va_P (dC, dI) vwCl [(a_lp, .inr (4, [.ref a_lp_facts, .ref a_lp_turns, .ref a_lp_first, .ref a_lp_src, .ref a_s1, .int lp_choices, .int lp_guesses, .int lp_unaries, .int lp_ranked])), (a_lp_turns, .inl (cI, 24576, .inl lp_turns_29)), (a_cd, .inr (1, [.ref a_cd_steps, .ref a_cd_starts, .ref a_cd_stops, .ref a_cd_used, .ref a_cd_stack, .int cd_size, .int cd_section, .int cd_height_25])), (a_cd_steps, .inl (cI, 1200, .inl cd_steps)), (a_cd_starts, .inl (cI, 39, .inl cd_starts)), (a_cd_stops, .inl (cI, 39, .inl cd_stops)), (a_cd_used, .inl (cI, 39, .inl cd_used)), (a_cd_stack, .inl (cI, 100, .inl cd_stack_26)), (a_s1, .inl (cI, 4096, .inl s1_27))] H → va_D A [(a_lp, .inr (4, [.ref a_lp_facts, .ref a_lp_turns, .ref a_lp_first, .ref a_lp_src, .ref a_s1, .int lp_choices, .int lp_guesses, .int lp_unaries, .int lp_ranked])), (a_lp_turns, .inl (cI, 24576, .inl lp_turns_29)), (a_cd, .inr (1, [.ref a_cd_steps, .ref a_cd_starts, .ref a_cd_stops, .ref a_cd_used, .ref a_cd_stack, .int cd_size, .int cd_section, .int cd_height_25])), (a_cd_steps, .inl (cI, 1200, .inl cd_steps)), (a_cd_starts, .inl (cI, 39, .inl cd_starts)), (a_cd_stops, .inl (cI, 39, .inl cd_stops)), (a_cd_used, .inl (cI, 39, .inl cd_used)), (a_cd_stack, .inl (cI, 100, .inl cd_stack_26)), (a_s1, .inl (cI, 4096, .inl s1_27))] → va_S A s.heap H locs → ∀ ls : Array Slot, lv_has ls 5 [(0, .ref a_lp), (3, .int x3_1), (4, .int x4_28)] → W p l e (headSpec w_Loop_loadChoice ({ frames := 4, cells := 0, slots := 0, locals := 100 })).room s m (([.ref a_lp, .ref a_cd, .int x2] : List Value).toArray) below meth c H locs 0 0 QQ (F0 m 83 ls []) := by
        intro k117 hk117 n
        induction n with
        | zero => intro x4_28 lp_turns_29 h; exact (show False from h).elim
        | succ n il =>
          intro x4_28 lp_turns_29 h
          intro H locs hP hD hS ls hl
          refine lv_iload hx hb d_Loop_loadChoice_83 (lv_at hl 2 rfl) ?_
          refine lv_sipush (v := 4096) hx hb d_Loop_loadChoice_85 (by decide) ?_
          refine lv_icmp_ge (tgt := 117) hx hb d_Loop_loadChoice_88 (by decide) (fun c_88 => ?_) (fun c_88 => ?_)
          · have h := And.left h c_88
            exact hk117 _ h _ _ hP hD hS _ (lv_sub hl [] rfl)
          · have h := And.right h c_88
            refine lv_aload_n hx hb d_Loop_loadChoice_91 rfl (lv_at hl 0 rfl) ?_
            refine va_get (D := (dC, dI)) (ci := 4) (v := .ref a_s1) (C := "LoopInduction$Loop") (T := F_Loop) (N := 9) hx hb hts iC_Loop hown hK hP 0 rfl rfl 4 (by decide) fl_44 (fun _ h9 => h9) rfl d_Loop_loadChoice_92 ?_
            refine lv_iload hx hb d_Loop_loadChoice_95 (lv_at hl 2 rfl) ?_
            obtain ⟨hin_97, h⟩ := h
            refine va_iald hx hb hK hP 8 0 rfl rfl hin_97 d_Loop_loadChoice_97 ?_
            refine lv_if_ne (tgt := 111) hx hb d_Loop_loadChoice_98 (by decide) (fun c_98 => ?_) (fun c_98 => ?_)
            · have h := And.left h c_98
              refine lv_iinc (v := x4_28 + 1) (lv' := [(4, .int (x4_28 + 1)), (0, .ref a_lp), (3, .int x3_1)]) hx hb d_Loop_loadChoice_111 hl (k := 2) rfl rfl (by decide) rfl (fun ls hl => ?_)
              refine lv_goto (tgt := 83) hx hb d_Loop_loadChoice_114 (by decide) ?_
              exact il _ _ h _ _ hP hD hS _ (lv_sub hl [1, 2, 0] rfl)
            · have h := And.right h c_98
              refine lv_aload_n hx hb d_Loop_loadChoice_101 rfl (lv_at hl 0 rfl) ?_
              refine va_get (D := (dC, dI)) (ci := 4) (v := .ref a_lp_turns) (C := "LoopInduction$Loop") (T := F_Loop) (N := 9) hx hb hts iC_Loop hown hK hP 0 rfl rfl 1 (by decide) fl_15 (fun _ h9 => h9) rfl d_Loop_loadChoice_102 ?_
              refine lv_iload_n hx hb d_Loop_loadChoice_105 rfl (lv_at hl 1 rfl) ?_
              refine lv_iload hx hb d_Loop_loadChoice_106 (lv_at hl 2 rfl) ?_
              refine lv_iadd hx hb d_Loop_loadChoice_108 ?_
              refine lv_iconst (v := (-1)) hx hb d_Loop_loadChoice_109 (by decide) ?_
              obtain ⟨hin_110, h⟩ := h
              refine va_iast hx hb hK hP hD hS 1 0 rfl rfl hin_110 d_Loop_loadChoice_110 (fun H locs hP hD hS => ?_)
              have hP : va_P (dC, dI) vwCl [(a_lp, .inr (4, [.ref a_lp_facts, .ref a_lp_turns, .ref a_lp_first, .ref a_lp_src, .ref a_s1, .int lp_choices, .int lp_guesses, .int lp_unaries, .int lp_ranked])), (a_lp_turns, .inl (cI, 24576, .inl (upd lp_turns_29 (x3_1 + x4_28 : Int32).toNatClampNeg (-1)))), (a_cd, .inr (1, [.ref a_cd_steps, .ref a_cd_starts, .ref a_cd_stops, .ref a_cd_used, .ref a_cd_stack, .int cd_size, .int cd_section, .int cd_height_25])), (a_cd_steps, .inl (cI, 1200, .inl cd_steps)), (a_cd_starts, .inl (cI, 39, .inl cd_starts)), (a_cd_stops, .inl (cI, 39, .inl cd_stops)), (a_cd_used, .inl (cI, 39, .inl cd_used)), (a_cd_stack, .inl (cI, 100, .inl cd_stack_26)), (a_s1, .inl (cI, 4096, .inl s1_27))] H := hP
              have hD : va_D A [(a_lp, .inr (4, [.ref a_lp_facts, .ref a_lp_turns, .ref a_lp_first, .ref a_lp_src, .ref a_s1, .int lp_choices, .int lp_guesses, .int lp_unaries, .int lp_ranked])), (a_lp_turns, .inl (cI, 24576, .inl (upd lp_turns_29 (x3_1 + x4_28 : Int32).toNatClampNeg (-1)))), (a_cd, .inr (1, [.ref a_cd_steps, .ref a_cd_starts, .ref a_cd_stops, .ref a_cd_used, .ref a_cd_stack, .int cd_size, .int cd_section, .int cd_height_25])), (a_cd_steps, .inl (cI, 1200, .inl cd_steps)), (a_cd_starts, .inl (cI, 39, .inl cd_starts)), (a_cd_stops, .inl (cI, 39, .inl cd_stops)), (a_cd_used, .inl (cI, 39, .inl cd_used)), (a_cd_stack, .inl (cI, 100, .inl cd_stack_26)), (a_s1, .inl (cI, 4096, .inl s1_27))] := hD
              refine lv_iinc (v := x4_28 + 1) (lv' := [(4, .int (x4_28 + 1)), (0, .ref a_lp), (3, .int x3_1)]) hx hb d_Loop_loadChoice_111 hl (k := 2) rfl rfl (by decide) rfl (fun ls hl => ?_)
              refine lv_goto (tgt := 83) hx hb d_Loop_loadChoice_114 (by decide) ?_
              exact il _ _ h _ _ hP hD hS _ (lv_sub hl [1, 2, 0] rfl)
      obtain ⟨n_, h⟩ := h
      refine L83_q_30 _ ?_ n_ _ _ h _ _ hP hD hS _ (lv_sub hl [1, 4, 0] rfl)
      intro lp_turns_32 h
      intro H locs hP hD hS ls hl
      rw [← hQ]
      have hP9 := hP.sub (ws' := [(a_cd, .inr (1, [.ref a_cd_steps, .ref a_cd_starts, .ref a_cd_stops, .ref a_cd_used, .ref a_cd_stack, .int cd_size, .int cd_section, .int cd_height_25])), (a_cd_steps, .inl (cI, 1200, .inl cd_steps)), (a_cd_starts, .inl (cI, 39, .inl cd_starts)), (a_cd_stops, .inl (cI, 39, .inl cd_stops)), (a_cd_used, .inl (cI, 39, .inl cd_used)), (a_cd_stack, .inl (cI, 100, .inl cd_stack_26)), (a_lp, .inr (4, [.ref a_lp_facts, .ref a_lp_turns, .ref a_lp_first, .ref a_lp_src, .ref a_s1, .int lp_choices, .int lp_guesses, .int lp_unaries, .int lp_ranked])), (a_lp_turns, .inl (cI, 24576, .inl lp_turns_32)), (a_s1, .inl (cI, 4096, .inl s1_27))]) [2, 3, 4, 5, 6, 7, 0, 1, 8] rfl
      have hD9 := hD.sub (ws' := [(a_cd, .inr (1, [.ref a_cd_steps, .ref a_cd_starts, .ref a_cd_stops, .ref a_cd_used, .ref a_cd_stack, .int cd_size, .int cd_section, .int cd_height_25])), (a_cd_steps, .inl (cI, 1200, .inl cd_steps)), (a_cd_starts, .inl (cI, 39, .inl cd_starts)), (a_cd_stops, .inl (cI, 39, .inl cd_stops)), (a_cd_used, .inl (cI, 39, .inl cd_used)), (a_cd_stack, .inl (cI, 100, .inl cd_stack_26)), (a_lp, .inr (4, [.ref a_lp_facts, .ref a_lp_turns, .ref a_lp_first, .ref a_lp_src, .ref a_s1, .int lp_choices, .int lp_guesses, .int lp_unaries, .int lp_ranked])), (a_lp_turns, .inl (cI, 24576, .inl lp_turns_32)), (a_s1, .inl (cI, 4096, .inl s1_27))]) [2, 3, 4, 5, 6, 7, 0, 1, 8] (by decide) rfl
      exact W.vret hx hb hr (fun t ht hW => ⟨⟨(cd_height_25, cd_stack_26, lp_turns_32, s1_27), rfl, h, by rw [ht]; exact hP9, va_K.moved hW.alike hK, hD9⟩, hS.F ht⟩) hS.2.2 d_Loop_loadChoice_117
    · have h := And.right h c_7
      rw [← hQ]
      have hP9 := hP
      have hD9 := hD
      exact W.vret hx hb hr (fun t ht hW => ⟨⟨(cd_height, cd_stack, lp_turns, s1), rfl, h, by rw [ht]; exact hP9, va_K.moved hW.alike hK, hD9⟩, hS.F ht⟩) hS.2.2 d_Loop_loadChoice_10
set_option maxHeartbeats 4000000 in
set_option maxRecDepth 100000 in
theorem c_Loop_markEnds (l : Launch) (dC : Nat → ClassId) (dI : Nat → Nat → Nat) (cI cB cZ : ClassId) (adK adV : Nat → Nat) (sz : Nat) (a_lp a_lp_facts a_lp_turns a_lp_first a_lp_src a_s1 : Nat) (lp_choices : Int32) (lp_guesses : Int32) (lp_unaries : Int32) (lp_ranked : Int32) (lp_facts : Nat → Int32) (lp_turns : Nat → Int32) (s1 : Nat → Int32) (post : (Nat → Int32) → (Nat → Int32) → Prop) (h : wp_Loop_markEnds lp_choices lp_facts lp_turns s1 post) : Met l y_Loop_markEnds w_Loop_markEnds ({ frames := 3, cells := 0, slots := 0, locals := 65 }) (pc_ (dC, dI) [(cI, .int), (cB, .byte), (cZ, .boolean)] [(a_lp, .inr (4, [.ref a_lp_facts, .ref a_lp_turns, .ref a_lp_first, .ref a_lp_src, .ref a_s1, .int lp_choices, .int lp_guesses, .int lp_unaries, .int lp_ranked])), (a_lp_facts, .inl (cI, 4096, .inl lp_facts)), (a_lp_turns, .inl (cI, 24576, .inl lp_turns)), (a_s1, .inl (cI, 4096, .inl s1))] sz adK adV [.ref a_lp]) (va_Qv (fun (u : (Nat → Int32) × (Nat → Int32)) => post u.1 u.2) (fun (u : (Nat → Int32) × (Nat → Int32)) t => bw_ (dC, dI) [(cI, .int), (cB, .byte), (cZ, .boolean)] (va_A [(a_lp, .inr (4, [.ref a_lp_facts, .ref a_lp_turns, .ref a_lp_first, .ref a_lp_src, .ref a_s1, .int lp_choices, .int lp_guesses, .int lp_unaries, .int lp_ranked])), (a_lp_facts, .inl (cI, 4096, .inl lp_facts)), (a_lp_turns, .inl (cI, 24576, .inl lp_turns)), (a_s1, .inl (cI, 4096, .inl s1))] sz) [(a_lp, .inr (4, [.ref a_lp_facts, .ref a_lp_turns, .ref a_lp_first, .ref a_lp_src, .ref a_s1, .int lp_choices, .int lp_guesses, .int lp_unaries, .int lp_ranked])), (a_lp_facts, .inl (cI, 4096, .inl u.1)), (a_lp_turns, .inl (cI, 24576, .inl lp_turns)), (a_s1, .inl (cI, 4096, .inl u.2))] t) (va_A [(a_lp, .inr (4, [.ref a_lp_facts, .ref a_lp_turns, .ref a_lp_first, .ref a_lp_src, .ref a_s1, .int lp_choices, .int lp_guesses, .int lp_unaries, .int lp_ranked])), (a_lp_facts, .inl (cI, 4096, .inl lp_facts)), (a_lp_turns, .inl (cI, 24576, .inl lp_turns)), (a_s1, .inl (cI, 4096, .inl s1))] sz)) 0 0 (va_A [(a_lp, .inr (4, [.ref a_lp_facts, .ref a_lp_turns, .ref a_lp_first, .ref a_lp_src, .ref a_s1, .int lp_choices, .int lp_guesses, .int lp_unaries, .int lp_ranked])), (a_lp_facts, .inl (cI, 4096, .inl lp_facts)), (a_lp_turns, .inl (cI, 24576, .inl lp_turns)), (a_s1, .inl (cI, 4096, .inl s1))] sz) := by
  refine Met.ofW (cc := b_Loop_markEnds) (maxL := 2) (ret := none) (by decide) rfl ?_
  intro p e s m args below meth c s₁ B hml hv
  obtain ⟨rfl, hsz, hP, hK, hD0, hN, hT⟩ := hv
  have hx := B.exec
  have hb := B.bytes
  have hr := B.returns
  have hts := atoms_spec (ws := w_Loop_markEnds) B.pre
  have hown : s.vm.findClass "LoopInduction$Loop" = some m.cls := findClass_of_methodNamed B.named
  have hlocks := B.notSynchronized
  subst hsz
  have hD := hD0.self (sz := s.heap.size)
  generalize hAe : va_A [(a_lp, .inr (4, [.ref a_lp_facts, .ref a_lp_turns, .ref a_lp_first, .ref a_lp_src, .ref a_s1, .int lp_choices, .int lp_guesses, .int lp_unaries, .int lp_ranked])), (a_lp_facts, .inl (cI, 4096, .inl lp_facts)), (a_lp_turns, .inl (cI, 24576, .inl lp_turns)), (a_s1, .inl (cI, 4096, .inl s1))] s.heap.size = A at hD hT ⊢
  have hA : ∀ q : Nat, s.heap.size ≤ q → A q := fun q h => by rw [← hAe]; exact Or.inr h
  have hS : va_S A s.heap s.heap [] := va_S.rf
  generalize hQ : MQ below _ _ s 0 0 _ = QQ
  have hl := lv_entry ([.ref a_lp]) (n := 2) (Nat.le_of_ble_eq_true rfl)
  rw [lg_entry_eq]
  generalize (lg_sl ([.ref a_lp]) ++ List.replicate (2 - (lg_sl ([.ref a_lp])).length) Slot.unset).toArray = ls at hl ⊢
  have hl : lv_has ls 2 [(0, .ref a_lp)] := hl
  have fl_11 := (hts _ (List.mem_cons_of_mem _ m_254))
  have fl_44 := (hts _ (List.mem_cons_of_mem _ m_258))
  refine lv_aload_n hx hb d_Loop_markEnds_0 rfl (lv_at hl 0 rfl) ?_
  refine lv_aload_n hx hb d_Loop_markEnds_1 rfl (lv_at hl 0 rfl) ?_
  refine va_get (D := (dC, dI)) (ci := 4) (v := .ref a_s1) (C := "LoopInduction$Loop") (T := F_Loop) (N := 9) hx hb hts iC_Loop hown hK hP 0 rfl rfl 4 (by decide) fl_44 (fun _ h9 => h9) rfl d_Loop_markEnds_2 ?_
  refine jn_v (wr := [(a_lp_facts, .inl (cI, 4096, .inl lp_facts))]) (va_runV (As := [.ref a_s1]) (rest := []) ⟨hx, hb, hml, hown, hts⟩ (c_Loop_countTurns l dC dI cI cB cZ adK adV _ a_lp a_lp_facts a_lp_turns a_lp_first a_lp_src a_s1 a_s1 lp_choices lp_guesses lp_unaries lp_ranked lp_turns s1 _ h) (cwV 1 hts (gv_ m_752 m_753 m_754 m_92 m_755) rfl rfl rfl pd_Loop_countTurns ⟨Nat.le_of_ble_eq_true rfl, Nat.le_of_ble_eq_true rfl⟩) ⟨pc_blind, va_recv hK hP (ci := 4) (q0 := 0) rfl rfl, pc_of (hP.sub [0, 2, 3] rfl) hK (hD.sub [0, 2, 3] (by decide) rfl) hN hT hS hA⟩ rfl rfl hl.1 rfl (lv_room (Nat.le_of_ble_eq_true rfl)) d_Loop_markEnds_5 ⟨Nat.zero_le _, Nat.zero_le _⟩) hP hD hS hA [0, 2, 3] [1] rfl rfl (by decide) (by decide) (fun s1_1 H locs h hP hD hS => ?_)
  have hP : va_P (dC, dI) vwCl [(a_lp_facts, .inl (cI, 4096, .inl lp_facts)), (a_lp, .inr (4, [.ref a_lp_facts, .ref a_lp_turns, .ref a_lp_first, .ref a_lp_src, .ref a_s1, .int lp_choices, .int lp_guesses, .int lp_unaries, .int lp_ranked])), (a_lp_turns, .inl (cI, 24576, .inl lp_turns)), (a_s1, .inl (cI, 4096, .inl s1_1))] H := hP
  have hD : va_D A [(a_lp_facts, .inl (cI, 4096, .inl lp_facts)), (a_lp, .inr (4, [.ref a_lp_facts, .ref a_lp_turns, .ref a_lp_first, .ref a_lp_src, .ref a_s1, .int lp_choices, .int lp_guesses, .int lp_unaries, .int lp_ranked])), (a_lp_turns, .inl (cI, 24576, .inl lp_turns)), (a_s1, .inl (cI, 4096, .inl s1_1))] := hD
  refine lv_iconst (v := 0) hx hb d_Loop_markEnds_8 (by decide) ?_
  refine lv_istore_n (lv' := [(1, .int 0), (0, .ref a_lp)]) hx hb d_Loop_markEnds_9 rfl hl (by decide) rfl (fun ls hl => ?_)
  have L10_q_4 : ∀ (k43 : (Nat → Int32) → Prop) (hk43 : ∀ (lp_facts_5 : Nat → Int32), k43 lp_facts_5 → ∀ (H : Heap) (locs : List Loc), va_P (dC, dI) vwCl [(a_lp_facts, .inl (cI, 4096, .inl lp_facts_5)), (a_lp, .inr (4, [.ref a_lp_facts, .ref a_lp_turns, .ref a_lp_first, .ref a_lp_src, .ref a_s1, .int lp_choices, .int lp_guesses, .int lp_unaries, .int lp_ranked])), (a_lp_turns, .inl (cI, 24576, .inl lp_turns)), (a_s1, .inl (cI, 4096, .inl s1_1))] H → va_D A [(a_lp_facts, .inl (cI, 4096, .inl lp_facts_5)), (a_lp, .inr (4, [.ref a_lp_facts, .ref a_lp_turns, .ref a_lp_first, .ref a_lp_src, .ref a_s1, .int lp_choices, .int lp_guesses, .int lp_unaries, .int lp_ranked])), (a_lp_turns, .inl (cI, 24576, .inl lp_turns)), (a_s1, .inl (cI, 4096, .inl s1_1))] → va_S A s.heap H locs → ∀ ls : Array Slot, lv_has ls 2 [] → W p l e (headSpec w_Loop_markEnds ({ frames := 3, cells := 0, slots := 0, locals := 65 })).room s m (([.ref a_lp] : List Value).toArray) below meth c H locs 0 0 QQ (F0 m 43 ls [])) (n : Nat) (x1_2 : Int32) (lp_facts_3 : Nat → Int32), wp_Loop_markEnds_L10 s1_1 k43 n x1_2 lp_facts_3 → ∀ (H : Heap) (locs : List Loc), va_P (dC, dI) vwCl [(a_lp_facts, .inl (cI, 4096, .inl lp_facts_3)), (a_lp, .inr (4, [.ref a_lp_facts, .ref a_lp_turns, .ref a_lp_first, .ref a_lp_src, .ref a_s1, .int lp_choices, .int lp_guesses, .int lp_unaries, .int lp_ranked])), (a_lp_turns, .inl (cI, 24576, .inl lp_turns)), (a_s1, .inl (cI, 4096, .inl s1_1))] H → va_D A [(a_lp_facts, .inl (cI, 4096, .inl lp_facts_3)), (a_lp, .inr (4, [.ref a_lp_facts, .ref a_lp_turns, .ref a_lp_first, .ref a_lp_src, .ref a_s1, .int lp_choices, .int lp_guesses, .int lp_unaries, .int lp_ranked])), (a_lp_turns, .inl (cI, 24576, .inl lp_turns)), (a_s1, .inl (cI, 4096, .inl s1_1))] → va_S A s.heap H locs → ∀ ls : Array Slot, lv_has ls 2 [(0, .ref a_lp), (1, .int x1_2)] → W p l e (headSpec w_Loop_markEnds ({ frames := 3, cells := 0, slots := 0, locals := 65 })).room s m (([.ref a_lp] : List Value).toArray) below meth c H locs 0 0 QQ (F0 m 10 ls []) := by
    intro k43 hk43 n
    induction n with
    | zero => intro x1_2 lp_facts_3 h; exact (show False from h).elim
    | succ n il =>
      intro x1_2 lp_facts_3 h
      intro H locs hP hD hS ls hl
      refine lv_iload_n hx hb d_Loop_markEnds_10 rfl (lv_at hl 1 rfl) ?_
      refine lv_sipush (v := 4096) hx hb d_Loop_markEnds_11 (by decide) ?_
      refine lv_icmp_ge (tgt := 43) hx hb d_Loop_markEnds_14 (by decide) (fun c_14 => ?_) (fun c_14 => ?_)
      · have h := And.left h c_14
        exact hk43 _ h _ _ hP hD hS _ (lv_sub hl [] rfl)
      · have h := And.right h c_14
        refine lv_aload_n hx hb d_Loop_markEnds_17 rfl (lv_at hl 0 rfl) ?_
        refine va_get (D := (dC, dI)) (ci := 4) (v := .ref a_s1) (C := "LoopInduction$Loop") (T := F_Loop) (N := 9) hx hb hts iC_Loop hown hK hP 1 rfl rfl 4 (by decide) fl_44 (fun _ h9 => h9) rfl d_Loop_markEnds_18 ?_
        refine lv_iload_n hx hb d_Loop_markEnds_21 rfl (lv_at hl 1 rfl) ?_
        obtain ⟨hin_22, h⟩ := h
        refine va_iald hx hb hK hP 3 0 rfl rfl hin_22 d_Loop_markEnds_22 ?_
        refine lv_if_ne (tgt := 37) hx hb d_Loop_markEnds_23 (by decide) (fun c_23 => ?_) (fun c_23 => ?_)
        · have h := And.left h c_23
          refine lv_iinc (v := x1_2 + 1) (lv' := [(1, .int (x1_2 + 1)), (0, .ref a_lp)]) hx hb d_Loop_markEnds_37 hl (k := 1) rfl rfl (by decide) rfl (fun ls hl => ?_)
          refine lv_goto (tgt := 10) hx hb d_Loop_markEnds_40 (by decide) ?_
          exact il _ _ h _ _ hP hD hS _ (lv_sub hl [1, 0] rfl)
        · have h := And.right h c_23
          refine lv_aload_n hx hb d_Loop_markEnds_26 rfl (lv_at hl 0 rfl) ?_
          refine va_get (D := (dC, dI)) (ci := 4) (v := .ref a_lp_facts) (C := "LoopInduction$Loop") (T := F_Loop) (N := 9) hx hb hts iC_Loop hown hK hP 1 rfl rfl 0 (by decide) fl_11 (fun _ h9 => h9) rfl d_Loop_markEnds_27 ?_
          refine lv_iload_n hx hb d_Loop_markEnds_30 rfl (lv_at hl 1 rfl) ?_
          refine lv_dup2_11 hx hb d_Loop_markEnds_31 rfl rfl ?_
          obtain ⟨hin_32, h⟩ := h
          refine va_iald hx hb hK hP 0 0 rfl rfl hin_32 d_Loop_markEnds_32 ?_
          refine lv_bipush (v := 8) hx hb d_Loop_markEnds_33 (by decide) ?_
          refine lv_ior hx hb d_Loop_markEnds_35 ?_
          obtain ⟨hin_36, h⟩ := h
          refine va_iast hx hb hK hP hD hS 0 0 rfl rfl hin_36 d_Loop_markEnds_36 (fun H locs hP hD hS => ?_)
          have hP : va_P (dC, dI) vwCl [(a_lp_facts, .inl (cI, 4096, .inl (upd lp_facts_3 (x1_2 : Int32).toNatClampNeg ((lp_facts_3 (x1_2 : Int32).toNatClampNeg) ||| 8)))), (a_lp, .inr (4, [.ref a_lp_facts, .ref a_lp_turns, .ref a_lp_first, .ref a_lp_src, .ref a_s1, .int lp_choices, .int lp_guesses, .int lp_unaries, .int lp_ranked])), (a_lp_turns, .inl (cI, 24576, .inl lp_turns)), (a_s1, .inl (cI, 4096, .inl s1_1))] H := hP
          have hD : va_D A [(a_lp_facts, .inl (cI, 4096, .inl (upd lp_facts_3 (x1_2 : Int32).toNatClampNeg ((lp_facts_3 (x1_2 : Int32).toNatClampNeg) ||| 8)))), (a_lp, .inr (4, [.ref a_lp_facts, .ref a_lp_turns, .ref a_lp_first, .ref a_lp_src, .ref a_s1, .int lp_choices, .int lp_guesses, .int lp_unaries, .int lp_ranked])), (a_lp_turns, .inl (cI, 24576, .inl lp_turns)), (a_s1, .inl (cI, 4096, .inl s1_1))] := hD
          refine lv_iinc (v := x1_2 + 1) (lv' := [(1, .int (x1_2 + 1)), (0, .ref a_lp)]) hx hb d_Loop_markEnds_37 hl (k := 1) rfl rfl (by decide) rfl (fun ls hl => ?_)
          refine lv_goto (tgt := 10) hx hb d_Loop_markEnds_40 (by decide) ?_
          exact il _ _ h _ _ hP hD hS _ (lv_sub hl [1, 0] rfl)
  obtain ⟨n_, h⟩ := h
  refine L10_q_4 _ ?_ n_ _ _ h _ _ hP hD hS _ (lv_sub hl [1, 0] rfl)
  intro lp_facts_6 h
  intro H locs hP hD hS ls hl
  rw [← hQ]
  have hP9 := hP.sub (ws' := [(a_lp, .inr (4, [.ref a_lp_facts, .ref a_lp_turns, .ref a_lp_first, .ref a_lp_src, .ref a_s1, .int lp_choices, .int lp_guesses, .int lp_unaries, .int lp_ranked])), (a_lp_facts, .inl (cI, 4096, .inl lp_facts_6)), (a_lp_turns, .inl (cI, 24576, .inl lp_turns)), (a_s1, .inl (cI, 4096, .inl s1_1))]) [1, 0, 2, 3] rfl
  have hD9 := hD.sub (ws' := [(a_lp, .inr (4, [.ref a_lp_facts, .ref a_lp_turns, .ref a_lp_first, .ref a_lp_src, .ref a_s1, .int lp_choices, .int lp_guesses, .int lp_unaries, .int lp_ranked])), (a_lp_facts, .inl (cI, 4096, .inl lp_facts_6)), (a_lp_turns, .inl (cI, 24576, .inl lp_turns)), (a_s1, .inl (cI, 4096, .inl s1_1))]) [1, 0, 2, 3] (by decide) rfl
  exact W.vret hx hb hr (fun t ht hW => ⟨⟨(lp_facts_6, s1_1), rfl, h, by rw [ht]; exact hP9, va_K.moved hW.alike hK, hD9⟩, hS.F ht⟩) hS.2.2 d_Loop_markEnds_43
set_option maxHeartbeats 4000000 in
set_option maxRecDepth 100000 in
theorem c_Loop_putSource (l : Launch) (dC : Nat → ClassId) (dI : Nat → Nat → Nat) (cI cB cZ : ClassId) (adK adV : Nat → Nat) (sz : Nat) (a_lp a_lp_facts a_lp_turns a_lp_first a_lp_src a_s1 : Nat) (lp_choices : Int32) (lp_guesses : Int32) (lp_unaries : Int32) (lp_ranked : Int32) (lp_first : Nat → Int32) (lp_src : Nat → Int32) (x1 : Int32) (x2 : Int32) (post : (Nat → Int32) → (Nat → Int32) → Prop) (h : wp_Loop_putSource x1 x2 lp_first lp_src post) : Met l y_Loop_putSource w_Loop_putSource ({ frames := 1, cells := 0, slots := 0, locals := 20 }) (pc_ (dC, dI) [(cI, .int), (cB, .byte), (cZ, .boolean)] [(a_lp, .inr (4, [.ref a_lp_facts, .ref a_lp_turns, .ref a_lp_first, .ref a_lp_src, .ref a_s1, .int lp_choices, .int lp_guesses, .int lp_unaries, .int lp_ranked])), (a_lp_first, .inl (cI, 4097, .inl lp_first)), (a_lp_src, .inl (cI, 24576, .inl lp_src))] sz adK adV [.ref a_lp, .int x1, .int x2]) (va_Qv (fun (u : (Nat → Int32) × (Nat → Int32)) => post u.1 u.2) (fun (u : (Nat → Int32) × (Nat → Int32)) t => bw_ (dC, dI) [(cI, .int), (cB, .byte), (cZ, .boolean)] (va_A [(a_lp, .inr (4, [.ref a_lp_facts, .ref a_lp_turns, .ref a_lp_first, .ref a_lp_src, .ref a_s1, .int lp_choices, .int lp_guesses, .int lp_unaries, .int lp_ranked])), (a_lp_first, .inl (cI, 4097, .inl lp_first)), (a_lp_src, .inl (cI, 24576, .inl lp_src))] sz) [(a_lp, .inr (4, [.ref a_lp_facts, .ref a_lp_turns, .ref a_lp_first, .ref a_lp_src, .ref a_s1, .int lp_choices, .int lp_guesses, .int lp_unaries, .int lp_ranked])), (a_lp_first, .inl (cI, 4097, .inl u.1)), (a_lp_src, .inl (cI, 24576, .inl u.2))] t) (va_A [(a_lp, .inr (4, [.ref a_lp_facts, .ref a_lp_turns, .ref a_lp_first, .ref a_lp_src, .ref a_s1, .int lp_choices, .int lp_guesses, .int lp_unaries, .int lp_ranked])), (a_lp_first, .inl (cI, 4097, .inl lp_first)), (a_lp_src, .inl (cI, 24576, .inl lp_src))] sz)) 0 0 (va_A [(a_lp, .inr (4, [.ref a_lp_facts, .ref a_lp_turns, .ref a_lp_first, .ref a_lp_src, .ref a_s1, .int lp_choices, .int lp_guesses, .int lp_unaries, .int lp_ranked])), (a_lp_first, .inl (cI, 4097, .inl lp_first)), (a_lp_src, .inl (cI, 24576, .inl lp_src))] sz) := by
  refine Met.ofW (cc := b_Loop_putSource) (maxL := 4) (ret := none) (by decide) rfl ?_
  intro p e s m args below meth c s₁ B hml hv
  obtain ⟨rfl, hsz, hP, hK, hD0, hN, hT⟩ := hv
  have hx := B.exec
  have hb := B.bytes
  have hr := B.returns
  have hts := atoms_spec (ws := w_Loop_putSource) B.pre
  have hown : s.vm.findClass "LoopInduction$Loop" = some m.cls := findClass_of_methodNamed B.named
  have hlocks := B.notSynchronized
  subst hsz
  have hD := hD0.self (sz := s.heap.size)
  generalize hAe : va_A [(a_lp, .inr (4, [.ref a_lp_facts, .ref a_lp_turns, .ref a_lp_first, .ref a_lp_src, .ref a_s1, .int lp_choices, .int lp_guesses, .int lp_unaries, .int lp_ranked])), (a_lp_first, .inl (cI, 4097, .inl lp_first)), (a_lp_src, .inl (cI, 24576, .inl lp_src))] s.heap.size = A at hD hT ⊢
  have hA : ∀ q : Nat, s.heap.size ≤ q → A q := fun q h => by rw [← hAe]; exact Or.inr h
  have hS : va_S A s.heap s.heap [] := va_S.rf
  generalize hQ : MQ below _ _ s 0 0 _ = QQ
  have hl := lv_entry ([.ref a_lp, .int x1, .int x2]) (n := 4) (Nat.le_of_ble_eq_true rfl)
  rw [lg_entry_eq]
  generalize (lg_sl ([.ref a_lp, .int x1, .int x2]) ++ List.replicate (4 - (lg_sl ([.ref a_lp, .int x1, .int x2])).length) Slot.unset).toArray = ls at hl ⊢
  have hl : lv_has ls 4 [(0, .ref a_lp), (1, .int x1), (2, .int x2)] := hl
  have fl_18 := (hts _ (List.mem_cons_of_mem _ m_256))
  have fl_21 := (hts _ (List.mem_cons_of_mem _ m_257))
  refine lv_iload_n hx hb d_Loop_putSource_0 rfl (lv_at hl 2 rfl) ?_
  refine jn_i (wr := [(a_lp, .inr (4, [.ref a_lp_facts, .ref a_lp_turns, .ref a_lp_first, .ref a_lp_src, .ref a_s1, .int lp_choices, .int lp_guesses, .int lp_unaries, .int lp_ranked])), (a_lp_first, .inl (cI, 4097, .inl lp_first)), (a_lp_src, .inl (cI, 24576, .inl lp_src))]) (va_runSN (As := [.int x2]) (rest := []) ⟨hx, hb, hml, hown, hts⟩ (c_LI_isState l dC dI cI cB cZ adK adV _ x2 _ h) ⟨va_cnB 1 hts (ga_ m_762) rfl rfl rfl (hN _ (List.mem_of_getElem? (i := 4) rfl)) (hts _ (List.mem_cons_of_mem _ m_85)) pn_LI_isState ⟨Nat.le_of_ble_eq_true rfl, Nat.le_of_ble_eq_true rfl⟩, (hts _ (List.mem_cons_of_mem _ m_761)), trivial⟩ ⟨pc_blind, pc_of (hP.sub [] rfl) hK (hD.sub [] (by decide) rfl) hN hT hS hA⟩ rfl rfl hl.1 rfl (lv_room (Nat.le_of_ble_eq_true rfl)) d_Loop_putSource_1 ⟨Nat.zero_le _, Nat.zero_le _⟩) hP hD hS hA [] [0, 1, 2] rfl rfl (by decide) (by decide) (fun r_1 u_ H locs h hP hD hS => ?_)
  have hP : va_P (dC, dI) vwCl [(a_lp, .inr (4, [.ref a_lp_facts, .ref a_lp_turns, .ref a_lp_first, .ref a_lp_src, .ref a_s1, .int lp_choices, .int lp_guesses, .int lp_unaries, .int lp_ranked])), (a_lp_first, .inl (cI, 4097, .inl lp_first)), (a_lp_src, .inl (cI, 24576, .inl lp_src))] H := hP
  have hD : va_D A [(a_lp, .inr (4, [.ref a_lp_facts, .ref a_lp_turns, .ref a_lp_first, .ref a_lp_src, .ref a_s1, .int lp_choices, .int lp_guesses, .int lp_unaries, .int lp_ranked])), (a_lp_first, .inl (cI, 4097, .inl lp_first)), (a_lp_src, .inl (cI, 24576, .inl lp_src))] := hD
  refine lv_if_ne (tgt := 8) hx hb d_Loop_putSource_4 (by decide) (fun c_4 => ?_) (fun c_4 => ?_)
  · have h := And.left h c_4
    refine lv_aload_n hx hb d_Loop_putSource_8 rfl (lv_at hl 0 rfl) ?_
    refine va_get (D := (dC, dI)) (ci := 4) (v := .ref a_lp_first) (C := "LoopInduction$Loop") (T := F_Loop) (N := 9) hx hb hts iC_Loop hown hK hP 0 rfl rfl 2 (by decide) fl_18 (fun _ h9 => h9) rfl d_Loop_putSource_9 ?_
    refine lv_iload_n hx hb d_Loop_putSource_12 rfl (lv_at hl 2 rfl) ?_
    obtain ⟨hin_13, h⟩ := h
    refine va_iald hx hb hK hP 1 0 rfl rfl hin_13 d_Loop_putSource_13 ?_
    refine lv_iconst (v := 1) hx hb d_Loop_putSource_14 (by decide) ?_
    refine lv_isub hx hb d_Loop_putSource_15 ?_
    refine lv_topi (fun x3_2 ex3_2 => ?_)
    have h := h x3_2 ex3_2
    refine lv_istore_n (lv' := [(3, .int x3_2), (0, .ref a_lp), (1, .int x1), (2, .int x2)]) hx hb d_Loop_putSource_16 rfl hl (by decide) rfl (fun ls hl => ?_)
    refine lv_iload_n hx hb d_Loop_putSource_17 rfl (lv_at hl 0 rfl) ?_
    refine lv_if_lt (tgt := 44) hx hb d_Loop_putSource_18 (by decide) (fun c_18 => ?_) (fun c_18 => ?_)
    · have h := And.left h c_18
      rw [← hQ]
      have hP9 := hP
      have hD9 := hD
      exact W.vret hx hb hr (fun t ht hW => ⟨⟨(lp_first, lp_src), rfl, h, by rw [ht]; exact hP9, va_K.moved hW.alike hK, hD9⟩, hS.F ht⟩) hS.2.2 d_Loop_putSource_44
    · have h := And.right h c_18
      refine lv_iload_n hx hb d_Loop_putSource_21 rfl (lv_at hl 0 rfl) ?_
      refine lv_aload_n hx hb d_Loop_putSource_22 rfl (lv_at hl 1 rfl) ?_
      refine va_get (D := (dC, dI)) (ci := 4) (v := .ref a_lp_src) (C := "LoopInduction$Loop") (T := F_Loop) (N := 9) hx hb hts iC_Loop hown hK hP 0 rfl rfl 3 (by decide) fl_21 (fun _ h9 => h9) rfl d_Loop_putSource_23 ?_
      refine va_alen (v := 24576) hx hb hK hP 2 0 rfl rfl rfl d_Loop_putSource_26 ?_
      refine lv_icmp_ge (tgt := 44) hx hb d_Loop_putSource_27 (by decide) (fun c_27 => ?_) (fun c_27 => ?_)
      · have h := And.left h c_27
        rw [← hQ]
        have hP9 := hP
        have hD9 := hD
        exact W.vret hx hb hr (fun t ht hW => ⟨⟨(lp_first, lp_src), rfl, h, by rw [ht]; exact hP9, va_K.moved hW.alike hK, hD9⟩, hS.F ht⟩) hS.2.2 d_Loop_putSource_44
      · have h := And.right h c_27
        refine lv_aload_n hx hb d_Loop_putSource_30 rfl (lv_at hl 1 rfl) ?_
        refine va_get (D := (dC, dI)) (ci := 4) (v := .ref a_lp_first) (C := "LoopInduction$Loop") (T := F_Loop) (N := 9) hx hb hts iC_Loop hown hK hP 0 rfl rfl 2 (by decide) fl_18 (fun _ h9 => h9) rfl d_Loop_putSource_31 ?_
        refine lv_iload_n hx hb d_Loop_putSource_34 rfl (lv_at hl 3 rfl) ?_
        refine lv_iload_n hx hb d_Loop_putSource_35 rfl (lv_at hl 0 rfl) ?_
        obtain ⟨hin_36, h⟩ := h
        refine va_iast hx hb hK hP hD hS 1 0 rfl rfl hin_36 d_Loop_putSource_36 (fun H locs hP hD hS => ?_)
        have hP : va_P (dC, dI) vwCl [(a_lp, .inr (4, [.ref a_lp_facts, .ref a_lp_turns, .ref a_lp_first, .ref a_lp_src, .ref a_s1, .int lp_choices, .int lp_guesses, .int lp_unaries, .int lp_ranked])), (a_lp_first, .inl (cI, 4097, .inl (upd lp_first (x2 : Int32).toNatClampNeg x3_2))), (a_lp_src, .inl (cI, 24576, .inl lp_src))] H := hP
        have hD : va_D A [(a_lp, .inr (4, [.ref a_lp_facts, .ref a_lp_turns, .ref a_lp_first, .ref a_lp_src, .ref a_s1, .int lp_choices, .int lp_guesses, .int lp_unaries, .int lp_ranked])), (a_lp_first, .inl (cI, 4097, .inl (upd lp_first (x2 : Int32).toNatClampNeg x3_2))), (a_lp_src, .inl (cI, 24576, .inl lp_src))] := hD
        refine lv_aload_n hx hb d_Loop_putSource_37 rfl (lv_at hl 1 rfl) ?_
        refine va_get (D := (dC, dI)) (ci := 4) (v := .ref a_lp_src) (C := "LoopInduction$Loop") (T := F_Loop) (N := 9) hx hb hts iC_Loop hown hK hP 0 rfl rfl 3 (by decide) fl_21 (fun _ h9 => h9) rfl d_Loop_putSource_38 ?_
        refine lv_iload_n hx hb d_Loop_putSource_41 rfl (lv_at hl 0 rfl) ?_
        refine lv_iload_n hx hb d_Loop_putSource_42 rfl (lv_at hl 2 rfl) ?_
        obtain ⟨hin_43, h⟩ := h
        refine va_iast hx hb hK hP hD hS 2 0 rfl rfl hin_43 d_Loop_putSource_43 (fun H locs hP hD hS => ?_)
        have hP : va_P (dC, dI) vwCl [(a_lp, .inr (4, [.ref a_lp_facts, .ref a_lp_turns, .ref a_lp_first, .ref a_lp_src, .ref a_s1, .int lp_choices, .int lp_guesses, .int lp_unaries, .int lp_ranked])), (a_lp_first, .inl (cI, 4097, .inl (upd lp_first (x2 : Int32).toNatClampNeg x3_2))), (a_lp_src, .inl (cI, 24576, .inl (upd lp_src (x3_2 : Int32).toNatClampNeg x1)))] H := hP
        have hD : va_D A [(a_lp, .inr (4, [.ref a_lp_facts, .ref a_lp_turns, .ref a_lp_first, .ref a_lp_src, .ref a_s1, .int lp_choices, .int lp_guesses, .int lp_unaries, .int lp_ranked])), (a_lp_first, .inl (cI, 4097, .inl (upd lp_first (x2 : Int32).toNatClampNeg x3_2))), (a_lp_src, .inl (cI, 24576, .inl (upd lp_src (x3_2 : Int32).toNatClampNeg x1)))] := hD
        rw [← hQ]
        have hP9 := hP
        have hD9 := hD
        exact W.vret hx hb hr (fun t ht hW => ⟨⟨(upd lp_first (x2 : Int32).toNatClampNeg x3_2, upd lp_src (x3_2 : Int32).toNatClampNeg x1), rfl, h, by rw [ht]; exact hP9, va_K.moved hW.alike hK, hD9⟩, hS.F ht⟩) hS.2.2 d_Loop_putSource_44
  · have h := And.right h c_4
    rw [← hQ]
    have hP9 := hP
    have hD9 := hD
    exact W.vret hx hb hr (fun t ht hW => ⟨⟨(lp_first, lp_src), rfl, h, by rw [ht]; exact hP9, va_K.moved hW.alike hK, hD9⟩, hS.F ht⟩) hS.2.2 d_Loop_putSource_7
set_option maxHeartbeats 4000000 in
set_option maxRecDepth 100000 in
theorem c_Loop_linkSources (l : Launch) (dC : Nat → ClassId) (dI : Nat → Nat → Nat) (cI cB cZ : ClassId) (adK adV : Nat → Nat) (sz : Nat) (a_lp a_lp_facts a_lp_turns a_lp_first a_lp_src a_s1 : Nat) (lp_choices : Int32) (lp_guesses : Int32) (lp_unaries : Int32) (lp_ranked : Int32) (lp_turns : Nat → Int32) (lp_first : Nat → Int32) (lp_src : Nat → Int32) (post : (Nat → Int32) → (Nat → Int32) → Prop) (h : wp_Loop_linkSources lp_choices lp_turns lp_first lp_src post) : Met l y_Loop_linkSources w_Loop_linkSources ({ frames := 2, cells := 0, slots := 0, locals := 43 }) (pc_ (dC, dI) [(cI, .int), (cB, .byte), (cZ, .boolean)] [(a_lp, .inr (4, [.ref a_lp_facts, .ref a_lp_turns, .ref a_lp_first, .ref a_lp_src, .ref a_s1, .int lp_choices, .int lp_guesses, .int lp_unaries, .int lp_ranked])), (a_lp_turns, .inl (cI, 24576, .inl lp_turns)), (a_lp_first, .inl (cI, 4097, .inl lp_first)), (a_lp_src, .inl (cI, 24576, .inl lp_src))] sz adK adV [.ref a_lp]) (va_Qv (fun (u : (Nat → Int32) × (Nat → Int32)) => post u.1 u.2) (fun (u : (Nat → Int32) × (Nat → Int32)) t => bw_ (dC, dI) [(cI, .int), (cB, .byte), (cZ, .boolean)] (va_A [(a_lp, .inr (4, [.ref a_lp_facts, .ref a_lp_turns, .ref a_lp_first, .ref a_lp_src, .ref a_s1, .int lp_choices, .int lp_guesses, .int lp_unaries, .int lp_ranked])), (a_lp_turns, .inl (cI, 24576, .inl lp_turns)), (a_lp_first, .inl (cI, 4097, .inl lp_first)), (a_lp_src, .inl (cI, 24576, .inl lp_src))] sz) [(a_lp, .inr (4, [.ref a_lp_facts, .ref a_lp_turns, .ref a_lp_first, .ref a_lp_src, .ref a_s1, .int lp_choices, .int lp_guesses, .int lp_unaries, .int lp_ranked])), (a_lp_turns, .inl (cI, 24576, .inl lp_turns)), (a_lp_first, .inl (cI, 4097, .inl u.1)), (a_lp_src, .inl (cI, 24576, .inl u.2))] t) (va_A [(a_lp, .inr (4, [.ref a_lp_facts, .ref a_lp_turns, .ref a_lp_first, .ref a_lp_src, .ref a_s1, .int lp_choices, .int lp_guesses, .int lp_unaries, .int lp_ranked])), (a_lp_turns, .inl (cI, 24576, .inl lp_turns)), (a_lp_first, .inl (cI, 4097, .inl lp_first)), (a_lp_src, .inl (cI, 24576, .inl lp_src))] sz)) 0 0 (va_A [(a_lp, .inr (4, [.ref a_lp_facts, .ref a_lp_turns, .ref a_lp_first, .ref a_lp_src, .ref a_s1, .int lp_choices, .int lp_guesses, .int lp_unaries, .int lp_ranked])), (a_lp_turns, .inl (cI, 24576, .inl lp_turns)), (a_lp_first, .inl (cI, 4097, .inl lp_first)), (a_lp_src, .inl (cI, 24576, .inl lp_src))] sz) := by
  refine Met.ofW (cc := b_Loop_linkSources) (maxL := 4) (ret := none) (by decide) rfl ?_
  intro p e s m args below meth c s₁ B hml hv
  obtain ⟨rfl, hsz, hP, hK, hD0, hN, hT⟩ := hv
  have hx := B.exec
  have hb := B.bytes
  have hr := B.returns
  have hts := atoms_spec (ws := w_Loop_linkSources) B.pre
  have hown : s.vm.findClass "LoopInduction$Loop" = some m.cls := findClass_of_methodNamed B.named
  have hlocks := B.notSynchronized
  subst hsz
  have hD := hD0.self (sz := s.heap.size)
  generalize hAe : va_A [(a_lp, .inr (4, [.ref a_lp_facts, .ref a_lp_turns, .ref a_lp_first, .ref a_lp_src, .ref a_s1, .int lp_choices, .int lp_guesses, .int lp_unaries, .int lp_ranked])), (a_lp_turns, .inl (cI, 24576, .inl lp_turns)), (a_lp_first, .inl (cI, 4097, .inl lp_first)), (a_lp_src, .inl (cI, 24576, .inl lp_src))] s.heap.size = A at hD hT ⊢
  have hA : ∀ q : Nat, s.heap.size ≤ q → A q := fun q h => by rw [← hAe]; exact Or.inr h
  have hS : va_S A s.heap s.heap [] := va_S.rf
  generalize hQ : MQ below _ _ s 0 0 _ = QQ
  have hl := lv_entry ([.ref a_lp]) (n := 4) (Nat.le_of_ble_eq_true rfl)
  rw [lg_entry_eq]
  generalize (lg_sl ([.ref a_lp]) ++ List.replicate (4 - (lg_sl ([.ref a_lp])).length) Slot.unset).toArray = ls at hl ⊢
  have hl : lv_has ls 4 [(0, .ref a_lp)] := hl
  have fl_18 := (hts _ (List.mem_cons_of_mem _ m_256))
  have fl_24 := (hts _ (List.mem_cons_of_mem _ m_259))
  refine lv_aload_n hx hb d_Loop_linkSources_0 rfl (lv_at hl 0 rfl) ?_
  refine va_get (D := (dC, dI)) (ci := 4) (v := .ref a_lp_first) (C := "LoopInduction$Loop") (T := F_Loop) (N := 9) hx hb hts iC_Loop hown hK hP 0 rfl rfl 2 (by decide) fl_18 (fun _ h9 => h9) rfl d_Loop_linkSources_1 ?_
  refine lv_iconst (v := 0) hx hb d_Loop_linkSources_4 (by decide) ?_
  refine jn_v (wr := [(a_lp, .inr (4, [.ref a_lp_facts, .ref a_lp_turns, .ref a_lp_first, .ref a_lp_src, .ref a_s1, .int lp_choices, .int lp_guesses, .int lp_unaries, .int lp_ranked])), (a_lp_turns, .inl (cI, 24576, .inl lp_turns)), (a_lp_src, .inl (cI, 24576, .inl lp_src))]) (va_runS (As := [.ref a_lp_first, .int 0]) (rest := []) ⟨hx, hb, hml, hown, hts⟩ (c_fill l dC dI cI cB cZ adK adV _ a_lp_first 4097 lp_first 0 (by decide)) ⟨callB_of 2 hts (ga_ m_612) rfl rfl rfl (hts _ (List.mem_cons_of_mem _ m_103)) (hts _ (List.mem_cons_of_mem _ m_715)) pn_fill ⟨Nat.le_of_ble_eq_true rfl, Nat.le_of_ble_eq_true rfl⟩, (hts _ (List.mem_cons_of_mem _ m_611))⟩ ⟨pc_blind, pc_of (hP.sub [2] rfl) hK (hD.sub [2] (by decide) rfl) hN hT hS hA⟩ rfl rfl hl.1 rfl (lv_room (Nat.le_of_ble_eq_true rfl)) d_Loop_linkSources_5 ⟨Nat.zero_le _, Nat.zero_le _⟩) hP hD hS hA [2] [0, 1, 3] rfl rfl (by decide) (by decide) (fun u_1 H locs eu_1 hP hD hS => ?_)
  subst eu_1
  have hP : va_P (dC, dI) vwCl [(a_lp, .inr (4, [.ref a_lp_facts, .ref a_lp_turns, .ref a_lp_first, .ref a_lp_src, .ref a_s1, .int lp_choices, .int lp_guesses, .int lp_unaries, .int lp_ranked])), (a_lp_turns, .inl (cI, 24576, .inl lp_turns)), (a_lp_src, .inl (cI, 24576, .inl lp_src)), (a_lp_first, .inl (cI, 4097, .inl (vp_fill lp_first 4097 0)))] H := hP
  have hD : va_D A [(a_lp, .inr (4, [.ref a_lp_facts, .ref a_lp_turns, .ref a_lp_first, .ref a_lp_src, .ref a_s1, .int lp_choices, .int lp_guesses, .int lp_unaries, .int lp_ranked])), (a_lp_turns, .inl (cI, 24576, .inl lp_turns)), (a_lp_src, .inl (cI, 24576, .inl lp_src)), (a_lp_first, .inl (cI, 4097, .inl (vp_fill lp_first 4097 0)))] := hD
  refine lv_iconst (v := 0) hx hb d_Loop_linkSources_8 (by decide) ?_
  refine lv_istore_n (lv' := [(1, .int 0), (0, .ref a_lp)]) hx hb d_Loop_linkSources_9 rfl hl (by decide) rfl (fun ls hl => ?_)
  have L10_q_4 : ∀ (k63 : (Nat → Int32) → Prop) (hk63 : ∀ (lp_first_5 : Nat → Int32), k63 lp_first_5 → ∀ (H : Heap) (locs : List Loc), va_P (dC, dI) vwCl [(a_lp, .inr (4, [.ref a_lp_facts, .ref a_lp_turns, .ref a_lp_first, .ref a_lp_src, .ref a_s1, .int lp_choices, .int lp_guesses, .int lp_unaries, .int lp_ranked])), (a_lp_turns, .inl (cI, 24576, .inl lp_turns)), (a_lp_src, .inl (cI, 24576, .inl lp_src)), (a_lp_first, .inl (cI, 4097, .inl lp_first_5))] H → va_D A [(a_lp, .inr (4, [.ref a_lp_facts, .ref a_lp_turns, .ref a_lp_first, .ref a_lp_src, .ref a_s1, .int lp_choices, .int lp_guesses, .int lp_unaries, .int lp_ranked])), (a_lp_turns, .inl (cI, 24576, .inl lp_turns)), (a_lp_src, .inl (cI, 24576, .inl lp_src)), (a_lp_first, .inl (cI, 4097, .inl lp_first_5))] → va_S A s.heap H locs → ∀ ls : Array Slot, lv_has ls 4 [(0, .ref a_lp)] → W p l e (headSpec w_Loop_linkSources ({ frames := 2, cells := 0, slots := 0, locals := 43 })).room s m (([.ref a_lp] : List Value).toArray) below meth c H locs 0 0 QQ (F0 m 63 ls [])) (n : Nat) (x1_2 : Int32) (lp_first_3 : Nat → Int32), wp_Loop_linkSources_L10 lp_choices lp_turns k63 n x1_2 lp_first_3 → ∀ (H : Heap) (locs : List Loc), va_P (dC, dI) vwCl [(a_lp, .inr (4, [.ref a_lp_facts, .ref a_lp_turns, .ref a_lp_first, .ref a_lp_src, .ref a_s1, .int lp_choices, .int lp_guesses, .int lp_unaries, .int lp_ranked])), (a_lp_turns, .inl (cI, 24576, .inl lp_turns)), (a_lp_src, .inl (cI, 24576, .inl lp_src)), (a_lp_first, .inl (cI, 4097, .inl lp_first_3))] H → va_D A [(a_lp, .inr (4, [.ref a_lp_facts, .ref a_lp_turns, .ref a_lp_first, .ref a_lp_src, .ref a_s1, .int lp_choices, .int lp_guesses, .int lp_unaries, .int lp_ranked])), (a_lp_turns, .inl (cI, 24576, .inl lp_turns)), (a_lp_src, .inl (cI, 24576, .inl lp_src)), (a_lp_first, .inl (cI, 4097, .inl lp_first_3))] → va_S A s.heap H locs → ∀ ls : Array Slot, lv_has ls 4 [(0, .ref a_lp), (1, .int x1_2)] → W p l e (headSpec w_Loop_linkSources ({ frames := 2, cells := 0, slots := 0, locals := 43 })).room s m (([.ref a_lp] : List Value).toArray) below meth c H locs 0 0 QQ (F0 m 10 ls []) := by
    intro k63 hk63 n
    induction n with
    | zero => intro x1_2 lp_first_3 h; exact (show False from h).elim
    | succ n il =>
      intro x1_2 lp_first_3 h
      intro H locs hP hD hS ls hl
      refine lv_iload_n hx hb d_Loop_linkSources_10 rfl (lv_at hl 1 rfl) ?_
      refine lv_sipush (v := 4096) hx hb d_Loop_linkSources_11 (by decide) ?_
      refine lv_icmp_ge (tgt := 63) hx hb d_Loop_linkSources_14 (by decide) (fun c_14 => ?_) (fun c_14 => ?_)
      · have h := And.left h c_14
        exact hk63 _ h _ _ hP hD hS _ (lv_sub hl [0] rfl)
      · have h := And.right h c_14
        refine lv_iconst (v := 0) hx hb d_Loop_linkSources_17 (by decide) ?_
        refine lv_istore_n (lv' := [(2, .int 0), (0, .ref a_lp), (1, .int x1_2)]) hx hb d_Loop_linkSources_18 rfl hl (by decide) rfl (fun ls hl => ?_)
        have L19_q_8 : ∀ (k57 : (Nat → Int32) → Prop) (hk57 : ∀ (lp_first_9 : Nat → Int32), k57 lp_first_9 → ∀ (H : Heap) (locs : List Loc), va_P (dC, dI) vwCl [(a_lp, .inr (4, [.ref a_lp_facts, .ref a_lp_turns, .ref a_lp_first, .ref a_lp_src, .ref a_s1, .int lp_choices, .int lp_guesses, .int lp_unaries, .int lp_ranked])), (a_lp_turns, .inl (cI, 24576, .inl lp_turns)), (a_lp_src, .inl (cI, 24576, .inl lp_src)), (a_lp_first, .inl (cI, 4097, .inl lp_first_9))] H → va_D A [(a_lp, .inr (4, [.ref a_lp_facts, .ref a_lp_turns, .ref a_lp_first, .ref a_lp_src, .ref a_s1, .int lp_choices, .int lp_guesses, .int lp_unaries, .int lp_ranked])), (a_lp_turns, .inl (cI, 24576, .inl lp_turns)), (a_lp_src, .inl (cI, 24576, .inl lp_src)), (a_lp_first, .inl (cI, 4097, .inl lp_first_9))] → va_S A s.heap H locs → ∀ ls : Array Slot, lv_has ls 4 [(0, .ref a_lp), (1, .int x1_2)] → W p l e (headSpec w_Loop_linkSources ({ frames := 2, cells := 0, slots := 0, locals := 43 })).room s m (([.ref a_lp] : List Value).toArray) below meth c H locs 0 0 QQ (F0 m 57 ls [])) (n : Nat) (x2_6 : Int32) (lp_first_7 : Nat → Int32), wp_Loop_linkSources_L19 x1_2 lp_choices lp_turns k57 n x2_6 lp_first_7 → ∀ (H : Heap) (locs : List Loc), va_P (dC, dI) vwCl [(a_lp, .inr (4, [.ref a_lp_facts, .ref a_lp_turns, .ref a_lp_first, .ref a_lp_src, .ref a_s1, .int lp_choices, .int lp_guesses, .int lp_unaries, .int lp_ranked])), (a_lp_turns, .inl (cI, 24576, .inl lp_turns)), (a_lp_src, .inl (cI, 24576, .inl lp_src)), (a_lp_first, .inl (cI, 4097, .inl lp_first_7))] H → va_D A [(a_lp, .inr (4, [.ref a_lp_facts, .ref a_lp_turns, .ref a_lp_first, .ref a_lp_src, .ref a_s1, .int lp_choices, .int lp_guesses, .int lp_unaries, .int lp_ranked])), (a_lp_turns, .inl (cI, 24576, .inl lp_turns)), (a_lp_src, .inl (cI, 24576, .inl lp_src)), (a_lp_first, .inl (cI, 4097, .inl lp_first_7))] → va_S A s.heap H locs → ∀ ls : Array Slot, lv_has ls 4 [(0, .ref a_lp), (1, .int x1_2), (2, .int x2_6)] → W p l e (headSpec w_Loop_linkSources ({ frames := 2, cells := 0, slots := 0, locals := 43 })).room s m (([.ref a_lp] : List Value).toArray) below meth c H locs 0 0 QQ (F0 m 19 ls []) := by
          intro k57 hk57 n
          induction n with
          | zero => intro x2_6 lp_first_7 h; exact (show False from h).elim
          | succ n il =>
            intro x2_6 lp_first_7 h
            intro H locs hP hD hS ls hl
            refine lv_iload_n hx hb d_Loop_linkSources_19 rfl (lv_at hl 2 rfl) ?_
            refine lv_aload_n hx hb d_Loop_linkSources_20 rfl (lv_at hl 0 rfl) ?_
            refine va_get (D := (dC, dI)) (ci := 4) (v := .int lp_choices) (C := "LoopInduction$Loop") (T := F_Loop) (N := 9) hx hb hts iC_Loop hown hK hP 0 rfl rfl 5 (by decide) fl_24 (fun _ h9 => h9) rfl d_Loop_linkSources_21 ?_
            refine lv_icmp_ge (tgt := 57) hx hb d_Loop_linkSources_24 (by decide) (fun c_24 => ?_) (fun c_24 => ?_)
            · have h := And.left h c_24
              exact hk57 _ h _ _ hP hD hS _ (lv_sub hl [0, 1] rfl)
            · have h := And.right h c_24
              refine lv_aload_n hx hb d_Loop_linkSources_27 rfl (lv_at hl 0 rfl) ?_
              refine lv_iload_n hx hb d_Loop_linkSources_28 rfl (lv_at hl 1 rfl) ?_
              refine lv_iload_n hx hb d_Loop_linkSources_29 rfl (lv_at hl 2 rfl) ?_
              refine jn_i (wr := [(a_lp_src, .inl (cI, 24576, .inl lp_src)), (a_lp_first, .inl (cI, 4097, .inl lp_first_7))]) (va_runV (As := [.int x1_2, .int x2_6]) (rest := []) ⟨hx, hb, hml, hown, hts⟩ (c_Loop_turn l dC dI cI cB cZ adK adV _ a_lp a_lp_facts a_lp_turns a_lp_first a_lp_src a_s1 lp_choices lp_guesses lp_unaries lp_ranked lp_turns x1_2 x2_6 _ h) (cwV 2 hts (gv_ m_756 m_757 m_758 m_92 m_759) rfl rfl rfl pd_Loop_turn ⟨Nat.le_of_ble_eq_true rfl, Nat.le_of_ble_eq_true rfl⟩) ⟨pc_blind, va_recv hK hP (ci := 4) (q0 := 0) rfl rfl, pc_of (hP.sub [0, 1] rfl) hK (hD.sub [0, 1] (by decide) rfl) hN hT hS hA⟩ rfl rfl hl.1 rfl (lv_room (Nat.le_of_ble_eq_true rfl)) d_Loop_linkSources_30 ⟨Nat.zero_le _, Nat.zero_le _⟩) hP hD hS hA [0, 1] [2, 3] rfl rfl (by decide) (by decide) (fun r_10 u_ H locs h hP hD hS => ?_)
              have hP : va_P (dC, dI) vwCl [(a_lp_src, .inl (cI, 24576, .inl lp_src)), (a_lp_first, .inl (cI, 4097, .inl lp_first_7)), (a_lp, .inr (4, [.ref a_lp_facts, .ref a_lp_turns, .ref a_lp_first, .ref a_lp_src, .ref a_s1, .int lp_choices, .int lp_guesses, .int lp_unaries, .int lp_ranked])), (a_lp_turns, .inl (cI, 24576, .inl lp_turns))] H := hP
              have hD : va_D A [(a_lp_src, .inl (cI, 24576, .inl lp_src)), (a_lp_first, .inl (cI, 4097, .inl lp_first_7)), (a_lp, .inr (4, [.ref a_lp_facts, .ref a_lp_turns, .ref a_lp_first, .ref a_lp_src, .ref a_s1, .int lp_choices, .int lp_guesses, .int lp_unaries, .int lp_ranked])), (a_lp_turns, .inl (cI, 24576, .inl lp_turns))] := hD
              refine lv_istore_n (lv' := [(3, .int r_10), (0, .ref a_lp), (1, .int x1_2), (2, .int x2_6)]) hx hb d_Loop_linkSources_33 rfl hl (by decide) rfl (fun ls hl => ?_)
              refine lv_iload_n hx hb d_Loop_linkSources_34 rfl (lv_at hl 0 rfl) ?_
              refine jn_i (wr := [(a_lp_src, .inl (cI, 24576, .inl lp_src)), (a_lp_first, .inl (cI, 4097, .inl lp_first_7)), (a_lp, .inr (4, [.ref a_lp_facts, .ref a_lp_turns, .ref a_lp_first, .ref a_lp_src, .ref a_s1, .int lp_choices, .int lp_guesses, .int lp_unaries, .int lp_ranked])), (a_lp_turns, .inl (cI, 24576, .inl lp_turns))]) (va_runSN (As := [.int r_10]) (rest := []) ⟨hx, hb, hml, hown, hts⟩ (c_LI_isState l dC dI cI cB cZ adK adV _ r_10 _ h) ⟨va_cnB 1 hts (ga_ m_762) rfl rfl rfl (hN _ (List.mem_of_getElem? (i := 4) rfl)) (hts _ (List.mem_cons_of_mem _ m_85)) pn_LI_isState ⟨Nat.le_of_ble_eq_true rfl, Nat.le_of_ble_eq_true rfl⟩, (hts _ (List.mem_cons_of_mem _ m_761)), trivial⟩ ⟨pc_blind, pc_of (hP.sub [] rfl) hK (hD.sub [] (by decide) rfl) hN hT hS hA⟩ rfl rfl hl.1 rfl (lv_room (Nat.le_of_ble_eq_true rfl)) d_Loop_linkSources_35 ⟨Nat.zero_le _, Nat.zero_le _⟩) hP hD hS hA [] [0, 1, 2, 3] rfl rfl (by decide) (by decide) (fun r_11 u_ H locs h hP hD hS => ?_)
              have hP : va_P (dC, dI) vwCl [(a_lp_src, .inl (cI, 24576, .inl lp_src)), (a_lp_first, .inl (cI, 4097, .inl lp_first_7)), (a_lp, .inr (4, [.ref a_lp_facts, .ref a_lp_turns, .ref a_lp_first, .ref a_lp_src, .ref a_s1, .int lp_choices, .int lp_guesses, .int lp_unaries, .int lp_ranked])), (a_lp_turns, .inl (cI, 24576, .inl lp_turns))] H := hP
              have hD : va_D A [(a_lp_src, .inl (cI, 24576, .inl lp_src)), (a_lp_first, .inl (cI, 4097, .inl lp_first_7)), (a_lp, .inr (4, [.ref a_lp_facts, .ref a_lp_turns, .ref a_lp_first, .ref a_lp_src, .ref a_s1, .int lp_choices, .int lp_guesses, .int lp_unaries, .int lp_ranked])), (a_lp_turns, .inl (cI, 24576, .inl lp_turns))] := hD
              refine lv_if_eq (tgt := 51) hx hb d_Loop_linkSources_38 (by decide) (fun c_38 => ?_) (fun c_38 => ?_)
              · have h := And.left h c_38
                refine lv_iinc (v := x2_6 + 1) (lv' := [(2, .int (x2_6 + 1)), (3, .int r_10), (0, .ref a_lp), (1, .int x1_2)]) hx hb d_Loop_linkSources_51 hl (k := 3) rfl rfl (by decide) rfl (fun ls hl => ?_)
                refine lv_goto (tgt := 19) hx hb d_Loop_linkSources_54 (by decide) ?_
                exact il _ _ h _ _ (hP.sub [2, 3, 0, 1] rfl) (hD.sub [2, 3, 0, 1] (by decide) rfl) hS _ (lv_sub hl [2, 3, 0] rfl)
              · have h := And.right h c_38
                refine lv_aload_n hx hb d_Loop_linkSources_41 rfl (lv_at hl 1 rfl) ?_
                refine va_get (D := (dC, dI)) (ci := 4) (v := .ref a_lp_first) (C := "LoopInduction$Loop") (T := F_Loop) (N := 9) hx hb hts iC_Loop hown hK hP 2 rfl rfl 2 (by decide) fl_18 (fun _ h9 => h9) rfl d_Loop_linkSources_42 ?_
                refine lv_iload_n hx hb d_Loop_linkSources_45 rfl (lv_at hl 0 rfl) ?_
                refine lv_dup2_11 hx hb d_Loop_linkSources_46 rfl rfl ?_
                obtain ⟨hin_47, h⟩ := h
                refine va_iald hx hb hK hP 1 0 rfl rfl hin_47 d_Loop_linkSources_47 ?_
                refine lv_iconst (v := 1) hx hb d_Loop_linkSources_48 (by decide) ?_
                refine lv_iadd hx hb d_Loop_linkSources_49 ?_
                obtain ⟨hin_50, h⟩ := h
                refine va_iast hx hb hK hP hD hS 1 0 rfl rfl hin_50 d_Loop_linkSources_50 (fun H locs hP hD hS => ?_)
                have hP : va_P (dC, dI) vwCl [(a_lp_src, .inl (cI, 24576, .inl lp_src)), (a_lp_first, .inl (cI, 4097, .inl (upd lp_first_7 (r_10 : Int32).toNatClampNeg ((lp_first_7 (r_10 : Int32).toNatClampNeg) + 1)))), (a_lp, .inr (4, [.ref a_lp_facts, .ref a_lp_turns, .ref a_lp_first, .ref a_lp_src, .ref a_s1, .int lp_choices, .int lp_guesses, .int lp_unaries, .int lp_ranked])), (a_lp_turns, .inl (cI, 24576, .inl lp_turns))] H := hP
                have hD : va_D A [(a_lp_src, .inl (cI, 24576, .inl lp_src)), (a_lp_first, .inl (cI, 4097, .inl (upd lp_first_7 (r_10 : Int32).toNatClampNeg ((lp_first_7 (r_10 : Int32).toNatClampNeg) + 1)))), (a_lp, .inr (4, [.ref a_lp_facts, .ref a_lp_turns, .ref a_lp_first, .ref a_lp_src, .ref a_s1, .int lp_choices, .int lp_guesses, .int lp_unaries, .int lp_ranked])), (a_lp_turns, .inl (cI, 24576, .inl lp_turns))] := hD
                refine lv_iinc (v := x2_6 + 1) (lv' := [(2, .int (x2_6 + 1)), (3, .int r_10), (0, .ref a_lp), (1, .int x1_2)]) hx hb d_Loop_linkSources_51 hl (k := 3) rfl rfl (by decide) rfl (fun ls hl => ?_)
                refine lv_goto (tgt := 19) hx hb d_Loop_linkSources_54 (by decide) ?_
                exact il _ _ h _ _ (hP.sub [2, 3, 0, 1] rfl) (hD.sub [2, 3, 0, 1] (by decide) rfl) hS _ (lv_sub hl [2, 3, 0] rfl)
        obtain ⟨n_, h⟩ := h
        refine L19_q_8 _ ?_ n_ _ _ h _ _ hP hD hS _ (lv_sub hl [1, 2, 0] rfl)
        intro lp_first_12 h
        intro H locs hP hD hS ls hl
        refine lv_iinc (v := x1_2 + 1) (lv' := [(1, .int (x1_2 + 1)), (0, .ref a_lp)]) hx hb d_Loop_linkSources_57 hl (k := 1) rfl rfl (by decide) rfl (fun ls hl => ?_)
        refine lv_goto (tgt := 10) hx hb d_Loop_linkSources_60 (by decide) ?_
        exact il _ _ h _ _ hP hD hS _ (lv_sub hl [1, 0] rfl)
  obtain ⟨n_, h⟩ := h
  refine L10_q_4 _ ?_ n_ _ _ h _ _ hP hD hS _ (lv_sub hl [1, 0] rfl)
  intro lp_first_13 h
  intro H locs hP hD hS ls hl
  refine lv_iconst (v := 0) hx hb d_Loop_linkSources_63 (by decide) ?_
  refine lv_istore_n (lv' := [(1, .int 0), (0, .ref a_lp)]) hx hb d_Loop_linkSources_64 rfl hl (by decide) rfl (fun ls hl => ?_)
  have L65_q_16 : ∀ (k95 : (Nat → Int32) → Prop) (hk95 : ∀ (lp_first_17 : Nat → Int32), k95 lp_first_17 → ∀ (H : Heap) (locs : List Loc), va_P (dC, dI) vwCl [(a_lp, .inr (4, [.ref a_lp_facts, .ref a_lp_turns, .ref a_lp_first, .ref a_lp_src, .ref a_s1, .int lp_choices, .int lp_guesses, .int lp_unaries, .int lp_ranked])), (a_lp_turns, .inl (cI, 24576, .inl lp_turns)), (a_lp_src, .inl (cI, 24576, .inl lp_src)), (a_lp_first, .inl (cI, 4097, .inl lp_first_17))] H → va_D A [(a_lp, .inr (4, [.ref a_lp_facts, .ref a_lp_turns, .ref a_lp_first, .ref a_lp_src, .ref a_s1, .int lp_choices, .int lp_guesses, .int lp_unaries, .int lp_ranked])), (a_lp_turns, .inl (cI, 24576, .inl lp_turns)), (a_lp_src, .inl (cI, 24576, .inl lp_src)), (a_lp_first, .inl (cI, 4097, .inl lp_first_17))] → va_S A s.heap H locs → ∀ ls : Array Slot, lv_has ls 4 [(0, .ref a_lp)] → W p l e (headSpec w_Loop_linkSources ({ frames := 2, cells := 0, slots := 0, locals := 43 })).room s m (([.ref a_lp] : List Value).toArray) below meth c H locs 0 0 QQ (F0 m 95 ls [])) (n : Nat) (x1_14 : Int32) (lp_first_15 : Nat → Int32), wp_Loop_linkSources_L65 k95 n x1_14 lp_first_15 → ∀ (H : Heap) (locs : List Loc), va_P (dC, dI) vwCl [(a_lp, .inr (4, [.ref a_lp_facts, .ref a_lp_turns, .ref a_lp_first, .ref a_lp_src, .ref a_s1, .int lp_choices, .int lp_guesses, .int lp_unaries, .int lp_ranked])), (a_lp_turns, .inl (cI, 24576, .inl lp_turns)), (a_lp_src, .inl (cI, 24576, .inl lp_src)), (a_lp_first, .inl (cI, 4097, .inl lp_first_15))] H → va_D A [(a_lp, .inr (4, [.ref a_lp_facts, .ref a_lp_turns, .ref a_lp_first, .ref a_lp_src, .ref a_s1, .int lp_choices, .int lp_guesses, .int lp_unaries, .int lp_ranked])), (a_lp_turns, .inl (cI, 24576, .inl lp_turns)), (a_lp_src, .inl (cI, 24576, .inl lp_src)), (a_lp_first, .inl (cI, 4097, .inl lp_first_15))] → va_S A s.heap H locs → ∀ ls : Array Slot, lv_has ls 4 [(0, .ref a_lp), (1, .int x1_14)] → W p l e (headSpec w_Loop_linkSources ({ frames := 2, cells := 0, slots := 0, locals := 43 })).room s m (([.ref a_lp] : List Value).toArray) below meth c H locs 0 0 QQ (F0 m 65 ls []) := by
    intro k95 hk95 n
    induction n with
    | zero => intro x1_14 lp_first_15 h; exact (show False from h).elim
    | succ n il =>
      intro x1_14 lp_first_15 h
      intro H locs hP hD hS ls hl
      refine lv_iload_n hx hb d_Loop_linkSources_65 rfl (lv_at hl 1 rfl) ?_
      refine lv_sipush (v := 4096) hx hb d_Loop_linkSources_66 (by decide) ?_
      refine lv_icmp_ge (tgt := 95) hx hb d_Loop_linkSources_69 (by decide) (fun c_69 => ?_) (fun c_69 => ?_)
      · have h := And.left h c_69
        exact hk95 _ h _ _ hP hD hS _ (lv_sub hl [0] rfl)
      · have h := And.right h c_69
        refine lv_aload_n hx hb d_Loop_linkSources_72 rfl (lv_at hl 0 rfl) ?_
        refine va_get (D := (dC, dI)) (ci := 4) (v := .ref a_lp_first) (C := "LoopInduction$Loop") (T := F_Loop) (N := 9) hx hb hts iC_Loop hown hK hP 0 rfl rfl 2 (by decide) fl_18 (fun _ h9 => h9) rfl d_Loop_linkSources_73 ?_
        refine lv_iload_n hx hb d_Loop_linkSources_76 rfl (lv_at hl 1 rfl) ?_
        refine lv_iconst (v := 1) hx hb d_Loop_linkSources_77 (by decide) ?_
        refine lv_iadd hx hb d_Loop_linkSources_78 ?_
        refine lv_dup2_11 hx hb d_Loop_linkSources_79 rfl rfl ?_
        obtain ⟨hin_80, h⟩ := h
        refine va_iald hx hb hK hP 3 0 rfl rfl hin_80 d_Loop_linkSources_80 ?_
        refine lv_aload_n hx hb d_Loop_linkSources_81 rfl (lv_at hl 0 rfl) ?_
        refine va_get (D := (dC, dI)) (ci := 4) (v := .ref a_lp_first) (C := "LoopInduction$Loop") (T := F_Loop) (N := 9) hx hb hts iC_Loop hown hK hP 0 rfl rfl 2 (by decide) fl_18 (fun _ h9 => h9) rfl d_Loop_linkSources_82 ?_
        refine lv_iload_n hx hb d_Loop_linkSources_85 rfl (lv_at hl 1 rfl) ?_
        obtain ⟨hin_86, h⟩ := h
        refine va_iald hx hb hK hP 3 0 rfl rfl hin_86 d_Loop_linkSources_86 ?_
        refine lv_iadd hx hb d_Loop_linkSources_87 ?_
        obtain ⟨hin_88, h⟩ := h
        refine va_iast hx hb hK hP hD hS 3 0 rfl rfl hin_88 d_Loop_linkSources_88 (fun H locs hP hD hS => ?_)
        have hP : va_P (dC, dI) vwCl [(a_lp, .inr (4, [.ref a_lp_facts, .ref a_lp_turns, .ref a_lp_first, .ref a_lp_src, .ref a_s1, .int lp_choices, .int lp_guesses, .int lp_unaries, .int lp_ranked])), (a_lp_turns, .inl (cI, 24576, .inl lp_turns)), (a_lp_src, .inl (cI, 24576, .inl lp_src)), (a_lp_first, .inl (cI, 4097, .inl (upd lp_first_15 (x1_14 + 1 : Int32).toNatClampNeg ((lp_first_15 (x1_14 + 1 : Int32).toNatClampNeg) + (lp_first_15 (x1_14 : Int32).toNatClampNeg)))))] H := hP
        have hD : va_D A [(a_lp, .inr (4, [.ref a_lp_facts, .ref a_lp_turns, .ref a_lp_first, .ref a_lp_src, .ref a_s1, .int lp_choices, .int lp_guesses, .int lp_unaries, .int lp_ranked])), (a_lp_turns, .inl (cI, 24576, .inl lp_turns)), (a_lp_src, .inl (cI, 24576, .inl lp_src)), (a_lp_first, .inl (cI, 4097, .inl (upd lp_first_15 (x1_14 + 1 : Int32).toNatClampNeg ((lp_first_15 (x1_14 + 1 : Int32).toNatClampNeg) + (lp_first_15 (x1_14 : Int32).toNatClampNeg)))))] := hD
        refine lv_iinc (v := x1_14 + 1) (lv' := [(1, .int (x1_14 + 1)), (0, .ref a_lp)]) hx hb d_Loop_linkSources_89 hl (k := 1) rfl rfl (by decide) rfl (fun ls hl => ?_)
        refine lv_goto (tgt := 65) hx hb d_Loop_linkSources_92 (by decide) ?_
        exact il _ _ h _ _ hP hD hS _ (lv_sub hl [1, 0] rfl)
  obtain ⟨n_, h⟩ := h
  refine L65_q_16 _ ?_ n_ _ _ h _ _ hP hD hS _ (lv_sub hl [1, 0] rfl)
  intro lp_first_18 h
  intro H locs hP hD hS ls hl
  refine lv_sipush (v := 4095) hx hb d_Loop_linkSources_95 (by decide) ?_
  refine lv_istore_n (lv' := [(1, .int 4095), (0, .ref a_lp)]) hx hb d_Loop_linkSources_98 rfl hl (by decide) rfl (fun ls hl => ?_)
  have L99_q_22 : ∀ (k136 : (Nat → Int32) → (Nat → Int32) → Prop) (hk136 : ∀ (lp_first_23 : Nat → Int32) (lp_src_24 : Nat → Int32), k136 lp_first_23 lp_src_24 → ∀ (H : Heap) (locs : List Loc), va_P (dC, dI) vwCl [(a_lp, .inr (4, [.ref a_lp_facts, .ref a_lp_turns, .ref a_lp_first, .ref a_lp_src, .ref a_s1, .int lp_choices, .int lp_guesses, .int lp_unaries, .int lp_ranked])), (a_lp_turns, .inl (cI, 24576, .inl lp_turns)), (a_lp_src, .inl (cI, 24576, .inl lp_src_24)), (a_lp_first, .inl (cI, 4097, .inl lp_first_23))] H → va_D A [(a_lp, .inr (4, [.ref a_lp_facts, .ref a_lp_turns, .ref a_lp_first, .ref a_lp_src, .ref a_s1, .int lp_choices, .int lp_guesses, .int lp_unaries, .int lp_ranked])), (a_lp_turns, .inl (cI, 24576, .inl lp_turns)), (a_lp_src, .inl (cI, 24576, .inl lp_src_24)), (a_lp_first, .inl (cI, 4097, .inl lp_first_23))] → va_S A s.heap H locs → ∀ ls : Array Slot, lv_has ls 4 [] → W p l e (headSpec w_Loop_linkSources ({ frames := 2, cells := 0, slots := 0, locals := 43 })).room s m (([.ref a_lp] : List Value).toArray) below meth c H locs 0 0 QQ (F0 m 136 ls [])) (n : Nat) (x1_19 : Int32) (lp_first_20 : Nat → Int32) (lp_src_21 : Nat → Int32), wp_Loop_linkSources_L99 lp_choices lp_turns k136 n x1_19 lp_first_20 lp_src_21 → ∀ (H : Heap) (locs : List Loc), va_P (dC, dI) vwCl [(a_lp, .inr (4, [.ref a_lp_facts, .ref a_lp_turns, .ref a_lp_first, .ref a_lp_src, .ref a_s1, .int lp_choices, .int lp_guesses, .int lp_unaries, .int lp_ranked])), (a_lp_turns, .inl (cI, 24576, .inl lp_turns)), (a_lp_src, .inl (cI, 24576, .inl lp_src_21)), (a_lp_first, .inl (cI, 4097, .inl lp_first_20))] H → va_D A [(a_lp, .inr (4, [.ref a_lp_facts, .ref a_lp_turns, .ref a_lp_first, .ref a_lp_src, .ref a_s1, .int lp_choices, .int lp_guesses, .int lp_unaries, .int lp_ranked])), (a_lp_turns, .inl (cI, 24576, .inl lp_turns)), (a_lp_src, .inl (cI, 24576, .inl lp_src_21)), (a_lp_first, .inl (cI, 4097, .inl lp_first_20))] → va_S A s.heap H locs → ∀ ls : Array Slot, lv_has ls 4 [(0, .ref a_lp), (1, .int x1_19)] → W p l e (headSpec w_Loop_linkSources ({ frames := 2, cells := 0, slots := 0, locals := 43 })).room s m (([.ref a_lp] : List Value).toArray) below meth c H locs 0 0 QQ (F0 m 99 ls []) := by
    intro k136 hk136 n
    induction n with
    | zero => intro x1_19 lp_first_20 lp_src_21 h; exact (show False from h).elim
    | succ n il =>
      intro x1_19 lp_first_20 lp_src_21 h
      intro H locs hP hD hS ls hl
      refine lv_iload_n hx hb d_Loop_linkSources_99 rfl (lv_at hl 1 rfl) ?_
      refine lv_if_lt (tgt := 136) hx hb d_Loop_linkSources_100 (by decide) (fun c_100 => ?_) (fun c_100 => ?_)
      · have h := And.left h c_100
        exact hk136 _ _ h _ _ hP hD hS _ (lv_sub hl [] rfl)
      · have h := And.right h c_100
        refine lv_iconst (v := 0) hx hb d_Loop_linkSources_103 (by decide) ?_
        refine lv_istore_n (lv' := [(2, .int 0), (0, .ref a_lp), (1, .int x1_19)]) hx hb d_Loop_linkSources_104 rfl hl (by decide) rfl (fun ls hl => ?_)
        have L105_q_28 : ∀ (k130 : (Nat → Int32) → (Nat → Int32) → Prop) (hk130 : ∀ (lp_first_29 : Nat → Int32) (lp_src_30 : Nat → Int32), k130 lp_first_29 lp_src_30 → ∀ (H : Heap) (locs : List Loc), va_P (dC, dI) vwCl [(a_lp, .inr (4, [.ref a_lp_facts, .ref a_lp_turns, .ref a_lp_first, .ref a_lp_src, .ref a_s1, .int lp_choices, .int lp_guesses, .int lp_unaries, .int lp_ranked])), (a_lp_turns, .inl (cI, 24576, .inl lp_turns)), (a_lp_src, .inl (cI, 24576, .inl lp_src_30)), (a_lp_first, .inl (cI, 4097, .inl lp_first_29))] H → va_D A [(a_lp, .inr (4, [.ref a_lp_facts, .ref a_lp_turns, .ref a_lp_first, .ref a_lp_src, .ref a_s1, .int lp_choices, .int lp_guesses, .int lp_unaries, .int lp_ranked])), (a_lp_turns, .inl (cI, 24576, .inl lp_turns)), (a_lp_src, .inl (cI, 24576, .inl lp_src_30)), (a_lp_first, .inl (cI, 4097, .inl lp_first_29))] → va_S A s.heap H locs → ∀ ls : Array Slot, lv_has ls 4 [(0, .ref a_lp), (1, .int x1_19)] → W p l e (headSpec w_Loop_linkSources ({ frames := 2, cells := 0, slots := 0, locals := 43 })).room s m (([.ref a_lp] : List Value).toArray) below meth c H locs 0 0 QQ (F0 m 130 ls [])) (n : Nat) (x2_25 : Int32) (lp_first_26 : Nat → Int32) (lp_src_27 : Nat → Int32), wp_Loop_linkSources_L105 x1_19 lp_choices lp_turns k130 n x2_25 lp_first_26 lp_src_27 → ∀ (H : Heap) (locs : List Loc), va_P (dC, dI) vwCl [(a_lp, .inr (4, [.ref a_lp_facts, .ref a_lp_turns, .ref a_lp_first, .ref a_lp_src, .ref a_s1, .int lp_choices, .int lp_guesses, .int lp_unaries, .int lp_ranked])), (a_lp_turns, .inl (cI, 24576, .inl lp_turns)), (a_lp_src, .inl (cI, 24576, .inl lp_src_27)), (a_lp_first, .inl (cI, 4097, .inl lp_first_26))] H → va_D A [(a_lp, .inr (4, [.ref a_lp_facts, .ref a_lp_turns, .ref a_lp_first, .ref a_lp_src, .ref a_s1, .int lp_choices, .int lp_guesses, .int lp_unaries, .int lp_ranked])), (a_lp_turns, .inl (cI, 24576, .inl lp_turns)), (a_lp_src, .inl (cI, 24576, .inl lp_src_27)), (a_lp_first, .inl (cI, 4097, .inl lp_first_26))] → va_S A s.heap H locs → ∀ ls : Array Slot, lv_has ls 4 [(0, .ref a_lp), (1, .int x1_19), (2, .int x2_25)] → W p l e (headSpec w_Loop_linkSources ({ frames := 2, cells := 0, slots := 0, locals := 43 })).room s m (([.ref a_lp] : List Value).toArray) below meth c H locs 0 0 QQ (F0 m 105 ls []) := by
          intro k130 hk130 n
          induction n with
          | zero => intro x2_25 lp_first_26 lp_src_27 h; exact (show False from h).elim
          | succ n il =>
            intro x2_25 lp_first_26 lp_src_27 h
            intro H locs hP hD hS ls hl
            refine lv_iload_n hx hb d_Loop_linkSources_105 rfl (lv_at hl 2 rfl) ?_
            refine lv_aload_n hx hb d_Loop_linkSources_106 rfl (lv_at hl 0 rfl) ?_
            refine va_get (D := (dC, dI)) (ci := 4) (v := .int lp_choices) (C := "LoopInduction$Loop") (T := F_Loop) (N := 9) hx hb hts iC_Loop hown hK hP 0 rfl rfl 5 (by decide) fl_24 (fun _ h9 => h9) rfl d_Loop_linkSources_107 ?_
            refine lv_icmp_ge (tgt := 130) hx hb d_Loop_linkSources_110 (by decide) (fun c_110 => ?_) (fun c_110 => ?_)
            · have h := And.left h c_110
              exact hk130 _ _ h _ _ hP hD hS _ (lv_sub hl [0, 1] rfl)
            · have h := And.right h c_110
              refine lv_aload_n hx hb d_Loop_linkSources_113 rfl (lv_at hl 0 rfl) ?_
              refine lv_iload_n hx hb d_Loop_linkSources_114 rfl (lv_at hl 1 rfl) ?_
              refine lv_aload_n hx hb d_Loop_linkSources_115 rfl (lv_at hl 0 rfl) ?_
              refine lv_iload_n hx hb d_Loop_linkSources_116 rfl (lv_at hl 1 rfl) ?_
              refine lv_iload_n hx hb d_Loop_linkSources_117 rfl (lv_at hl 2 rfl) ?_
              refine jn_i (wr := [(a_lp_src, .inl (cI, 24576, .inl lp_src_27)), (a_lp_first, .inl (cI, 4097, .inl lp_first_26))]) (va_runV (As := [.int x1_19, .int x2_25]) (rest := [.int x1_19, .ref a_lp]) ⟨hx, hb, hml, hown, hts⟩ (c_Loop_turn l dC dI cI cB cZ adK adV _ a_lp a_lp_facts a_lp_turns a_lp_first a_lp_src a_s1 lp_choices lp_guesses lp_unaries lp_ranked lp_turns x1_19 x2_25 _ h) (cwV 2 hts (gv_ m_756 m_757 m_758 m_92 m_759) rfl rfl rfl pd_Loop_turn ⟨Nat.le_of_ble_eq_true rfl, Nat.le_of_ble_eq_true rfl⟩) ⟨pc_blind, va_recv hK hP (ci := 4) (q0 := 0) rfl rfl, pc_of (hP.sub [0, 1] rfl) hK (hD.sub [0, 1] (by decide) rfl) hN hT hS hA⟩ rfl rfl hl.1 rfl (lv_room (Nat.le_of_ble_eq_true rfl)) d_Loop_linkSources_118 ⟨Nat.zero_le _, Nat.zero_le _⟩) hP hD hS hA [0, 1] [2, 3] rfl rfl (by decide) (by decide) (fun r_31 u_ H locs h hP hD hS => ?_)
              have hP : va_P (dC, dI) vwCl [(a_lp_src, .inl (cI, 24576, .inl lp_src_27)), (a_lp_first, .inl (cI, 4097, .inl lp_first_26)), (a_lp, .inr (4, [.ref a_lp_facts, .ref a_lp_turns, .ref a_lp_first, .ref a_lp_src, .ref a_s1, .int lp_choices, .int lp_guesses, .int lp_unaries, .int lp_ranked])), (a_lp_turns, .inl (cI, 24576, .inl lp_turns))] H := hP
              have hD : va_D A [(a_lp_src, .inl (cI, 24576, .inl lp_src_27)), (a_lp_first, .inl (cI, 4097, .inl lp_first_26)), (a_lp, .inr (4, [.ref a_lp_facts, .ref a_lp_turns, .ref a_lp_first, .ref a_lp_src, .ref a_s1, .int lp_choices, .int lp_guesses, .int lp_unaries, .int lp_ranked])), (a_lp_turns, .inl (cI, 24576, .inl lp_turns))] := hD
              refine jn_v (wr := [(a_lp_turns, .inl (cI, 24576, .inl lp_turns))]) (va_runV (As := [.int x1_19, .int r_31]) (rest := []) ⟨hx, hb, hml, hown, hts⟩ (c_Loop_putSource l dC dI cI cB cZ adK adV _ a_lp a_lp_facts a_lp_turns a_lp_first a_lp_src a_s1 lp_choices lp_guesses lp_unaries lp_ranked lp_first_26 lp_src_27 x1_19 r_31 _ h) (cwV 2 hts (gv_ m_767 m_769 m_28 m_92 m_770) rfl rfl rfl pd_Loop_putSource ⟨Nat.le_of_ble_eq_true rfl, Nat.le_of_ble_eq_true rfl⟩) ⟨pc_blind, va_recv hK hP (ci := 4) (q0 := 2) rfl rfl, pc_of (hP.sub [2, 1, 0] rfl) hK (hD.sub [2, 1, 0] (by decide) rfl) hN hT hS hA⟩ rfl rfl hl.1 rfl (lv_room (Nat.le_of_ble_eq_true rfl)) d_Loop_linkSources_121 ⟨Nat.zero_le _, Nat.zero_le _⟩) hP hD hS hA [2, 1, 0] [3] rfl rfl (by decide) (by decide) (fun u_ H locs h hP hD hS => ?_)
              obtain ⟨lp_first_32, lp_src_33⟩ := u_
              have hP : va_P (dC, dI) vwCl [(a_lp_turns, .inl (cI, 24576, .inl lp_turns)), (a_lp, .inr (4, [.ref a_lp_facts, .ref a_lp_turns, .ref a_lp_first, .ref a_lp_src, .ref a_s1, .int lp_choices, .int lp_guesses, .int lp_unaries, .int lp_ranked])), (a_lp_first, .inl (cI, 4097, .inl lp_first_32)), (a_lp_src, .inl (cI, 24576, .inl lp_src_33))] H := hP
              have hD : va_D A [(a_lp_turns, .inl (cI, 24576, .inl lp_turns)), (a_lp, .inr (4, [.ref a_lp_facts, .ref a_lp_turns, .ref a_lp_first, .ref a_lp_src, .ref a_s1, .int lp_choices, .int lp_guesses, .int lp_unaries, .int lp_ranked])), (a_lp_first, .inl (cI, 4097, .inl lp_first_32)), (a_lp_src, .inl (cI, 24576, .inl lp_src_33))] := hD
              refine lv_iinc (v := x2_25 + 1) (lv' := [(2, .int (x2_25 + 1)), (0, .ref a_lp), (1, .int x1_19)]) hx hb d_Loop_linkSources_124 hl (k := 2) rfl rfl (by decide) rfl (fun ls hl => ?_)
              refine lv_goto (tgt := 105) hx hb d_Loop_linkSources_127 (by decide) ?_
              exact il _ _ _ h _ _ (hP.sub [1, 0, 3, 2] rfl) (hD.sub [1, 0, 3, 2] (by decide) rfl) hS _ (lv_sub hl [1, 2, 0] rfl)
        obtain ⟨n_, h⟩ := h
        refine L105_q_28 _ ?_ n_ _ _ _ h _ _ hP hD hS _ (lv_sub hl [1, 2, 0] rfl)
        intro lp_first_34 lp_src_35 h
        intro H locs hP hD hS ls hl
        refine lv_iinc (v := x1_19 + (-1)) (lv' := [(1, .int (x1_19 + (-1))), (0, .ref a_lp)]) hx hb d_Loop_linkSources_130 hl (k := 1) rfl rfl (by decide) rfl (fun ls hl => ?_)
        refine lv_goto (tgt := 99) hx hb d_Loop_linkSources_133 (by decide) ?_
        exact il _ _ _ h _ _ hP hD hS _ (lv_sub hl [1, 0] rfl)
  obtain ⟨n_, h⟩ := h
  refine L99_q_22 _ ?_ n_ _ _ _ h _ _ hP hD hS _ (lv_sub hl [1, 0] rfl)
  intro lp_first_36 lp_src_37 h
  intro H locs hP hD hS ls hl
  rw [← hQ]
  have hP9 := hP.sub (ws' := [(a_lp, .inr (4, [.ref a_lp_facts, .ref a_lp_turns, .ref a_lp_first, .ref a_lp_src, .ref a_s1, .int lp_choices, .int lp_guesses, .int lp_unaries, .int lp_ranked])), (a_lp_turns, .inl (cI, 24576, .inl lp_turns)), (a_lp_first, .inl (cI, 4097, .inl lp_first_36)), (a_lp_src, .inl (cI, 24576, .inl lp_src_37))]) [0, 1, 3, 2] rfl
  have hD9 := hD.sub (ws' := [(a_lp, .inr (4, [.ref a_lp_facts, .ref a_lp_turns, .ref a_lp_first, .ref a_lp_src, .ref a_s1, .int lp_choices, .int lp_guesses, .int lp_unaries, .int lp_ranked])), (a_lp_turns, .inl (cI, 24576, .inl lp_turns)), (a_lp_first, .inl (cI, 4097, .inl lp_first_36)), (a_lp_src, .inl (cI, 24576, .inl lp_src_37))]) [0, 1, 3, 2] (by decide) rfl
  exact W.vret hx hb hr (fun t ht hW => ⟨⟨(lp_first_36, lp_src_37), rfl, h, by rw [ht]; exact hP9, va_K.moved hW.alike hK, hD9⟩, hS.F ht⟩) hS.2.2 d_Loop_linkSources_136
set_option maxHeartbeats 4000000 in
set_option maxRecDepth 100000 in
theorem c_Loop_load (l : Launch) (dC : Nat → ClassId) (dI : Nat → Nat → Nat) (cI cB cZ : ClassId) (adK adV : Nat → Nat) (sz : Nat) (a_cd a_cd_steps a_cd_starts a_cd_stops a_cd_used a_cd_stack a_ps a_tk a_lp a_lp_facts a_lp_turns a_lp_first a_lp_src a_s1 : Nat) (cd_size : Int32) (cd_section : Int32) (cd_height : Int32) (cd_steps : Nat → Int32) (cd_starts : Nat → Int32) (cd_stops : Nat → Int32) (cd_used : Nat → Int32) (cd_stack : Nat → Int32) (ps_current : Int32) (ps_faulty : Int32) (ps_unaries : Int32) (ps_choices : Int32) (ps_guesses : Int32) (lp_choices : Int32) (lp_guesses : Int32) (lp_unaries : Int32) (lp_ranked : Int32) (lp_facts : Nat → Int32) (lp_turns : Nat → Int32) (lp_first : Nat → Int32) (lp_src : Nat → Int32) (s1 : Nat → Int32) (post : Int32 → (Nat → Int32) → Int32 → Int32 → Int32 → Int32 → (Nat → Int32) → (Nat → Int32) → (Nat → Int32) → (Nat → Int32) → (Nat → Int32) → Prop) (h : wp_Loop_load cd_height cd_steps cd_starts cd_stops cd_used cd_stack ps_unaries ps_choices ps_guesses lp_choices lp_guesses lp_unaries lp_ranked lp_facts lp_turns lp_first lp_src s1 post) : Met l y_Loop_load w_Loop_load ({ frames := 5, cells := 0, slots := 0, locals := 124 }) (pc_ (dC, dI) [(cI, .int), (cB, .byte), (cZ, .boolean)] [(a_cd, .inr (1, [.ref a_cd_steps, .ref a_cd_starts, .ref a_cd_stops, .ref a_cd_used, .ref a_cd_stack, .int cd_size, .int cd_section, .int cd_height])), (a_cd_steps, .inl (cI, 1200, .inl cd_steps)), (a_cd_starts, .inl (cI, 39, .inl cd_starts)), (a_cd_stops, .inl (cI, 39, .inl cd_stops)), (a_cd_used, .inl (cI, 39, .inl cd_used)), (a_cd_stack, .inl (cI, 100, .inl cd_stack)), (a_ps, .inr (5, [.ref a_tk, .ref a_cd, .int ps_current, .int ps_faulty, .int ps_unaries, .int ps_choices, .int ps_guesses])), (a_lp, .inr (4, [.ref a_lp_facts, .ref a_lp_turns, .ref a_lp_first, .ref a_lp_src, .ref a_s1, .int lp_choices, .int lp_guesses, .int lp_unaries, .int lp_ranked])), (a_lp_facts, .inl (cI, 4096, .inl lp_facts)), (a_lp_turns, .inl (cI, 24576, .inl lp_turns)), (a_lp_first, .inl (cI, 4097, .inl lp_first)), (a_lp_src, .inl (cI, 24576, .inl lp_src)), (a_s1, .inl (cI, 4096, .inl s1))] sz adK adV [.ref a_lp, .ref a_ps, .ref a_cd]) (va_Qv (fun (u : Int32 × (Nat → Int32) × Int32 × Int32 × Int32 × Int32 × (Nat → Int32) × (Nat → Int32) × (Nat → Int32) × (Nat → Int32) × (Nat → Int32)) => post u.1 u.2.1 u.2.2.1 u.2.2.2.1 u.2.2.2.2.1 u.2.2.2.2.2.1 u.2.2.2.2.2.2.1 u.2.2.2.2.2.2.2.1 u.2.2.2.2.2.2.2.2.1 u.2.2.2.2.2.2.2.2.2.1 u.2.2.2.2.2.2.2.2.2.2) (fun (u : Int32 × (Nat → Int32) × Int32 × Int32 × Int32 × Int32 × (Nat → Int32) × (Nat → Int32) × (Nat → Int32) × (Nat → Int32) × (Nat → Int32)) t => bw_ (dC, dI) [(cI, .int), (cB, .byte), (cZ, .boolean)] (va_A [(a_cd, .inr (1, [.ref a_cd_steps, .ref a_cd_starts, .ref a_cd_stops, .ref a_cd_used, .ref a_cd_stack, .int cd_size, .int cd_section, .int cd_height])), (a_cd_steps, .inl (cI, 1200, .inl cd_steps)), (a_cd_starts, .inl (cI, 39, .inl cd_starts)), (a_cd_stops, .inl (cI, 39, .inl cd_stops)), (a_cd_used, .inl (cI, 39, .inl cd_used)), (a_cd_stack, .inl (cI, 100, .inl cd_stack)), (a_ps, .inr (5, [.ref a_tk, .ref a_cd, .int ps_current, .int ps_faulty, .int ps_unaries, .int ps_choices, .int ps_guesses])), (a_lp, .inr (4, [.ref a_lp_facts, .ref a_lp_turns, .ref a_lp_first, .ref a_lp_src, .ref a_s1, .int lp_choices, .int lp_guesses, .int lp_unaries, .int lp_ranked])), (a_lp_facts, .inl (cI, 4096, .inl lp_facts)), (a_lp_turns, .inl (cI, 24576, .inl lp_turns)), (a_lp_first, .inl (cI, 4097, .inl lp_first)), (a_lp_src, .inl (cI, 24576, .inl lp_src)), (a_s1, .inl (cI, 4096, .inl s1))] sz) [(a_cd, .inr (1, [.ref a_cd_steps, .ref a_cd_starts, .ref a_cd_stops, .ref a_cd_used, .ref a_cd_stack, .int cd_size, .int cd_section, .int u.1])), (a_cd_steps, .inl (cI, 1200, .inl cd_steps)), (a_cd_starts, .inl (cI, 39, .inl cd_starts)), (a_cd_stops, .inl (cI, 39, .inl cd_stops)), (a_cd_used, .inl (cI, 39, .inl cd_used)), (a_cd_stack, .inl (cI, 100, .inl u.2.1)), (a_ps, .inr (5, [.ref a_tk, .ref a_cd, .int ps_current, .int ps_faulty, .int ps_unaries, .int ps_choices, .int ps_guesses])), (a_lp, .inr (4, [.ref a_lp_facts, .ref a_lp_turns, .ref a_lp_first, .ref a_lp_src, .ref a_s1, .int u.2.2.1, .int u.2.2.2.1, .int u.2.2.2.2.1, .int u.2.2.2.2.2.1])), (a_lp_facts, .inl (cI, 4096, .inl u.2.2.2.2.2.2.1)), (a_lp_turns, .inl (cI, 24576, .inl u.2.2.2.2.2.2.2.1)), (a_lp_first, .inl (cI, 4097, .inl u.2.2.2.2.2.2.2.2.1)), (a_lp_src, .inl (cI, 24576, .inl u.2.2.2.2.2.2.2.2.2.1)), (a_s1, .inl (cI, 4096, .inl u.2.2.2.2.2.2.2.2.2.2))] t) (va_A [(a_cd, .inr (1, [.ref a_cd_steps, .ref a_cd_starts, .ref a_cd_stops, .ref a_cd_used, .ref a_cd_stack, .int cd_size, .int cd_section, .int cd_height])), (a_cd_steps, .inl (cI, 1200, .inl cd_steps)), (a_cd_starts, .inl (cI, 39, .inl cd_starts)), (a_cd_stops, .inl (cI, 39, .inl cd_stops)), (a_cd_used, .inl (cI, 39, .inl cd_used)), (a_cd_stack, .inl (cI, 100, .inl cd_stack)), (a_ps, .inr (5, [.ref a_tk, .ref a_cd, .int ps_current, .int ps_faulty, .int ps_unaries, .int ps_choices, .int ps_guesses])), (a_lp, .inr (4, [.ref a_lp_facts, .ref a_lp_turns, .ref a_lp_first, .ref a_lp_src, .ref a_s1, .int lp_choices, .int lp_guesses, .int lp_unaries, .int lp_ranked])), (a_lp_facts, .inl (cI, 4096, .inl lp_facts)), (a_lp_turns, .inl (cI, 24576, .inl lp_turns)), (a_lp_first, .inl (cI, 4097, .inl lp_first)), (a_lp_src, .inl (cI, 24576, .inl lp_src)), (a_s1, .inl (cI, 4096, .inl s1))] sz)) 0 0 (va_A [(a_cd, .inr (1, [.ref a_cd_steps, .ref a_cd_starts, .ref a_cd_stops, .ref a_cd_used, .ref a_cd_stack, .int cd_size, .int cd_section, .int cd_height])), (a_cd_steps, .inl (cI, 1200, .inl cd_steps)), (a_cd_starts, .inl (cI, 39, .inl cd_starts)), (a_cd_stops, .inl (cI, 39, .inl cd_stops)), (a_cd_used, .inl (cI, 39, .inl cd_used)), (a_cd_stack, .inl (cI, 100, .inl cd_stack)), (a_ps, .inr (5, [.ref a_tk, .ref a_cd, .int ps_current, .int ps_faulty, .int ps_unaries, .int ps_choices, .int ps_guesses])), (a_lp, .inr (4, [.ref a_lp_facts, .ref a_lp_turns, .ref a_lp_first, .ref a_lp_src, .ref a_s1, .int lp_choices, .int lp_guesses, .int lp_unaries, .int lp_ranked])), (a_lp_facts, .inl (cI, 4096, .inl lp_facts)), (a_lp_turns, .inl (cI, 24576, .inl lp_turns)), (a_lp_first, .inl (cI, 4097, .inl lp_first)), (a_lp_src, .inl (cI, 24576, .inl lp_src)), (a_s1, .inl (cI, 4096, .inl s1))] sz) := by
  refine Met.ofW (cc := b_Loop_load) (maxL := 4) (ret := none) (by decide) rfl ?_
  intro p e s m args below meth c s₁ B hml hv
  obtain ⟨rfl, hsz, hP, hK, hD0, hN, hT⟩ := hv
  have hx := B.exec
  have hb := B.bytes
  have hr := B.returns
  have hts := atoms_spec (ws := w_Loop_load) B.pre
  have hown : s.vm.findClass "LoopInduction$Loop" = some m.cls := findClass_of_methodNamed B.named
  have hlocks := B.notSynchronized
  subst hsz
  have hD := hD0.self (sz := s.heap.size)
  generalize hAe : va_A [(a_cd, .inr (1, [.ref a_cd_steps, .ref a_cd_starts, .ref a_cd_stops, .ref a_cd_used, .ref a_cd_stack, .int cd_size, .int cd_section, .int cd_height])), (a_cd_steps, .inl (cI, 1200, .inl cd_steps)), (a_cd_starts, .inl (cI, 39, .inl cd_starts)), (a_cd_stops, .inl (cI, 39, .inl cd_stops)), (a_cd_used, .inl (cI, 39, .inl cd_used)), (a_cd_stack, .inl (cI, 100, .inl cd_stack)), (a_ps, .inr (5, [.ref a_tk, .ref a_cd, .int ps_current, .int ps_faulty, .int ps_unaries, .int ps_choices, .int ps_guesses])), (a_lp, .inr (4, [.ref a_lp_facts, .ref a_lp_turns, .ref a_lp_first, .ref a_lp_src, .ref a_s1, .int lp_choices, .int lp_guesses, .int lp_unaries, .int lp_ranked])), (a_lp_facts, .inl (cI, 4096, .inl lp_facts)), (a_lp_turns, .inl (cI, 24576, .inl lp_turns)), (a_lp_first, .inl (cI, 4097, .inl lp_first)), (a_lp_src, .inl (cI, 24576, .inl lp_src)), (a_s1, .inl (cI, 4096, .inl s1))] s.heap.size = A at hD hT ⊢
  have hA : ∀ q : Nat, s.heap.size ≤ q → A q := fun q h => by rw [← hAe]; exact Or.inr h
  have hS : va_S A s.heap s.heap [] := va_S.rf
  generalize hQ : MQ below _ _ s 0 0 _ = QQ
  have hl := lv_entry ([.ref a_lp, .ref a_ps, .ref a_cd]) (n := 4) (Nat.le_of_ble_eq_true rfl)
  rw [lg_entry_eq]
  generalize (lg_sl ([.ref a_lp, .ref a_ps, .ref a_cd]) ++ List.replicate (4 - (lg_sl ([.ref a_lp, .ref a_ps, .ref a_cd])).length) Slot.unset).toArray = ls at hl ⊢
  have hl : lv_has ls 4 [(0, .ref a_lp), (1, .ref a_ps), (2, .ref a_cd)] := hl
  have fl_11 := (hts _ (List.mem_cons_of_mem _ m_254))
  have fl_24 := (hts _ (List.mem_cons_of_mem _ m_259))
  have fl_28 := (hts _ (List.mem_cons_of_mem _ m_260))
  have fl_31 := (hts _ (List.mem_cons_of_mem _ m_261))
  have fl_34 := (hts _ (List.mem_cons_of_mem _ m_262))
  refine lv_aload_n hx hb d_Loop_load_0 rfl (lv_at hl 0 rfl) ?_
  refine lv_aload_n hx hb d_Loop_load_1 rfl (lv_at hl 1 rfl) ?_
  refine jn_i (wr := [(a_cd, .inr (1, [.ref a_cd_steps, .ref a_cd_starts, .ref a_cd_stops, .ref a_cd_used, .ref a_cd_stack, .int cd_size, .int cd_section, .int cd_height])), (a_cd_steps, .inl (cI, 1200, .inl cd_steps)), (a_cd_starts, .inl (cI, 39, .inl cd_starts)), (a_cd_stops, .inl (cI, 39, .inl cd_stops)), (a_cd_used, .inl (cI, 39, .inl cd_used)), (a_cd_stack, .inl (cI, 100, .inl cd_stack)), (a_lp, .inr (4, [.ref a_lp_facts, .ref a_lp_turns, .ref a_lp_first, .ref a_lp_src, .ref a_s1, .int lp_choices, .int lp_guesses, .int lp_unaries, .int lp_ranked])), (a_lp_facts, .inl (cI, 4096, .inl lp_facts)), (a_lp_turns, .inl (cI, 24576, .inl lp_turns)), (a_lp_first, .inl (cI, 4097, .inl lp_first)), (a_lp_src, .inl (cI, 24576, .inl lp_src)), (a_s1, .inl (cI, 4096, .inl s1))]) (va_runV (As := []) (rest := [.ref a_lp]) ⟨hx, hb, hml, hown, hts⟩ (c_Pars_choices l dC dI cI cB cZ adK adV _ a_ps a_tk a_cd ps_current ps_faulty ps_unaries ps_choices ps_guesses _ h) (cwV 0 hts (gv_ m_702 m_703 m_704 m_89 m_705) rfl rfl rfl pd_Pars_choices ⟨Nat.le_of_ble_eq_true rfl, Nat.le_of_ble_eq_true rfl⟩) ⟨pc_blind, va_recv hK hP (ci := 5) (q0 := 6) rfl rfl, pc_of (hP.sub [6] rfl) hK (hD.sub [6] (by decide) rfl) hN hT hS hA⟩ rfl rfl hl.1 rfl (lv_room (Nat.le_of_ble_eq_true rfl)) d_Loop_load_2 ⟨Nat.zero_le _, Nat.zero_le _⟩) hP hD hS hA [6] [0, 1, 2, 3, 4, 5, 7, 8, 9, 10, 11, 12] rfl rfl (by decide) (by decide) (fun r_1 u_ H locs h hP hD hS => ?_)
  have hP : va_P (dC, dI) vwCl [(a_cd, .inr (1, [.ref a_cd_steps, .ref a_cd_starts, .ref a_cd_stops, .ref a_cd_used, .ref a_cd_stack, .int cd_size, .int cd_section, .int cd_height])), (a_cd_steps, .inl (cI, 1200, .inl cd_steps)), (a_cd_starts, .inl (cI, 39, .inl cd_starts)), (a_cd_stops, .inl (cI, 39, .inl cd_stops)), (a_cd_used, .inl (cI, 39, .inl cd_used)), (a_cd_stack, .inl (cI, 100, .inl cd_stack)), (a_lp, .inr (4, [.ref a_lp_facts, .ref a_lp_turns, .ref a_lp_first, .ref a_lp_src, .ref a_s1, .int lp_choices, .int lp_guesses, .int lp_unaries, .int lp_ranked])), (a_lp_facts, .inl (cI, 4096, .inl lp_facts)), (a_lp_turns, .inl (cI, 24576, .inl lp_turns)), (a_lp_first, .inl (cI, 4097, .inl lp_first)), (a_lp_src, .inl (cI, 24576, .inl lp_src)), (a_s1, .inl (cI, 4096, .inl s1)), (a_ps, .inr (5, [.ref a_tk, .ref a_cd, .int ps_current, .int ps_faulty, .int ps_unaries, .int ps_choices, .int ps_guesses]))] H := hP
  have hD : va_D A [(a_cd, .inr (1, [.ref a_cd_steps, .ref a_cd_starts, .ref a_cd_stops, .ref a_cd_used, .ref a_cd_stack, .int cd_size, .int cd_section, .int cd_height])), (a_cd_steps, .inl (cI, 1200, .inl cd_steps)), (a_cd_starts, .inl (cI, 39, .inl cd_starts)), (a_cd_stops, .inl (cI, 39, .inl cd_stops)), (a_cd_used, .inl (cI, 39, .inl cd_used)), (a_cd_stack, .inl (cI, 100, .inl cd_stack)), (a_lp, .inr (4, [.ref a_lp_facts, .ref a_lp_turns, .ref a_lp_first, .ref a_lp_src, .ref a_s1, .int lp_choices, .int lp_guesses, .int lp_unaries, .int lp_ranked])), (a_lp_facts, .inl (cI, 4096, .inl lp_facts)), (a_lp_turns, .inl (cI, 24576, .inl lp_turns)), (a_lp_first, .inl (cI, 4097, .inl lp_first)), (a_lp_src, .inl (cI, 24576, .inl lp_src)), (a_s1, .inl (cI, 4096, .inl s1)), (a_ps, .inr (5, [.ref a_tk, .ref a_cd, .int ps_current, .int ps_faulty, .int ps_unaries, .int ps_choices, .int ps_guesses]))] := hD
  refine va_put (D := (dC, dI)) (ci := 4) (v := .int r_1) (ty := .int) (C := "LoopInduction$Loop") (T := F_Loop) (N := 9) hx hb hts iC_Loop t_Loop t_Loop_ok n_Loop hown hK hP hD hS 6 rfl rfl 5 (by decide) fl_24 (fun _ h9 => h9) rfl (by decide +kernel) rfl rfl (Nat.le_of_ble_eq_true rfl) d_Loop_load_5 (fun H locs hP hD hS => ?_)
  have hP : va_P (dC, dI) vwCl [(a_cd, .inr (1, [.ref a_cd_steps, .ref a_cd_starts, .ref a_cd_stops, .ref a_cd_used, .ref a_cd_stack, .int cd_size, .int cd_section, .int cd_height])), (a_cd_steps, .inl (cI, 1200, .inl cd_steps)), (a_cd_starts, .inl (cI, 39, .inl cd_starts)), (a_cd_stops, .inl (cI, 39, .inl cd_stops)), (a_cd_used, .inl (cI, 39, .inl cd_used)), (a_cd_stack, .inl (cI, 100, .inl cd_stack)), (a_lp, .inr (4, [.ref a_lp_facts, .ref a_lp_turns, .ref a_lp_first, .ref a_lp_src, .ref a_s1, .int r_1, .int lp_guesses, .int lp_unaries, .int lp_ranked])), (a_lp_facts, .inl (cI, 4096, .inl lp_facts)), (a_lp_turns, .inl (cI, 24576, .inl lp_turns)), (a_lp_first, .inl (cI, 4097, .inl lp_first)), (a_lp_src, .inl (cI, 24576, .inl lp_src)), (a_s1, .inl (cI, 4096, .inl s1)), (a_ps, .inr (5, [.ref a_tk, .ref a_cd, .int ps_current, .int ps_faulty, .int ps_unaries, .int ps_choices, .int ps_guesses]))] H := hP
  have hD : va_D A [(a_cd, .inr (1, [.ref a_cd_steps, .ref a_cd_starts, .ref a_cd_stops, .ref a_cd_used, .ref a_cd_stack, .int cd_size, .int cd_section, .int cd_height])), (a_cd_steps, .inl (cI, 1200, .inl cd_steps)), (a_cd_starts, .inl (cI, 39, .inl cd_starts)), (a_cd_stops, .inl (cI, 39, .inl cd_stops)), (a_cd_used, .inl (cI, 39, .inl cd_used)), (a_cd_stack, .inl (cI, 100, .inl cd_stack)), (a_lp, .inr (4, [.ref a_lp_facts, .ref a_lp_turns, .ref a_lp_first, .ref a_lp_src, .ref a_s1, .int r_1, .int lp_guesses, .int lp_unaries, .int lp_ranked])), (a_lp_facts, .inl (cI, 4096, .inl lp_facts)), (a_lp_turns, .inl (cI, 24576, .inl lp_turns)), (a_lp_first, .inl (cI, 4097, .inl lp_first)), (a_lp_src, .inl (cI, 24576, .inl lp_src)), (a_s1, .inl (cI, 4096, .inl s1)), (a_ps, .inr (5, [.ref a_tk, .ref a_cd, .int ps_current, .int ps_faulty, .int ps_unaries, .int ps_choices, .int ps_guesses]))] := hD
  refine lv_aload_n hx hb d_Loop_load_8 rfl (lv_at hl 0 rfl) ?_
  refine lv_aload_n hx hb d_Loop_load_9 rfl (lv_at hl 1 rfl) ?_
  refine jn_i (wr := [(a_cd, .inr (1, [.ref a_cd_steps, .ref a_cd_starts, .ref a_cd_stops, .ref a_cd_used, .ref a_cd_stack, .int cd_size, .int cd_section, .int cd_height])), (a_cd_steps, .inl (cI, 1200, .inl cd_steps)), (a_cd_starts, .inl (cI, 39, .inl cd_starts)), (a_cd_stops, .inl (cI, 39, .inl cd_stops)), (a_cd_used, .inl (cI, 39, .inl cd_used)), (a_cd_stack, .inl (cI, 100, .inl cd_stack)), (a_lp, .inr (4, [.ref a_lp_facts, .ref a_lp_turns, .ref a_lp_first, .ref a_lp_src, .ref a_s1, .int r_1, .int lp_guesses, .int lp_unaries, .int lp_ranked])), (a_lp_facts, .inl (cI, 4096, .inl lp_facts)), (a_lp_turns, .inl (cI, 24576, .inl lp_turns)), (a_lp_first, .inl (cI, 4097, .inl lp_first)), (a_lp_src, .inl (cI, 24576, .inl lp_src)), (a_s1, .inl (cI, 4096, .inl s1))]) (va_runV (As := []) (rest := [.ref a_lp]) ⟨hx, hb, hml, hown, hts⟩ (c_Pars_guesses l dC dI cI cB cZ adK adV _ a_ps a_tk a_cd ps_current ps_faulty ps_unaries ps_choices ps_guesses _ h) (cwV 0 hts (gv_ m_706 m_707 m_708 m_89 m_709) rfl rfl rfl pd_Pars_guesses ⟨Nat.le_of_ble_eq_true rfl, Nat.le_of_ble_eq_true rfl⟩) ⟨pc_blind, va_recv hK hP (ci := 5) (q0 := 12) rfl rfl, pc_of (hP.sub [12] rfl) hK (hD.sub [12] (by decide) rfl) hN hT hS hA⟩ rfl rfl hl.1 rfl (lv_room (Nat.le_of_ble_eq_true rfl)) d_Loop_load_10 ⟨Nat.zero_le _, Nat.zero_le _⟩) hP hD hS hA [12] [0, 1, 2, 3, 4, 5, 6, 7, 8, 9, 10, 11] rfl rfl (by decide) (by decide) (fun r_2 u_ H locs h hP hD hS => ?_)
  have hP : va_P (dC, dI) vwCl [(a_cd, .inr (1, [.ref a_cd_steps, .ref a_cd_starts, .ref a_cd_stops, .ref a_cd_used, .ref a_cd_stack, .int cd_size, .int cd_section, .int cd_height])), (a_cd_steps, .inl (cI, 1200, .inl cd_steps)), (a_cd_starts, .inl (cI, 39, .inl cd_starts)), (a_cd_stops, .inl (cI, 39, .inl cd_stops)), (a_cd_used, .inl (cI, 39, .inl cd_used)), (a_cd_stack, .inl (cI, 100, .inl cd_stack)), (a_lp, .inr (4, [.ref a_lp_facts, .ref a_lp_turns, .ref a_lp_first, .ref a_lp_src, .ref a_s1, .int r_1, .int lp_guesses, .int lp_unaries, .int lp_ranked])), (a_lp_facts, .inl (cI, 4096, .inl lp_facts)), (a_lp_turns, .inl (cI, 24576, .inl lp_turns)), (a_lp_first, .inl (cI, 4097, .inl lp_first)), (a_lp_src, .inl (cI, 24576, .inl lp_src)), (a_s1, .inl (cI, 4096, .inl s1)), (a_ps, .inr (5, [.ref a_tk, .ref a_cd, .int ps_current, .int ps_faulty, .int ps_unaries, .int ps_choices, .int ps_guesses]))] H := hP
  have hD : va_D A [(a_cd, .inr (1, [.ref a_cd_steps, .ref a_cd_starts, .ref a_cd_stops, .ref a_cd_used, .ref a_cd_stack, .int cd_size, .int cd_section, .int cd_height])), (a_cd_steps, .inl (cI, 1200, .inl cd_steps)), (a_cd_starts, .inl (cI, 39, .inl cd_starts)), (a_cd_stops, .inl (cI, 39, .inl cd_stops)), (a_cd_used, .inl (cI, 39, .inl cd_used)), (a_cd_stack, .inl (cI, 100, .inl cd_stack)), (a_lp, .inr (4, [.ref a_lp_facts, .ref a_lp_turns, .ref a_lp_first, .ref a_lp_src, .ref a_s1, .int r_1, .int lp_guesses, .int lp_unaries, .int lp_ranked])), (a_lp_facts, .inl (cI, 4096, .inl lp_facts)), (a_lp_turns, .inl (cI, 24576, .inl lp_turns)), (a_lp_first, .inl (cI, 4097, .inl lp_first)), (a_lp_src, .inl (cI, 24576, .inl lp_src)), (a_s1, .inl (cI, 4096, .inl s1)), (a_ps, .inr (5, [.ref a_tk, .ref a_cd, .int ps_current, .int ps_faulty, .int ps_unaries, .int ps_choices, .int ps_guesses]))] := hD
  refine va_put (D := (dC, dI)) (ci := 4) (v := .int r_2) (ty := .int) (C := "LoopInduction$Loop") (T := F_Loop) (N := 9) hx hb hts iC_Loop t_Loop t_Loop_ok n_Loop hown hK hP hD hS 6 rfl rfl 6 (by decide) fl_28 (fun _ h9 => h9) rfl (by decide +kernel) rfl rfl (Nat.le_of_ble_eq_true rfl) d_Loop_load_13 (fun H locs hP hD hS => ?_)
  have hP : va_P (dC, dI) vwCl [(a_cd, .inr (1, [.ref a_cd_steps, .ref a_cd_starts, .ref a_cd_stops, .ref a_cd_used, .ref a_cd_stack, .int cd_size, .int cd_section, .int cd_height])), (a_cd_steps, .inl (cI, 1200, .inl cd_steps)), (a_cd_starts, .inl (cI, 39, .inl cd_starts)), (a_cd_stops, .inl (cI, 39, .inl cd_stops)), (a_cd_used, .inl (cI, 39, .inl cd_used)), (a_cd_stack, .inl (cI, 100, .inl cd_stack)), (a_lp, .inr (4, [.ref a_lp_facts, .ref a_lp_turns, .ref a_lp_first, .ref a_lp_src, .ref a_s1, .int r_1, .int r_2, .int lp_unaries, .int lp_ranked])), (a_lp_facts, .inl (cI, 4096, .inl lp_facts)), (a_lp_turns, .inl (cI, 24576, .inl lp_turns)), (a_lp_first, .inl (cI, 4097, .inl lp_first)), (a_lp_src, .inl (cI, 24576, .inl lp_src)), (a_s1, .inl (cI, 4096, .inl s1)), (a_ps, .inr (5, [.ref a_tk, .ref a_cd, .int ps_current, .int ps_faulty, .int ps_unaries, .int ps_choices, .int ps_guesses]))] H := hP
  have hD : va_D A [(a_cd, .inr (1, [.ref a_cd_steps, .ref a_cd_starts, .ref a_cd_stops, .ref a_cd_used, .ref a_cd_stack, .int cd_size, .int cd_section, .int cd_height])), (a_cd_steps, .inl (cI, 1200, .inl cd_steps)), (a_cd_starts, .inl (cI, 39, .inl cd_starts)), (a_cd_stops, .inl (cI, 39, .inl cd_stops)), (a_cd_used, .inl (cI, 39, .inl cd_used)), (a_cd_stack, .inl (cI, 100, .inl cd_stack)), (a_lp, .inr (4, [.ref a_lp_facts, .ref a_lp_turns, .ref a_lp_first, .ref a_lp_src, .ref a_s1, .int r_1, .int r_2, .int lp_unaries, .int lp_ranked])), (a_lp_facts, .inl (cI, 4096, .inl lp_facts)), (a_lp_turns, .inl (cI, 24576, .inl lp_turns)), (a_lp_first, .inl (cI, 4097, .inl lp_first)), (a_lp_src, .inl (cI, 24576, .inl lp_src)), (a_s1, .inl (cI, 4096, .inl s1)), (a_ps, .inr (5, [.ref a_tk, .ref a_cd, .int ps_current, .int ps_faulty, .int ps_unaries, .int ps_choices, .int ps_guesses]))] := hD
  refine lv_aload_n hx hb d_Loop_load_16 rfl (lv_at hl 0 rfl) ?_
  refine lv_aload_n hx hb d_Loop_load_17 rfl (lv_at hl 1 rfl) ?_
  refine jn_i (wr := [(a_cd, .inr (1, [.ref a_cd_steps, .ref a_cd_starts, .ref a_cd_stops, .ref a_cd_used, .ref a_cd_stack, .int cd_size, .int cd_section, .int cd_height])), (a_cd_steps, .inl (cI, 1200, .inl cd_steps)), (a_cd_starts, .inl (cI, 39, .inl cd_starts)), (a_cd_stops, .inl (cI, 39, .inl cd_stops)), (a_cd_used, .inl (cI, 39, .inl cd_used)), (a_cd_stack, .inl (cI, 100, .inl cd_stack)), (a_lp, .inr (4, [.ref a_lp_facts, .ref a_lp_turns, .ref a_lp_first, .ref a_lp_src, .ref a_s1, .int r_1, .int r_2, .int lp_unaries, .int lp_ranked])), (a_lp_facts, .inl (cI, 4096, .inl lp_facts)), (a_lp_turns, .inl (cI, 24576, .inl lp_turns)), (a_lp_first, .inl (cI, 4097, .inl lp_first)), (a_lp_src, .inl (cI, 24576, .inl lp_src)), (a_s1, .inl (cI, 4096, .inl s1))]) (va_runV (As := []) (rest := [.ref a_lp]) ⟨hx, hb, hml, hown, hts⟩ (c_Pars_unaries l dC dI cI cB cZ adK adV _ a_ps a_tk a_cd ps_current ps_faulty ps_unaries ps_choices ps_guesses _ h) (cwV 0 hts (gv_ m_710 m_711 m_712 m_89 m_713) rfl rfl rfl pd_Pars_unaries ⟨Nat.le_of_ble_eq_true rfl, Nat.le_of_ble_eq_true rfl⟩) ⟨pc_blind, va_recv hK hP (ci := 5) (q0 := 12) rfl rfl, pc_of (hP.sub [12] rfl) hK (hD.sub [12] (by decide) rfl) hN hT hS hA⟩ rfl rfl hl.1 rfl (lv_room (Nat.le_of_ble_eq_true rfl)) d_Loop_load_18 ⟨Nat.zero_le _, Nat.zero_le _⟩) hP hD hS hA [12] [0, 1, 2, 3, 4, 5, 6, 7, 8, 9, 10, 11] rfl rfl (by decide) (by decide) (fun r_3 u_ H locs h hP hD hS => ?_)
  have hP : va_P (dC, dI) vwCl [(a_cd, .inr (1, [.ref a_cd_steps, .ref a_cd_starts, .ref a_cd_stops, .ref a_cd_used, .ref a_cd_stack, .int cd_size, .int cd_section, .int cd_height])), (a_cd_steps, .inl (cI, 1200, .inl cd_steps)), (a_cd_starts, .inl (cI, 39, .inl cd_starts)), (a_cd_stops, .inl (cI, 39, .inl cd_stops)), (a_cd_used, .inl (cI, 39, .inl cd_used)), (a_cd_stack, .inl (cI, 100, .inl cd_stack)), (a_lp, .inr (4, [.ref a_lp_facts, .ref a_lp_turns, .ref a_lp_first, .ref a_lp_src, .ref a_s1, .int r_1, .int r_2, .int lp_unaries, .int lp_ranked])), (a_lp_facts, .inl (cI, 4096, .inl lp_facts)), (a_lp_turns, .inl (cI, 24576, .inl lp_turns)), (a_lp_first, .inl (cI, 4097, .inl lp_first)), (a_lp_src, .inl (cI, 24576, .inl lp_src)), (a_s1, .inl (cI, 4096, .inl s1)), (a_ps, .inr (5, [.ref a_tk, .ref a_cd, .int ps_current, .int ps_faulty, .int ps_unaries, .int ps_choices, .int ps_guesses]))] H := hP
  have hD : va_D A [(a_cd, .inr (1, [.ref a_cd_steps, .ref a_cd_starts, .ref a_cd_stops, .ref a_cd_used, .ref a_cd_stack, .int cd_size, .int cd_section, .int cd_height])), (a_cd_steps, .inl (cI, 1200, .inl cd_steps)), (a_cd_starts, .inl (cI, 39, .inl cd_starts)), (a_cd_stops, .inl (cI, 39, .inl cd_stops)), (a_cd_used, .inl (cI, 39, .inl cd_used)), (a_cd_stack, .inl (cI, 100, .inl cd_stack)), (a_lp, .inr (4, [.ref a_lp_facts, .ref a_lp_turns, .ref a_lp_first, .ref a_lp_src, .ref a_s1, .int r_1, .int r_2, .int lp_unaries, .int lp_ranked])), (a_lp_facts, .inl (cI, 4096, .inl lp_facts)), (a_lp_turns, .inl (cI, 24576, .inl lp_turns)), (a_lp_first, .inl (cI, 4097, .inl lp_first)), (a_lp_src, .inl (cI, 24576, .inl lp_src)), (a_s1, .inl (cI, 4096, .inl s1)), (a_ps, .inr (5, [.ref a_tk, .ref a_cd, .int ps_current, .int ps_faulty, .int ps_unaries, .int ps_choices, .int ps_guesses]))] := hD
  refine va_put (D := (dC, dI)) (ci := 4) (v := .int r_3) (ty := .int) (C := "LoopInduction$Loop") (T := F_Loop) (N := 9) hx hb hts iC_Loop t_Loop t_Loop_ok n_Loop hown hK hP hD hS 6 rfl rfl 7 (by decide) fl_31 (fun _ h9 => h9) rfl (by decide +kernel) rfl rfl (Nat.le_of_ble_eq_true rfl) d_Loop_load_21 (fun H locs hP hD hS => ?_)
  have hP : va_P (dC, dI) vwCl [(a_cd, .inr (1, [.ref a_cd_steps, .ref a_cd_starts, .ref a_cd_stops, .ref a_cd_used, .ref a_cd_stack, .int cd_size, .int cd_section, .int cd_height])), (a_cd_steps, .inl (cI, 1200, .inl cd_steps)), (a_cd_starts, .inl (cI, 39, .inl cd_starts)), (a_cd_stops, .inl (cI, 39, .inl cd_stops)), (a_cd_used, .inl (cI, 39, .inl cd_used)), (a_cd_stack, .inl (cI, 100, .inl cd_stack)), (a_lp, .inr (4, [.ref a_lp_facts, .ref a_lp_turns, .ref a_lp_first, .ref a_lp_src, .ref a_s1, .int r_1, .int r_2, .int r_3, .int lp_ranked])), (a_lp_facts, .inl (cI, 4096, .inl lp_facts)), (a_lp_turns, .inl (cI, 24576, .inl lp_turns)), (a_lp_first, .inl (cI, 4097, .inl lp_first)), (a_lp_src, .inl (cI, 24576, .inl lp_src)), (a_s1, .inl (cI, 4096, .inl s1)), (a_ps, .inr (5, [.ref a_tk, .ref a_cd, .int ps_current, .int ps_faulty, .int ps_unaries, .int ps_choices, .int ps_guesses]))] H := hP
  have hD : va_D A [(a_cd, .inr (1, [.ref a_cd_steps, .ref a_cd_starts, .ref a_cd_stops, .ref a_cd_used, .ref a_cd_stack, .int cd_size, .int cd_section, .int cd_height])), (a_cd_steps, .inl (cI, 1200, .inl cd_steps)), (a_cd_starts, .inl (cI, 39, .inl cd_starts)), (a_cd_stops, .inl (cI, 39, .inl cd_stops)), (a_cd_used, .inl (cI, 39, .inl cd_used)), (a_cd_stack, .inl (cI, 100, .inl cd_stack)), (a_lp, .inr (4, [.ref a_lp_facts, .ref a_lp_turns, .ref a_lp_first, .ref a_lp_src, .ref a_s1, .int r_1, .int r_2, .int r_3, .int lp_ranked])), (a_lp_facts, .inl (cI, 4096, .inl lp_facts)), (a_lp_turns, .inl (cI, 24576, .inl lp_turns)), (a_lp_first, .inl (cI, 4097, .inl lp_first)), (a_lp_src, .inl (cI, 24576, .inl lp_src)), (a_s1, .inl (cI, 4096, .inl s1)), (a_ps, .inr (5, [.ref a_tk, .ref a_cd, .int ps_current, .int ps_faulty, .int ps_unaries, .int ps_choices, .int ps_guesses]))] := hD
  refine lv_aload_n hx hb d_Loop_load_24 rfl (lv_at hl 0 rfl) ?_
  refine lv_aload_n hx hb d_Loop_load_25 rfl (lv_at hl 2 rfl) ?_
  refine lv_iconst (v := 2) hx hb d_Loop_load_26 (by decide) ?_
  refine jn_i (wr := [(a_cd_steps, .inl (cI, 1200, .inl cd_steps)), (a_cd_stops, .inl (cI, 39, .inl cd_stops)), (a_cd_used, .inl (cI, 39, .inl cd_used)), (a_cd_stack, .inl (cI, 100, .inl cd_stack)), (a_lp, .inr (4, [.ref a_lp_facts, .ref a_lp_turns, .ref a_lp_first, .ref a_lp_src, .ref a_s1, .int r_1, .int r_2, .int r_3, .int lp_ranked])), (a_lp_facts, .inl (cI, 4096, .inl lp_facts)), (a_lp_turns, .inl (cI, 24576, .inl lp_turns)), (a_lp_first, .inl (cI, 4097, .inl lp_first)), (a_lp_src, .inl (cI, 24576, .inl lp_src)), (a_s1, .inl (cI, 4096, .inl s1)), (a_ps, .inr (5, [.ref a_tk, .ref a_cd, .int ps_current, .int ps_faulty, .int ps_unaries, .int ps_choices, .int ps_guesses]))]) (va_runV (As := [.int 2]) (rest := [.ref a_lp]) ⟨hx, hb, hml, hown, hts⟩ (c_Code_isTold l dC dI cI cB cZ adK adV _ a_cd a_cd_steps a_cd_starts a_cd_stops a_cd_used a_cd_stack cd_size cd_section cd_height cd_starts 2 _ h) (cwV 1 hts (gv_ m_714 m_687 m_688 m_88 m_689) rfl rfl rfl pd_Code_isTold ⟨Nat.le_of_ble_eq_true rfl, Nat.le_of_ble_eq_true rfl⟩) ⟨pc_blind, va_recv hK hP (ci := 1) (q0 := 0) rfl rfl, pc_of (hP.sub [0, 2] rfl) hK (hD.sub [0, 2] (by decide) rfl) hN hT hS hA⟩ rfl rfl hl.1 rfl (lv_room (Nat.le_of_ble_eq_true rfl)) d_Loop_load_27 ⟨Nat.zero_le _, Nat.zero_le _⟩) hP hD hS hA [0, 2] [1, 3, 4, 5, 6, 7, 8, 9, 10, 11, 12] rfl rfl (by decide) (by decide) (fun r_4 u_ H locs h hP hD hS => ?_)
  have hP : va_P (dC, dI) vwCl [(a_cd_steps, .inl (cI, 1200, .inl cd_steps)), (a_cd_stops, .inl (cI, 39, .inl cd_stops)), (a_cd_used, .inl (cI, 39, .inl cd_used)), (a_cd_stack, .inl (cI, 100, .inl cd_stack)), (a_lp, .inr (4, [.ref a_lp_facts, .ref a_lp_turns, .ref a_lp_first, .ref a_lp_src, .ref a_s1, .int r_1, .int r_2, .int r_3, .int lp_ranked])), (a_lp_facts, .inl (cI, 4096, .inl lp_facts)), (a_lp_turns, .inl (cI, 24576, .inl lp_turns)), (a_lp_first, .inl (cI, 4097, .inl lp_first)), (a_lp_src, .inl (cI, 24576, .inl lp_src)), (a_s1, .inl (cI, 4096, .inl s1)), (a_ps, .inr (5, [.ref a_tk, .ref a_cd, .int ps_current, .int ps_faulty, .int ps_unaries, .int ps_choices, .int ps_guesses])), (a_cd, .inr (1, [.ref a_cd_steps, .ref a_cd_starts, .ref a_cd_stops, .ref a_cd_used, .ref a_cd_stack, .int cd_size, .int cd_section, .int cd_height])), (a_cd_starts, .inl (cI, 39, .inl cd_starts))] H := hP
  have hD : va_D A [(a_cd_steps, .inl (cI, 1200, .inl cd_steps)), (a_cd_stops, .inl (cI, 39, .inl cd_stops)), (a_cd_used, .inl (cI, 39, .inl cd_used)), (a_cd_stack, .inl (cI, 100, .inl cd_stack)), (a_lp, .inr (4, [.ref a_lp_facts, .ref a_lp_turns, .ref a_lp_first, .ref a_lp_src, .ref a_s1, .int r_1, .int r_2, .int r_3, .int lp_ranked])), (a_lp_facts, .inl (cI, 4096, .inl lp_facts)), (a_lp_turns, .inl (cI, 24576, .inl lp_turns)), (a_lp_first, .inl (cI, 4097, .inl lp_first)), (a_lp_src, .inl (cI, 24576, .inl lp_src)), (a_s1, .inl (cI, 4096, .inl s1)), (a_ps, .inr (5, [.ref a_tk, .ref a_cd, .int ps_current, .int ps_faulty, .int ps_unaries, .int ps_choices, .int ps_guesses])), (a_cd, .inr (1, [.ref a_cd_steps, .ref a_cd_starts, .ref a_cd_stops, .ref a_cd_used, .ref a_cd_stack, .int cd_size, .int cd_section, .int cd_height])), (a_cd_starts, .inl (cI, 39, .inl cd_starts))] := hD
  obtain ⟨hz_30, h⟩ := h
  refine va_put (D := (dC, dI)) (ci := 4) (v := .int r_4) (ty := .boolean) (C := "LoopInduction$Loop") (T := F_Loop) (N := 9) hx hb hts iC_Loop t_Loop t_Loop_ok n_Loop hown hK hP hD hS 4 rfl rfl 8 (by decide) fl_34 (fun _ h9 => h9) rfl (by decide +kernel) (vp_zn hz_30) (vp_zf hz_30) (Nat.le_of_ble_eq_true rfl) d_Loop_load_30 (fun H locs hP hD hS => ?_)
  have hP : va_P (dC, dI) vwCl [(a_cd_steps, .inl (cI, 1200, .inl cd_steps)), (a_cd_stops, .inl (cI, 39, .inl cd_stops)), (a_cd_used, .inl (cI, 39, .inl cd_used)), (a_cd_stack, .inl (cI, 100, .inl cd_stack)), (a_lp, .inr (4, [.ref a_lp_facts, .ref a_lp_turns, .ref a_lp_first, .ref a_lp_src, .ref a_s1, .int r_1, .int r_2, .int r_3, .int r_4])), (a_lp_facts, .inl (cI, 4096, .inl lp_facts)), (a_lp_turns, .inl (cI, 24576, .inl lp_turns)), (a_lp_first, .inl (cI, 4097, .inl lp_first)), (a_lp_src, .inl (cI, 24576, .inl lp_src)), (a_s1, .inl (cI, 4096, .inl s1)), (a_ps, .inr (5, [.ref a_tk, .ref a_cd, .int ps_current, .int ps_faulty, .int ps_unaries, .int ps_choices, .int ps_guesses])), (a_cd, .inr (1, [.ref a_cd_steps, .ref a_cd_starts, .ref a_cd_stops, .ref a_cd_used, .ref a_cd_stack, .int cd_size, .int cd_section, .int cd_height])), (a_cd_starts, .inl (cI, 39, .inl cd_starts))] H := hP
  have hD : va_D A [(a_cd_steps, .inl (cI, 1200, .inl cd_steps)), (a_cd_stops, .inl (cI, 39, .inl cd_stops)), (a_cd_used, .inl (cI, 39, .inl cd_used)), (a_cd_stack, .inl (cI, 100, .inl cd_stack)), (a_lp, .inr (4, [.ref a_lp_facts, .ref a_lp_turns, .ref a_lp_first, .ref a_lp_src, .ref a_s1, .int r_1, .int r_2, .int r_3, .int r_4])), (a_lp_facts, .inl (cI, 4096, .inl lp_facts)), (a_lp_turns, .inl (cI, 24576, .inl lp_turns)), (a_lp_first, .inl (cI, 4097, .inl lp_first)), (a_lp_src, .inl (cI, 24576, .inl lp_src)), (a_s1, .inl (cI, 4096, .inl s1)), (a_ps, .inr (5, [.ref a_tk, .ref a_cd, .int ps_current, .int ps_faulty, .int ps_unaries, .int ps_choices, .int ps_guesses])), (a_cd, .inr (1, [.ref a_cd_steps, .ref a_cd_starts, .ref a_cd_stops, .ref a_cd_used, .ref a_cd_stack, .int cd_size, .int cd_section, .int cd_height])), (a_cd_starts, .inl (cI, 39, .inl cd_starts))] := hD
  refine lv_aload_n hx hb d_Loop_load_33 rfl (lv_at hl 0 rfl) ?_
  refine va_get (D := (dC, dI)) (ci := 4) (v := .ref a_lp_facts) (C := "LoopInduction$Loop") (T := F_Loop) (N := 9) hx hb hts iC_Loop hown hK hP 4 rfl rfl 0 (by decide) fl_11 (fun _ h9 => h9) rfl d_Loop_load_34 ?_
  refine lv_iconst (v := 0) hx hb d_Loop_load_37 (by decide) ?_
  refine jn_v (wr := [(a_cd_steps, .inl (cI, 1200, .inl cd_steps)), (a_cd_stops, .inl (cI, 39, .inl cd_stops)), (a_cd_used, .inl (cI, 39, .inl cd_used)), (a_cd_stack, .inl (cI, 100, .inl cd_stack)), (a_lp, .inr (4, [.ref a_lp_facts, .ref a_lp_turns, .ref a_lp_first, .ref a_lp_src, .ref a_s1, .int r_1, .int r_2, .int r_3, .int r_4])), (a_lp_turns, .inl (cI, 24576, .inl lp_turns)), (a_lp_first, .inl (cI, 4097, .inl lp_first)), (a_lp_src, .inl (cI, 24576, .inl lp_src)), (a_s1, .inl (cI, 4096, .inl s1)), (a_ps, .inr (5, [.ref a_tk, .ref a_cd, .int ps_current, .int ps_faulty, .int ps_unaries, .int ps_choices, .int ps_guesses])), (a_cd, .inr (1, [.ref a_cd_steps, .ref a_cd_starts, .ref a_cd_stops, .ref a_cd_used, .ref a_cd_stack, .int cd_size, .int cd_section, .int cd_height])), (a_cd_starts, .inl (cI, 39, .inl cd_starts))]) (va_runS (As := [.ref a_lp_facts, .int 0]) (rest := []) ⟨hx, hb, hml, hown, hts⟩ (c_fill l dC dI cI cB cZ adK adV _ a_lp_facts 4096 lp_facts 0 (by decide)) ⟨callB_of 2 hts (ga_ m_612) rfl rfl rfl (hts _ (List.mem_cons_of_mem _ m_103)) (hts _ (List.mem_cons_of_mem _ m_715)) pn_fill ⟨Nat.le_of_ble_eq_true rfl, Nat.le_of_ble_eq_true rfl⟩, (hts _ (List.mem_cons_of_mem _ m_611))⟩ ⟨pc_blind, pc_of (hP.sub [5] rfl) hK (hD.sub [5] (by decide) rfl) hN hT hS hA⟩ rfl rfl hl.1 rfl (lv_room (Nat.le_of_ble_eq_true rfl)) d_Loop_load_38 ⟨Nat.zero_le _, Nat.zero_le _⟩) hP hD hS hA [5] [0, 1, 2, 3, 4, 6, 7, 8, 9, 10, 11, 12] rfl rfl (by decide) (by decide) (fun u_5 H locs eu_5 hP hD hS => ?_)
  subst eu_5
  have hP : va_P (dC, dI) vwCl [(a_cd_steps, .inl (cI, 1200, .inl cd_steps)), (a_cd_stops, .inl (cI, 39, .inl cd_stops)), (a_cd_used, .inl (cI, 39, .inl cd_used)), (a_cd_stack, .inl (cI, 100, .inl cd_stack)), (a_lp, .inr (4, [.ref a_lp_facts, .ref a_lp_turns, .ref a_lp_first, .ref a_lp_src, .ref a_s1, .int r_1, .int r_2, .int r_3, .int r_4])), (a_lp_turns, .inl (cI, 24576, .inl lp_turns)), (a_lp_first, .inl (cI, 4097, .inl lp_first)), (a_lp_src, .inl (cI, 24576, .inl lp_src)), (a_s1, .inl (cI, 4096, .inl s1)), (a_ps, .inr (5, [.ref a_tk, .ref a_cd, .int ps_current, .int ps_faulty, .int ps_unaries, .int ps_choices, .int ps_guesses])), (a_cd, .inr (1, [.ref a_cd_steps, .ref a_cd_starts, .ref a_cd_stops, .ref a_cd_used, .ref a_cd_stack, .int cd_size, .int cd_section, .int cd_height])), (a_cd_starts, .inl (cI, 39, .inl cd_starts)), (a_lp_facts, .inl (cI, 4096, .inl (vp_fill lp_facts 4096 0)))] H := hP
  have hD : va_D A [(a_cd_steps, .inl (cI, 1200, .inl cd_steps)), (a_cd_stops, .inl (cI, 39, .inl cd_stops)), (a_cd_used, .inl (cI, 39, .inl cd_used)), (a_cd_stack, .inl (cI, 100, .inl cd_stack)), (a_lp, .inr (4, [.ref a_lp_facts, .ref a_lp_turns, .ref a_lp_first, .ref a_lp_src, .ref a_s1, .int r_1, .int r_2, .int r_3, .int r_4])), (a_lp_turns, .inl (cI, 24576, .inl lp_turns)), (a_lp_first, .inl (cI, 4097, .inl lp_first)), (a_lp_src, .inl (cI, 24576, .inl lp_src)), (a_s1, .inl (cI, 4096, .inl s1)), (a_ps, .inr (5, [.ref a_tk, .ref a_cd, .int ps_current, .int ps_faulty, .int ps_unaries, .int ps_choices, .int ps_guesses])), (a_cd, .inr (1, [.ref a_cd_steps, .ref a_cd_starts, .ref a_cd_stops, .ref a_cd_used, .ref a_cd_stack, .int cd_size, .int cd_section, .int cd_height])), (a_cd_starts, .inl (cI, 39, .inl cd_starts)), (a_lp_facts, .inl (cI, 4096, .inl (vp_fill lp_facts 4096 0)))] := hD
  refine lv_aload_n hx hb d_Loop_load_41 rfl (lv_at hl 0 rfl) ?_
  refine lv_aload_n hx hb d_Loop_load_42 rfl (lv_at hl 2 rfl) ?_
  refine lv_iconst (v := 0) hx hb d_Loop_load_43 (by decide) ?_
  refine lv_iconst (v := 0) hx hb d_Loop_load_44 (by decide) ?_
  refine jn_v (wr := [(a_lp_turns, .inl (cI, 24576, .inl lp_turns)), (a_lp_first, .inl (cI, 4097, .inl lp_first)), (a_lp_src, .inl (cI, 24576, .inl lp_src)), (a_ps, .inr (5, [.ref a_tk, .ref a_cd, .int ps_current, .int ps_faulty, .int ps_unaries, .int ps_choices, .int ps_guesses]))]) (va_runV (As := [.ref a_cd, .int 0, .int 0]) (rest := []) ⟨hx, hb, hml, hown, hts⟩ (c_Loop_loadFact l dC dI cI cB cZ adK adV _ a_cd a_cd_steps a_cd_starts a_cd_stops a_cd_used a_cd_stack a_lp a_lp_facts a_lp_turns a_lp_first a_lp_src a_s1 cd_size cd_section cd_height cd_steps cd_starts cd_stops cd_used cd_stack r_1 r_2 r_3 r_4 (vp_fill lp_facts 4096 0) s1 0 0 _ h) (cwV 3 hts (gv_ m_716 m_718 m_20 m_92 m_719) rfl rfl rfl pd_Loop_loadFact ⟨Nat.le_of_ble_eq_true rfl, Nat.le_of_ble_eq_true rfl⟩) ⟨pc_blind, va_recv hK hP (ci := 4) (q0 := 4) rfl rfl, pc_of (hP.sub [10, 0, 11, 1, 2, 3, 4, 12, 8] rfl) hK (hD.sub [10, 0, 11, 1, 2, 3, 4, 12, 8] (by decide) rfl) hN hT hS hA⟩ rfl rfl hl.1 rfl (lv_room (Nat.le_of_ble_eq_true rfl)) d_Loop_load_45 ⟨Nat.zero_le _, Nat.zero_le _⟩) hP hD hS hA [10, 0, 11, 1, 2, 3, 4, 12, 8] [5, 6, 7, 9] rfl rfl (by decide) (by decide) (fun u_ H locs h hP hD hS => ?_)
  obtain ⟨cd_height_6, cd_stack_7, lp_facts_8, s1_9⟩ := u_
  have hP : va_P (dC, dI) vwCl [(a_lp_turns, .inl (cI, 24576, .inl lp_turns)), (a_lp_first, .inl (cI, 4097, .inl lp_first)), (a_lp_src, .inl (cI, 24576, .inl lp_src)), (a_ps, .inr (5, [.ref a_tk, .ref a_cd, .int ps_current, .int ps_faulty, .int ps_unaries, .int ps_choices, .int ps_guesses])), (a_cd, .inr (1, [.ref a_cd_steps, .ref a_cd_starts, .ref a_cd_stops, .ref a_cd_used, .ref a_cd_stack, .int cd_size, .int cd_section, .int cd_height_6])), (a_cd_steps, .inl (cI, 1200, .inl cd_steps)), (a_cd_starts, .inl (cI, 39, .inl cd_starts)), (a_cd_stops, .inl (cI, 39, .inl cd_stops)), (a_cd_used, .inl (cI, 39, .inl cd_used)), (a_cd_stack, .inl (cI, 100, .inl cd_stack_7)), (a_lp, .inr (4, [.ref a_lp_facts, .ref a_lp_turns, .ref a_lp_first, .ref a_lp_src, .ref a_s1, .int r_1, .int r_2, .int r_3, .int r_4])), (a_lp_facts, .inl (cI, 4096, .inl lp_facts_8)), (a_s1, .inl (cI, 4096, .inl s1_9))] H := hP
  have hD : va_D A [(a_lp_turns, .inl (cI, 24576, .inl lp_turns)), (a_lp_first, .inl (cI, 4097, .inl lp_first)), (a_lp_src, .inl (cI, 24576, .inl lp_src)), (a_ps, .inr (5, [.ref a_tk, .ref a_cd, .int ps_current, .int ps_faulty, .int ps_unaries, .int ps_choices, .int ps_guesses])), (a_cd, .inr (1, [.ref a_cd_steps, .ref a_cd_starts, .ref a_cd_stops, .ref a_cd_used, .ref a_cd_stack, .int cd_size, .int cd_section, .int cd_height_6])), (a_cd_steps, .inl (cI, 1200, .inl cd_steps)), (a_cd_starts, .inl (cI, 39, .inl cd_starts)), (a_cd_stops, .inl (cI, 39, .inl cd_stops)), (a_cd_used, .inl (cI, 39, .inl cd_used)), (a_cd_stack, .inl (cI, 100, .inl cd_stack_7)), (a_lp, .inr (4, [.ref a_lp_facts, .ref a_lp_turns, .ref a_lp_first, .ref a_lp_src, .ref a_s1, .int r_1, .int r_2, .int r_3, .int r_4])), (a_lp_facts, .inl (cI, 4096, .inl lp_facts_8)), (a_s1, .inl (cI, 4096, .inl s1_9))] := hD
  refine lv_aload_n hx hb d_Loop_load_48 rfl (lv_at hl 0 rfl) ?_
  refine lv_aload_n hx hb d_Loop_load_49 rfl (lv_at hl 2 rfl) ?_
  refine lv_iconst (v := 1) hx hb d_Loop_load_50 (by decide) ?_
  refine lv_iconst (v := 1) hx hb d_Loop_load_51 (by decide) ?_
  refine jn_v (wr := [(a_lp_turns, .inl (cI, 24576, .inl lp_turns)), (a_lp_first, .inl (cI, 4097, .inl lp_first)), (a_lp_src, .inl (cI, 24576, .inl lp_src)), (a_ps, .inr (5, [.ref a_tk, .ref a_cd, .int ps_current, .int ps_faulty, .int ps_unaries, .int ps_choices, .int ps_guesses]))]) (va_runV (As := [.ref a_cd, .int 1, .int 1]) (rest := []) ⟨hx, hb, hml, hown, hts⟩ (c_Loop_loadFact l dC dI cI cB cZ adK adV _ a_cd a_cd_steps a_cd_starts a_cd_stops a_cd_used a_cd_stack a_lp a_lp_facts a_lp_turns a_lp_first a_lp_src a_s1 cd_size cd_section cd_height_6 cd_steps cd_starts cd_stops cd_used cd_stack_7 r_1 r_2 r_3 r_4 lp_facts_8 s1_9 1 1 _ h) (cwV 3 hts (gv_ m_716 m_718 m_20 m_92 m_719) rfl rfl rfl pd_Loop_loadFact ⟨Nat.le_of_ble_eq_true rfl, Nat.le_of_ble_eq_true rfl⟩) ⟨pc_blind, va_recv hK hP (ci := 4) (q0 := 10) rfl rfl, pc_of (hP.sub [4, 5, 6, 7, 8, 9, 10, 11, 12] rfl) hK (hD.sub [4, 5, 6, 7, 8, 9, 10, 11, 12] (by decide) rfl) hN hT hS hA⟩ rfl rfl hl.1 rfl (lv_room (Nat.le_of_ble_eq_true rfl)) d_Loop_load_52 ⟨Nat.zero_le _, Nat.zero_le _⟩) hP hD hS hA [4, 5, 6, 7, 8, 9, 10, 11, 12] [0, 1, 2, 3] rfl rfl (by decide) (by decide) (fun u_ H locs h hP hD hS => ?_)
  obtain ⟨cd_height_10, cd_stack_11, lp_facts_12, s1_13⟩ := u_
  have hP : va_P (dC, dI) vwCl [(a_lp_turns, .inl (cI, 24576, .inl lp_turns)), (a_lp_first, .inl (cI, 4097, .inl lp_first)), (a_lp_src, .inl (cI, 24576, .inl lp_src)), (a_ps, .inr (5, [.ref a_tk, .ref a_cd, .int ps_current, .int ps_faulty, .int ps_unaries, .int ps_choices, .int ps_guesses])), (a_cd, .inr (1, [.ref a_cd_steps, .ref a_cd_starts, .ref a_cd_stops, .ref a_cd_used, .ref a_cd_stack, .int cd_size, .int cd_section, .int cd_height_10])), (a_cd_steps, .inl (cI, 1200, .inl cd_steps)), (a_cd_starts, .inl (cI, 39, .inl cd_starts)), (a_cd_stops, .inl (cI, 39, .inl cd_stops)), (a_cd_used, .inl (cI, 39, .inl cd_used)), (a_cd_stack, .inl (cI, 100, .inl cd_stack_11)), (a_lp, .inr (4, [.ref a_lp_facts, .ref a_lp_turns, .ref a_lp_first, .ref a_lp_src, .ref a_s1, .int r_1, .int r_2, .int r_3, .int r_4])), (a_lp_facts, .inl (cI, 4096, .inl lp_facts_12)), (a_s1, .inl (cI, 4096, .inl s1_13))] H := hP
  have hD : va_D A [(a_lp_turns, .inl (cI, 24576, .inl lp_turns)), (a_lp_first, .inl (cI, 4097, .inl lp_first)), (a_lp_src, .inl (cI, 24576, .inl lp_src)), (a_ps, .inr (5, [.ref a_tk, .ref a_cd, .int ps_current, .int ps_faulty, .int ps_unaries, .int ps_choices, .int ps_guesses])), (a_cd, .inr (1, [.ref a_cd_steps, .ref a_cd_starts, .ref a_cd_stops, .ref a_cd_used, .ref a_cd_stack, .int cd_size, .int cd_section, .int cd_height_10])), (a_cd_steps, .inl (cI, 1200, .inl cd_steps)), (a_cd_starts, .inl (cI, 39, .inl cd_starts)), (a_cd_stops, .inl (cI, 39, .inl cd_stops)), (a_cd_used, .inl (cI, 39, .inl cd_used)), (a_cd_stack, .inl (cI, 100, .inl cd_stack_11)), (a_lp, .inr (4, [.ref a_lp_facts, .ref a_lp_turns, .ref a_lp_first, .ref a_lp_src, .ref a_s1, .int r_1, .int r_2, .int r_3, .int r_4])), (a_lp_facts, .inl (cI, 4096, .inl lp_facts_12)), (a_s1, .inl (cI, 4096, .inl s1_13))] := hD
  refine lv_iconst (v := 0) hx hb d_Loop_load_55 (by decide) ?_
  refine lv_istore_n (lv' := [(3, .int 0), (0, .ref a_lp), (1, .ref a_ps), (2, .ref a_cd)]) hx hb d_Loop_load_56 rfl hl (by decide) rfl (fun ls hl => ?_)
  have L57_q_19 : ∀ (k82 : (Int32) → (Nat → Int32) → (Nat → Int32) → (Nat → Int32) → Prop) (hk82 : ∀ (cd_height_20 : Int32) (cd_stack_21 : Nat → Int32) (lp_facts_22 : Nat → Int32) (s1_23 : Nat → Int32), k82 cd_height_20 cd_stack_21 lp_facts_22 s1_23 → ∀ (H : Heap) (locs : List Loc), va_P (dC, dI) vwCl [(a_lp_turns, .inl (cI, 24576, .inl lp_turns)), (a_lp_first, .inl (cI, 4097, .inl lp_first)), (a_lp_src, .inl (cI, 24576, .inl lp_src)), (a_ps, .inr (5, [.ref a_tk, .ref a_cd, .int ps_current, .int ps_faulty, .int ps_unaries, .int ps_choices, .int ps_guesses])), (a_cd, .inr (1, [.ref a_cd_steps, .ref a_cd_starts, .ref a_cd_stops, .ref a_cd_used, .ref a_cd_stack, .int cd_size, .int cd_section, .int cd_height_20])), (a_cd_steps, .inl (cI, 1200, .inl cd_steps)), (a_cd_starts, .inl (cI, 39, .inl cd_starts)), (a_cd_stops, .inl (cI, 39, .inl cd_stops)), (a_cd_used, .inl (cI, 39, .inl cd_used)), (a_cd_stack, .inl (cI, 100, .inl cd_stack_21)), (a_lp, .inr (4, [.ref a_lp_facts, .ref a_lp_turns, .ref a_lp_first, .ref a_lp_src, .ref a_s1, .int r_1, .int r_2, .int r_3, .int r_4])), (a_lp_facts, .inl (cI, 4096, .inl lp_facts_22)), (a_s1, .inl (cI, 4096, .inl s1_23))] H → va_D A [(a_lp_turns, .inl (cI, 24576, .inl lp_turns)), (a_lp_first, .inl (cI, 4097, .inl lp_first)), (a_lp_src, .inl (cI, 24576, .inl lp_src)), (a_ps, .inr (5, [.ref a_tk, .ref a_cd, .int ps_current, .int ps_faulty, .int ps_unaries, .int ps_choices, .int ps_guesses])), (a_cd, .inr (1, [.ref a_cd_steps, .ref a_cd_starts, .ref a_cd_stops, .ref a_cd_used, .ref a_cd_stack, .int cd_size, .int cd_section, .int cd_height_20])), (a_cd_steps, .inl (cI, 1200, .inl cd_steps)), (a_cd_starts, .inl (cI, 39, .inl cd_starts)), (a_cd_stops, .inl (cI, 39, .inl cd_stops)), (a_cd_used, .inl (cI, 39, .inl cd_used)), (a_cd_stack, .inl (cI, 100, .inl cd_stack_21)), (a_lp, .inr (4, [.ref a_lp_facts, .ref a_lp_turns, .ref a_lp_first, .ref a_lp_src, .ref a_s1, .int r_1, .int r_2, .int r_3, .int r_4])), (a_lp_facts, .inl (cI, 4096, .inl lp_facts_22)), (a_s1, .inl (cI, 4096, .inl s1_23))] → va_S A s.heap H locs → ∀ ls : Array Slot, lv_has ls 4 [(0, .ref a_lp), (2, .ref a_cd)] → W p l e (headSpec w_Loop_load ({ frames := 5, cells := 0, slots := 0, locals := 124 })).room s m (([.ref a_lp, .ref a_ps, .ref a_cd] : List Value).toArray) below meth c H locs 0 0 QQ (F0 m 82 ls [])) (n : Nat) (x3_14 : Int32) (cd_height_15 : Int32) (cd_stack_16 : Nat → Int32) (lp_facts_17 : Nat → Int32) (s1_18 : Nat → Int32), wp_Loop_load_L57 cd_steps cd_starts cd_stops cd_used r_2 k82 n x3_14 cd_height_15 cd_stack_16 lp_facts_17 s1_18 → ∀ (H : Heap) (locs : List Loc), va_P (dC, dI) vwCl [(a_lp_turns, .inl (cI, 24576, .inl lp_turns)), (a_lp_first, .inl (cI, 4097, .inl lp_first)), (a_lp_src, .inl (cI, 24576, .inl lp_src)), (a_ps, .inr (5, [.ref a_tk, .ref a_cd, .int ps_current, .int ps_faulty, .int ps_unaries, .int ps_choices, .int ps_guesses])), (a_cd, .inr (1, [.ref a_cd_steps, .ref a_cd_starts, .ref a_cd_stops, .ref a_cd_used, .ref a_cd_stack, .int cd_size, .int cd_section, .int cd_height_15])), (a_cd_steps, .inl (cI, 1200, .inl cd_steps)), (a_cd_starts, .inl (cI, 39, .inl cd_starts)), (a_cd_stops, .inl (cI, 39, .inl cd_stops)), (a_cd_used, .inl (cI, 39, .inl cd_used)), (a_cd_stack, .inl (cI, 100, .inl cd_stack_16)), (a_lp, .inr (4, [.ref a_lp_facts, .ref a_lp_turns, .ref a_lp_first, .ref a_lp_src, .ref a_s1, .int r_1, .int r_2, .int r_3, .int r_4])), (a_lp_facts, .inl (cI, 4096, .inl lp_facts_17)), (a_s1, .inl (cI, 4096, .inl s1_18))] H → va_D A [(a_lp_turns, .inl (cI, 24576, .inl lp_turns)), (a_lp_first, .inl (cI, 4097, .inl lp_first)), (a_lp_src, .inl (cI, 24576, .inl lp_src)), (a_ps, .inr (5, [.ref a_tk, .ref a_cd, .int ps_current, .int ps_faulty, .int ps_unaries, .int ps_choices, .int ps_guesses])), (a_cd, .inr (1, [.ref a_cd_steps, .ref a_cd_starts, .ref a_cd_stops, .ref a_cd_used, .ref a_cd_stack, .int cd_size, .int cd_section, .int cd_height_15])), (a_cd_steps, .inl (cI, 1200, .inl cd_steps)), (a_cd_starts, .inl (cI, 39, .inl cd_starts)), (a_cd_stops, .inl (cI, 39, .inl cd_stops)), (a_cd_used, .inl (cI, 39, .inl cd_used)), (a_cd_stack, .inl (cI, 100, .inl cd_stack_16)), (a_lp, .inr (4, [.ref a_lp_facts, .ref a_lp_turns, .ref a_lp_first, .ref a_lp_src, .ref a_s1, .int r_1, .int r_2, .int r_3, .int r_4])), (a_lp_facts, .inl (cI, 4096, .inl lp_facts_17)), (a_s1, .inl (cI, 4096, .inl s1_18))] → va_S A s.heap H locs → ∀ ls : Array Slot, lv_has ls 4 [(0, .ref a_lp), (2, .ref a_cd), (3, .int x3_14)] → W p l e (headSpec w_Loop_load ({ frames := 5, cells := 0, slots := 0, locals := 124 })).room s m (([.ref a_lp, .ref a_ps, .ref a_cd] : List Value).toArray) below meth c H locs 0 0 QQ (F0 m 57 ls []) := by
    intro k82 hk82 n
    induction n with
    | zero => intro x3_14 cd_height_15 cd_stack_16 lp_facts_17 s1_18 h; exact (show False from h).elim
    | succ n il =>
      intro x3_14 cd_height_15 cd_stack_16 lp_facts_17 s1_18 h
      intro H locs hP hD hS ls hl
      refine lv_iload_n hx hb d_Loop_load_57 rfl (lv_at hl 2 rfl) ?_
      refine lv_aload_n hx hb d_Loop_load_58 rfl (lv_at hl 0 rfl) ?_
      refine va_get (D := (dC, dI)) (ci := 4) (v := .int r_2) (C := "LoopInduction$Loop") (T := F_Loop) (N := 9) hx hb hts iC_Loop hown hK hP 10 rfl rfl 6 (by decide) fl_28 (fun _ h9 => h9) rfl d_Loop_load_59 ?_
      refine lv_icmp_ge (tgt := 82) hx hb d_Loop_load_62 (by decide) (fun c_62 => ?_) (fun c_62 => ?_)
      · have h := And.left h c_62
        exact hk82 _ _ _ _ h _ _ hP hD hS _ (lv_sub hl [0, 1] rfl)
      · have h := And.right h c_62
        refine lv_aload_n hx hb d_Loop_load_65 rfl (lv_at hl 0 rfl) ?_
        refine lv_aload_n hx hb d_Loop_load_66 rfl (lv_at hl 1 rfl) ?_
        refine lv_iconst (v := 3) hx hb d_Loop_load_67 (by decide) ?_
        refine lv_iload_n hx hb d_Loop_load_68 rfl (lv_at hl 2 rfl) ?_
        refine lv_iadd hx hb d_Loop_load_69 ?_
        refine lv_iconst (v := 4) hx hb d_Loop_load_70 (by decide) ?_
        refine lv_iload_n hx hb d_Loop_load_71 rfl (lv_at hl 2 rfl) ?_
        refine lv_iadd hx hb d_Loop_load_72 ?_
        refine jn_v (wr := [(a_lp_turns, .inl (cI, 24576, .inl lp_turns)), (a_lp_first, .inl (cI, 4097, .inl lp_first)), (a_lp_src, .inl (cI, 24576, .inl lp_src)), (a_ps, .inr (5, [.ref a_tk, .ref a_cd, .int ps_current, .int ps_faulty, .int ps_unaries, .int ps_choices, .int ps_guesses]))]) (va_runV (As := [.ref a_cd, .int (3 + x3_14), .int (4 + x3_14)]) (rest := []) ⟨hx, hb, hml, hown, hts⟩ (c_Loop_loadFact l dC dI cI cB cZ adK adV _ a_cd a_cd_steps a_cd_starts a_cd_stops a_cd_used a_cd_stack a_lp a_lp_facts a_lp_turns a_lp_first a_lp_src a_s1 cd_size cd_section cd_height_15 cd_steps cd_starts cd_stops cd_used cd_stack_16 r_1 r_2 r_3 r_4 lp_facts_17 s1_18 (3 + x3_14) (4 + x3_14) _ h) (cwV 3 hts (gv_ m_716 m_718 m_20 m_92 m_719) rfl rfl rfl pd_Loop_loadFact ⟨Nat.le_of_ble_eq_true rfl, Nat.le_of_ble_eq_true rfl⟩) ⟨pc_blind, va_recv hK hP (ci := 4) (q0 := 10) rfl rfl, pc_of (hP.sub [4, 5, 6, 7, 8, 9, 10, 11, 12] rfl) hK (hD.sub [4, 5, 6, 7, 8, 9, 10, 11, 12] (by decide) rfl) hN hT hS hA⟩ rfl rfl hl.1 rfl (lv_room (Nat.le_of_ble_eq_true rfl)) d_Loop_load_73 ⟨Nat.zero_le _, Nat.zero_le _⟩) hP hD hS hA [4, 5, 6, 7, 8, 9, 10, 11, 12] [0, 1, 2, 3] rfl rfl (by decide) (by decide) (fun u_ H locs h hP hD hS => ?_)
        obtain ⟨cd_height_24, cd_stack_25, lp_facts_26, s1_27⟩ := u_
        have hP : va_P (dC, dI) vwCl [(a_lp_turns, .inl (cI, 24576, .inl lp_turns)), (a_lp_first, .inl (cI, 4097, .inl lp_first)), (a_lp_src, .inl (cI, 24576, .inl lp_src)), (a_ps, .inr (5, [.ref a_tk, .ref a_cd, .int ps_current, .int ps_faulty, .int ps_unaries, .int ps_choices, .int ps_guesses])), (a_cd, .inr (1, [.ref a_cd_steps, .ref a_cd_starts, .ref a_cd_stops, .ref a_cd_used, .ref a_cd_stack, .int cd_size, .int cd_section, .int cd_height_24])), (a_cd_steps, .inl (cI, 1200, .inl cd_steps)), (a_cd_starts, .inl (cI, 39, .inl cd_starts)), (a_cd_stops, .inl (cI, 39, .inl cd_stops)), (a_cd_used, .inl (cI, 39, .inl cd_used)), (a_cd_stack, .inl (cI, 100, .inl cd_stack_25)), (a_lp, .inr (4, [.ref a_lp_facts, .ref a_lp_turns, .ref a_lp_first, .ref a_lp_src, .ref a_s1, .int r_1, .int r_2, .int r_3, .int r_4])), (a_lp_facts, .inl (cI, 4096, .inl lp_facts_26)), (a_s1, .inl (cI, 4096, .inl s1_27))] H := hP
        have hD : va_D A [(a_lp_turns, .inl (cI, 24576, .inl lp_turns)), (a_lp_first, .inl (cI, 4097, .inl lp_first)), (a_lp_src, .inl (cI, 24576, .inl lp_src)), (a_ps, .inr (5, [.ref a_tk, .ref a_cd, .int ps_current, .int ps_faulty, .int ps_unaries, .int ps_choices, .int ps_guesses])), (a_cd, .inr (1, [.ref a_cd_steps, .ref a_cd_starts, .ref a_cd_stops, .ref a_cd_used, .ref a_cd_stack, .int cd_size, .int cd_section, .int cd_height_24])), (a_cd_steps, .inl (cI, 1200, .inl cd_steps)), (a_cd_starts, .inl (cI, 39, .inl cd_starts)), (a_cd_stops, .inl (cI, 39, .inl cd_stops)), (a_cd_used, .inl (cI, 39, .inl cd_used)), (a_cd_stack, .inl (cI, 100, .inl cd_stack_25)), (a_lp, .inr (4, [.ref a_lp_facts, .ref a_lp_turns, .ref a_lp_first, .ref a_lp_src, .ref a_s1, .int r_1, .int r_2, .int r_3, .int r_4])), (a_lp_facts, .inl (cI, 4096, .inl lp_facts_26)), (a_s1, .inl (cI, 4096, .inl s1_27))] := hD
        refine lv_iinc (v := x3_14 + 1) (lv' := [(3, .int (x3_14 + 1)), (0, .ref a_lp), (2, .ref a_cd)]) hx hb d_Loop_load_76 hl (k := 2) rfl rfl (by decide) rfl (fun ls hl => ?_)
        refine lv_goto (tgt := 57) hx hb d_Loop_load_79 (by decide) ?_
        exact il _ _ _ _ _ h _ _ hP hD hS _ (lv_sub hl [1, 2, 0] rfl)
  obtain ⟨n_, h⟩ := h
  refine L57_q_19 _ ?_ n_ _ _ _ _ _ h _ _ hP hD hS _ (lv_sub hl [1, 3, 0] rfl)
  intro cd_height_28 cd_stack_29 lp_facts_30 s1_31 h
  intro H locs hP hD hS ls hl
  refine lv_aload_n hx hb d_Loop_load_82 rfl (lv_at hl 0 rfl) ?_
  refine lv_aload_n hx hb d_Loop_load_83 rfl (lv_at hl 1 rfl) ?_
  refine lv_iconst (v := 2) hx hb d_Loop_load_84 (by decide) ?_
  refine lv_bipush (v := 16) hx hb d_Loop_load_85 (by decide) ?_
  refine jn_v (wr := [(a_lp_turns, .inl (cI, 24576, .inl lp_turns)), (a_lp_first, .inl (cI, 4097, .inl lp_first)), (a_lp_src, .inl (cI, 24576, .inl lp_src)), (a_ps, .inr (5, [.ref a_tk, .ref a_cd, .int ps_current, .int ps_faulty, .int ps_unaries, .int ps_choices, .int ps_guesses]))]) (va_runV (As := [.ref a_cd, .int 2, .int 16]) (rest := []) ⟨hx, hb, hml, hown, hts⟩ (c_Loop_loadFact l dC dI cI cB cZ adK adV _ a_cd a_cd_steps a_cd_starts a_cd_stops a_cd_used a_cd_stack a_lp a_lp_facts a_lp_turns a_lp_first a_lp_src a_s1 cd_size cd_section cd_height_28 cd_steps cd_starts cd_stops cd_used cd_stack_29 r_1 r_2 r_3 r_4 lp_facts_30 s1_31 2 16 _ h) (cwV 3 hts (gv_ m_716 m_718 m_20 m_92 m_719) rfl rfl rfl pd_Loop_loadFact ⟨Nat.le_of_ble_eq_true rfl, Nat.le_of_ble_eq_true rfl⟩) ⟨pc_blind, va_recv hK hP (ci := 4) (q0 := 10) rfl rfl, pc_of (hP.sub [4, 5, 6, 7, 8, 9, 10, 11, 12] rfl) hK (hD.sub [4, 5, 6, 7, 8, 9, 10, 11, 12] (by decide) rfl) hN hT hS hA⟩ rfl rfl hl.1 rfl (lv_room (Nat.le_of_ble_eq_true rfl)) d_Loop_load_87 ⟨Nat.zero_le _, Nat.zero_le _⟩) hP hD hS hA [4, 5, 6, 7, 8, 9, 10, 11, 12] [0, 1, 2, 3] rfl rfl (by decide) (by decide) (fun u_ H locs h hP hD hS => ?_)
  obtain ⟨cd_height_32, cd_stack_33, lp_facts_34, s1_35⟩ := u_
  have hP : va_P (dC, dI) vwCl [(a_lp_turns, .inl (cI, 24576, .inl lp_turns)), (a_lp_first, .inl (cI, 4097, .inl lp_first)), (a_lp_src, .inl (cI, 24576, .inl lp_src)), (a_ps, .inr (5, [.ref a_tk, .ref a_cd, .int ps_current, .int ps_faulty, .int ps_unaries, .int ps_choices, .int ps_guesses])), (a_cd, .inr (1, [.ref a_cd_steps, .ref a_cd_starts, .ref a_cd_stops, .ref a_cd_used, .ref a_cd_stack, .int cd_size, .int cd_section, .int cd_height_32])), (a_cd_steps, .inl (cI, 1200, .inl cd_steps)), (a_cd_starts, .inl (cI, 39, .inl cd_starts)), (a_cd_stops, .inl (cI, 39, .inl cd_stops)), (a_cd_used, .inl (cI, 39, .inl cd_used)), (a_cd_stack, .inl (cI, 100, .inl cd_stack_33)), (a_lp, .inr (4, [.ref a_lp_facts, .ref a_lp_turns, .ref a_lp_first, .ref a_lp_src, .ref a_s1, .int r_1, .int r_2, .int r_3, .int r_4])), (a_lp_facts, .inl (cI, 4096, .inl lp_facts_34)), (a_s1, .inl (cI, 4096, .inl s1_35))] H := hP
  have hD : va_D A [(a_lp_turns, .inl (cI, 24576, .inl lp_turns)), (a_lp_first, .inl (cI, 4097, .inl lp_first)), (a_lp_src, .inl (cI, 24576, .inl lp_src)), (a_ps, .inr (5, [.ref a_tk, .ref a_cd, .int ps_current, .int ps_faulty, .int ps_unaries, .int ps_choices, .int ps_guesses])), (a_cd, .inr (1, [.ref a_cd_steps, .ref a_cd_starts, .ref a_cd_stops, .ref a_cd_used, .ref a_cd_stack, .int cd_size, .int cd_section, .int cd_height_32])), (a_cd_steps, .inl (cI, 1200, .inl cd_steps)), (a_cd_starts, .inl (cI, 39, .inl cd_starts)), (a_cd_stops, .inl (cI, 39, .inl cd_stops)), (a_cd_used, .inl (cI, 39, .inl cd_used)), (a_cd_stack, .inl (cI, 100, .inl cd_stack_33)), (a_lp, .inr (4, [.ref a_lp_facts, .ref a_lp_turns, .ref a_lp_first, .ref a_lp_src, .ref a_s1, .int r_1, .int r_2, .int r_3, .int r_4])), (a_lp_facts, .inl (cI, 4096, .inl lp_facts_34)), (a_s1, .inl (cI, 4096, .inl s1_35))] := hD
  refine lv_iconst (v := 0) hx hb d_Loop_load_90 (by decide) ?_
  refine lv_istore_n (lv' := [(3, .int 0), (0, .ref a_lp), (2, .ref a_cd)]) hx hb d_Loop_load_91 rfl hl (by decide) rfl (fun ls hl => ?_)
  have L92_q_41 : ∀ (k112 : (Int32) → (Nat → Int32) → (Nat → Int32) → (Nat → Int32) → Prop) (hk112 : ∀ (cd_height_42 : Int32) (cd_stack_43 : Nat → Int32) (lp_turns_44 : Nat → Int32) (s1_45 : Nat → Int32), k112 cd_height_42 cd_stack_43 lp_turns_44 s1_45 → ∀ (H : Heap) (locs : List Loc), va_P (dC, dI) vwCl [(a_lp_turns, .inl (cI, 24576, .inl lp_turns_44)), (a_lp_first, .inl (cI, 4097, .inl lp_first)), (a_lp_src, .inl (cI, 24576, .inl lp_src)), (a_ps, .inr (5, [.ref a_tk, .ref a_cd, .int ps_current, .int ps_faulty, .int ps_unaries, .int ps_choices, .int ps_guesses])), (a_cd, .inr (1, [.ref a_cd_steps, .ref a_cd_starts, .ref a_cd_stops, .ref a_cd_used, .ref a_cd_stack, .int cd_size, .int cd_section, .int cd_height_42])), (a_cd_steps, .inl (cI, 1200, .inl cd_steps)), (a_cd_starts, .inl (cI, 39, .inl cd_starts)), (a_cd_stops, .inl (cI, 39, .inl cd_stops)), (a_cd_used, .inl (cI, 39, .inl cd_used)), (a_cd_stack, .inl (cI, 100, .inl cd_stack_43)), (a_lp, .inr (4, [.ref a_lp_facts, .ref a_lp_turns, .ref a_lp_first, .ref a_lp_src, .ref a_s1, .int r_1, .int r_2, .int r_3, .int r_4])), (a_lp_facts, .inl (cI, 4096, .inl lp_facts_34)), (a_s1, .inl (cI, 4096, .inl s1_45))] H → va_D A [(a_lp_turns, .inl (cI, 24576, .inl lp_turns_44)), (a_lp_first, .inl (cI, 4097, .inl lp_first)), (a_lp_src, .inl (cI, 24576, .inl lp_src)), (a_ps, .inr (5, [.ref a_tk, .ref a_cd, .int ps_current, .int ps_faulty, .int ps_unaries, .int ps_choices, .int ps_guesses])), (a_cd, .inr (1, [.ref a_cd_steps, .ref a_cd_starts, .ref a_cd_stops, .ref a_cd_used, .ref a_cd_stack, .int cd_size, .int cd_section, .int cd_height_42])), (a_cd_steps, .inl (cI, 1200, .inl cd_steps)), (a_cd_starts, .inl (cI, 39, .inl cd_starts)), (a_cd_stops, .inl (cI, 39, .inl cd_stops)), (a_cd_used, .inl (cI, 39, .inl cd_used)), (a_cd_stack, .inl (cI, 100, .inl cd_stack_43)), (a_lp, .inr (4, [.ref a_lp_facts, .ref a_lp_turns, .ref a_lp_first, .ref a_lp_src, .ref a_s1, .int r_1, .int r_2, .int r_3, .int r_4])), (a_lp_facts, .inl (cI, 4096, .inl lp_facts_34)), (a_s1, .inl (cI, 4096, .inl s1_45))] → va_S A s.heap H locs → ∀ ls : Array Slot, lv_has ls 4 [(0, .ref a_lp)] → W p l e (headSpec w_Loop_load ({ frames := 5, cells := 0, slots := 0, locals := 124 })).room s m (([.ref a_lp, .ref a_ps, .ref a_cd] : List Value).toArray) below meth c H locs 0 0 QQ (F0 m 112 ls [])) (n : Nat) (x3_36 : Int32) (cd_height_37 : Int32) (cd_stack_38 : Nat → Int32) (lp_turns_39 : Nat → Int32) (s1_40 : Nat → Int32), wp_Loop_load_L92 cd_steps cd_starts cd_stops cd_used r_1 k112 n x3_36 cd_height_37 cd_stack_38 lp_turns_39 s1_40 → ∀ (H : Heap) (locs : List Loc), va_P (dC, dI) vwCl [(a_lp_turns, .inl (cI, 24576, .inl lp_turns_39)), (a_lp_first, .inl (cI, 4097, .inl lp_first)), (a_lp_src, .inl (cI, 24576, .inl lp_src)), (a_ps, .inr (5, [.ref a_tk, .ref a_cd, .int ps_current, .int ps_faulty, .int ps_unaries, .int ps_choices, .int ps_guesses])), (a_cd, .inr (1, [.ref a_cd_steps, .ref a_cd_starts, .ref a_cd_stops, .ref a_cd_used, .ref a_cd_stack, .int cd_size, .int cd_section, .int cd_height_37])), (a_cd_steps, .inl (cI, 1200, .inl cd_steps)), (a_cd_starts, .inl (cI, 39, .inl cd_starts)), (a_cd_stops, .inl (cI, 39, .inl cd_stops)), (a_cd_used, .inl (cI, 39, .inl cd_used)), (a_cd_stack, .inl (cI, 100, .inl cd_stack_38)), (a_lp, .inr (4, [.ref a_lp_facts, .ref a_lp_turns, .ref a_lp_first, .ref a_lp_src, .ref a_s1, .int r_1, .int r_2, .int r_3, .int r_4])), (a_lp_facts, .inl (cI, 4096, .inl lp_facts_34)), (a_s1, .inl (cI, 4096, .inl s1_40))] H → va_D A [(a_lp_turns, .inl (cI, 24576, .inl lp_turns_39)), (a_lp_first, .inl (cI, 4097, .inl lp_first)), (a_lp_src, .inl (cI, 24576, .inl lp_src)), (a_ps, .inr (5, [.ref a_tk, .ref a_cd, .int ps_current, .int ps_faulty, .int ps_unaries, .int ps_choices, .int ps_guesses])), (a_cd, .inr (1, [.ref a_cd_steps, .ref a_cd_starts, .ref a_cd_stops, .ref a_cd_used, .ref a_cd_stack, .int cd_size, .int cd_section, .int cd_height_37])), (a_cd_steps, .inl (cI, 1200, .inl cd_steps)), (a_cd_starts, .inl (cI, 39, .inl cd_starts)), (a_cd_stops, .inl (cI, 39, .inl cd_stops)), (a_cd_used, .inl (cI, 39, .inl cd_used)), (a_cd_stack, .inl (cI, 100, .inl cd_stack_38)), (a_lp, .inr (4, [.ref a_lp_facts, .ref a_lp_turns, .ref a_lp_first, .ref a_lp_src, .ref a_s1, .int r_1, .int r_2, .int r_3, .int r_4])), (a_lp_facts, .inl (cI, 4096, .inl lp_facts_34)), (a_s1, .inl (cI, 4096, .inl s1_40))] → va_S A s.heap H locs → ∀ ls : Array Slot, lv_has ls 4 [(0, .ref a_lp), (2, .ref a_cd), (3, .int x3_36)] → W p l e (headSpec w_Loop_load ({ frames := 5, cells := 0, slots := 0, locals := 124 })).room s m (([.ref a_lp, .ref a_ps, .ref a_cd] : List Value).toArray) below meth c H locs 0 0 QQ (F0 m 92 ls []) := by
    intro k112 hk112 n
    induction n with
    | zero => intro x3_36 cd_height_37 cd_stack_38 lp_turns_39 s1_40 h; exact (show False from h).elim
    | succ n il =>
      intro x3_36 cd_height_37 cd_stack_38 lp_turns_39 s1_40 h
      intro H locs hP hD hS ls hl
      refine lv_iload_n hx hb d_Loop_load_92 rfl (lv_at hl 2 rfl) ?_
      refine lv_aload_n hx hb d_Loop_load_93 rfl (lv_at hl 0 rfl) ?_
      refine va_get (D := (dC, dI)) (ci := 4) (v := .int r_1) (C := "LoopInduction$Loop") (T := F_Loop) (N := 9) hx hb hts iC_Loop hown hK hP 10 rfl rfl 5 (by decide) fl_24 (fun _ h9 => h9) rfl d_Loop_load_94 ?_
      refine lv_icmp_ge (tgt := 112) hx hb d_Loop_load_97 (by decide) (fun c_97 => ?_) (fun c_97 => ?_)
      · have h := And.left h c_97
        exact hk112 _ _ _ _ h _ _ hP hD hS _ (lv_sub hl [0] rfl)
      · have h := And.right h c_97
        refine lv_aload_n hx hb d_Loop_load_100 rfl (lv_at hl 0 rfl) ?_
        refine lv_aload_n hx hb d_Loop_load_101 rfl (lv_at hl 1 rfl) ?_
        refine lv_iload_n hx hb d_Loop_load_102 rfl (lv_at hl 2 rfl) ?_
        refine jn_v (wr := [(a_lp_first, .inl (cI, 4097, .inl lp_first)), (a_lp_src, .inl (cI, 24576, .inl lp_src)), (a_ps, .inr (5, [.ref a_tk, .ref a_cd, .int ps_current, .int ps_faulty, .int ps_unaries, .int ps_choices, .int ps_guesses])), (a_lp_facts, .inl (cI, 4096, .inl lp_facts_34))]) (va_runV (As := [.ref a_cd, .int x3_36]) (rest := []) ⟨hx, hb, hml, hown, hts⟩ (c_Loop_loadChoice l dC dI cI cB cZ adK adV _ a_cd a_cd_steps a_cd_starts a_cd_stops a_cd_used a_cd_stack a_lp a_lp_facts a_lp_turns a_lp_first a_lp_src a_s1 cd_size cd_section cd_height_37 cd_steps cd_starts cd_stops cd_used cd_stack_38 r_1 r_2 r_3 r_4 lp_turns_39 s1_40 x3_36 _ h) (cwV 2 hts (gv_ m_740 m_742 m_24 m_92 m_743) rfl rfl rfl pd_Loop_loadChoice ⟨Nat.le_of_ble_eq_true rfl, Nat.le_of_ble_eq_true rfl⟩) ⟨pc_blind, va_recv hK hP (ci := 4) (q0 := 10) rfl rfl, pc_of (hP.sub [4, 5, 6, 7, 8, 9, 10, 0, 12] rfl) hK (hD.sub [4, 5, 6, 7, 8, 9, 10, 0, 12] (by decide) rfl) hN hT hS hA⟩ rfl rfl hl.1 rfl (lv_room (Nat.le_of_ble_eq_true rfl)) d_Loop_load_103 ⟨Nat.zero_le _, Nat.zero_le _⟩) hP hD hS hA [4, 5, 6, 7, 8, 9, 10, 0, 12] [1, 2, 3, 11] rfl rfl (by decide) (by decide) (fun u_ H locs h hP hD hS => ?_)
        obtain ⟨cd_height_46, cd_stack_47, lp_turns_48, s1_49⟩ := u_
        have hP : va_P (dC, dI) vwCl [(a_lp_first, .inl (cI, 4097, .inl lp_first)), (a_lp_src, .inl (cI, 24576, .inl lp_src)), (a_ps, .inr (5, [.ref a_tk, .ref a_cd, .int ps_current, .int ps_faulty, .int ps_unaries, .int ps_choices, .int ps_guesses])), (a_lp_facts, .inl (cI, 4096, .inl lp_facts_34)), (a_cd, .inr (1, [.ref a_cd_steps, .ref a_cd_starts, .ref a_cd_stops, .ref a_cd_used, .ref a_cd_stack, .int cd_size, .int cd_section, .int cd_height_46])), (a_cd_steps, .inl (cI, 1200, .inl cd_steps)), (a_cd_starts, .inl (cI, 39, .inl cd_starts)), (a_cd_stops, .inl (cI, 39, .inl cd_stops)), (a_cd_used, .inl (cI, 39, .inl cd_used)), (a_cd_stack, .inl (cI, 100, .inl cd_stack_47)), (a_lp, .inr (4, [.ref a_lp_facts, .ref a_lp_turns, .ref a_lp_first, .ref a_lp_src, .ref a_s1, .int r_1, .int r_2, .int r_3, .int r_4])), (a_lp_turns, .inl (cI, 24576, .inl lp_turns_48)), (a_s1, .inl (cI, 4096, .inl s1_49))] H := hP
        have hD : va_D A [(a_lp_first, .inl (cI, 4097, .inl lp_first)), (a_lp_src, .inl (cI, 24576, .inl lp_src)), (a_ps, .inr (5, [.ref a_tk, .ref a_cd, .int ps_current, .int ps_faulty, .int ps_unaries, .int ps_choices, .int ps_guesses])), (a_lp_facts, .inl (cI, 4096, .inl lp_facts_34)), (a_cd, .inr (1, [.ref a_cd_steps, .ref a_cd_starts, .ref a_cd_stops, .ref a_cd_used, .ref a_cd_stack, .int cd_size, .int cd_section, .int cd_height_46])), (a_cd_steps, .inl (cI, 1200, .inl cd_steps)), (a_cd_starts, .inl (cI, 39, .inl cd_starts)), (a_cd_stops, .inl (cI, 39, .inl cd_stops)), (a_cd_used, .inl (cI, 39, .inl cd_used)), (a_cd_stack, .inl (cI, 100, .inl cd_stack_47)), (a_lp, .inr (4, [.ref a_lp_facts, .ref a_lp_turns, .ref a_lp_first, .ref a_lp_src, .ref a_s1, .int r_1, .int r_2, .int r_3, .int r_4])), (a_lp_turns, .inl (cI, 24576, .inl lp_turns_48)), (a_s1, .inl (cI, 4096, .inl s1_49))] := hD
        refine lv_iinc (v := x3_36 + 1) (lv' := [(3, .int (x3_36 + 1)), (0, .ref a_lp), (2, .ref a_cd)]) hx hb d_Loop_load_106 hl (k := 2) rfl rfl (by decide) rfl (fun ls hl => ?_)
        refine lv_goto (tgt := 92) hx hb d_Loop_load_109 (by decide) ?_
        exact il _ _ _ _ _ h _ _ (hP.sub [11, 0, 1, 2, 4, 5, 6, 7, 8, 9, 10, 3, 12] rfl) (hD.sub [11, 0, 1, 2, 4, 5, 6, 7, 8, 9, 10, 3, 12] (by decide) rfl) hS _ (lv_sub hl [1, 2, 0] rfl)
  obtain ⟨n_, h⟩ := h
  refine L92_q_41 _ ?_ n_ _ _ _ _ _ h _ _ hP hD hS _ (lv_sub hl [1, 2, 0] rfl)
  intro cd_height_50 cd_stack_51 lp_turns_52 s1_53 h
  intro H locs hP hD hS ls hl
  refine lv_aload_n hx hb d_Loop_load_112 rfl (lv_at hl 0 rfl) ?_
  refine jn_v (wr := [(a_lp_first, .inl (cI, 4097, .inl lp_first)), (a_lp_src, .inl (cI, 24576, .inl lp_src)), (a_ps, .inr (5, [.ref a_tk, .ref a_cd, .int ps_current, .int ps_faulty, .int ps_unaries, .int ps_choices, .int ps_guesses])), (a_cd, .inr (1, [.ref a_cd_steps, .ref a_cd_starts, .ref a_cd_stops, .ref a_cd_used, .ref a_cd_stack, .int cd_size, .int cd_section, .int cd_height_50])), (a_cd_steps, .inl (cI, 1200, .inl cd_steps)), (a_cd_starts, .inl (cI, 39, .inl cd_starts)), (a_cd_stops, .inl (cI, 39, .inl cd_stops)), (a_cd_used, .inl (cI, 39, .inl cd_used)), (a_cd_stack, .inl (cI, 100, .inl cd_stack_51))]) (va_runV (As := []) (rest := []) ⟨hx, hb, hml, hown, hts⟩ (c_Loop_markEnds l dC dI cI cB cZ adK adV _ a_lp a_lp_facts a_lp_turns a_lp_first a_lp_src a_s1 r_1 r_2 r_3 r_4 lp_facts_34 lp_turns_52 s1_53 _ h) (cwV 0 hts (gv_ m_748 m_750 m_26 m_92 m_751) rfl rfl rfl pd_Loop_markEnds ⟨Nat.le_of_ble_eq_true rfl, Nat.le_of_ble_eq_true rfl⟩) ⟨pc_blind, va_recv hK hP (ci := 4) (q0 := 10) rfl rfl, pc_of (hP.sub [10, 11, 0, 12] rfl) hK (hD.sub [10, 11, 0, 12] (by decide) rfl) hN hT hS hA⟩ rfl rfl hl.1 rfl (lv_room (Nat.le_of_ble_eq_true rfl)) d_Loop_load_113 ⟨Nat.zero_le _, Nat.zero_le _⟩) hP hD hS hA [10, 11, 0, 12] [1, 2, 3, 4, 5, 6, 7, 8, 9] rfl rfl (by decide) (by decide) (fun u_ H locs h hP hD hS => ?_)
  obtain ⟨lp_facts_54, s1_55⟩ := u_
  have hP : va_P (dC, dI) vwCl [(a_lp_first, .inl (cI, 4097, .inl lp_first)), (a_lp_src, .inl (cI, 24576, .inl lp_src)), (a_ps, .inr (5, [.ref a_tk, .ref a_cd, .int ps_current, .int ps_faulty, .int ps_unaries, .int ps_choices, .int ps_guesses])), (a_cd, .inr (1, [.ref a_cd_steps, .ref a_cd_starts, .ref a_cd_stops, .ref a_cd_used, .ref a_cd_stack, .int cd_size, .int cd_section, .int cd_height_50])), (a_cd_steps, .inl (cI, 1200, .inl cd_steps)), (a_cd_starts, .inl (cI, 39, .inl cd_starts)), (a_cd_stops, .inl (cI, 39, .inl cd_stops)), (a_cd_used, .inl (cI, 39, .inl cd_used)), (a_cd_stack, .inl (cI, 100, .inl cd_stack_51)), (a_lp, .inr (4, [.ref a_lp_facts, .ref a_lp_turns, .ref a_lp_first, .ref a_lp_src, .ref a_s1, .int r_1, .int r_2, .int r_3, .int r_4])), (a_lp_facts, .inl (cI, 4096, .inl lp_facts_54)), (a_lp_turns, .inl (cI, 24576, .inl lp_turns_52)), (a_s1, .inl (cI, 4096, .inl s1_55))] H := hP
  have hD : va_D A [(a_lp_first, .inl (cI, 4097, .inl lp_first)), (a_lp_src, .inl (cI, 24576, .inl lp_src)), (a_ps, .inr (5, [.ref a_tk, .ref a_cd, .int ps_current, .int ps_faulty, .int ps_unaries, .int ps_choices, .int ps_guesses])), (a_cd, .inr (1, [.ref a_cd_steps, .ref a_cd_starts, .ref a_cd_stops, .ref a_cd_used, .ref a_cd_stack, .int cd_size, .int cd_section, .int cd_height_50])), (a_cd_steps, .inl (cI, 1200, .inl cd_steps)), (a_cd_starts, .inl (cI, 39, .inl cd_starts)), (a_cd_stops, .inl (cI, 39, .inl cd_stops)), (a_cd_used, .inl (cI, 39, .inl cd_used)), (a_cd_stack, .inl (cI, 100, .inl cd_stack_51)), (a_lp, .inr (4, [.ref a_lp_facts, .ref a_lp_turns, .ref a_lp_first, .ref a_lp_src, .ref a_s1, .int r_1, .int r_2, .int r_3, .int r_4])), (a_lp_facts, .inl (cI, 4096, .inl lp_facts_54)), (a_lp_turns, .inl (cI, 24576, .inl lp_turns_52)), (a_s1, .inl (cI, 4096, .inl s1_55))] := hD
  refine lv_aload_n hx hb d_Loop_load_116 rfl (lv_at hl 0 rfl) ?_
  refine jn_v (wr := [(a_ps, .inr (5, [.ref a_tk, .ref a_cd, .int ps_current, .int ps_faulty, .int ps_unaries, .int ps_choices, .int ps_guesses])), (a_cd, .inr (1, [.ref a_cd_steps, .ref a_cd_starts, .ref a_cd_stops, .ref a_cd_used, .ref a_cd_stack, .int cd_size, .int cd_section, .int cd_height_50])), (a_cd_steps, .inl (cI, 1200, .inl cd_steps)), (a_cd_starts, .inl (cI, 39, .inl cd_starts)), (a_cd_stops, .inl (cI, 39, .inl cd_stops)), (a_cd_used, .inl (cI, 39, .inl cd_used)), (a_cd_stack, .inl (cI, 100, .inl cd_stack_51)), (a_lp_facts, .inl (cI, 4096, .inl lp_facts_54)), (a_s1, .inl (cI, 4096, .inl s1_55))]) (va_runV (As := []) (rest := []) ⟨hx, hb, hml, hown, hts⟩ (c_Loop_linkSources l dC dI cI cB cZ adK adV _ a_lp a_lp_facts a_lp_turns a_lp_first a_lp_src a_s1 r_1 r_2 r_3 r_4 lp_turns_52 lp_first lp_src _ h) (cwV 0 hts (gv_ m_763 m_765 m_27 m_92 m_766) rfl rfl rfl pd_Loop_linkSources ⟨Nat.le_of_ble_eq_true rfl, Nat.le_of_ble_eq_true rfl⟩) ⟨pc_blind, va_recv hK hP (ci := 4) (q0 := 9) rfl rfl, pc_of (hP.sub [9, 11, 0, 1] rfl) hK (hD.sub [9, 11, 0, 1] (by decide) rfl) hN hT hS hA⟩ rfl rfl hl.1 rfl (lv_room (Nat.le_of_ble_eq_true rfl)) d_Loop_load_117 ⟨Nat.zero_le _, Nat.zero_le _⟩) hP hD hS hA [9, 11, 0, 1] [2, 3, 4, 5, 6, 7, 8, 10, 12] rfl rfl (by decide) (by decide) (fun u_ H locs h hP hD hS => ?_)
  obtain ⟨lp_first_56, lp_src_57⟩ := u_
  have hP : va_P (dC, dI) vwCl [(a_ps, .inr (5, [.ref a_tk, .ref a_cd, .int ps_current, .int ps_faulty, .int ps_unaries, .int ps_choices, .int ps_guesses])), (a_cd, .inr (1, [.ref a_cd_steps, .ref a_cd_starts, .ref a_cd_stops, .ref a_cd_used, .ref a_cd_stack, .int cd_size, .int cd_section, .int cd_height_50])), (a_cd_steps, .inl (cI, 1200, .inl cd_steps)), (a_cd_starts, .inl (cI, 39, .inl cd_starts)), (a_cd_stops, .inl (cI, 39, .inl cd_stops)), (a_cd_used, .inl (cI, 39, .inl cd_used)), (a_cd_stack, .inl (cI, 100, .inl cd_stack_51)), (a_lp_facts, .inl (cI, 4096, .inl lp_facts_54)), (a_s1, .inl (cI, 4096, .inl s1_55)), (a_lp, .inr (4, [.ref a_lp_facts, .ref a_lp_turns, .ref a_lp_first, .ref a_lp_src, .ref a_s1, .int r_1, .int r_2, .int r_3, .int r_4])), (a_lp_turns, .inl (cI, 24576, .inl lp_turns_52)), (a_lp_first, .inl (cI, 4097, .inl lp_first_56)), (a_lp_src, .inl (cI, 24576, .inl lp_src_57))] H := hP
  have hD : va_D A [(a_ps, .inr (5, [.ref a_tk, .ref a_cd, .int ps_current, .int ps_faulty, .int ps_unaries, .int ps_choices, .int ps_guesses])), (a_cd, .inr (1, [.ref a_cd_steps, .ref a_cd_starts, .ref a_cd_stops, .ref a_cd_used, .ref a_cd_stack, .int cd_size, .int cd_section, .int cd_height_50])), (a_cd_steps, .inl (cI, 1200, .inl cd_steps)), (a_cd_starts, .inl (cI, 39, .inl cd_starts)), (a_cd_stops, .inl (cI, 39, .inl cd_stops)), (a_cd_used, .inl (cI, 39, .inl cd_used)), (a_cd_stack, .inl (cI, 100, .inl cd_stack_51)), (a_lp_facts, .inl (cI, 4096, .inl lp_facts_54)), (a_s1, .inl (cI, 4096, .inl s1_55)), (a_lp, .inr (4, [.ref a_lp_facts, .ref a_lp_turns, .ref a_lp_first, .ref a_lp_src, .ref a_s1, .int r_1, .int r_2, .int r_3, .int r_4])), (a_lp_turns, .inl (cI, 24576, .inl lp_turns_52)), (a_lp_first, .inl (cI, 4097, .inl lp_first_56)), (a_lp_src, .inl (cI, 24576, .inl lp_src_57))] := hD
  rw [← hQ]
  have hP9 := hP.sub (ws' := [(a_cd, .inr (1, [.ref a_cd_steps, .ref a_cd_starts, .ref a_cd_stops, .ref a_cd_used, .ref a_cd_stack, .int cd_size, .int cd_section, .int cd_height_50])), (a_cd_steps, .inl (cI, 1200, .inl cd_steps)), (a_cd_starts, .inl (cI, 39, .inl cd_starts)), (a_cd_stops, .inl (cI, 39, .inl cd_stops)), (a_cd_used, .inl (cI, 39, .inl cd_used)), (a_cd_stack, .inl (cI, 100, .inl cd_stack_51)), (a_ps, .inr (5, [.ref a_tk, .ref a_cd, .int ps_current, .int ps_faulty, .int ps_unaries, .int ps_choices, .int ps_guesses])), (a_lp, .inr (4, [.ref a_lp_facts, .ref a_lp_turns, .ref a_lp_first, .ref a_lp_src, .ref a_s1, .int r_1, .int r_2, .int r_3, .int r_4])), (a_lp_facts, .inl (cI, 4096, .inl lp_facts_54)), (a_lp_turns, .inl (cI, 24576, .inl lp_turns_52)), (a_lp_first, .inl (cI, 4097, .inl lp_first_56)), (a_lp_src, .inl (cI, 24576, .inl lp_src_57)), (a_s1, .inl (cI, 4096, .inl s1_55))]) [1, 2, 3, 4, 5, 6, 0, 9, 7, 10, 11, 12, 8] rfl
  have hD9 := hD.sub (ws' := [(a_cd, .inr (1, [.ref a_cd_steps, .ref a_cd_starts, .ref a_cd_stops, .ref a_cd_used, .ref a_cd_stack, .int cd_size, .int cd_section, .int cd_height_50])), (a_cd_steps, .inl (cI, 1200, .inl cd_steps)), (a_cd_starts, .inl (cI, 39, .inl cd_starts)), (a_cd_stops, .inl (cI, 39, .inl cd_stops)), (a_cd_used, .inl (cI, 39, .inl cd_used)), (a_cd_stack, .inl (cI, 100, .inl cd_stack_51)), (a_ps, .inr (5, [.ref a_tk, .ref a_cd, .int ps_current, .int ps_faulty, .int ps_unaries, .int ps_choices, .int ps_guesses])), (a_lp, .inr (4, [.ref a_lp_facts, .ref a_lp_turns, .ref a_lp_first, .ref a_lp_src, .ref a_s1, .int r_1, .int r_2, .int r_3, .int r_4])), (a_lp_facts, .inl (cI, 4096, .inl lp_facts_54)), (a_lp_turns, .inl (cI, 24576, .inl lp_turns_52)), (a_lp_first, .inl (cI, 4097, .inl lp_first_56)), (a_lp_src, .inl (cI, 24576, .inl lp_src_57)), (a_s1, .inl (cI, 4096, .inl s1_55))]) [1, 2, 3, 4, 5, 6, 0, 9, 7, 10, 11, 12, 8] (by decide) rfl
  exact W.vret hx hb hr (fun t ht hW => ⟨⟨(cd_height_50, cd_stack_51, r_1, r_2, r_3, r_4, lp_facts_54, lp_turns_52, lp_first_56, lp_src_57, s1_55), rfl, h, by rw [ht]; exact hP9, va_K.moved hW.alike hK, hD9⟩, hS.F ht⟩) hS.2.2 d_Loop_load_120
