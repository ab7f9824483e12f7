abbrev b_Runs_reach : ByteArray := prog_7_method_8_code
abbrev y_Runs_reach : MethodName := ⟨"LoopInduction$Runs", "reach", "(II)V"⟩
abbrev w_Runs_reach : List Cond := .code y_Runs_reach b_Runs_reach 3 none :: allW
theorem pn_Runs_reach : y_Runs_reach.cls ≠ "java/lang/invoke/MethodHandle" ∧ y_Runs_reach.cls ≠ "java/lang/invoke/VarHandle" ∧ (parseMethodDescriptor y_Runs_reach.desc).map (fun d => d.parameters.length) = some 2 := by decide +kernel
theorem pd_Runs_reach : y_Runs_reach.cls = "LoopInduction$Runs" ∧ y_Runs_reach.cls ≠ "java/lang/invoke/MethodHandle" ∧ y_Runs_reach.cls ≠ "java/lang/invoke/VarHandle" ∧ (parseMethodDescriptor y_Runs_reach.desc).map (fun d => d.parameters.length) = some 2 := by decide +kernel
abbrev b_Runs_levelOf : ByteArray := prog_7_method_4_code
abbrev y_Runs_levelOf : MethodName := ⟨"LoopInduction$Runs", "levelOf", "(I)I"⟩
abbrev w_Runs_levelOf : List Cond := .code y_Runs_levelOf b_Runs_levelOf 2 (some .int) :: allW
theorem pn_Runs_levelOf : y_Runs_levelOf.cls ≠ "java/lang/invoke/MethodHandle" ∧ y_Runs_levelOf.cls ≠ "java/lang/invoke/VarHandle" ∧ (parseMethodDescriptor y_Runs_levelOf.desc).map (fun d => d.parameters.length) = some 1 := by decide +kernel
theorem pd_Runs_levelOf : y_Runs_levelOf.cls = "LoopInduction$Runs" ∧ y_Runs_levelOf.cls ≠ "java/lang/invoke/MethodHandle" ∧ y_Runs_levelOf.cls ≠ "java/lang/invoke/VarHandle" ∧ (parseMethodDescriptor y_Runs_levelOf.desc).map (fun d => d.parameters.length) = some 1 := by decide +kernel
abbrev b_Runs_findLevels : ByteArray := prog_7_method_7_code
abbrev y_Runs_findLevels : MethodName := ⟨"LoopInduction$Runs", "findLevels", "()V"⟩
abbrev w_Runs_findLevels : List Cond := .code y_Runs_findLevels b_Runs_findLevels 4 none :: allW
theorem pn_Runs_findLevels : y_Runs_findLevels.cls ≠ "java/lang/invoke/MethodHandle" ∧ y_Runs_findLevels.cls ≠ "java/lang/invoke/VarHandle" ∧ (parseMethodDescriptor y_Runs_findLevels.desc).map (fun d => d.parameters.length) = some 0 := by decide +kernel
theorem pd_Runs_findLevels : y_Runs_findLevels.cls = "LoopInduction$Runs" ∧ y_Runs_findLevels.cls ≠ "java/lang/invoke/MethodHandle" ∧ y_Runs_findLevels.cls ≠ "java/lang/invoke/VarHandle" ∧ (parseMethodDescriptor y_Runs_findLevels.desc).map (fun d => d.parameters.length) = some 0 := by decide +kernel
abbrev b_Runs_measureSource : ByteArray := prog_7_method_10_code
abbrev y_Runs_measureSource : MethodName := ⟨"LoopInduction$Runs", "measureSource", "(II)V"⟩
abbrev w_Runs_measureSource : List Cond := .code y_Runs_measureSource b_Runs_measureSource 3 none :: allW
theorem pn_Runs_measureSource : y_Runs_measureSource.cls ≠ "java/lang/invoke/MethodHandle" ∧ y_Runs_measureSource.cls ≠ "java/lang/invoke/VarHandle" ∧ (parseMethodDescriptor y_Runs_measureSource.desc).map (fun d => d.parameters.length) = some 2 := by decide +kernel
theorem pd_Runs_measureSource : y_Runs_measureSource.cls = "LoopInduction$Runs" ∧ y_Runs_measureSource.cls ≠ "java/lang/invoke/MethodHandle" ∧ y_Runs_measureSource.cls ≠ "java/lang/invoke/VarHandle" ∧ (parseMethodDescriptor y_Runs_measureSource.desc).map (fun d => d.parameters.length) = some 2 := by decide +kernel
abbrev b_Runs_measureToBad : ByteArray := prog_7_method_9_code
abbrev y_Runs_measureToBad : MethodName := ⟨"LoopInduction$Runs", "measureToBad", "()V"⟩
abbrev w_Runs_measureToBad : List Cond := .code y_Runs_measureToBad b_Runs_measureToBad 5 none :: allW
theorem pn_Runs_measureToBad : y_Runs_measureToBad.cls ≠ "java/lang/invoke/MethodHandle" ∧ y_Runs_measureToBad.cls ≠ "java/lang/invoke/VarHandle" ∧ (parseMethodDescriptor y_Runs_measureToBad.desc).map (fun d => d.parameters.length) = some 0 := by decide +kernel
theorem pd_Runs_measureToBad : y_Runs_measureToBad.cls = "LoopInduction$Runs" ∧ y_Runs_measureToBad.cls ≠ "java/lang/invoke/MethodHandle" ∧ y_Runs_measureToBad.cls ≠ "java/lang/invoke/VarHandle" ∧ (parseMethodDescriptor y_Runs_measureToBad.desc).map (fun d => d.parameters.length) = some 0 := by decide +kernel
abbrev b_Runs_bestBegin : ByteArray := prog_7_method_12_code
abbrev y_Runs_bestBegin : MethodName := ⟨"LoopInduction$Runs", "bestBegin", "()I"⟩
abbrev w_Runs_bestBegin : List Cond := .code y_Runs_bestBegin b_Runs_bestBegin 4 (some .int) :: allW
theorem pn_Runs_bestBegin : y_Runs_bestBegin.cls ≠ "java/lang/invoke/MethodHandle" ∧ y_Runs_bestBegin.cls ≠ "java/lang/invoke/VarHandle" ∧ (parseMethodDescriptor y_Runs_bestBegin.desc).map (fun d => d.parameters.length) = some 0 := by decide +kernel
theorem pd_Runs_bestBegin : y_Runs_bestBegin.cls = "LoopInduction$Runs" ∧ y_Runs_bestBegin.cls ≠ "java/lang/invoke/MethodHandle" ∧ y_Runs_bestBegin.cls ≠ "java/lang/invoke/VarHandle" ∧ (parseMethodDescriptor y_Runs_bestBegin.desc).map (fun d => d.parameters.length) = some 0 := by decide +kernel
abbrev b_Runs_bestTurn : ByteArray := prog_7_method_13_code
abbrev y_Runs_bestTurn : MethodName := ⟨"LoopInduction$Runs", "bestTurn", "(I)I"⟩
abbrev w_Runs_bestTurn : List Cond := .code y_Runs_bestTurn b_Runs_bestTurn 5 (some .int) :: allW
theorem pn_Runs_bestTurn : y_Runs_bestTurn.cls ≠ "java/lang/invoke/MethodHandle" ∧ y_Runs_bestTurn.cls ≠ "java/lang/invoke/VarHandle" ∧ (parseMethodDescriptor y_Runs_bestTurn.desc).map (fun d => d.parameters.length) = some 1 := by decide +kernel
theorem pd_Runs_bestTurn : y_Runs_bestTurn.cls = "LoopInduction$Runs" ∧ y_Runs_bestTurn.cls ≠ "java/lang/invoke/MethodHandle" ∧ y_Runs_bestTurn.cls ≠ "java/lang/invoke/VarHandle" ∧ (parseMethodDescriptor y_Runs_bestTurn.desc).map (fun d => d.parameters.length) = some 1 := by decide +kernel
abbrev b_Runs_findPath : ByteArray := prog_7_method_11_code
abbrev y_Runs_findPath : MethodName := ⟨"LoopInduction$Runs", "findPath", "()V"⟩
abbrev w_Runs_findPath : List Cond := .code y_Runs_findPath b_Runs_findPath 3 none :: allW
theorem pn_Runs_findPath : y_Runs_findPath.cls ≠ "java/lang/invoke/MethodHandle" ∧ y_Runs_findPath.cls ≠ "java/lang/invoke/VarHandle" ∧ (parseMethodDescriptor y_Runs_findPath.desc).map (fun d => d.parameters.length) = some 0 := by decide +kernel
theorem pd_Runs_findPath : y_Runs_findPath.cls = "LoopInduction$Runs" ∧ y_Runs_findPath.cls ≠ "java/lang/invoke/MethodHandle" ∧ y_Runs_findPath.cls ≠ "java/lang/invoke/VarHandle" ∧ (parseMethodDescriptor y_Runs_findPath.desc).map (fun d => d.parameters.length) = some 0 := by decide +kernel
abbrev b_Runs_explore : ByteArray := prog_7_method_2_code
abbrev y_Runs_explore : MethodName := ⟨"LoopInduction$Runs", "explore", "()V"⟩
abbrev w_Runs_explore : List Cond := .code y_Runs_explore b_Runs_explore 1 none :: allW
theorem pn_Runs_explore : y_Runs_explore.cls ≠ "java/lang/invoke/MethodHandle" ∧ y_Runs_explore.cls ≠ "java/lang/invoke/VarHandle" ∧ (parseMethodDescriptor y_Runs_explore.desc).map (fun d => d.parameters.length) = some 0 := by decide +kernel
theorem pd_Runs_explore : y_Runs_explore.cls = "LoopInduction$Runs" ∧ y_Runs_explore.cls ≠ "java/lang/invoke/MethodHandle" ∧ y_Runs_explore.cls ≠ "java/lang/invoke/VarHandle" ∧ (parseMethodDescriptor y_Runs_explore.desc).map (fun d => d.parameters.length) = some 0 := by decide +kernel
abbrev b_Runs_greatestLevel : ByteArray := prog_7_method_3_code
abbrev y_Runs_greatestLevel : MethodName := ⟨"LoopInduction$Runs", "greatestLevel", "()I"⟩
abbrev w_Runs_greatestLevel : List Cond := .code y_Runs_greatestLevel b_Runs_greatestLevel 1 (some .int) :: allW
theorem pn_Runs_greatestLevel : y_Runs_greatestLevel.cls ≠ "java/lang/invoke/MethodHandle" ∧ y_Runs_greatestLevel.cls ≠ "java/lang/invoke/VarHandle" ∧ (parseMethodDescriptor y_Runs_greatestLevel.desc).map (fun d => d.parameters.length) = some 0 := by decide +kernel
theorem pd_Runs_greatestLevel : y_Runs_greatestLevel.cls = "LoopInduction$Runs" ∧ y_Runs_greatestLevel.cls ≠ "java/lang/invoke/MethodHandle" ∧ y_Runs_greatestLevel.cls ≠ "java/lang/invoke/VarHandle" ∧ (parseMethodDescriptor y_Runs_greatestLevel.desc).map (fun d => d.parameters.length) = some 0 := by decide +kernel
abbrev b_Runs_onPathToBad : ByteArray := prog_7_method_5_code
abbrev y_Runs_onPathToBad : MethodName := ⟨"LoopInduction$Runs", "onPathToBad", "(I)I"⟩
abbrev w_Runs_onPathToBad : List Cond := .code y_Runs_onPathToBad b_Runs_onPathToBad 2 (some .int) :: allW
theorem pn_Runs_onPathToBad : y_Runs_onPathToBad.cls ≠ "java/lang/invoke/MethodHandle" ∧ y_Runs_onPathToBad.cls ≠ "java/lang/invoke/VarHandle" ∧ (parseMethodDescriptor y_Runs_onPathToBad.desc).map (fun d => d.parameters.length) = some 1 := by decide +kernel
theorem pd_Runs_onPathToBad : y_Runs_onPathToBad.cls = "LoopInduction$Runs" ∧ y_Runs_onPathToBad.cls ≠ "java/lang/invoke/MethodHandle" ∧ y_Runs_onPathToBad.cls ≠ "java/lang/invoke/VarHandle" ∧ (parseMethodDescriptor y_Runs_onPathToBad.desc).map (fun d => d.parameters.length) = some 1 := by decide +kernel
abbrev b_Runs_turnsToBad : ByteArray := prog_7_method_6_code
abbrev y_Runs_turnsToBad : MethodName := ⟨"LoopInduction$Runs", "turnsToBad", "()I"⟩
abbrev w_Runs_turnsToBad : List Cond := .code y_Runs_turnsToBad b_Runs_turnsToBad 1 (some .int) :: allW
theorem pn_Runs_turnsToBad : y_Runs_turnsToBad.cls ≠ "java/lang/invoke/MethodHandle" ∧ y_Runs_turnsToBad.cls ≠ "java/lang/invoke/VarHandle" ∧ (parseMethodDescriptor y_Runs_turnsToBad.desc).map (fun d => d.parameters.length) = some 0 := by decide +kernel
theorem pd_Runs_turnsToBad : y_Runs_turnsToBad.cls = "LoopInduction$Runs" ∧ y_Runs_turnsToBad.cls ≠ "java/lang/invoke/MethodHandle" ∧ y_Runs_turnsToBad.cls ≠ "java/lang/invoke/VarHandle" ∧ (parseMethodDescriptor y_Runs_turnsToBad.desc).map (fun d => d.parameters.length) = some 0 := by decide +kernel
abbrev b_Runs_isNewTarget : ByteArray := prog_7_method_16_code
abbrev y_Runs_isNewTarget : MethodName := ⟨"LoopInduction$Runs", "isNewTarget", "(II)Z"⟩
abbrev w_Runs_isNewTarget : List Cond := .code y_Runs_isNewTarget b_Runs_isNewTarget 5 (some .boolean) :: allW
theorem pn_Runs_isNewTarget : y_Runs_isNewTarget.cls ≠ "java/lang/invoke/MethodHandle" ∧ y_Runs_isNewTarget.cls ≠ "java/lang/invoke/VarHandle" ∧ (parseMethodDescriptor y_Runs_isNewTarget.desc).map (fun d => d.parameters.length) = some 2 := by decide +kernel
theorem pd_Runs_isNewTarget : y_Runs_isNewTarget.cls = "LoopInduction$Runs" ∧ y_Runs_isNewTarget.cls ≠ "java/lang/invoke/MethodHandle" ∧ y_Runs_isNewTarget.cls ≠ "java/lang/invoke/VarHandle" ∧ (parseMethodDescriptor y_Runs_isNewTarget.desc).map (fun d => d.parameters.length) = some 2 := by decide +kernel
abbrev b_Runs_countTargets : ByteArray := prog_7_method_15_code
abbrev y_Runs_countTargets : MethodName := ⟨"LoopInduction$Runs", "countTargets", "(I)I"⟩
abbrev w_Runs_countTargets : List Cond := .code y_Runs_countTargets b_Runs_countTargets 4 (some .int) :: allW
theorem pn_Runs_countTargets : y_Runs_countTargets.cls ≠ "java/lang/invoke/MethodHandle" ∧ y_Runs_countTargets.cls ≠ "java/lang/invoke/VarHandle" ∧ (parseMethodDescriptor y_Runs_countTargets.desc).map (fun d => d.parameters.length) = some 1 := by decide +kernel
theorem pd_Runs_countTargets : y_Runs_countTargets.cls = "LoopInduction$Runs" ∧ y_Runs_countTargets.cls ≠ "java/lang/invoke/MethodHandle" ∧ y_Runs_countTargets.cls ≠ "java/lang/invoke/VarHandle" ∧ (parseMethodDescriptor y_Runs_countTargets.desc).map (fun d => d.parameters.length) = some 1 := by decide +kernel
abbrev b_Runs_countPairs : ByteArray := prog_7_method_14_code
abbrev y_Runs_countPairs : MethodName := ⟨"LoopInduction$Runs", "countPairs", "()I"⟩
abbrev w_Runs_countPairs : List Cond := .code y_Runs_countPairs b_Runs_countPairs 3 (some .int) :: allW
theorem pn_Runs_countPairs : y_Runs_countPairs.cls ≠ "java/lang/invoke/MethodHandle" ∧ y_Runs_countPairs.cls ≠ "java/lang/invoke/VarHandle" ∧ (parseMethodDescriptor y_Runs_countPairs.desc).map (fun d => d.parameters.length) = some 0 := by decide +kernel
theorem pd_Runs_countPairs : y_Runs_countPairs.cls = "LoopInduction$Runs" ∧ y_Runs_countPairs.cls ≠ "java/lang/invoke/MethodHandle" ∧ y_Runs_countPairs.cls ≠ "java/lang/invoke/VarHandle" ∧ (parseMethodDescriptor y_Runs_countPairs.desc).map (fun d => d.parameters.length) = some 0 := by decide +kernel
abbrev b_Runs_rankFallsFrom : ByteArray := prog_7_method_18_code
abbrev y_Runs_rankFallsFrom : MethodName := ⟨"LoopInduction$Runs", "rankFallsFrom", "(I)Z"⟩
abbrev w_Runs_rankFallsFrom : List Cond := .code y_Runs_rankFallsFrom b_Runs_rankFallsFrom 5 (some .boolean) :: allW
theorem pn_Runs_rankFallsFrom : y_Runs_rankFallsFrom.cls ≠ "java/lang/invoke/MethodHandle" ∧ y_Runs_rankFallsFrom.cls ≠ "java/lang/invoke/VarHandle" ∧ (parseMethodDescriptor y_Runs_rankFallsFrom.desc).map (fun d => d.parameters.length) = some 1 := by decide +kernel
theorem pd_Runs_rankFallsFrom : y_Runs_rankFallsFrom.cls = "LoopInduction$Runs" ∧ y_Runs_rankFallsFrom.cls ≠ "java/lang/invoke/MethodHandle" ∧ y_Runs_rankFallsFrom.cls ≠ "java/lang/invoke/VarHandle" ∧ (parseMethodDescriptor y_Runs_rankFallsFrom.desc).map (fun d => d.parameters.length) = some 1 := by decide +kernel
abbrev b_Runs_rankAlwaysFalls : ByteArray := prog_7_method_17_code
abbrev y_Runs_rankAlwaysFalls : MethodName := ⟨"LoopInduction$Runs", "rankAlwaysFalls", "()Z"⟩
abbrev w_Runs_rankAlwaysFalls : List Cond := .code y_Runs_rankAlwaysFalls b_Runs_rankAlwaysFalls 2 (some .boolean) :: allW
theorem pn_Runs_rankAlwaysFalls : y_Runs_rankAlwaysFalls.cls ≠ "java/lang/invoke/MethodHandle" ∧ y_Runs_rankAlwaysFalls.cls ≠ "java/lang/invoke/VarHandle" ∧ (parseMethodDescriptor y_Runs_rankAlwaysFalls.desc).map (fun d => d.parameters.length) = some 0 := by decide +kernel
theorem pd_Runs_rankAlwaysFalls : y_Runs_rankAlwaysFalls.cls = "LoopInduction$Runs" ∧ y_Runs_rankAlwaysFalls.cls ≠ "java/lang/invoke/MethodHandle" ∧ y_Runs_rankAlwaysFalls.cls ≠ "java/lang/invoke/VarHandle" ∧ (parseMethodDescriptor y_Runs_rankAlwaysFalls.desc).map (fun d => d.parameters.length) = some 0 := by decide +kernel
abbrev b_Runs_countArrivals : ByteArray := prog_7_method_20_code
abbrev y_Runs_countArrivals : MethodName := ⟨"LoopInduction$Runs", "countArrivals", "()V"⟩
abbrev w_Runs_countArrivals : List Cond := .code y_Runs_countArrivals b_Runs_countArrivals 4 none :: allW
theorem pn_Runs_countArrivals : y_Runs_countArrivals.cls ≠ "java/lang/invoke/MethodHandle" ∧ y_Runs_countArrivals.cls ≠ "java/lang/invoke/VarHandle" ∧ (parseMethodDescriptor y_Runs_countArrivals.desc).map (fun d => d.parameters.length) = some 0 := by decide +kernel
theorem pd_Runs_countArrivals : y_Runs_countArrivals.cls = "LoopInduction$Runs" ∧ y_Runs_countArrivals.cls ≠ "java/lang/invoke/MethodHandle" ∧ y_Runs_countArrivals.cls ≠ "java/lang/invoke/VarHandle" ∧ (parseMethodDescriptor y_Runs_countArrivals.desc).map (fun d => d.parameters.length) = some 0 := by decide +kernel
abbrev b_Runs_leave : ByteArray := prog_7_method_21_code
abbrev y_Runs_leave : MethodName := ⟨"LoopInduction$Runs", "leave", "(I)I"⟩
abbrev w_Runs_leave : List Cond := .code y_Runs_leave b_Runs_leave 4 (some .int) :: allW
theorem pn_Runs_leave : y_Runs_leave.cls ≠ "java/lang/invoke/MethodHandle" ∧ y_Runs_leave.cls ≠ "java/lang/invoke/VarHandle" ∧ (parseMethodDescriptor y_Runs_leave.desc).map (fun d => d.parameters.length) = some 1 := by decide +kernel
theorem pd_Runs_leave : y_Runs_leave.cls = "LoopInduction$Runs" ∧ y_Runs_leave.cls ≠ "java/lang/invoke/MethodHandle" ∧ y_Runs_leave.cls ≠ "java/lang/invoke/VarHandle" ∧ (parseMethodDescriptor y_Runs_leave.desc).map (fun d => d.parameters.length) = some 1 := by decide +kernel
abbrev b_Runs_longestTurns : ByteArray := prog_7_method_19_code
abbrev y_Runs_longestTurns : MethodName := ⟨"LoopInduction$Runs", "longestTurns", "()I"⟩
abbrev w_Runs_longestTurns : List Cond := .code y_Runs_longestTurns b_Runs_longestTurns 3 (some .int) :: allW
theorem pn_Runs_longestTurns : y_Runs_longestTurns.cls ≠ "java/lang/invoke/MethodHandle" ∧ y_Runs_longestTurns.cls ≠ "java/lang/invoke/VarHandle" ∧ (parseMethodDescriptor y_Runs_longestTurns.desc).map (fun d => d.parameters.length) = some 0 := by decide +kernel
theorem pd_Runs_longestTurns : y_Runs_longestTurns.cls = "LoopInduction$Runs" ∧ y_Runs_longestTurns.cls ≠ "java/lang/invoke/MethodHandle" ∧ y_Runs_longestTurns.cls ≠ "java/lang/invoke/VarHandle" ∧ (parseMethodDescriptor y_Runs_longestTurns.desc).map (fun d => d.parameters.length) = some 0 := by decide +kernel
theorem d_Runs_reach_0 : decode b_Runs_reach 0 = .ok (.iload_n 1, 1) := by decide +kernel
theorem d_Runs_reach_1 : decode b_Runs_reach 1 = .ok (.invokestatic 61, 3) := by decide +kernel
theorem d_Runs_reach_4 : decode b_Runs_reach 4 = .ok (.ifCond .eq 36, 3) := by decide +kernel
theorem d_Runs_reach_7 : decode b_Runs_reach 7 = .ok (.aload_n 0, 1) := by decide +kernel
theorem d_Runs_reach_8 : decode b_Runs_reach 8 = .ok (.getfield 9, 3) := by decide +kernel
theorem d_Runs_reach_11 : decode b_Runs_reach 11 = .ok (.iload_n 1, 1) := by decide +kernel
theorem d_Runs_reach_12 : decode b_Runs_reach 12 = .ok (.iaload, 1) := by decide +kernel
theorem d_Runs_reach_13 : decode b_Runs_reach 13 = .ok (.iconst (-1), 1) := by decide +kernel
theorem d_Runs_reach_14 : decode b_Runs_reach 14 = .ok (.if_icmp .ne 26, 3) := by decide +kernel
theorem d_Runs_reach_17 : decode b_Runs_reach 17 = .ok (.aload_n 0, 1) := by decide +kernel
theorem d_Runs_reach_18 : decode b_Runs_reach 18 = .ok (.getfield 9, 3) := by decide +kernel
theorem d_Runs_reach_21 : decode b_Runs_reach 21 = .ok (.iload_n 1, 1) := by decide +kernel
theorem d_Runs_reach_22 : decode b_Runs_reach 22 = .ok (.iload_n 2, 1) := by decide +kernel
theorem d_Runs_reach_23 : decode b_Runs_reach 23 = .ok (.iastore, 1) := by decide +kernel
theorem d_Runs_reach_24 : decode b_Runs_reach 24 = .ok (.aload_n 0, 1) := by decide +kernel
theorem d_Runs_reach_25 : decode b_Runs_reach 25 = .ok (.getfield 28, 3) := by decide +kernel
theorem d_Runs_reach_28 : decode b_Runs_reach 28 = .ok (.iload_n 1, 1) := by decide +kernel
theorem d_Runs_reach_29 : decode b_Runs_reach 29 = .ok (.invokevirtual 104, 3) := by decide +kernel
theorem d_Runs_reach_32 : decode b_Runs_reach 32 = .ok (.aload_n 0, 1) := by decide +kernel
theorem d_Runs_reach_33 : decode b_Runs_reach 33 = .ok (.getfield 49, 3) := by decide +kernel
theorem d_Runs_reach_36 : decode b_Runs_reach 36 = .ok (.iload_n 1, 1) := by decide +kernel
theorem d_Runs_reach_37 : decode b_Runs_reach 37 = .ok (.invokevirtual 108, 3) := by decide +kernel
theorem d_Runs_reach_40 : decode b_Runs_reach 40 = .ok (.return_, 1) := by decide +kernel
theorem d_Runs_levelOf_0 : decode b_Runs_levelOf 0 = .ok (.iload_n 1, 1) := by decide +kernel
theorem d_Runs_levelOf_1 : decode b_Runs_levelOf 1 = .ok (.invokestatic 61, 3) := by decide +kernel
theorem d_Runs_levelOf_4 : decode b_Runs_levelOf 4 = .ok (.ifCond .eq 12, 3) := by decide +kernel
theorem d_Runs_levelOf_7 : decode b_Runs_levelOf 7 = .ok (.aload_n 0, 1) := by decide +kernel
theorem d_Runs_levelOf_8 : decode b_Runs_levelOf 8 = .ok (.getfield 9, 3) := by decide +kernel
theorem d_Runs_levelOf_11 : decode b_Runs_levelOf 11 = .ok (.iload_n 1, 1) := by decide +kernel
theorem d_Runs_levelOf_12 : decode b_Runs_levelOf 12 = .ok (.iaload, 1) := by decide +kernel
theorem d_Runs_levelOf_13 : decode b_Runs_levelOf 13 = .ok (.goto 4, 3) := by decide +kernel
theorem d_Runs_levelOf_16 : decode b_Runs_levelOf 16 = .ok (.iconst (-1), 1) := by decide +kernel
theorem d_Runs_levelOf_17 : decode b_Runs_levelOf 17 = .ok (.ireturn, 1) := by decide +kernel
theorem d_Runs_findLevels_0 : decode b_Runs_findLevels 0 = .ok (.aload_n 0, 1) := by decide +kernel
theorem d_Runs_findLevels_1 : decode b_Runs_findLevels 1 = .ok (.getfield 9, 3) := by decide +kernel
theorem d_Runs_findLevels_4 : decode b_Runs_findLevels 4 = .ok (.iconst (-1), 1) := by decide +kernel
theorem d_Runs_findLevels_5 : decode b_Runs_findLevels 5 = .ok (.invokestatic 65, 3) := by decide +kernel
theorem d_Runs_findLevels_8 : decode b_Runs_findLevels 8 = .ok (.aload_n 0, 1) := by decide +kernel
theorem d_Runs_findLevels_9 : decode b_Runs_findLevels 9 = .ok (.getfield 49, 3) := by decide +kernel
theorem d_Runs_findLevels_12 : decode b_Runs_findLevels 12 = .ok (.invokevirtual 71, 3) := by decide +kernel
theorem d_Runs_findLevels_15 : decode b_Runs_findLevels 15 = .ok (.iconst 0, 1) := by decide +kernel
theorem d_Runs_findLevels_16 : decode b_Runs_findLevels 16 = .ok (.istore_n 1, 1) := by decide +kernel
theorem d_Runs_findLevels_17 : decode b_Runs_findLevels 17 = .ok (.iload_n 1, 1) := by decide +kernel
theorem d_Runs_findLevels_18 : decode b_Runs_findLevels 18 = .ok (.sipush 4096, 3) := by decide +kernel
theorem d_Runs_findLevels_21 : decode b_Runs_findLevels 21 = .ok (.if_icmp .ge 27, 3) := by decide +kernel
theorem d_Runs_findLevels_24 : decode b_Runs_findLevels 24 = .ok (.aload_n 0, 1) := by decide +kernel
theorem d_Runs_findLevels_25 : decode b_Runs_findLevels 25 = .ok (.getfield 28, 3) := by decide +kernel
theorem d_Runs_findLevels_28 : decode b_Runs_findLevels 28 = .ok (.iload_n 1, 1) := by decide +kernel
theorem d_Runs_findLevels_29 : decode b_Runs_findLevels 29 = .ok (.iconst 1, 1) := by decide +kernel
theorem d_Runs_findLevels_30 : decode b_Runs_findLevels 30 = .ok (.invokevirtual 78, 3) := by decide +kernel
theorem d_Runs_findLevels_33 : decode b_Runs_findLevels 33 = .ok (.ifCond .eq 9, 3) := by decide +kernel
theorem d_Runs_findLevels_36 : decode b_Runs_findLevels 36 = .ok (.aload_n 0, 1) := by decide +kernel
theorem d_Runs_findLevels_37 : decode b_Runs_findLevels 37 = .ok (.iload_n 1, 1) := by decide +kernel
theorem d_Runs_findLevels_38 : decode b_Runs_findLevels 38 = .ok (.iconst 0, 1) := by decide +kernel
theorem d_Runs_findLevels_39 : decode b_Runs_findLevels 39 = .ok (.invokevirtual 82, 3) := by decide +kernel
theorem d_Runs_findLevels_42 : decode b_Runs_findLevels 42 = .ok (.iinc 1 1, 3) := by decide +kernel
theorem d_Runs_findLevels_45 : decode b_Runs_findLevels 45 = .ok (.goto (-28), 3) := by decide +kernel
theorem d_Runs_findLevels_48 : decode b_Runs_findLevels 48 = .ok (.iconst 0, 1) := by decide +kernel
theorem d_Runs_findLevels_49 : decode b_Runs_findLevels 49 = .ok (.istore_n 1, 1) := by decide +kernel
theorem d_Runs_findLevels_50 : decode b_Runs_findLevels 50 = .ok (.iload_n 1, 1) := by decide +kernel
theorem d_Runs_findLevels_51 : decode b_Runs_findLevels 51 = .ok (.sipush 4096, 3) := by decide +kernel
theorem d_Runs_findLevels_54 : decode b_Runs_findLevels 54 = .ok (.if_icmp .ge 68, 3) := by decide +kernel
theorem d_Runs_findLevels_57 : decode b_Runs_findLevels 57 = .ok (.iload_n 1, 1) := by decide +kernel
theorem d_Runs_findLevels_58 : decode b_Runs_findLevels 58 = .ok (.aload_n 0, 1) := by decide +kernel
theorem d_Runs_findLevels_59 : decode b_Runs_findLevels 59 = .ok (.getfield 49, 3) := by decide +kernel
theorem d_Runs_findLevels_62 : decode b_Runs_findLevels 62 = .ok (.invokevirtual 86, 3) := by decide +kernel
theorem d_Runs_findLevels_65 : decode b_Runs_findLevels 65 = .ok (.if_icmp .ge 57, 3) := by decide +kernel
theorem d_Runs_findLevels_68 : decode b_Runs_findLevels 68 = .ok (.aload_n 0, 1) := by decide +kernel
theorem d_Runs_findLevels_69 : decode b_Runs_findLevels 69 = .ok (.getfield 49, 3) := by decide +kernel
theorem d_Runs_findLevels_72 : decode b_Runs_findLevels 72 = .ok (.iload_n 1, 1) := by decide +kernel
theorem d_Runs_findLevels_73 : decode b_Runs_findLevels 73 = .ok (.invokevirtual 90, 3) := by decide +kernel
theorem d_Runs_findLevels_76 : decode b_Runs_findLevels 76 = .ok (.istore_n 2, 1) := by decide +kernel
theorem d_Runs_findLevels_77 : decode b_Runs_findLevels 77 = .ok (.iconst 0, 1) := by decide +kernel
theorem d_Runs_findLevels_78 : decode b_Runs_findLevels 78 = .ok (.istore_n 3, 1) := by decide +kernel
theorem d_Runs_findLevels_79 : decode b_Runs_findLevels 79 = .ok (.iload_n 3, 1) := by decide +kernel
theorem d_Runs_findLevels_80 : decode b_Runs_findLevels 80 = .ok (.aload_n 0, 1) := by decide +kernel
theorem d_Runs_findLevels_81 : decode b_Runs_findLevels 81 = .ok (.getfield 28, 3) := by decide +kernel
theorem d_Runs_findLevels_84 : decode b_Runs_findLevels 84 = .ok (.invokevirtual 94, 3) := by decide +kernel
theorem d_Runs_findLevels_87 : decode b_Runs_findLevels 87 = .ok (.if_icmp .ge 29, 3) := by decide +kernel
theorem d_Runs_findLevels_90 : decode b_Runs_findLevels 90 = .ok (.aload_n 0, 1) := by decide +kernel
theorem d_Runs_findLevels_91 : decode b_Runs_findLevels 91 = .ok (.aload_n 0, 1) := by decide +kernel
theorem d_Runs_findLevels_92 : decode b_Runs_findLevels 92 = .ok (.getfield 28, 3) := by decide +kernel
theorem d_Runs_findLevels_95 : decode b_Runs_findLevels 95 = .ok (.iload_n 2, 1) := by decide +kernel
theorem d_Runs_findLevels_96 : decode b_Runs_findLevels 96 = .ok (.iload_n 3, 1) := by decide +kernel
theorem d_Runs_findLevels_97 : decode b_Runs_findLevels 97 = .ok (.invokevirtual 97, 3) := by decide +kernel
theorem d_Runs_findLevels_100 : decode b_Runs_findLevels 100 = .ok (.aload_n 0, 1) := by decide +kernel
theorem d_Runs_findLevels_101 : decode b_Runs_findLevels 101 = .ok (.iload_n 2, 1) := by decide +kernel
theorem d_Runs_findLevels_102 : decode b_Runs_findLevels 102 = .ok (.invokevirtual 101, 3) := by decide +kernel
theorem d_Runs_findLevels_105 : decode b_Runs_findLevels 105 = .ok (.iconst 1, 1) := by decide +kernel
theorem d_Runs_findLevels_106 : decode b_Runs_findLevels 106 = .ok (.iadd, 1) := by decide +kernel
theorem d_Runs_findLevels_107 : decode b_Runs_findLevels 107 = .ok (.invokevirtual 82, 3) := by decide +kernel
theorem d_Runs_findLevels_110 : decode b_Runs_findLevels 110 = .ok (.iinc 3 1, 3) := by decide +kernel
theorem d_Runs_findLevels_113 : decode b_Runs_findLevels 113 = .ok (.goto (-34), 3) := by decide +kernel
theorem d_Runs_findLevels_116 : decode b_Runs_findLevels 116 = .ok (.iinc 1 1, 3) := by decide +kernel
theorem d_Runs_findLevels_119 : decode b_Runs_findLevels 119 = .ok (.goto (-69), 3) := by decide +kernel
theorem d_Runs_findLevels_122 : decode b_Runs_findLevels 122 = .ok (.aload_n 0, 1) := by decide +kernel
theorem d_Runs_findLevels_123 : decode b_Runs_findLevels 123 = .ok (.aload_n 0, 1) := by decide +kernel
theorem d_Runs_findLevels_124 : decode b_Runs_findLevels 124 = .ok (.getfield 49, 3) := by decide +kernel
theorem d_Runs_findLevels_127 : decode b_Runs_findLevels 127 = .ok (.invokevirtual 86, 3) := by decide +kernel
theorem d_Runs_findLevels_130 : decode b_Runs_findLevels 130 = .ok (.putfield 18, 3) := by decide +kernel
theorem d_Runs_findLevels_133 : decode b_Runs_findLevels 133 = .ok (.aload_n 0, 1) := by decide +kernel
theorem d_Runs_findLevels_134 : decode b_Runs_findLevels 134 = .ok (.aload_n 0, 1) := by decide +kernel
theorem d_Runs_findLevels_135 : decode b_Runs_findLevels 135 = .ok (.getfield 18, 3) := by decide +kernel
theorem d_Runs_findLevels_138 : decode b_Runs_findLevels 138 = .ok (.ifCond .le 23, 3) := by decide +kernel
theorem d_Runs_findLevels_141 : decode b_Runs_findLevels 141 = .ok (.aload_n 0, 1) := by decide +kernel
theorem d_Runs_findLevels_142 : decode b_Runs_findLevels 142 = .ok (.aload_n 0, 1) := by decide +kernel
theorem d_Runs_findLevels_143 : decode b_Runs_findLevels 143 = .ok (.getfield 49, 3) := by decide +kernel
theorem d_Runs_findLevels_146 : decode b_Runs_findLevels 146 = .ok (.aload_n 0, 1) := by decide +kernel
theorem d_Runs_findLevels_147 : decode b_Runs_findLevels 147 = .ok (.getfield 18, 3) := by decide +kernel
theorem d_Runs_findLevels_150 : decode b_Runs_findLevels 150 = .ok (.iconst 1, 1) := by decide +kernel
theorem d_Runs_findLevels_151 : decode b_Runs_findLevels 151 = .ok (.isub, 1) := by decide +kernel
theorem d_Runs_findLevels_152 : decode b_Runs_findLevels 152 = .ok (.invokevirtual 90, 3) := by decide +kernel
theorem d_Runs_findLevels_155 : decode b_Runs_findLevels 155 = .ok (.invokevirtual 101, 3) := by decide +kernel
theorem d_Runs_findLevels_158 : decode b_Runs_findLevels 158 = .ok (.goto 4, 3) := by decide +kernel
theorem d_Runs_findLevels_161 : decode b_Runs_findLevels 161 = .ok (.iconst (-1), 1) := by decide +kernel
theorem d_Runs_findLevels_162 : decode b_Runs_findLevels 162 = .ok (.putfield 22, 3) := by decide +kernel
theorem d_Runs_findLevels_165 : decode b_Runs_findLevels 165 = .ok (.return_, 1) := by decide +kernel
theorem d_Runs_measureSource_0 : decode b_Runs_measureSource 0 = .ok (.iload_n 1, 1) := by decide +kernel
theorem d_Runs_measureSource_1 : decode b_Runs_measureSource 1 = .ok (.invokestatic 61, 3) := by decide +kernel
theorem d_Runs_measureSource_4 : decode b_Runs_measureSource 4 = .ok (.ifCond .eq 42, 3) := by decide +kernel
theorem d_Runs_measureSource_7 : decode b_Runs_measureSource 7 = .ok (.iload_n 2, 1) := by decide +kernel
theorem d_Runs_measureSource_8 : decode b_Runs_measureSource 8 = .ok (.invokestatic 61, 3) := by decide +kernel
theorem d_Runs_measureSource_11 : decode b_Runs_measureSource 11 = .ok (.ifCond .eq 35, 3) := by decide +kernel
theorem d_Runs_measureSource_14 : decode b_Runs_measureSource 14 = .ok (.aload_n 0, 1) := by decide +kernel
theorem d_Runs_measureSource_15 : decode b_Runs_measureSource 15 = .ok (.getfield 38, 3) := by decide +kernel
theorem d_Runs_measureSource_18 : decode b_Runs_measureSource 18 = .ok (.iload_n 1, 1) := by decide +kernel
theorem d_Runs_measureSource_19 : decode b_Runs_measureSource 19 = .ok (.iaload, 1) := by decide +kernel
theorem d_Runs_measureSource_20 : decode b_Runs_measureSource 20 = .ok (.iconst (-1), 1) := by decide +kernel
theorem d_Runs_measureSource_21 : decode b_Runs_measureSource 21 = .ok (.if_icmp .ne 25, 3) := by decide +kernel
theorem d_Runs_measureSource_24 : decode b_Runs_measureSource 24 = .ok (.aload_n 0, 1) := by decide +kernel
theorem d_Runs_measureSource_25 : decode b_Runs_measureSource 25 = .ok (.getfield 38, 3) := by decide +kernel
theorem d_Runs_measureSource_28 : decode b_Runs_measureSource 28 = .ok (.iload_n 1, 1) := by decide +kernel
theorem d_Runs_measureSource_29 : decode b_Runs_measureSource 29 = .ok (.aload_n 0, 1) := by decide +kernel
theorem d_Runs_measureSource_30 : decode b_Runs_measureSource 30 = .ok (.getfield 38, 3) := by decide +kernel
theorem d_Runs_measureSource_33 : decode b_Runs_measureSource 33 = .ok (.iload_n 2, 1) := by decide +kernel
theorem d_Runs_measureSource_34 : decode b_Runs_measureSource 34 = .ok (.iaload, 1) := by decide +kernel
theorem d_Runs_measureSource_35 : decode b_Runs_measureSource 35 = .ok (.iconst 1, 1) := by decide +kernel
theorem d_Runs_measureSource_36 : decode b_Runs_measureSource 36 = .ok (.iadd, 1) := by decide +kernel
theorem d_Runs_measureSource_37 : decode b_Runs_measureSource 37 = .ok (.iastore, 1) := by decide +kernel
theorem d_Runs_measureSource_38 : decode b_Runs_measureSource 38 = .ok (.aload_n 0, 1) := by decide +kernel
theorem d_Runs_measureSource_39 : decode b_Runs_measureSource 39 = .ok (.getfield 49, 3) := by decide +kernel
theorem d_Runs_measureSource_42 : decode b_Runs_measureSource 42 = .ok (.iload_n 1, 1) := by decide +kernel
theorem d_Runs_measureSource_43 : decode b_Runs_measureSource 43 = .ok (.invokevirtual 108, 3) := by decide +kernel
theorem d_Runs_measureSource_46 : decode b_Runs_measureSource 46 = .ok (.return_, 1) := by decide +kernel
theorem d_Runs_measureToBad_0 : decode b_Runs_measureToBad 0 = .ok (.aload_n 0, 1) := by decide +kernel
theorem d_Runs_measureToBad_1 : decode b_Runs_measureToBad 1 = .ok (.getfield 49, 3) := by decide +kernel
theorem d_Runs_measureToBad_4 : decode b_Runs_measureToBad 4 = .ok (.invokevirtual 71, 3) := by decide +kernel
theorem d_Runs_measureToBad_7 : decode b_Runs_measureToBad 7 = .ok (.iconst 0, 1) := by decide +kernel
theorem d_Runs_measureToBad_8 : decode b_Runs_measureToBad 8 = .ok (.istore_n 1, 1) := by decide +kernel
theorem d_Runs_measureToBad_9 : decode b_Runs_measureToBad 9 = .ok (.iload_n 1, 1) := by decide +kernel
theorem d_Runs_measureToBad_10 : decode b_Runs_measureToBad 10 = .ok (.sipush 4096, 3) := by decide +kernel
theorem d_Runs_measureToBad_13 : decode b_Runs_measureToBad 13 = .ok (.if_icmp .ge 43, 3) := by decide +kernel
theorem d_Runs_measureToBad_16 : decode b_Runs_measureToBad 16 = .ok (.aload_n 0, 1) := by decide +kernel
theorem d_Runs_measureToBad_17 : decode b_Runs_measureToBad 17 = .ok (.getfield 38, 3) := by decide +kernel
theorem d_Runs_measureToBad_20 : decode b_Runs_measureToBad 20 = .ok (.iload_n 1, 1) := by decide +kernel
theorem d_Runs_measureToBad_21 : decode b_Runs_measureToBad 21 = .ok (.iconst (-1), 1) := by decide +kernel
theorem d_Runs_measureToBad_22 : decode b_Runs_measureToBad 22 = .ok (.iastore, 1) := by decide +kernel
theorem d_Runs_measureToBad_23 : decode b_Runs_measureToBad 23 = .ok (.aload_n 0, 1) := by decide +kernel
theorem d_Runs_measureToBad_24 : decode b_Runs_measureToBad 24 = .ok (.getfield 28, 3) := by decide +kernel
theorem d_Runs_measureToBad_27 : decode b_Runs_measureToBad 27 = .ok (.iload_n 1, 1) := by decide +kernel
theorem d_Runs_measureToBad_28 : decode b_Runs_measureToBad 28 = .ok (.iconst 2, 1) := by decide +kernel
theorem d_Runs_measureToBad_29 : decode b_Runs_measureToBad 29 = .ok (.invokevirtual 78, 3) := by decide +kernel
theorem d_Runs_measureToBad_32 : decode b_Runs_measureToBad 32 = .ok (.ifCond .ne 18, 3) := by decide +kernel
theorem d_Runs_measureToBad_35 : decode b_Runs_measureToBad 35 = .ok (.aload_n 0, 1) := by decide +kernel
theorem d_Runs_measureToBad_36 : decode b_Runs_measureToBad 36 = .ok (.getfield 38, 3) := by decide +kernel
theorem d_Runs_measureToBad_39 : decode b_Runs_measureToBad 39 = .ok (.iload_n 1, 1) := by decide +kernel
theorem d_Runs_measureToBad_40 : decode b_Runs_measureToBad 40 = .ok (.iconst 0, 1) := by decide +kernel
theorem d_Runs_measureToBad_41 : decode b_Runs_measureToBad 41 = .ok (.iastore, 1) := by decide +kernel
theorem d_Runs_measureToBad_42 : decode b_Runs_measureToBad 42 = .ok (.aload_n 0, 1) := by decide +kernel
theorem d_Runs_measureToBad_43 : decode b_Runs_measureToBad 43 = .ok (.getfield 49, 3) := by decide +kernel
theorem d_Runs_measureToBad_46 : decode b_Runs_measureToBad 46 = .ok (.iload_n 1, 1) := by decide +kernel
theorem d_Runs_measureToBad_47 : decode b_Runs_measureToBad 47 = .ok (.invokevirtual 108, 3) := by decide +kernel
theorem d_Runs_measureToBad_50 : decode b_Runs_measureToBad 50 = .ok (.iinc 1 1, 3) := by decide +kernel
theorem d_Runs_measureToBad_53 : decode b_Runs_measureToBad 53 = .ok (.goto (-44), 3) := by decide +kernel
theorem d_Runs_measureToBad_56 : decode b_Runs_measureToBad 56 = .ok (.iconst 0, 1) := by decide +kernel
theorem d_Runs_measureToBad_57 : decode b_Runs_measureToBad 57 = .ok (.istore_n 1, 1) := by decide +kernel
theorem d_Runs_measureToBad_58 : decode b_Runs_measureToBad 58 = .ok (.iload_n 1, 1) := by decide +kernel
theorem d_Runs_measureToBad_59 : decode b_Runs_measureToBad 59 = .ok (.sipush 4096, 3) := by decide +kernel
theorem d_Runs_measureToBad_62 : decode b_Runs_measureToBad 62 = .ok (.if_icmp .ge 74, 3) := by decide +kernel
theorem d_Runs_measureToBad_65 : decode b_Runs_measureToBad 65 = .ok (.iload_n 1, 1) := by decide +kernel
theorem d_Runs_measureToBad_66 : decode b_Runs_measureToBad 66 = .ok (.aload_n 0, 1) := by decide +kernel
theorem d_Runs_measureToBad_67 : decode b_Runs_measureToBad 67 = .ok (.getfield 49, 3) := by decide +kernel
theorem d_Runs_measureToBad_70 : decode b_Runs_measureToBad 70 = .ok (.invokevirtual 86, 3) := by decide +kernel
theorem d_Runs_measureToBad_73 : decode b_Runs_measureToBad 73 = .ok (.if_icmp .ge 63, 3) := by decide +kernel
theorem d_Runs_measureToBad_76 : decode b_Runs_measureToBad 76 = .ok (.aload_n 0, 1) := by decide +kernel
theorem d_Runs_measureToBad_77 : decode b_Runs_measureToBad 77 = .ok (.getfield 49, 3) := by decide +kernel
theorem d_Runs_measureToBad_80 : decode b_Runs_measureToBad 80 = .ok (.iload_n 1, 1) := by decide +kernel
theorem d_Runs_measureToBad_81 : decode b_Runs_measureToBad 81 = .ok (.invokevirtual 90, 3) := by decide +kernel
theorem d_Runs_measureToBad_84 : decode b_Runs_measureToBad 84 = .ok (.istore_n 2, 1) := by decide +kernel
theorem d_Runs_measureToBad_85 : decode b_Runs_measureToBad 85 = .ok (.aload_n 0, 1) := by decide +kernel
theorem d_Runs_measureToBad_86 : decode b_Runs_measureToBad 86 = .ok (.getfield 28, 3) := by decide +kernel
theorem d_Runs_measureToBad_89 : decode b_Runs_measureToBad 89 = .ok (.iload_n 2, 1) := by decide +kernel
theorem d_Runs_measureToBad_90 : decode b_Runs_measureToBad 90 = .ok (.invokevirtual 111, 3) := by decide +kernel
theorem d_Runs_measureToBad_93 : decode b_Runs_measureToBad 93 = .ok (.istore_n 3, 1) := by decide +kernel
theorem d_Runs_measureToBad_94 : decode b_Runs_measureToBad 94 = .ok (.aload_n 0, 1) := by decide +kernel
theorem d_Runs_measureToBad_95 : decode b_Runs_measureToBad 95 = .ok (.getfield 28, 3) := by decide +kernel
theorem d_Runs_measureToBad_98 : decode b_Runs_measureToBad 98 = .ok (.iload_n 2, 1) := by decide +kernel
theorem d_Runs_measureToBad_99 : decode b_Runs_measureToBad 99 = .ok (.invokevirtual 114, 3) := by decide +kernel
theorem d_Runs_measureToBad_102 : decode b_Runs_measureToBad 102 = .ok (.istore 4, 2) := by decide +kernel
theorem d_Runs_measureToBad_104 : decode b_Runs_measureToBad 104 = .ok (.iload 4, 2) := by decide +kernel
theorem d_Runs_measureToBad_106 : decode b_Runs_measureToBad 106 = .ok (.iload_n 3, 1) := by decide +kernel
theorem d_Runs_measureToBad_107 : decode b_Runs_measureToBad 107 = .ok (.if_icmp .gt 23, 3) := by decide +kernel
theorem d_Runs_measureToBad_110 : decode b_Runs_measureToBad 110 = .ok (.aload_n 0, 1) := by decide +kernel
theorem d_Runs_measureToBad_111 : decode b_Runs_measureToBad 111 = .ok (.aload_n 0, 1) := by decide +kernel
theorem d_Runs_measureToBad_112 : decode b_Runs_measureToBad 112 = .ok (.getfield 28, 3) := by decide +kernel
theorem d_Runs_measureToBad_115 : decode b_Runs_measureToBad 115 = .ok (.iload 4, 2) := by decide +kernel
theorem d_Runs_measureToBad_117 : decode b_Runs_measureToBad 117 = .ok (.invokevirtual 117, 3) := by decide +kernel
theorem d_Runs_measureToBad_120 : decode b_Runs_measureToBad 120 = .ok (.iload_n 2, 1) := by decide +kernel
theorem d_Runs_measureToBad_121 : decode b_Runs_measureToBad 121 = .ok (.invokevirtual 120, 3) := by decide +kernel
theorem d_Runs_measureToBad_124 : decode b_Runs_measureToBad 124 = .ok (.iinc 4 1, 3) := by decide +kernel
theorem d_Runs_measureToBad_127 : decode b_Runs_measureToBad 127 = .ok (.goto (-23), 3) := by decide +kernel
theorem d_Runs_measureToBad_130 : decode b_Runs_measureToBad 130 = .ok (.iinc 1 1, 3) := by decide +kernel
theorem d_Runs_measureToBad_133 : decode b_Runs_measureToBad 133 = .ok (.goto (-75), 3) := by decide +kernel
theorem d_Runs_measureToBad_136 : decode b_Runs_measureToBad 136 = .ok (.return_, 1) := by decide +kernel
theorem d_Runs_bestBegin_0 : decode b_Runs_bestBegin 0 = .ok (.iconst (-1), 1) := by decide +kernel
theorem d_Runs_bestBegin_1 : decode b_Runs_bestBegin 1 = .ok (.istore_n 1, 1) := by decide +kernel
theorem d_Runs_bestBegin_2 : decode b_Runs_bestBegin 2 = .ok (.sipush 4096, 3) := by decide +kernel
theorem d_Runs_bestBegin_5 : decode b_Runs_bestBegin 5 = .ok (.istore_n 2, 1) := by decide +kernel
theorem d_Runs_bestBegin_6 : decode b_Runs_bestBegin 6 = .ok (.iconst 0, 1) := by decide +kernel
theorem d_Runs_bestBegin_7 : decode b_Runs_bestBegin 7 = .ok (.istore_n 3, 1) := by decide +kernel
theorem d_Runs_bestBegin_8 : decode b_Runs_bestBegin 8 = .ok (.iload_n 3, 1) := by decide +kernel
theorem d_Runs_bestBegin_9 : decode b_Runs_bestBegin 9 = .ok (.sipush 4096, 3) := by decide +kernel
theorem d_Runs_bestBegin_12 : decode b_Runs_bestBegin 12 = .ok (.if_icmp .ge 50, 3) := by decide +kernel
theorem d_Runs_bestBegin_15 : decode b_Runs_bestBegin 15 = .ok (.aload_n 0, 1) := by decide +kernel
theorem d_Runs_bestBegin_16 : decode b_Runs_bestBegin 16 = .ok (.getfield 28, 3) := by decide +kernel
theorem d_Runs_bestBegin_19 : decode b_Runs_bestBegin 19 = .ok (.iload_n 3, 1) := by decide +kernel
theorem d_Runs_bestBegin_20 : decode b_Runs_bestBegin 20 = .ok (.iconst 1, 1) := by decide +kernel
theorem d_Runs_bestBegin_21 : decode b_Runs_bestBegin 21 = .ok (.invokevirtual 78, 3) := by decide +kernel
theorem d_Runs_bestBegin_24 : decode b_Runs_bestBegin 24 = .ok (.ifCond .eq 32, 3) := by decide +kernel
theorem d_Runs_bestBegin_27 : decode b_Runs_bestBegin 27 = .ok (.aload_n 0, 1) := by decide +kernel
theorem d_Runs_bestBegin_28 : decode b_Runs_bestBegin 28 = .ok (.getfield 38, 3) := by decide +kernel
theorem d_Runs_bestBegin_31 : decode b_Runs_bestBegin 31 = .ok (.iload_n 3, 1) := by decide +kernel
theorem d_Runs_bestBegin_32 : decode b_Runs_bestBegin 32 = .ok (.iaload, 1) := by decide +kernel
theorem d_Runs_bestBegin_33 : decode b_Runs_bestBegin 33 = .ok (.iconst (-1), 1) := by decide +kernel
theorem d_Runs_bestBegin_34 : decode b_Runs_bestBegin 34 = .ok (.if_icmp .eq 22, 3) := by decide +kernel
theorem d_Runs_bestBegin_37 : decode b_Runs_bestBegin 37 = .ok (.aload_n 0, 1) := by decide +kernel
theorem d_Runs_bestBegin_38 : decode b_Runs_bestBegin 38 = .ok (.getfield 38, 3) := by decide +kernel
theorem d_Runs_bestBegin_41 : decode b_Runs_bestBegin 41 = .ok (.iload_n 3, 1) := by decide +kernel
theorem d_Runs_bestBegin_42 : decode b_Runs_bestBegin 42 = .ok (.iaload, 1) := by decide +kernel
theorem d_Runs_bestBegin_43 : decode b_Runs_bestBegin 43 = .ok (.iload_n 2, 1) := by decide +kernel
theorem d_Runs_bestBegin_44 : decode b_Runs_bestBegin 44 = .ok (.if_icmp .ge 12, 3) := by decide +kernel
theorem d_Runs_bestBegin_47 : decode b_Runs_bestBegin 47 = .ok (.iload_n 3, 1) := by decide +kernel
theorem d_Runs_bestBegin_48 : decode b_Runs_bestBegin 48 = .ok (.istore_n 1, 1) := by decide +kernel
theorem d_Runs_bestBegin_49 : decode b_Runs_bestBegin 49 = .ok (.aload_n 0, 1) := by decide +kernel
theorem d_Runs_bestBegin_50 : decode b_Runs_bestBegin 50 = .ok (.getfield 38, 3) := by decide +kernel
theorem d_Runs_bestBegin_53 : decode b_Runs_bestBegin 53 = .ok (.iload_n 3, 1) := by decide +kernel
theorem d_Runs_bestBegin_54 : decode b_Runs_bestBegin 54 = .ok (.iaload, 1) := by decide +kernel
theorem d_Runs_bestBegin_55 : decode b_Runs_bestBegin 55 = .ok (.istore_n 2, 1) := by decide +kernel
theorem d_Runs_bestBegin_56 : decode b_Runs_bestBegin 56 = .ok (.iinc 3 1, 3) := by decide +kernel
theorem d_Runs_bestBegin_59 : decode b_Runs_bestBegin 59 = .ok (.goto (-51), 3) := by decide +kernel
theorem d_Runs_bestBegin_62 : decode b_Runs_bestBegin 62 = .ok (.iload_n 1, 1) := by decide +kernel
theorem d_Runs_bestBegin_63 : decode b_Runs_bestBegin 63 = .ok (.ireturn, 1) := by decide +kernel
theorem d_Runs_bestTurn_0 : decode b_Runs_bestTurn 0 = .ok (.iconst (-1), 1) := by decide +kernel
theorem d_Runs_bestTurn_1 : decode b_Runs_bestTurn 1 = .ok (.istore_n 2, 1) := by decide +kernel
theorem d_Runs_bestTurn_2 : decode b_Runs_bestTurn 2 = .ok (.iload_n 1, 1) := by decide +kernel
theorem d_Runs_bestTurn_3 : decode b_Runs_bestTurn 3 = .ok (.invokestatic 61, 3) := by decide +kernel
theorem d_Runs_bestTurn_6 : decode b_Runs_bestTurn 6 = .ok (.ifCond .eq 12, 3) := by decide +kernel
theorem d_Runs_bestTurn_9 : decode b_Runs_bestTurn 9 = .ok (.aload_n 0, 1) := by decide +kernel
theorem d_Runs_bestTurn_10 : decode b_Runs_bestTurn 10 = .ok (.getfield 38, 3) := by decide +kernel
theorem d_Runs_bestTurn_13 : decode b_Runs_bestTurn 13 = .ok (.iload_n 1, 1) := by decide +kernel
theorem d_Runs_bestTurn_14 : decode b_Runs_bestTurn 14 = .ok (.iaload, 1) := by decide +kernel
theorem d_Runs_bestTurn_15 : decode b_Runs_bestTurn 15 = .ok (.ifCond .gt 5, 3) := by decide +kernel
theorem d_Runs_bestTurn_18 : decode b_Runs_bestTurn 18 = .ok (.iload_n 2, 1) := by decide +kernel
theorem d_Runs_bestTurn_19 : decode b_Runs_bestTurn 19 = .ok (.ireturn, 1) := by decide +kernel
theorem d_Runs_bestTurn_20 : decode b_Runs_bestTurn 20 = .ok (.iconst 0, 1) := by decide +kernel
theorem d_Runs_bestTurn_21 : decode b_Runs_bestTurn 21 = .ok (.istore_n 3, 1) := by decide +kernel
theorem d_Runs_bestTurn_22 : decode b_Runs_bestTurn 22 = .ok (.iload_n 3, 1) := by decide +kernel
theorem d_Runs_bestTurn_23 : decode b_Runs_bestTurn 23 = .ok (.aload_n 0, 1) := by decide +kernel
theorem d_Runs_bestTurn_24 : decode b_Runs_bestTurn 24 = .ok (.getfield 28, 3) := by decide +kernel
theorem d_Runs_bestTurn_27 : decode b_Runs_bestTurn 27 = .ok (.invokevirtual 94, 3) := by decide +kernel
theorem d_Runs_bestTurn_30 : decode b_Runs_bestTurn 30 = .ok (.if_icmp .ge 60, 3) := by decide +kernel
theorem d_Runs_bestTurn_33 : decode b_Runs_bestTurn 33 = .ok (.aload_n 0, 1) := by decide +kernel
theorem d_Runs_bestTurn_34 : decode b_Runs_bestTurn 34 = .ok (.getfield 28, 3) := by decide +kernel
theorem d_Runs_bestTurn_37 : decode b_Runs_bestTurn 37 = .ok (.iload_n 1, 1) := by decide +kernel
theorem d_Runs_bestTurn_38 : decode b_Runs_bestTurn 38 = .ok (.iload_n 3, 1) := by decide +kernel
theorem d_Runs_bestTurn_39 : decode b_Runs_bestTurn 39 = .ok (.invokevirtual 97, 3) := by decide +kernel
theorem d_Runs_bestTurn_42 : decode b_Runs_bestTurn 42 = .ok (.istore 4, 2) := by decide +kernel
theorem d_Runs_bestTurn_44 : decode b_Runs_bestTurn 44 = .ok (.iload 4, 2) := by decide +kernel
theorem d_Runs_bestTurn_46 : decode b_Runs_bestTurn 46 = .ok (.invokestatic 61, 3) := by decide +kernel
theorem d_Runs_bestTurn_49 : decode b_Runs_bestTurn 49 = .ok (.ifCond .eq 35, 3) := by decide +kernel
theorem d_Runs_bestTurn_52 : decode b_Runs_bestTurn 52 = .ok (.aload_n 0, 1) := by decide +kernel
theorem d_Runs_bestTurn_53 : decode b_Runs_bestTurn 53 = .ok (.getfield 38, 3) := by decide +kernel
theorem d_Runs_bestTurn_56 : decode b_Runs_bestTurn 56 = .ok (.iload 4, 2) := by decide +kernel
theorem d_Runs_bestTurn_58 : decode b_Runs_bestTurn 58 = .ok (.iaload, 1) := by decide +kernel
theorem d_Runs_bestTurn_59 : decode b_Runs_bestTurn 59 = .ok (.aload_n 0, 1) := by decide +kernel
theorem d_Runs_bestTurn_60 : decode b_Runs_bestTurn 60 = .ok (.getfield 38, 3) := by decide +kernel
theorem d_Runs_bestTurn_63 : decode b_Runs_bestTurn 63 = .ok (.iload_n 1, 1) := by decide +kernel
theorem d_Runs_bestTurn_64 : decode b_Runs_bestTurn 64 = .ok (.iaload, 1) := by decide +kernel
theorem d_Runs_bestTurn_65 : decode b_Runs_bestTurn 65 = .ok (.iconst 1, 1) := by decide +kernel
theorem d_Runs_bestTurn_66 : decode b_Runs_bestTurn 66 = .ok (.isub, 1) := by decide +kernel
theorem d_Runs_bestTurn_67 : decode b_Runs_bestTurn 67 = .ok (.if_icmp .ne 17, 3) := by decide +kernel
theorem d_Runs_bestTurn_70 : decode b_Runs_bestTurn 70 = .ok (.iload_n 2, 1) := by decide +kernel
theorem d_Runs_bestTurn_71 : decode b_Runs_bestTurn 71 = .ok (.iconst (-1), 1) := by decide +kernel
theorem d_Runs_bestTurn_72 : decode b_Runs_bestTurn 72 = .ok (.if_icmp .eq 9, 3) := by decide +kernel
theorem d_Runs_bestTurn_75 : decode b_Runs_bestTurn 75 = .ok (.iload 4, 2) := by decide +kernel
theorem d_Runs_bestTurn_77 : decode b_Runs_bestTurn 77 = .ok (.iload_n 2, 1) := by decide +kernel
theorem d_Runs_bestTurn_78 : decode b_Runs_bestTurn 78 = .ok (.if_icmp .ge 6, 3) := by decide +kernel
theorem d_Runs_bestTurn_81 : decode b_Runs_bestTurn 81 = .ok (.iload 4, 2) := by decide +kernel
theorem d_Runs_bestTurn_83 : decode b_Runs_bestTurn 83 = .ok (.istore_n 2, 1) := by decide +kernel
theorem d_Runs_bestTurn_84 : decode b_Runs_bestTurn 84 = .ok (.iinc 3 1, 3) := by decide +kernel
theorem d_Runs_bestTurn_87 : decode b_Runs_bestTurn 87 = .ok (.goto (-65), 3) := by decide +kernel
theorem d_Runs_bestTurn_90 : decode b_Runs_bestTurn 90 = .ok (.iload_n 2, 1) := by decide +kernel
theorem d_Runs_bestTurn_91 : decode b_Runs_bestTurn 91 = .ok (.ireturn, 1) := by decide +kernel
theorem d_Runs_findPath_0 : decode b_Runs_findPath 0 = .ok (.aload_n 0, 1) := by decide +kernel
theorem d_Runs_findPath_1 : decode b_Runs_findPath 1 = .ok (.iconst 0, 1) := by decide +kernel
theorem d_Runs_findPath_2 : decode b_Runs_findPath 2 = .ok (.putfield 25, 3) := by decide +kernel
theorem d_Runs_findPath_5 : decode b_Runs_findPath 5 = .ok (.aload_n 0, 1) := by decide +kernel
theorem d_Runs_findPath_6 : decode b_Runs_findPath 6 = .ok (.invokevirtual 123, 3) := by decide +kernel
theorem d_Runs_findPath_9 : decode b_Runs_findPath 9 = .ok (.istore_n 1, 1) := by decide +kernel
theorem d_Runs_findPath_10 : decode b_Runs_findPath 10 = .ok (.iconst 0, 1) := by decide +kernel
theorem d_Runs_findPath_11 : decode b_Runs_findPath 11 = .ok (.istore_n 2, 1) := by decide +kernel
theorem d_Runs_findPath_12 : decode b_Runs_findPath 12 = .ok (.iload_n 2, 1) := by decide +kernel
theorem d_Runs_findPath_13 : decode b_Runs_findPath 13 = .ok (.sipush 4096, 3) := by decide +kernel
theorem d_Runs_findPath_16 : decode b_Runs_findPath 16 = .ok (.if_icmp .ge 36, 3) := by decide +kernel
theorem d_Runs_findPath_19 : decode b_Runs_findPath 19 = .ok (.iload_n 1, 1) := by decide +kernel
theorem d_Runs_findPath_20 : decode b_Runs_findPath 20 = .ok (.invokestatic 61, 3) := by decide +kernel
theorem d_Runs_findPath_23 : decode b_Runs_findPath 23 = .ok (.ifCond .eq 29, 3) := by decide +kernel
theorem d_Runs_findPath_26 : decode b_Runs_findPath 26 = .ok (.aload_n 0, 1) := by decide +kernel
theorem d_Runs_findPath_27 : decode b_Runs_findPath 27 = .ok (.getfield 15, 3) := by decide +kernel
theorem d_Runs_findPath_30 : decode b_Runs_findPath 30 = .ok (.iload_n 2, 1) := by decide +kernel
theorem d_Runs_findPath_31 : decode b_Runs_findPath 31 = .ok (.iload_n 1, 1) := by decide +kernel
theorem d_Runs_findPath_32 : decode b_Runs_findPath 32 = .ok (.iastore, 1) := by decide +kernel
theorem d_Runs_findPath_33 : decode b_Runs_findPath 33 = .ok (.aload_n 0, 1) := by decide +kernel
theorem d_Runs_findPath_34 : decode b_Runs_findPath 34 = .ok (.iload_n 2, 1) := by decide +kernel
theorem d_Runs_findPath_35 : decode b_Runs_findPath 35 = .ok (.iconst 1, 1) := by decide +kernel
theorem d_Runs_findPath_36 : decode b_Runs_findPath 36 = .ok (.iadd, 1) := by decide +kernel
theorem d_Runs_findPath_37 : decode b_Runs_findPath 37 = .ok (.putfield 25, 3) := by decide +kernel
theorem d_Runs_findPath_40 : decode b_Runs_findPath 40 = .ok (.aload_n 0, 1) := by decide +kernel
theorem d_Runs_findPath_41 : decode b_Runs_findPath 41 = .ok (.iload_n 1, 1) := by decide +kernel
theorem d_Runs_findPath_42 : decode b_Runs_findPath 42 = .ok (.invokevirtual 126, 3) := by decide +kernel
theorem d_Runs_findPath_45 : decode b_Runs_findPath 45 = .ok (.istore_n 1, 1) := by decide +kernel
theorem d_Runs_findPath_46 : decode b_Runs_findPath 46 = .ok (.iinc 2 1, 3) := by decide +kernel
theorem d_Runs_findPath_49 : decode b_Runs_findPath 49 = .ok (.goto (-37), 3) := by decide +kernel
theorem d_Runs_findPath_52 : decode b_Runs_findPath 52 = .ok (.return_, 1) := by decide +kernel
theorem d_Runs_explore_0 : decode b_Runs_explore 0 = .ok (.aload_n 0, 1) := by decide +kernel
theorem d_Runs_explore_1 : decode b_Runs_explore 1 = .ok (.invokevirtual 52, 3) := by decide +kernel
theorem d_Runs_explore_4 : decode b_Runs_explore 4 = .ok (.aload_n 0, 1) := by decide +kernel
theorem d_Runs_explore_5 : decode b_Runs_explore 5 = .ok (.invokevirtual 55, 3) := by decide +kernel
theorem d_Runs_explore_8 : decode b_Runs_explore 8 = .ok (.aload_n 0, 1) := by decide +kernel
theorem d_Runs_explore_9 : decode b_Runs_explore 9 = .ok (.invokevirtual 58, 3) := by decide +kernel
theorem d_Runs_explore_12 : decode b_Runs_explore 12 = .ok (.return_, 1) := by decide +kernel
theorem d_Runs_greatestLevel_0 : decode b_Runs_greatestLevel 0 = .ok (.aload_n 0, 1) := by decide +kernel
theorem d_Runs_greatestLevel_1 : decode b_Runs_greatestLevel 1 = .ok (.getfield 22, 3) := by decide +kernel
theorem d_Runs_greatestLevel_4 : decode b_Runs_greatestLevel 4 = .ok (.ireturn, 1) := by decide +kernel
theorem d_Runs_onPathToBad_0 : decode b_Runs_onPathToBad 0 = .ok (.iload_n 1, 1) := by decide +kernel
theorem d_Runs_onPathToBad_1 : decode b_Runs_onPathToBad 1 = .ok (.ifCond .lt 29, 3) := by decide +kernel
theorem d_Runs_onPathToBad_4 : decode b_Runs_onPathToBad 4 = .ok (.iload_n 1, 1) := by decide +kernel
theorem d_Runs_onPathToBad_5 : decode b_Runs_onPathToBad 5 = .ok (.aload_n 0, 1) := by decide +kernel
theorem d_Runs_onPathToBad_6 : decode b_Runs_onPathToBad 6 = .ok (.getfield 25, 3) := by decide +kernel
theorem d_Runs_onPathToBad_9 : decode b_Runs_onPathToBad 9 = .ok (.if_icmp .ge 21, 3) := by decide +kernel
theorem d_Runs_onPathToBad_12 : decode b_Runs_onPathToBad 12 = .ok (.iload_n 1, 1) := by decide +kernel
theorem d_Runs_onPathToBad_13 : decode b_Runs_onPathToBad 13 = .ok (.aload_n 0, 1) := by decide +kernel
theorem d_Runs_onPathToBad_14 : decode b_Runs_onPathToBad 14 = .ok (.getfield 15, 3) := by decide +kernel
theorem d_Runs_onPathToBad_17 : decode b_Runs_onPathToBad 17 = .ok (.arraylength, 1) := by decide +kernel
theorem d_Runs_onPathToBad_18 : decode b_Runs_onPathToBad 18 = .ok (.if_icmp .ge 12, 3) := by decide +kernel
theorem d_Runs_onPathToBad_21 : decode b_Runs_onPathToBad 21 = .ok (.aload_n 0, 1) := by decide +kernel
theorem d_Runs_onPathToBad_22 : decode b_Runs_onPathToBad 22 = .ok (.getfield 15, 3) := by decide +kernel
theorem d_Runs_onPathToBad_25 : decode b_Runs_onPathToBad 25 = .ok (.iload_n 1, 1) := by decide +kernel
theorem d_Runs_onPathToBad_26 : decode b_Runs_onPathToBad 26 = .ok (.iaload, 1) := by decide +kernel
theorem d_Runs_onPathToBad_27 : decode b_Runs_onPathToBad 27 = .ok (.goto 4, 3) := by decide +kernel
theorem d_Runs_onPathToBad_30 : decode b_Runs_onPathToBad 30 = .ok (.iconst (-1), 1) := by decide +kernel
theorem d_Runs_onPathToBad_31 : decode b_Runs_onPathToBad 31 = .ok (.ireturn, 1) := by decide +kernel
theorem d_Runs_turnsToBad_0 : decode b_Runs_turnsToBad 0 = .ok (.aload_n 0, 1) := by decide +kernel
theorem d_Runs_turnsToBad_1 : decode b_Runs_turnsToBad 1 = .ok (.getfield 25, 3) := by decide +kernel
theorem d_Runs_turnsToBad_4 : decode b_Runs_turnsToBad 4 = .ok (.iconst 1, 1) := by decide +kernel
theorem d_Runs_turnsToBad_5 : decode b_Runs_turnsToBad 5 = .ok (.isub, 1) := by decide +kernel
theorem d_Runs_turnsToBad_6 : decode b_Runs_turnsToBad 6 = .ok (.ireturn, 1) := by decide +kernel
theorem d_Runs_isNewTarget_0 : decode b_Runs_isNewTarget 0 = .ok (.aload_n 0, 1) := by decide +kernel
theorem d_Runs_isNewTarget_1 : decode b_Runs_isNewTarget 1 = .ok (.getfield 28, 3) := by decide +kernel
theorem d_Runs_isNewTarget_4 : decode b_Runs_isNewTarget 4 = .ok (.iload_n 1, 1) := by decide +kernel
theorem d_Runs_isNewTarget_5 : decode b_Runs_isNewTarget 5 = .ok (.iload_n 2, 1) := by decide +kernel
theorem d_Runs_isNewTarget_6 : decode b_Runs_isNewTarget 6 = .ok (.invokevirtual 97, 3) := by decide +kernel
theorem d_Runs_isNewTarget_9 : decode b_Runs_isNewTarget 9 = .ok (.istore_n 3, 1) := by decide +kernel
theorem d_Runs_isNewTarget_10 : decode b_Runs_isNewTarget 10 = .ok (.iconst 0, 1) := by decide +kernel
theorem d_Runs_isNewTarget_11 : decode b_Runs_isNewTarget 11 = .ok (.istore 4, 2) := by decide +kernel
theorem d_Runs_isNewTarget_13 : decode b_Runs_isNewTarget 13 = .ok (.iload 4, 2) := by decide +kernel
theorem d_Runs_isNewTarget_15 : decode b_Runs_isNewTarget 15 = .ok (.iload_n 2, 1) := by decide +kernel
theorem d_Runs_isNewTarget_16 : decode b_Runs_isNewTarget 16 = .ok (.if_icmp .ge 25, 3) := by decide +kernel
theorem d_Runs_isNewTarget_19 : decode b_Runs_isNewTarget 19 = .ok (.aload_n 0, 1) := by decide +kernel
theorem d_Runs_isNewTarget_20 : decode b_Runs_isNewTarget 20 = .ok (.getfield 28, 3) := by decide +kernel
theorem d_Runs_isNewTarget_23 : decode b_Runs_isNewTarget 23 = .ok (.iload_n 1, 1) := by decide +kernel
theorem d_Runs_isNewTarget_24 : decode b_Runs_isNewTarget 24 = .ok (.iload 4, 2) := by decide +kernel
theorem d_Runs_isNewTarget_26 : decode b_Runs_isNewTarget 26 = .ok (.invokevirtual 97, 3) := by decide +kernel
theorem d_Runs_isNewTarget_29 : decode b_Runs_isNewTarget 29 = .ok (.iload_n 3, 1) := by decide +kernel
theorem d_Runs_isNewTarget_30 : decode b_Runs_isNewTarget 30 = .ok (.if_icmp .ne 5, 3) := by decide +kernel
theorem d_Runs_isNewTarget_33 : decode b_Runs_isNewTarget 33 = .ok (.iconst 0, 1) := by decide +kernel
theorem d_Runs_isNewTarget_34 : decode b_Runs_isNewTarget 34 = .ok (.ireturn, 1) := by decide +kernel
theorem d_Runs_isNewTarget_35 : decode b_Runs_isNewTarget 35 = .ok (.iinc 4 1, 3) := by decide +kernel
theorem d_Runs_isNewTarget_38 : decode b_Runs_isNewTarget 38 = .ok (.goto (-25), 3) := by decide +kernel
theorem d_Runs_isNewTarget_41 : decode b_Runs_isNewTarget 41 = .ok (.iconst 1, 1) := by decide +kernel
theorem d_Runs_isNewTarget_42 : decode b_Runs_isNewTarget 42 = .ok (.ireturn, 1) := by decide +kernel
theorem d_Runs_countTargets_0 : decode b_Runs_countTargets 0 = .ok (.iconst 0, 1) := by decide +kernel
theorem d_Runs_countTargets_1 : decode b_Runs_countTargets 1 = .ok (.istore_n 2, 1) := by decide +kernel
theorem d_Runs_countTargets_2 : decode b_Runs_countTargets 2 = .ok (.iconst 0, 1) := by decide +kernel
theorem d_Runs_countTargets_3 : decode b_Runs_countTargets 3 = .ok (.istore_n 3, 1) := by decide +kernel
theorem d_Runs_countTargets_4 : decode b_Runs_countTargets 4 = .ok (.iload_n 3, 1) := by decide +kernel
theorem d_Runs_countTargets_5 : decode b_Runs_countTargets 5 = .ok (.aload_n 0, 1) := by decide +kernel
theorem d_Runs_countTargets_6 : decode b_Runs_countTargets 6 = .ok (.getfield 28, 3) := by decide +kernel
theorem d_Runs_countTargets_9 : decode b_Runs_countTargets 9 = .ok (.invokevirtual 94, 3) := by decide +kernel
theorem d_Runs_countTargets_12 : decode b_Runs_countTargets 12 = .ok (.if_icmp .ge 34, 3) := by decide +kernel
theorem d_Runs_countTargets_15 : decode b_Runs_countTargets 15 = .ok (.aload_n 0, 1) := by decide +kernel
theorem d_Runs_countTargets_16 : decode b_Runs_countTargets 16 = .ok (.getfield 28, 3) := by decide +kernel
theorem d_Runs_countTargets_19 : decode b_Runs_countTargets 19 = .ok (.iload_n 1, 1) := by decide +kernel
theorem d_Runs_countTargets_20 : decode b_Runs_countTargets 20 = .ok (.iload_n 3, 1) := by decide +kernel
theorem d_Runs_countTargets_21 : decode b_Runs_countTargets 21 = .ok (.invokevirtual 97, 3) := by decide +kernel
theorem d_Runs_countTargets_24 : decode b_Runs_countTargets 24 = .ok (.iconst (-1), 1) := by decide +kernel
theorem d_Runs_countTargets_25 : decode b_Runs_countTargets 25 = .ok (.if_icmp .eq 15, 3) := by decide +kernel
theorem d_Runs_countTargets_28 : decode b_Runs_countTargets 28 = .ok (.aload_n 0, 1) := by decide +kernel
theorem d_Runs_countTargets_29 : decode b_Runs_countTargets 29 = .ok (.iload_n 1, 1) := by decide +kernel
theorem d_Runs_countTargets_30 : decode b_Runs_countTargets 30 = .ok (.iload_n 3, 1) := by decide +kernel
theorem d_Runs_countTargets_31 : decode b_Runs_countTargets 31 = .ok (.invokevirtual 132, 3) := by decide +kernel
theorem d_Runs_countTargets_34 : decode b_Runs_countTargets 34 = .ok (.ifCond .eq 6, 3) := by decide +kernel
theorem d_Runs_countTargets_37 : decode b_Runs_countTargets 37 = .ok (.iinc 2 1, 3) := by decide +kernel
theorem d_Runs_countTargets_40 : decode b_Runs_countTargets 40 = .ok (.iinc 3 1, 3) := by decide +kernel
theorem d_Runs_countTargets_43 : decode b_Runs_countTargets 43 = .ok (.goto (-39), 3) := by decide +kernel
theorem d_Runs_countTargets_46 : decode b_Runs_countTargets 46 = .ok (.iload_n 2, 1) := by decide +kernel
theorem d_Runs_countTargets_47 : decode b_Runs_countTargets 47 = .ok (.ireturn, 1) := by decide +kernel
theorem d_Runs_countPairs_0 : decode b_Runs_countPairs 0 = .ok (.iconst 0, 1) := by decide +kernel
theorem d_Runs_countPairs_1 : decode b_Runs_countPairs 1 = .ok (.istore_n 1, 1) := by decide +kernel
theorem d_Runs_countPairs_2 : decode b_Runs_countPairs 2 = .ok (.iconst 0, 1) := by decide +kernel
theorem d_Runs_countPairs_3 : decode b_Runs_countPairs 3 = .ok (.istore_n 2, 1) := by decide +kernel
theorem d_Runs_countPairs_4 : decode b_Runs_countPairs 4 = .ok (.iload_n 2, 1) := by decide +kernel
theorem d_Runs_countPairs_5 : decode b_Runs_countPairs 5 = .ok (.sipush 4096, 3) := by decide +kernel
theorem d_Runs_countPairs_8 : decode b_Runs_countPairs 8 = .ok (.if_icmp .ge 29, 3) := by decide +kernel
theorem d_Runs_countPairs_11 : decode b_Runs_countPairs 11 = .ok (.aload_n 0, 1) := by decide +kernel
theorem d_Runs_countPairs_12 : decode b_Runs_countPairs 12 = .ok (.getfield 28, 3) := by decide +kernel
theorem d_Runs_countPairs_15 : decode b_Runs_countPairs 15 = .ok (.iload_n 2, 1) := by decide +kernel
theorem d_Runs_countPairs_16 : decode b_Runs_countPairs 16 = .ok (.iconst 4, 1) := by decide +kernel
theorem d_Runs_countPairs_17 : decode b_Runs_countPairs 17 = .ok (.invokevirtual 78, 3) := by decide +kernel
theorem d_Runs_countPairs_20 : decode b_Runs_countPairs 20 = .ok (.ifCond .eq 11, 3) := by decide +kernel
theorem d_Runs_countPairs_23 : decode b_Runs_countPairs 23 = .ok (.iload_n 1, 1) := by decide +kernel
theorem d_Runs_countPairs_24 : decode b_Runs_countPairs 24 = .ok (.aload_n 0, 1) := by decide +kernel
theorem d_Runs_countPairs_25 : decode b_Runs_countPairs 25 = .ok (.iload_n 2, 1) := by decide +kernel
theorem d_Runs_countPairs_26 : decode b_Runs_countPairs 26 = .ok (.invokevirtual 129, 3) := by decide +kernel
theorem d_Runs_countPairs_29 : decode b_Runs_countPairs 29 = .ok (.iadd, 1) := by decide +kernel
theorem d_Runs_countPairs_30 : decode b_Runs_countPairs 30 = .ok (.istore_n 1, 1) := by decide +kernel
theorem d_Runs_countPairs_31 : decode b_Runs_countPairs 31 = .ok (.iinc 2 1, 3) := by decide +kernel
theorem d_Runs_countPairs_34 : decode b_Runs_countPairs 34 = .ok (.goto (-30), 3) := by decide +kernel
theorem d_Runs_countPairs_37 : decode b_Runs_countPairs 37 = .ok (.iload_n 1, 1) := by decide +kernel
theorem d_Runs_countPairs_38 : decode b_Runs_countPairs 38 = .ok (.ireturn, 1) := by decide +kernel
theorem d_Runs_rankFallsFrom_0 : decode b_Runs_rankFallsFrom 0 = .ok (.aload_n 0, 1) := by decide +kernel
theorem d_Runs_rankFallsFrom_1 : decode b_Runs_rankFallsFrom 1 = .ok (.getfield 28, 3) := by decide +kernel
theorem d_Runs_rankFallsFrom_4 : decode b_Runs_rankFallsFrom 4 = .ok (.iload_n 1, 1) := by decide +kernel
theorem d_Runs_rankFallsFrom_5 : decode b_Runs_rankFallsFrom 5 = .ok (.invokevirtual 138, 3) := by decide +kernel
theorem d_Runs_rankFallsFrom_8 : decode b_Runs_rankFallsFrom 8 = .ok (.istore_n 2, 1) := by decide +kernel
theorem d_Runs_rankFallsFrom_9 : decode b_Runs_rankFallsFrom 9 = .ok (.iconst 0, 1) := by decide +kernel
theorem d_Runs_rankFallsFrom_10 : decode b_Runs_rankFallsFrom 10 = .ok (.istore_n 3, 1) := by decide +kernel
theorem d_Runs_rankFallsFrom_11 : decode b_Runs_rankFallsFrom 11 = .ok (.iload_n 3, 1) := by decide +kernel
theorem d_Runs_rankFallsFrom_12 : decode b_Runs_rankFallsFrom 12 = .ok (.aload_n 0, 1) := by decide +kernel
theorem d_Runs_rankFallsFrom_13 : decode b_Runs_rankFallsFrom 13 = .ok (.getfield 28, 3) := by decide +kernel
theorem d_Runs_rankFallsFrom_16 : decode b_Runs_rankFallsFrom 16 = .ok (.invokevirtual 94, 3) := by decide +kernel
theorem d_Runs_rankFallsFrom_19 : decode b_Runs_rankFallsFrom 19 = .ok (.if_icmp .ge 41, 3) := by decide +kernel
theorem d_Runs_rankFallsFrom_22 : decode b_Runs_rankFallsFrom 22 = .ok (.aload_n 0, 1) := by decide +kernel
theorem d_Runs_rankFallsFrom_23 : decode b_Runs_rankFallsFrom 23 = .ok (.getfield 28, 3) := by decide +kernel
theorem d_Runs_rankFallsFrom_26 : decode b_Runs_rankFallsFrom 26 = .ok (.iload_n 1, 1) := by decide +kernel
theorem d_Runs_rankFallsFrom_27 : decode b_Runs_rankFallsFrom 27 = .ok (.iload_n 3, 1) := by decide +kernel
theorem d_Runs_rankFallsFrom_28 : decode b_Runs_rankFallsFrom 28 = .ok (.invokevirtual 97, 3) := by decide +kernel
theorem d_Runs_rankFallsFrom_31 : decode b_Runs_rankFallsFrom 31 = .ok (.istore 4, 2) := by decide +kernel
theorem d_Runs_rankFallsFrom_33 : decode b_Runs_rankFallsFrom 33 = .ok (.iload 4, 2) := by decide +kernel
theorem d_Runs_rankFallsFrom_35 : decode b_Runs_rankFallsFrom 35 = .ok (.iconst (-1), 1) := by decide +kernel
theorem d_Runs_rankFallsFrom_36 : decode b_Runs_rankFallsFrom 36 = .ok (.if_icmp .eq 18, 3) := by decide +kernel
theorem d_Runs_rankFallsFrom_39 : decode b_Runs_rankFallsFrom 39 = .ok (.aload_n 0, 1) := by decide +kernel
theorem d_Runs_rankFallsFrom_40 : decode b_Runs_rankFallsFrom 40 = .ok (.getfield 28, 3) := by decide +kernel
theorem d_Runs_rankFallsFrom_43 : decode b_Runs_rankFallsFrom 43 = .ok (.iload 4, 2) := by decide +kernel
theorem d_Runs_rankFallsFrom_45 : decode b_Runs_rankFallsFrom 45 = .ok (.invokevirtual 138, 3) := by decide +kernel
theorem d_Runs_rankFallsFrom_48 : decode b_Runs_rankFallsFrom 48 = .ok (.iload_n 2, 1) := by decide +kernel
theorem d_Runs_rankFallsFrom_49 : decode b_Runs_rankFallsFrom 49 = .ok (.if_icmp .lt 5, 3) := by decide +kernel
theorem d_Runs_rankFallsFrom_52 : decode b_Runs_rankFallsFrom 52 = .ok (.iconst 0, 1) := by decide +kernel
theorem d_Runs_rankFallsFrom_53 : decode b_Runs_rankFallsFrom 53 = .ok (.ireturn, 1) := by decide +kernel
theorem d_Runs_rankFallsFrom_54 : decode b_Runs_rankFallsFrom 54 = .ok (.iinc 3 1, 3) := by decide +kernel
theorem d_Runs_rankFallsFrom_57 : decode b_Runs_rankFallsFrom 57 = .ok (.goto (-46), 3) := by decide +kernel
theorem d_Runs_rankFallsFrom_60 : decode b_Runs_rankFallsFrom 60 = .ok (.iconst 1, 1) := by decide +kernel
theorem d_Runs_rankFallsFrom_61 : decode b_Runs_rankFallsFrom 61 = .ok (.ireturn, 1) := by decide +kernel
theorem d_Runs_rankAlwaysFalls_0 : decode b_Runs_rankAlwaysFalls 0 = .ok (.iconst 0, 1) := by decide +kernel
theorem d_Runs_rankAlwaysFalls_1 : decode b_Runs_rankAlwaysFalls 1 = .ok (.istore_n 1, 1) := by decide +kernel
theorem d_Runs_rankAlwaysFalls_2 : decode b_Runs_rankAlwaysFalls 2 = .ok (.iload_n 1, 1) := by decide +kernel
theorem d_Runs_rankAlwaysFalls_3 : decode b_Runs_rankAlwaysFalls 3 = .ok (.sipush 4096, 3) := by decide +kernel
theorem d_Runs_rankAlwaysFalls_6 : decode b_Runs_rankAlwaysFalls 6 = .ok (.if_icmp .ge 31, 3) := by decide +kernel
theorem d_Runs_rankAlwaysFalls_9 : decode b_Runs_rankAlwaysFalls 9 = .ok (.aload_n 0, 1) := by decide +kernel
theorem d_Runs_rankAlwaysFalls_10 : decode b_Runs_rankAlwaysFalls 10 = .ok (.getfield 28, 3) := by decide +kernel
theorem d_Runs_rankAlwaysFalls_13 : decode b_Runs_rankAlwaysFalls 13 = .ok (.iload_n 1, 1) := by decide +kernel
theorem d_Runs_rankAlwaysFalls_14 : decode b_Runs_rankAlwaysFalls 14 = .ok (.iconst 4, 1) := by decide +kernel
theorem d_Runs_rankAlwaysFalls_15 : decode b_Runs_rankAlwaysFalls 15 = .ok (.invokevirtual 78, 3) := by decide +kernel
theorem d_Runs_rankAlwaysFalls_18 : decode b_Runs_rankAlwaysFalls 18 = .ok (.ifCond .eq 13, 3) := by decide +kernel
theorem d_Runs_rankAlwaysFalls_21 : decode b_Runs_rankAlwaysFalls 21 = .ok (.aload_n 0, 1) := by decide +kernel
theorem d_Runs_rankAlwaysFalls_22 : decode b_Runs_rankAlwaysFalls 22 = .ok (.iload_n 1, 1) := by decide +kernel
theorem d_Runs_rankAlwaysFalls_23 : decode b_Runs_rankAlwaysFalls 23 = .ok (.invokevirtual 135, 3) := by decide +kernel
theorem d_Runs_rankAlwaysFalls_26 : decode b_Runs_rankAlwaysFalls 26 = .ok (.ifCond .ne 5, 3) := by decide +kernel
theorem d_Runs_rankAlwaysFalls_29 : decode b_Runs_rankAlwaysFalls 29 = .ok (.iconst 0, 1) := by decide +kernel
theorem d_Runs_rankAlwaysFalls_30 : decode b_Runs_rankAlwaysFalls 30 = .ok (.ireturn, 1) := by decide +kernel
theorem d_Runs_rankAlwaysFalls_31 : decode b_Runs_rankAlwaysFalls 31 = .ok (.iinc 1 1, 3) := by decide +kernel
theorem d_Runs_rankAlwaysFalls_34 : decode b_Runs_rankAlwaysFalls 34 = .ok (.goto (-32), 3) := by decide +kernel
theorem d_Runs_rankAlwaysFalls_37 : decode b_Runs_rankAlwaysFalls 37 = .ok (.iconst 1, 1) := by decide +kernel
theorem d_Runs_rankAlwaysFalls_38 : decode b_Runs_rankAlwaysFalls 38 = .ok (.ireturn, 1) := by decide +kernel
theorem d_Runs_countArrivals_0 : decode b_Runs_countArrivals 0 = .ok (.aload_n 0, 1) := by decide +kernel
theorem d_Runs_countArrivals_1 : decode b_Runs_countArrivals 1 = .ok (.getfield 38, 3) := by decide +kernel
theorem d_Runs_countArrivals_4 : decode b_Runs_countArrivals 4 = .ok (.iconst 0, 1) := by decide +kernel
theorem d_Runs_countArrivals_5 : decode b_Runs_countArrivals 5 = .ok (.invokestatic 65, 3) := by decide +kernel
theorem d_Runs_countArrivals_8 : decode b_Runs_countArrivals 8 = .ok (.iconst 0, 1) := by decide +kernel
theorem d_Runs_countArrivals_9 : decode b_Runs_countArrivals 9 = .ok (.istore_n 1, 1) := by decide +kernel
theorem d_Runs_countArrivals_10 : decode b_Runs_countArrivals 10 = .ok (.iload_n 1, 1) := by decide +kernel
theorem d_Runs_countArrivals_11 : decode b_Runs_countArrivals 11 = .ok (.sipush 4096, 3) := by decide +kernel
theorem d_Runs_countArrivals_14 : decode b_Runs_countArrivals 14 = .ok (.if_icmp .ge 67, 3) := by decide +kernel
theorem d_Runs_countArrivals_17 : decode b_Runs_countArrivals 17 = .ok (.iconst 0, 1) := by decide +kernel
theorem d_Runs_countArrivals_18 : decode b_Runs_countArrivals 18 = .ok (.istore_n 2, 1) := by decide +kernel
theorem d_Runs_countArrivals_19 : decode b_Runs_countArrivals 19 = .ok (.iload_n 2, 1) := by decide +kernel
theorem d_Runs_countArrivals_20 : decode b_Runs_countArrivals 20 = .ok (.aload_n 0, 1) := by decide +kernel
theorem d_Runs_countArrivals_21 : decode b_Runs_countArrivals 21 = .ok (.getfield 28, 3) := by decide +kernel
theorem d_Runs_countArrivals_24 : decode b_Runs_countArrivals 24 = .ok (.invokevirtual 94, 3) := by decide +kernel
theorem d_Runs_countArrivals_27 : decode b_Runs_countArrivals 27 = .ok (.if_icmp .ge 48, 3) := by decide +kernel
theorem d_Runs_countArrivals_30 : decode b_Runs_countArrivals 30 = .ok (.aload_n 0, 1) := by decide +kernel
theorem d_Runs_countArrivals_31 : decode b_Runs_countArrivals 31 = .ok (.getfield 28, 3) := by decide +kernel
theorem d_Runs_countArrivals_34 : decode b_Runs_countArrivals 34 = .ok (.iload_n 1, 1) := by decide +kernel
theorem d_Runs_countArrivals_35 : decode b_Runs_countArrivals 35 = .ok (.iload_n 2, 1) := by decide +kernel
theorem d_Runs_countArrivals_36 : decode b_Runs_countArrivals 36 = .ok (.invokevirtual 97, 3) := by decide +kernel
theorem d_Runs_countArrivals_39 : decode b_Runs_countArrivals 39 = .ok (.istore_n 3, 1) := by decide +kernel
theorem d_Runs_countArrivals_40 : decode b_Runs_countArrivals 40 = .ok (.iload_n 3, 1) := by decide +kernel
theorem d_Runs_countArrivals_41 : decode b_Runs_countArrivals 41 = .ok (.invokestatic 61, 3) := by decide +kernel
theorem d_Runs_countArrivals_44 : decode b_Runs_countArrivals 44 = .ok (.ifCond .eq 25, 3) := by decide +kernel
theorem d_Runs_countArrivals_47 : decode b_Runs_countArrivals 47 = .ok (.aload_n 0, 1) := by decide +kernel
theorem d_Runs_countArrivals_48 : decode b_Runs_countArrivals 48 = .ok (.getfield 28, 3) := by decide +kernel
theorem d_Runs_countArrivals_51 : decode b_Runs_countArrivals 51 = .ok (.iload_n 1, 1) := by decide +kernel
theorem d_Runs_countArrivals_52 : decode b_Runs_countArrivals 52 = .ok (.iconst 4, 1) := by decide +kernel
theorem d_Runs_countArrivals_53 : decode b_Runs_countArrivals 53 = .ok (.invokevirtual 78, 3) := by decide +kernel
theorem d_Runs_countArrivals_56 : decode b_Runs_countArrivals 56 = .ok (.ifCond .eq 13, 3) := by decide +kernel
theorem d_Runs_countArrivals_59 : decode b_Runs_countArrivals 59 = .ok (.aload_n 0, 1) := by decide +kernel
theorem d_Runs_countArrivals_60 : decode b_Runs_countArrivals 60 = .ok (.getfield 38, 3) := by decide +kernel
theorem d_Runs_countArrivals_63 : decode b_Runs_countArrivals 63 = .ok (.iload_n 3, 1) := by decide +kernel
theorem d_Runs_countArrivals_64 : decode b_Runs_countArrivals 64 = .ok (.dup2, 1) := by decide +kernel
theorem d_Runs_countArrivals_65 : decode b_Runs_countArrivals 65 = .ok (.iaload, 1) := by decide +kernel
theorem d_Runs_countArrivals_66 : decode b_Runs_countArrivals 66 = .ok (.iconst 1, 1) := by decide +kernel
theorem d_Runs_countArrivals_67 : decode b_Runs_countArrivals 67 = .ok (.iadd, 1) := by decide +kernel
theorem d_Runs_countArrivals_68 : decode b_Runs_countArrivals 68 = .ok (.iastore, 1) := by decide +kernel
theorem d_Runs_countArrivals_69 : decode b_Runs_countArrivals 69 = .ok (.iinc 2 1, 3) := by decide +kernel
theorem d_Runs_countArrivals_72 : decode b_Runs_countArrivals 72 = .ok (.goto (-53), 3) := by decide +kernel
theorem d_Runs_countArrivals_75 : decode b_Runs_countArrivals 75 = .ok (.iinc 1 1, 3) := by decide +kernel
theorem d_Runs_countArrivals_78 : decode b_Runs_countArrivals 78 = .ok (.goto (-68), 3) := by decide +kernel
theorem d_Runs_countArrivals_81 : decode b_Runs_countArrivals 81 = .ok (.return_, 1) := by decide +kernel
theorem d_Runs_leave_0 : decode b_Runs_leave 0 = .ok (.iload_n 1, 1) := by decide +kernel
theorem d_Runs_leave_1 : decode b_Runs_leave 1 = .ok (.invokestatic 61, 3) := by decide +kernel
theorem d_Runs_leave_4 : decode b_Runs_leave 4 = .ok (.ifCond .ne 5, 3) := by decide +kernel
theorem d_Runs_leave_7 : decode b_Runs_leave 7 = .ok (.iconst 0, 1) := by decide +kernel
theorem d_Runs_leave_8 : decode b_Runs_leave 8 = .ok (.ireturn, 1) := by decide +kernel
theorem d_Runs_leave_9 : decode b_Runs_leave 9 = .ok (.iconst 0, 1) := by decide +kernel
theorem d_Runs_leave_10 : decode b_Runs_leave 10 = .ok (.istore_n 2, 1) := by decide +kernel
theorem d_Runs_leave_11 : decode b_Runs_leave 11 = .ok (.iload_n 2, 1) := by decide +kernel
theorem d_Runs_leave_12 : decode b_Runs_leave 12 = .ok (.aload_n 0, 1) := by decide +kernel
theorem d_Runs_leave_13 : decode b_Runs_leave 13 = .ok (.getfield 28, 3) := by decide +kernel
theorem d_Runs_leave_16 : decode b_Runs_leave 16 = .ok (.invokevirtual 94, 3) := by decide +kernel
theorem d_Runs_leave_19 : decode b_Runs_leave 19 = .ok (.if_icmp .ge 76, 3) := by decide +kernel
theorem d_Runs_leave_22 : decode b_Runs_leave 22 = .ok (.aload_n 0, 1) := by decide +kernel
theorem d_Runs_leave_23 : decode b_Runs_leave 23 = .ok (.getfield 28, 3) := by decide +kernel
theorem d_Runs_leave_26 : decode b_Runs_leave 26 = .ok (.iload_n 1, 1) := by decide +kernel
theorem d_Runs_leave_27 : decode b_Runs_leave 27 = .ok (.iload_n 2, 1) := by decide +kernel
theorem d_Runs_leave_28 : decode b_Runs_leave 28 = .ok (.invokevirtual 97, 3) := by decide +kernel
theorem d_Runs_leave_31 : decode b_Runs_leave 31 = .ok (.istore_n 3, 1) := by decide +kernel
theorem d_Runs_leave_32 : decode b_Runs_leave 32 = .ok (.iload_n 3, 1) := by decide +kernel
theorem d_Runs_leave_33 : decode b_Runs_leave 33 = .ok (.invokestatic 61, 3) := by decide +kernel
theorem d_Runs_leave_36 : decode b_Runs_leave 36 = .ok (.ifCond .eq 53, 3) := by decide +kernel
theorem d_Runs_leave_39 : decode b_Runs_leave 39 = .ok (.aload_n 0, 1) := by decide +kernel
theorem d_Runs_leave_40 : decode b_Runs_leave 40 = .ok (.getfield 43, 3) := by decide +kernel
theorem d_Runs_leave_43 : decode b_Runs_leave 43 = .ok (.iload_n 3, 1) := by decide +kernel
theorem d_Runs_leave_44 : decode b_Runs_leave 44 = .ok (.aload_n 0, 1) := by decide +kernel
theorem d_Runs_leave_45 : decode b_Runs_leave 45 = .ok (.getfield 43, 3) := by decide +kernel
theorem d_Runs_leave_48 : decode b_Runs_leave 48 = .ok (.iload_n 3, 1) := by decide +kernel
theorem d_Runs_leave_49 : decode b_Runs_leave 49 = .ok (.iaload, 1) := by decide +kernel
theorem d_Runs_leave_50 : decode b_Runs_leave 50 = .ok (.aload_n 0, 1) := by decide +kernel
theorem d_Runs_leave_51 : decode b_Runs_leave 51 = .ok (.getfield 43, 3) := by decide +kernel
theorem d_Runs_leave_54 : decode b_Runs_leave 54 = .ok (.iload_n 1, 1) := by decide +kernel
theorem d_Runs_leave_55 : decode b_Runs_leave 55 = .ok (.iaload, 1) := by decide +kernel
theorem d_Runs_leave_56 : decode b_Runs_leave 56 = .ok (.iconst 1, 1) := by decide +kernel
theorem d_Runs_leave_57 : decode b_Runs_leave 57 = .ok (.iadd, 1) := by decide +kernel
theorem d_Runs_leave_58 : decode b_Runs_leave 58 = .ok (.invokestatic 147, 3) := by decide +kernel
theorem d_Runs_leave_61 : decode b_Runs_leave 61 = .ok (.iastore, 1) := by decide +kernel
theorem d_Runs_leave_62 : decode b_Runs_leave 62 = .ok (.aload_n 0, 1) := by decide +kernel
theorem d_Runs_leave_63 : decode b_Runs_leave 63 = .ok (.getfield 38, 3) := by decide +kernel
theorem d_Runs_leave_66 : decode b_Runs_leave 66 = .ok (.iload_n 3, 1) := by decide +kernel
theorem d_Runs_leave_67 : decode b_Runs_leave 67 = .ok (.dup2, 1) := by decide +kernel
theorem d_Runs_leave_68 : decode b_Runs_leave 68 = .ok (.iaload, 1) := by decide +kernel
theorem d_Runs_leave_69 : decode b_Runs_leave 69 = .ok (.iconst 1, 1) := by decide +kernel
theorem d_Runs_leave_70 : decode b_Runs_leave 70 = .ok (.isub, 1) := by decide +kernel
theorem d_Runs_leave_71 : decode b_Runs_leave 71 = .ok (.iastore, 1) := by decide +kernel
theorem d_Runs_leave_72 : decode b_Runs_leave 72 = .ok (.aload_n 0, 1) := by decide +kernel
theorem d_Runs_leave_73 : decode b_Runs_leave 73 = .ok (.getfield 38, 3) := by decide +kernel
theorem d_Runs_leave_76 : decode b_Runs_leave 76 = .ok (.iload_n 3, 1) := by decide +kernel
theorem d_Runs_leave_77 : decode b_Runs_leave 77 = .ok (.iaload, 1) := by decide +kernel
theorem d_Runs_leave_78 : decode b_Runs_leave 78 = .ok (.ifCond .ne 11, 3) := by decide +kernel
theorem d_Runs_leave_81 : decode b_Runs_leave 81 = .ok (.aload_n 0, 1) := by decide +kernel
theorem d_Runs_leave_82 : decode b_Runs_leave 82 = .ok (.getfield 49, 3) := by decide +kernel
theorem d_Runs_leave_85 : decode b_Runs_leave 85 = .ok (.iload_n 3, 1) := by decide +kernel
theorem d_Runs_leave_86 : decode b_Runs_leave 86 = .ok (.invokevirtual 108, 3) := by decide +kernel
theorem d_Runs_leave_89 : decode b_Runs_leave 89 = .ok (.iinc 2 1, 3) := by decide +kernel
theorem d_Runs_leave_92 : decode b_Runs_leave 92 = .ok (.goto (-81), 3) := by decide +kernel
theorem d_Runs_leave_95 : decode b_Runs_leave 95 = .ok (.aload_n 0, 1) := by decide +kernel
theorem d_Runs_leave_96 : decode b_Runs_leave 96 = .ok (.getfield 43, 3) := by decide +kernel
theorem d_Runs_leave_99 : decode b_Runs_leave 99 = .ok (.iload_n 1, 1) := by decide +kernel
theorem d_Runs_leave_100 : decode b_Runs_leave 100 = .ok (.iaload, 1) := by decide +kernel
theorem d_Runs_leave_101 : decode b_Runs_leave 101 = .ok (.ireturn, 1) := by decide +kernel
theorem d_Runs_longestTurns_0 : decode b_Runs_longestTurns 0 = .ok (.aload_n 0, 1) := by decide +kernel
theorem d_Runs_longestTurns_1 : decode b_Runs_longestTurns 1 = .ok (.getfield 18, 3) := by decide +kernel
theorem d_Runs_longestTurns_4 : decode b_Runs_longestTurns 4 = .ok (.ifCond .ne 5, 3) := by decide +kernel
theorem d_Runs_longestTurns_7 : decode b_Runs_longestTurns 7 = .ok (.iconst (-1), 1) := by decide +kernel
theorem d_Runs_longestTurns_8 : decode b_Runs_longestTurns 8 = .ok (.ireturn, 1) := by decide +kernel
theorem d_Runs_longestTurns_9 : decode b_Runs_longestTurns 9 = .ok (.aload_n 0, 1) := by decide +kernel
theorem d_Runs_longestTurns_10 : decode b_Runs_longestTurns 10 = .ok (.invokevirtual 141, 3) := by decide +kernel
theorem d_Runs_longestTurns_13 : decode b_Runs_longestTurns 13 = .ok (.aload_n 0, 1) := by decide +kernel
theorem d_Runs_longestTurns_14 : decode b_Runs_longestTurns 14 = .ok (.getfield 43, 3) := by decide +kernel
theorem d_Runs_longestTurns_17 : decode b_Runs_longestTurns 17 = .ok (.iconst 0, 1) := by decide +kernel
theorem d_Runs_longestTurns_18 : decode b_Runs_longestTurns 18 = .ok (.invokestatic 65, 3) := by decide +kernel
theorem d_Runs_longestTurns_21 : decode b_Runs_longestTurns 21 = .ok (.aload_n 0, 1) := by decide +kernel
theorem d_Runs_longestTurns_22 : decode b_Runs_longestTurns 22 = .ok (.getfield 49, 3) := by decide +kernel
theorem d_Runs_longestTurns_25 : decode b_Runs_longestTurns 25 = .ok (.invokevirtual 71, 3) := by decide +kernel
theorem d_Runs_longestTurns_28 : decode b_Runs_longestTurns 28 = .ok (.iconst 0, 1) := by decide +kernel
theorem d_Runs_longestTurns_29 : decode b_Runs_longestTurns 29 = .ok (.istore_n 1, 1) := by decide +kernel
theorem d_Runs_longestTurns_30 : decode b_Runs_longestTurns 30 = .ok (.iload_n 1, 1) := by decide +kernel
theorem d_Runs_longestTurns_31 : decode b_Runs_longestTurns 31 = .ok (.sipush 4096, 3) := by decide +kernel
theorem d_Runs_longestTurns_34 : decode b_Runs_longestTurns 34 = .ok (.if_icmp .ge 38, 3) := by decide +kernel
theorem d_Runs_longestTurns_37 : decode b_Runs_longestTurns 37 = .ok (.aload_n 0, 1) := by decide +kernel
theorem d_Runs_longestTurns_38 : decode b_Runs_longestTurns 38 = .ok (.getfield 28, 3) := by decide +kernel
theorem d_Runs_longestTurns_41 : decode b_Runs_longestTurns 41 = .ok (.iload_n 1, 1) := by decide +kernel
theorem d_Runs_longestTurns_42 : decode b_Runs_longestTurns 42 = .ok (.iconst 4, 1) := by decide +kernel
theorem d_Runs_longestTurns_43 : decode b_Runs_longestTurns 43 = .ok (.invokevirtual 78, 3) := by decide +kernel
theorem d_Runs_longestTurns_46 : decode b_Runs_longestTurns 46 = .ok (.ifCond .eq 20, 3) := by decide +kernel
theorem d_Runs_longestTurns_49 : decode b_Runs_longestTurns 49 = .ok (.aload_n 0, 1) := by decide +kernel
theorem d_Runs_longestTurns_50 : decode b_Runs_longestTurns 50 = .ok (.getfield 38, 3) := by decide +kernel
theorem d_Runs_longestTurns_53 : decode b_Runs_longestTurns 53 = .ok (.iload_n 1, 1) := by decide +kernel
theorem d_Runs_longestTurns_54 : decode b_Runs_longestTurns 54 = .ok (.iaload, 1) := by decide +kernel
theorem d_Runs_longestTurns_55 : decode b_Runs_longestTurns 55 = .ok (.ifCond .ne 11, 3) := by decide +kernel
theorem d_Runs_longestTurns_58 : decode b_Runs_longestTurns 58 = .ok (.aload_n 0, 1) := by decide +kernel
theorem d_Runs_longestTurns_59 : decode b_Runs_longestTurns 59 = .ok (.getfield 49, 3) := by decide +kernel
theorem d_Runs_longestTurns_62 : decode b_Runs_longestTurns 62 = .ok (.iload_n 1, 1) := by decide +kernel
theorem d_Runs_longestTurns_63 : decode b_Runs_longestTurns 63 = .ok (.invokevirtual 108, 3) := by decide +kernel
theorem d_Runs_longestTurns_66 : decode b_Runs_longestTurns 66 = .ok (.iinc 1 1, 3) := by decide +kernel
theorem d_Runs_longestTurns_69 : decode b_Runs_longestTurns 69 = .ok (.goto (-39), 3) := by decide +kernel
theorem d_Runs_longestTurns_72 : decode b_Runs_longestTurns 72 = .ok (.iconst 0, 1) := by decide +kernel
theorem d_Runs_longestTurns_73 : decode b_Runs_longestTurns 73 = .ok (.istore_n 1, 1) := by decide +kernel
theorem d_Runs_longestTurns_74 : decode b_Runs_longestTurns 74 = .ok (.iconst 0, 1) := by decide +kernel
theorem d_Runs_longestTurns_75 : decode b_Runs_longestTurns 75 = .ok (.istore_n 2, 1) := by decide +kernel
theorem d_Runs_longestTurns_76 : decode b_Runs_longestTurns 76 = .ok (.iload_n 2, 1) := by decide +kernel
theorem d_Runs_longestTurns_77 : decode b_Runs_longestTurns 77 = .ok (.sipush 4096, 3) := by decide +kernel
theorem d_Runs_longestTurns_80 : decode b_Runs_longestTurns 80 = .ok (.if_icmp .ge 37, 3) := by decide +kernel
theorem d_Runs_longestTurns_83 : decode b_Runs_longestTurns 83 = .ok (.iload_n 2, 1) := by decide +kernel
theorem d_Runs_longestTurns_84 : decode b_Runs_longestTurns 84 = .ok (.aload_n 0, 1) := by decide +kernel
theorem d_Runs_longestTurns_85 : decode b_Runs_longestTurns 85 = .ok (.getfield 49, 3) := by decide +kernel
theorem d_Runs_longestTurns_88 : decode b_Runs_longestTurns 88 = .ok (.invokevirtual 86, 3) := by decide +kernel
theorem d_Runs_longestTurns_91 : decode b_Runs_longestTurns 91 = .ok (.if_icmp .ge 26, 3) := by decide +kernel
theorem d_Runs_longestTurns_94 : decode b_Runs_longestTurns 94 = .ok (.iload_n 1, 1) := by decide +kernel
theorem d_Runs_longestTurns_95 : decode b_Runs_longestTurns 95 = .ok (.aload_n 0, 1) := by decide +kernel
theorem d_Runs_longestTurns_96 : decode b_Runs_longestTurns 96 = .ok (.aload_n 0, 1) := by decide +kernel
theorem d_Runs_longestTurns_97 : decode b_Runs_longestTurns 97 = .ok (.getfield 49, 3) := by decide +kernel
theorem d_Runs_longestTurns_100 : decode b_Runs_longestTurns 100 = .ok (.iload_n 2, 1) := by decide +kernel
theorem d_Runs_longestTurns_101 : decode b_Runs_longestTurns 101 = .ok (.invokevirtual 90, 3) := by decide +kernel
theorem d_Runs_longestTurns_104 : decode b_Runs_longestTurns 104 = .ok (.invokevirtual 144, 3) := by decide +kernel
theorem d_Runs_longestTurns_107 : decode b_Runs_longestTurns 107 = .ok (.invokestatic 147, 3) := by decide +kernel
theorem d_Runs_longestTurns_110 : decode b_Runs_longestTurns 110 = .ok (.istore_n 1, 1) := by decide +kernel
theorem d_Runs_longestTurns_111 : decode b_Runs_longestTurns 111 = .ok (.iinc 2 1, 3) := by decide +kernel
theorem d_Runs_longestTurns_114 : decode b_Runs_longestTurns 114 = .ok (.goto (-38), 3) := by decide +kernel
theorem d_Runs_longestTurns_117 : decode b_Runs_longestTurns 117 = .ok (.aload_n 0, 1) := by decide +kernel
theorem d_Runs_longestTurns_118 : decode b_Runs_longestTurns 118 = .ok (.getfield 49, 3) := by decide +kernel
theorem d_Runs_longestTurns_121 : decode b_Runs_longestTurns 121 = .ok (.invokevirtual 86, 3) := by decide +kernel
theorem d_Runs_longestTurns_124 : decode b_Runs_longestTurns 124 = .ok (.aload_n 0, 1) := by decide +kernel
theorem d_Runs_longestTurns_125 : decode b_Runs_longestTurns 125 = .ok (.getfield 18, 3) := by decide +kernel
theorem d_Runs_longestTurns_128 : decode b_Runs_longestTurns 128 = .ok (.if_icmp .ge 9, 3) := by decide +kernel
theorem d_Runs_longestTurns_131 : decode b_Runs_longestTurns 131 = .ok (.sipush 5000, 3) := by decide +kernel
theorem d_Runs_longestTurns_134 : decode b_Runs_longestTurns 134 = .ok (.goto 4, 3) := by decide +kernel
theorem d_Runs_longestTurns_137 : decode b_Runs_longestTurns 137 = .ok (.iload_n 1, 1) := by decide +kernel
theorem d_Runs_longestTurns_138 : decode b_Runs_longestTurns 138 = .ok (.ireturn, 1) := by decide +kernel
set_option maxHeartbeats 4000000 in
set_option maxRecDepth 100000 in
theorem c_Runs_reach (l : Launch) (dC : Nat → ClassId) (dI : Nat → Nat → Nat) (cI cB cZ : ClassId) (adK adV : Nat → Nat) (sz : Nat) (a_lp a_lp_facts a_lp_turns a_lp_first a_lp_src a_s1 a_wk a_wk_items a_rn a_rn_levels a_rn_path a_s2 : Nat) (lp_choices : Int32) (lp_guesses : Int32) (lp_unaries : Int32) (lp_ranked : Int32) (lp_facts : Nat → Int32) (wk_size : Int32) (wk_items : Nat → Int32) (rn_reached : Int32) (rn_greatestLevel : Int32) (rn_pathSize : Int32) (rn_levels : Nat → Int32) (x1 : Int32) (x2 : Int32) (post : (Nat → Int32) → Int32 → (Nat → Int32) → (Nat → Int32) → Prop) (h : wp_Runs_reach x1 x2 lp_facts wk_size wk_items rn_levels post) : Met l y_Runs_reach w_Runs_reach ({ frames := 2, cells := 0, slots := 0, locals := 41 }) (pc_ (dC, dI) [(cI, .int), (cB, .byte), (cZ, .boolean)] [(a_lp, .inr (4, [.ref a_lp_facts, .ref a_lp_turns, .ref a_lp_first, .ref a_lp_src, .ref a_s1, .int lp_choices, .int lp_guesses, .int lp_unaries, .int lp_ranked])), (a_lp_facts, .inl (cI, 4096, .inl lp_facts)), (a_wk, .inr (10, [.ref a_wk_items, .int wk_size])), (a_wk_items, .inl (cI, 4096, .inl wk_items)), (a_rn, .inr (6, [.ref a_lp, .ref a_rn_levels, .ref a_rn_path, .ref a_s1, .ref a_s2, .ref a_wk, .int rn_reached, .int rn_greatestLevel, .int rn_pathSize])), (a_rn_levels, .inl (cI, 4096, .inl rn_levels))] sz adK adV [.ref a_rn, .int x1, .int x2]) (va_Qv (fun (u : (Nat → Int32) × Int32 × (Nat → Int32) × (Nat → Int32)) => post u.1 u.2.1 u.2.2.1 u.2.2.2) (fun (u : (Nat → Int32) × Int32 × (Nat → Int32) × (Nat → Int32)) t => bw_ (dC, dI) [(cI, .int), (cB, .byte), (cZ, .boolean)] (va_A [(a_lp, .inr (4, [.ref a_lp_facts, .ref a_lp_turns, .ref a_lp_first, .ref a_lp_src, .ref a_s1, .int lp_choices, .int lp_guesses, .int lp_unaries, .int lp_ranked])), (a_lp_facts, .inl (cI, 4096, .inl lp_facts)), (a_wk, .inr (10, [.ref a_wk_items, .int wk_size])), (a_wk_items, .inl (cI, 4096, .inl wk_items)), (a_rn, .inr (6, [.ref a_lp, .ref a_rn_levels, .ref a_rn_path, .ref a_s1, .ref a_s2, .ref a_wk, .int rn_reached, .int rn_greatestLevel, .int rn_pathSize])), (a_rn_levels, .inl (cI, 4096, .inl rn_levels))] sz) [(a_lp, .inr (4, [.ref a_lp_facts, .ref a_lp_turns, .ref a_lp_first, .ref a_lp_src, .ref a_s1, .int lp_choices, .int lp_guesses, .int lp_unaries, .int lp_ranked])), (a_lp_facts, .inl (cI, 4096, .inl u.1)), (a_wk, .inr (10, [.ref a_wk_items, .int u.2.1])), (a_wk_items, .inl (cI, 4096, .inl u.2.2.1)), (a_rn, .inr (6, [.ref a_lp, .ref a_rn_levels, .ref a_rn_path, .ref a_s1, .ref a_s2, .ref a_wk, .int rn_reached, .int rn_greatestLevel, .int rn_pathSize])), (a_rn_levels, .inl (cI, 4096, .inl u.2.2.2))] t) (va_A [(a_lp, .inr (4, [.ref a_lp_facts, .ref a_lp_turns, .ref a_lp_first, .ref a_lp_src, .ref a_s1, .int lp_choices, .int lp_guesses, .int lp_unaries, .int lp_ranked])), (a_lp_facts, .inl (cI, 4096, .inl lp_facts)), (a_wk, .inr (10, [.ref a_wk_items, .int wk_size])), (a_wk_items, .inl (cI, 4096, .inl wk_items)), (a_rn, .inr (6, [.ref a_lp, .ref a_rn_levels, .ref a_rn_path, .ref a_s1, .ref a_s2, .ref a_wk, .int rn_reached, .int rn_greatestLevel, .int rn_pathSize])), (a_rn_levels, .inl (cI, 4096, .inl rn_levels))] sz)) 0 0 (va_A [(a_lp, .inr (4, [.ref a_lp_facts, .ref a_lp_turns, .ref a_lp_first, .ref a_lp_src, .ref a_s1, .int lp_choices, .int lp_guesses, .int lp_unaries, .int lp_ranked])), (a_lp_facts, .inl (cI, 4096, .inl lp_facts)), (a_wk, .inr (10, [.ref a_wk_items, .int wk_size])), (a_wk_items, .inl (cI, 4096, .inl wk_items)), (a_rn, .inr (6, [.ref a_lp, .ref a_rn_levels, .ref a_rn_path, .ref a_s1, .ref a_s2, .ref a_wk, .int rn_reached, .int rn_greatestLevel, .int rn_pathSize])), (a_rn_levels, .inl (cI, 4096, .inl rn_levels))] sz) := by
  refine Met.ofW (cc := b_Runs_reach) (maxL := 3) (ret := none) (by decide) rfl ?_
  intro p e s m args below meth c s₁ B hml hv
  obtain ⟨rfl, hsz, hP, hK, hD0, hN, hT⟩ := hv
  have hx := B.exec
  have hb := B.bytes
  have hr := B.returns
  have hts := atoms_spec (ws := w_Runs_reach) B.pre
  have hown : s.vm.findClass "LoopInduction$Runs" = some m.cls := findClass_of_methodNamed B.named
  have hlocks := B.notSynchronized
  subst hsz
  have hD := hD0.self (sz := s.heap.size)
  generalize hAe : va_A [(a_lp, .inr (4, [.ref a_lp_facts, .ref a_lp_turns, .ref a_lp_first, .ref a_lp_src, .ref a_s1, .int lp_choices, .int lp_guesses, .int lp_unaries, .int lp_ranked])), (a_lp_facts, .inl (cI, 4096, .inl lp_facts)), (a_wk, .inr (10, [.ref a_wk_items, .int wk_size])), (a_wk_items, .inl (cI, 4096, .inl wk_items)), (a_rn, .inr (6, [.ref a_lp, .ref a_rn_levels, .ref a_rn_path, .ref a_s1, .ref a_s2, .ref a_wk, .int rn_reached, .int rn_greatestLevel, .int rn_pathSize])), (a_rn_levels, .inl (cI, 4096, .inl rn_levels))] s.heap.size = A at hD hT ⊢
  have hA : ∀ q : Nat, s.heap.size ≤ q → A q := fun q h => by rw [← hAe]; exact Or.inr h
  have hS : va_S A s.heap s.heap [] := va_S.rf
  generalize hQ : MQ below _ _ s 0 0 _ = QQ
  have hl := lv_entry ([.ref a_rn, .int x1, .int x2]) (n := 3) (Nat.le_of_ble_eq_true rfl)
  rw [lg_entry_eq]
  generalize (lg_sl ([.ref a_rn, .int x1, .int x2]) ++ List.replicate (3 - (lg_sl ([.ref a_rn, .int x1, .int x2])).length) Slot.unset).toArray = ls at hl ⊢
  have hl : lv_has ls 3 [(0, .ref a_rn), (1, .int x1), (2, .int x2)] := hl
  have fl_9 := (hts _ (List.mem_cons_of_mem _ m_298))
  have fl_28 := (hts _ (List.mem_cons_of_mem _ m_297))
  have fl_49 := (hts _ (List.mem_cons_of_mem _ m_302))
  refine lv_iload_n hx hb d_Runs_reach_0 rfl (lv_at hl 1 rfl) ?_
  refine jn_i (wr := [(a_lp, .inr (4, [.ref a_lp_facts, .ref a_lp_turns, .ref a_lp_first, .ref a_lp_src, .ref a_s1, .int lp_choices, .int lp_guesses, .int lp_unaries, .int lp_ranked])), (a_lp_facts, .inl (cI, 4096, .inl lp_facts)), (a_wk, .inr (10, [.ref a_wk_items, .int wk_size])), (a_wk_items, .inl (cI, 4096, .inl wk_items)), (a_rn, .inr (6, [.ref a_lp, .ref a_rn_levels, .ref a_rn_path, .ref a_s1, .ref a_s2, .ref a_wk, .int rn_reached, .int rn_greatestLevel, .int rn_pathSize])), (a_rn_levels, .inl (cI, 4096, .inl rn_levels))]) (va_runSN (As := [.int x1]) (rest := []) ⟨hx, hb, hml, hown, hts⟩ (c_LI_isState l dC dI cI cB cZ adK adV _ x1 _ h) ⟨va_cnB 1 hts (ga_ m_762) rfl rfl rfl (hN _ (List.mem_of_getElem? (i := 5) rfl)) (hts _ (List.mem_cons_of_mem _ m_85)) pn_LI_isState ⟨Nat.le_of_ble_eq_true rfl, Nat.le_of_ble_eq_true rfl⟩, (hts _ (List.mem_cons_of_mem _ m_761)), trivial⟩ ⟨pc_blind, pc_of (hP.sub [] rfl) hK (hD.sub [] (by decide) rfl) hN hT hS hA⟩ rfl rfl hl.1 rfl (lv_room (Nat.le_of_ble_eq_true rfl)) d_Runs_reach_1 ⟨Nat.zero_le _, Nat.zero_le _⟩) hP hD hS hA [] [0, 1, 2, 3, 4, 5] rfl rfl (by decide) (by decide) (fun r_1 u_ H locs h hP hD hS => ?_)
  have hP : va_P (dC, dI) vwCl [(a_lp, .inr (4, [.ref a_lp_facts, .ref a_lp_turns, .ref a_lp_first, .ref a_lp_src, .ref a_s1, .int lp_choices, .int lp_guesses, .int lp_unaries, .int lp_ranked])), (a_lp_facts, .inl (cI, 4096, .inl lp_facts)), (a_wk, .inr (10, [.ref a_wk_items, .int wk_size])), (a_wk_items, .inl (cI, 4096, .inl wk_items)), (a_rn, .inr (6, [.ref a_lp, .ref a_rn_levels, .ref a_rn_path, .ref a_s1, .ref a_s2, .ref a_wk, .int rn_reached, .int rn_greatestLevel, .int rn_pathSize])), (a_rn_levels, .inl (cI, 4096, .inl rn_levels))] H := hP
  have hD : va_D A [(a_lp, .inr (4, [.ref a_lp_facts, .ref a_lp_turns, .ref a_lp_first, .ref a_lp_src, .ref a_s1, .int lp_choices, .int lp_guesses, .int lp_unaries, .int lp_ranked])), (a_lp_facts, .inl (cI, 4096, .inl lp_facts)), (a_wk, .inr (10, [.ref a_wk_items, .int wk_size])), (a_wk_items, .inl (cI, 4096, .inl wk_items)), (a_rn, .inr (6, [.ref a_lp, .ref a_rn_levels, .ref a_rn_path, .ref a_s1, .ref a_s2, .ref a_wk, .int rn_reached, .int rn_greatestLevel, .int rn_pathSize])), (a_rn_levels, .inl (cI, 4096, .inl rn_levels))] := hD
  refine lv_if_eq (tgt := 40) hx hb d_Runs_reach_4 (by decide) (fun c_4 => ?_) (fun c_4 => ?_)
  · have h := And.left h c_4
    rw [← hQ]
    have hP9 := hP
    have hD9 := hD
    exact W.vret hx hb hr (fun t ht hW => ⟨⟨(lp_facts, wk_size, wk_items, rn_levels), rfl, h, by rw [ht]; exact hP9, va_K.moved hW.alike hK, hD9⟩, hS.F ht⟩) hS.2.2 d_Runs_reach_40
  · have h := And.right h c_4
    refine lv_aload_n hx hb d_Runs_reach_7 rfl (lv_at hl 0 rfl) ?_
    refine va_get (D := (dC, dI)) (ci := 6) (v := .ref a_rn_levels) (C := "LoopInduction$Runs") (T := F_Runs) (N := 9) hx hb hts iC_Runs hown hK hP 4 rfl rfl 1 (by decide) fl_9 (fun _ h9 => h9) rfl d_Runs_reach_8 ?_
    refine lv_iload_n hx hb d_Runs_reach_11 rfl (lv_at hl 1 rfl) ?_
    obtain ⟨hin_12, h⟩ := h
    refine va_iald hx hb hK hP 5 0 rfl rfl hin_12 d_Runs_reach_12 ?_
    refine lv_iconst (v := (-1)) hx hb d_Runs_reach_13 (by decide) ?_
    refine lv_icmp_ne (tgt := 40) hx hb d_Runs_reach_14 (by decide) (fun c_14 => ?_) (fun c_14 => ?_)
    · have h := And.left h c_14
      rw [← hQ]
      have hP9 := hP
      have hD9 := hD
      exact W.vret hx hb hr (fun t ht hW => ⟨⟨(lp_facts, wk_size, wk_items, rn_levels), rfl, h, by rw [ht]; exact hP9, va_K.moved hW.alike hK, hD9⟩, hS.F ht⟩) hS.2.2 d_Runs_reach_40
    · have h := And.right h c_14
      refine lv_aload_n hx hb d_Runs_reach_17 rfl (lv_at hl 0 rfl) ?_
      refine va_get (D := (dC, dI)) (ci := 6) (v := .ref a_rn_levels) (C := "LoopInduction$Runs") (T := F_Runs) (N := 9) hx hb hts iC_Runs hown hK hP 4 rfl rfl 1 (by decide) fl_9 (fun _ h9 => h9) rfl d_Runs_reach_18 ?_
      refine lv_iload_n hx hb d_Runs_reach_21 rfl (lv_at hl 1 rfl) ?_
      refine lv_iload_n hx hb d_Runs_reach_22 rfl (lv_at hl 2 rfl) ?_
      obtain ⟨hin_23, h⟩ := h
      refine va_iast hx hb hK hP hD hS 5 0 rfl rfl hin_23 d_Runs_reach_23 (fun H locs hP hD hS => ?_)
      have hP : va_P (dC, dI) vwCl [(a_lp, .inr (4, [.ref a_lp_facts, .ref a_lp_turns, .ref a_lp_first, .ref a_lp_src, .ref a_s1, .int lp_choices, .int lp_guesses, .int lp_unaries, .int lp_ranked])), (a_lp_facts, .inl (cI, 4096, .inl lp_facts)), (a_wk, .inr (10, [.ref a_wk_items, .int wk_size])), (a_wk_items, .inl (cI, 4096, .inl wk_items)), (a_rn, .inr (6, [.ref a_lp, .ref a_rn_levels, .ref a_rn_path, .ref a_s1, .ref a_s2, .ref a_wk, .int rn_reached, .int rn_greatestLevel, .int rn_pathSize])), (a_rn_levels, .inl (cI, 4096, .inl (upd rn_levels (x1 : Int32).toNatClampNeg x2)))] H := hP
      have hD : va_D A [(a_lp, .inr (4, [.ref a_lp_facts, .ref a_lp_turns, .ref a_lp_first, .ref a_lp_src, .ref a_s1, .int lp_choices, .int lp_guesses, .int lp_unaries, .int lp_ranked])), (a_lp_facts, .inl (cI, 4096, .inl lp_facts)), (a_wk, .inr (10, [.ref a_wk_items, .int wk_size])), (a_wk_items, .inl (cI, 4096, .inl wk_items)), (a_rn, .inr (6, [.ref a_lp, .ref a_rn_levels, .ref a_rn_path, .ref a_s1, .ref a_s2, .ref a_wk, .int rn_reached, .int rn_greatestLevel, .int rn_pathSize])), (a_rn_levels, .inl (cI, 4096, .inl (upd rn_levels (x1 : Int32).toNatClampNeg x2)))] := hD
      refine lv_aload_n hx hb d_Runs_reach_24 rfl (lv_at hl 0 rfl) ?_
      refine va_get (D := (dC, dI)) (ci := 6) (v := .ref a_lp) (C := "LoopInduction$Runs") (T := F_Runs) (N := 9) hx hb hts iC_Runs hown hK hP 4 rfl rfl 0 (by decide) fl_28 (fun _ h9 => h9) rfl d_Runs_reach_25 ?_
      refine lv_iload_n hx hb d_Runs_reach_28 rfl (lv_at hl 1 rfl) ?_
      refine jn_v (wr := [(a_wk, .inr (10, [.ref a_wk_items, .int wk_size])), (a_wk_items, .inl (cI, 4096, .inl wk_items)), (a_rn, .inr (6, [.ref a_lp, .ref a_rn_levels, .ref a_rn_path, .ref a_s1, .ref a_s2, .ref a_wk, .int rn_reached, .int rn_greatestLevel, .int rn_pathSize])), (a_rn_levels, .inl (cI, 4096, .inl (upd rn_levels (x1 : Int32).toNatClampNeg x2)))]) (va_runV (As := [.int x1]) (rest := []) ⟨hx, hb, hml, hown, hts⟩ (c_Loop_markReached l dC dI cI cB cZ adK adV _ a_lp a_lp_facts a_lp_turns a_lp_first a_lp_src a_s1 lp_choices lp_guesses lp_unaries lp_ranked lp_facts x1 _ h) (cwV 1 hts (gv_ m_793 m_794 m_795 m_92 m_796) rfl rfl rfl pd_Loop_markReached ⟨Nat.le_of_ble_eq_true rfl, Nat.le_of_ble_eq_true rfl⟩) ⟨pc_blind, va_recv hK hP (ci := 4) (q0 := 0) rfl rfl, pc_of (hP.sub [0, 1] rfl) hK (hD.sub [0, 1] (by decide) rfl) hN hT hS hA⟩ rfl rfl hl.1 rfl (lv_room (Nat.le_of_ble_eq_true rfl)) d_Runs_reach_29 ⟨Nat.zero_le _, Nat.zero_le _⟩) hP hD hS hA [0, 1] [2, 3, 4, 5] rfl rfl (by decide) (by decide) (fun lp_facts_2 H locs h hP hD hS => ?_)
      have hP : va_P (dC, dI) vwCl [(a_wk, .inr (10, [.ref a_wk_items, .int wk_size])), (a_wk_items, .inl (cI, 4096, .inl wk_items)), (a_rn, .inr (6, [.ref a_lp, .ref a_rn_levels, .ref a_rn_path, .ref a_s1, .ref a_s2, .ref a_wk, .int rn_reached, .int rn_greatestLevel, .int rn_pathSize])), (a_rn_levels, .inl (cI, 4096, .inl (upd rn_levels (x1 : Int32).toNatClampNeg x2))), (a_lp, .inr (4, [.ref a_lp_facts, .ref a_lp_turns, .ref a_lp_first, .ref a_lp_src, .ref a_s1, .int lp_choices, .int lp_guesses, .int lp_unaries, .int lp_ranked])), (a_lp_facts, .inl (cI, 4096, .inl lp_facts_2))] H := hP
      have hD : va_D A [(a_wk, .inr (10, [.ref a_wk_items, .int wk_size])), (a_wk_items, .inl (cI, 4096, .inl wk_items)), (a_rn, .inr (6, [.ref a_lp, .ref a_rn_levels, .ref a_rn_path, .ref a_s1, .ref a_s2, .ref a_wk, .int rn_reached, .int rn_greatestLevel, .int rn_pathSize])), (a_rn_levels, .inl (cI, 4096, .inl (upd rn_levels (x1 : Int32).toNatClampNeg x2))), (a_lp, .inr (4, [.ref a_lp_facts, .ref a_lp_turns, .ref a_lp_first, .ref a_lp_src, .ref a_s1, .int lp_choices, .int lp_guesses, .int lp_unaries, .int lp_ranked])), (a_lp_facts, .inl (cI, 4096, .inl lp_facts_2))] := hD
      refine lv_aload_n hx hb d_Runs_reach_32 rfl (lv_at hl 0 rfl) ?_
      refine va_get (D := (dC, dI)) (ci := 6) (v := .ref a_wk) (C := "LoopInduction$Runs") (T := F_Runs) (N := 9) hx hb hts iC_Runs hown hK hP 2 rfl rfl 5 (by decide) fl_49 (fun _ h9 => h9) rfl d_Runs_reach_33 ?_
      refine lv_iload_n hx hb d_Runs_reach_36 rfl (lv_at hl 1 rfl) ?_
      refine jn_v (wr := [(a_rn, .inr (6, [.ref a_lp, .ref a_rn_levels, .ref a_rn_path, .ref a_s1, .ref a_s2, .ref a_wk, .int rn_reached, .int rn_greatestLevel, .int rn_pathSize])), (a_rn_levels, .inl (cI, 4096, .inl (upd rn_levels (x1 : Int32).toNatClampNeg x2))), (a_lp, .inr (4, [.ref a_lp_facts, .ref a_lp_turns, .ref a_lp_first, .ref a_lp_src, .ref a_s1, .int lp_choices, .int lp_guesses, .int lp_unaries, .int lp_ranked])), (a_lp_facts, .inl (cI, 4096, .inl lp_facts_2))]) (va_runV (As := [.int x1]) (rest := []) ⟨hx, hb, hml, hown, hts⟩ (c_Work_put l dC dI cI cB cZ adK adV _ a_wk a_wk_items wk_size wk_items x1 _ h) (cwV 1 hts (gv_ m_797 m_798 m_799 m_91 m_800) rfl rfl rfl pd_Work_put ⟨Nat.le_of_ble_eq_true rfl, Nat.le_of_ble_eq_true rfl⟩) ⟨pc_blind, va_recv hK hP (ci := 10) (q0 := 0) rfl rfl, pc_of (hP.sub [0, 1] rfl) hK (hD.sub [0, 1] (by decide) rfl) hN hT hS hA⟩ rfl rfl hl.1 rfl (lv_room (Nat.le_of_ble_eq_true rfl)) d_Runs_reach_37 ⟨Nat.zero_le _, Nat.zero_le _⟩) hP hD hS hA [0, 1] [2, 3, 4, 5] rfl rfl (by decide) (by decide) (fun u_ H locs h hP hD hS => ?_)
      obtain ⟨wk_size_3, wk_items_4⟩ := u_
      have hP : va_P (dC, dI) vwCl [(a_rn, .inr (6, [.ref a_lp, .ref a_rn_levels, .ref a_rn_path, .ref a_s1, .ref a_s2, .ref a_wk, .int rn_reached, .int rn_greatestLevel, .int rn_pathSize])), (a_rn_levels, .inl (cI, 4096, .inl (upd rn_levels (x1 : Int32).toNatClampNeg x2))), (a_lp, .inr (4, [.ref a_lp_facts, .ref a_lp_turns, .ref a_lp_first, .ref a_lp_src, .ref a_s1, .int lp_choices, .int lp_guesses, .int lp_unaries, .int lp_ranked])), (a_lp_facts, .inl (cI, 4096, .inl lp_facts_2)), (a_wk, .inr (10, [.ref a_wk_items, .int wk_size_3])), (a_wk_items, .inl (cI, 4096, .inl wk_items_4))] H := hP
      have hD : va_D A [(a_rn, .inr (6, [.ref a_lp, .ref a_rn_levels, .ref a_rn_path, .ref a_s1, .ref a_s2, .ref a_wk, .int rn_reached, .int rn_greatestLevel, .int rn_pathSize])), (a_rn_levels, .inl (cI, 4096, .inl (upd rn_levels (x1 : Int32).toNatClampNeg x2))), (a_lp, .inr (4, [.ref a_lp_facts, .ref a_lp_turns, .ref a_lp_first, .ref a_lp_src, .ref a_s1, .int lp_choices, .int lp_guesses, .int lp_unaries, .int lp_ranked])), (a_lp_facts, .inl (cI, 4096, .inl lp_facts_2)), (a_wk, .inr (10, [.ref a_wk_items, .int wk_size_3])), (a_wk_items, .inl (cI, 4096, .inl wk_items_4))] := hD
      rw [← hQ]
      have hP9 := hP.sub (ws' := [(a_lp, .inr (4, [.ref a_lp_facts, .ref a_lp_turns, .ref a_lp_first, .ref a_lp_src, .ref a_s1, .int lp_choices, .int lp_guesses, .int lp_unaries, .int lp_ranked])), (a_lp_facts, .inl (cI, 4096, .inl lp_facts_2)), (a_wk, .inr (10, [.ref a_wk_items, .int wk_size_3])), (a_wk_items, .inl (cI, 4096, .inl wk_items_4)), (a_rn, .inr (6, [.ref a_lp, .ref a_rn_levels, .ref a_rn_path, .ref a_s1, .ref a_s2, .ref a_wk, .int rn_reached, .int rn_greatestLevel, .int rn_pathSize])), (a_rn_levels, .inl (cI, 4096, .inl (upd rn_levels (x1 : Int32).toNatClampNeg x2)))]) [2, 3, 4, 5, 0, 1] rfl
      have hD9 := hD.sub (ws' := [(a_lp, .inr (4, [.ref a_lp_facts, .ref a_lp_turns, .ref a_lp_first, .ref a_lp_src, .ref a_s1, .int lp_choices, .int lp_guesses, .int lp_unaries, .int lp_ranked])), (a_lp_facts, .inl (cI, 4096, .inl lp_facts_2)), (a_wk, .inr (10, [.ref a_wk_items, .int wk_size_3])), (a_wk_items, .inl (cI, 4096, .inl wk_items_4)), (a_rn, .inr (6, [.ref a_lp, .ref a_rn_levels, .ref a_rn_path, .ref a_s1, .ref a_s2, .ref a_wk, .int rn_reached, .int rn_greatestLevel, .int rn_pathSize])), (a_rn_levels, .inl (cI, 4096, .inl (upd rn_levels (x1 : Int32).toNatClampNeg x2)))]) [2, 3, 4, 5, 0, 1] (by decide) rfl
      exact W.vret hx hb hr (fun t ht hW => ⟨⟨(lp_facts_2, wk_size_3, wk_items_4, upd rn_levels (x1 : Int32).toNatClampNeg x2), rfl, h, by rw [ht]; exact hP9, va_K.moved hW.alike hK, hD9⟩, hS.F ht⟩) hS.2.2 d_Runs_reach_40
set_option maxHeartbeats 4000000 in
set_option maxRecDepth 100000 in
theorem c_Runs_levelOf (l : Launch) (dC : Nat → ClassId) (dI : Nat → Nat → Nat) (cI cB cZ : ClassId) (adK adV : Nat → Nat) (sz : Nat) (a_rn a_lp a_rn_levels a_rn_path a_s1 a_s2 a_wk : Nat) (rn_reached : Int32) (rn_greatestLevel : Int32) (rn_pathSize : Int32) (rn_levels : Nat → Int32) (x1 : Int32) (post : Int32 → Prop) (h : wp_Runs_levelOf x1 rn_levels post) : Met l y_Runs_levelOf w_Runs_levelOf ({ frames := 1, cells := 0, slots := 0, locals := 20 }) (pc_ (dC, dI) [(cI, .int), (cB, .byte), (cZ, .boolean)] [(a_rn, .inr (6, [.ref a_lp, .ref a_rn_levels, .ref a_rn_path, .ref a_s1, .ref a_s2, .ref a_wk, .int rn_reached, .int rn_greatestLevel, .int rn_pathSize])), (a_rn_levels, .inl (cI, 4096, .inl rn_levels))] sz adK adV [.ref a_rn, .int x1]) (va_Qi (fun (r : Int32) (u : Unit) => post r ) (fun (u : Unit) t => bw_ (dC, dI) [(cI, .int), (cB, .byte), (cZ, .boolean)] (va_A [(a_rn, .inr (6, [.ref a_lp, .ref a_rn_levels, .ref a_rn_path, .ref a_s1, .ref a_s2, .ref a_wk, .int rn_reached, .int rn_greatestLevel, .int rn_pathSize])), (a_rn_levels, .inl (cI, 4096, .inl rn_levels))] sz) [(a_rn, .inr (6, [.ref a_lp, .ref a_rn_levels, .ref a_rn_path, .ref a_s1, .ref a_s2, .ref a_wk, .int rn_reached, .int rn_greatestLevel, .int rn_pathSize])), (a_rn_levels, .inl (cI, 4096, .inl rn_levels))] t) (va_A [(a_rn, .inr (6, [.ref a_lp, .ref a_rn_levels, .ref a_rn_path, .ref a_s1, .ref a_s2, .ref a_wk, .int rn_reached, .int rn_greatestLevel, .int rn_pathSize])), (a_rn_levels, .inl (cI, 4096, .inl rn_levels))] sz)) 0 0 (va_A [(a_rn, .inr (6, [.ref a_lp, .ref a_rn_levels, .ref a_rn_path, .ref a_s1, .ref a_s2, .ref a_wk, .int rn_reached, .int rn_greatestLevel, .int rn_pathSize])), (a_rn_levels, .inl (cI, 4096, .inl rn_levels))] sz) := by
  refine Met.ofW (cc := b_Runs_levelOf) (maxL := 2) (ret := (some .int)) (by decide) rfl ?_
  intro p e s m args below meth c s₁ B hml hv
  obtain ⟨rfl, hsz, hP, hK, hD0, hN, hT⟩ := hv
  have hx := B.exec
  have hb := B.bytes
  have hr := B.returns
  have hts := atoms_spec (ws := w_Runs_levelOf) B.pre
  have hown : s.vm.findClass "LoopInduction$Runs" = some m.cls := findClass_of_methodNamed B.named
  have hlocks := B.notSynchronized
  subst hsz
  have hD := hD0.self (sz := s.heap.size)
  generalize hAe : va_A [(a_rn, .inr (6, [.ref a_lp, .ref a_rn_levels, .ref a_rn_path, .ref a_s1, .ref a_s2, .ref a_wk, .int rn_reached, .int rn_greatestLevel, .int rn_pathSize])), (a_rn_levels, .inl (cI, 4096, .inl rn_levels))] s.heap.size = A at hD hT ⊢
  have hA : ∀ q : Nat, s.heap.size ≤ q → A q := fun q h => by rw [← hAe]; exact Or.inr h
  have hS : va_S A s.heap s.heap [] := va_S.rf
  generalize hQ : MQ below _ _ s 0 0 _ = QQ
  have hl := lv_entry ([.ref a_rn, .int x1]) (n := 2) (Nat.le_of_ble_eq_true rfl)
  rw [lg_entry_eq]
  generalize (lg_sl ([.ref a_rn, .int x1]) ++ List.replicate (2 - (lg_sl ([.ref a_rn, .int x1])).length) Slot.unset).toArray = ls at hl ⊢
  have hl : lv_has ls 2 [(0, .ref a_rn), (1, .int x1)] := hl
  have fl_9 := (hts _ (List.mem_cons_of_mem _ m_298))
  refine lv_iload_n hx hb d_Runs_levelOf_0 rfl (lv_at hl 1 rfl) ?_
  refine jn_i (wr := [(a_rn, .inr (6, [.ref a_lp, .ref a_rn_levels, .ref a_rn_path, .ref a_s1, .ref a_s2, .ref a_wk, .int rn_reached, .int rn_greatestLevel, .int rn_pathSize])), (a_rn_levels, .inl (cI, 4096, .inl rn_levels))]) (va_runSN (As := [.int x1]) (rest := []) ⟨hx, hb, hml, hown, hts⟩ (c_LI_isState l dC dI cI cB cZ adK adV _ x1 _ h) ⟨va_cnB 1 hts (ga_ m_762) rfl rfl rfl (hN _ (List.mem_of_getElem? (i := 5) rfl)) (hts _ (List.mem_cons_of_mem _ m_85)) pn_LI_isState ⟨Nat.le_of_ble_eq_true rfl, Nat.le_of_ble_eq_true rfl⟩, (hts _ (List.mem_cons_of_mem _ m_761)), trivial⟩ ⟨pc_blind, pc_of (hP.sub [] rfl) hK (hD.sub [] (by decide) rfl) hN hT hS hA⟩ rfl rfl hl.1 rfl (lv_room (Nat.le_of_ble_eq_true rfl)) d_Runs_levelOf_1 ⟨Nat.zero_le _, Nat.zero_le _⟩) hP hD hS hA [] [0, 1] rfl rfl (by decide) (by decide) (fun r_1 u_ H locs h hP hD hS => ?_)
  have hP : va_P (dC, dI) vwCl [(a_rn, .inr (6, [.ref a_lp, .ref a_rn_levels, .ref a_rn_path, .ref a_s1, .ref a_s2, .ref a_wk, .int rn_reached, .int rn_greatestLevel, .int rn_pathSize])), (a_rn_levels, .inl (cI, 4096, .inl rn_levels))] H := hP
  have hD : va_D A [(a_rn, .inr (6, [.ref a_lp, .ref a_rn_levels, .ref a_rn_path, .ref a_s1, .ref a_s2, .ref a_wk, .int rn_reached, .int rn_greatestLevel, .int rn_pathSize])), (a_rn_levels, .inl (cI, 4096, .inl rn_levels))] := hD
  refine lv_if_eq (tgt := 16) hx hb d_Runs_levelOf_4 (by decide) (fun c_4 => ?_) (fun c_4 => ?_)
  · have h := And.left h c_4
    refine lv_iconst (v := (-1)) hx hb d_Runs_levelOf_16 (by decide) ?_
    rw [← hQ]
    have hP9 := hP
    have hD9 := hD
    exact W.iret (v := (-1)) hx hb hr (fun t ht hW => ⟨⟨(-1), (), rfl, h, by rw [ht]; exact hP9, va_K.moved hW.alike hK, hD9⟩, hS.F ht⟩) hS.2.2 d_Runs_levelOf_17
  · have h := And.right h c_4
    refine lv_aload_n hx hb d_Runs_levelOf_7 rfl (lv_at hl 0 rfl) ?_
    refine va_get (D := (dC, dI)) (ci := 6) (v := .ref a_rn_levels) (C := "LoopInduction$Runs") (T := F_Runs) (N := 9) hx hb hts iC_Runs hown hK hP 0 rfl rfl 1 (by decide) fl_9 (fun _ h9 => h9) rfl d_Runs_levelOf_8 ?_
    refine lv_iload_n hx hb d_Runs_levelOf_11 rfl (lv_at hl 1 rfl) ?_
    obtain ⟨hin_12, h⟩ := h
    refine va_iald hx hb hK hP 1 0 rfl rfl hin_12 d_Runs_levelOf_12 ?_
    refine lv_goto (tgt := 17) hx hb d_Runs_levelOf_13 (by decide) ?_
    rw [← hQ]
    have hP9 := hP
    have hD9 := hD
    exact W.iret (v := rn_levels (x1 : Int32).toNatClampNeg) hx hb hr (fun t ht hW => ⟨⟨(rn_levels (x1 : Int32).toNatClampNeg), (), rfl, h, by rw [ht]; exact hP9, va_K.moved hW.alike hK, hD9⟩, hS.F ht⟩) hS.2.2 d_Runs_levelOf_17
set_option maxHeartbeats 4000000 in
set_option maxRecDepth 100000 in
theorem c_Runs_findLevels (l : Launch) (dC : Nat → ClassId) (dI : Nat → Nat → Nat) (cI cB cZ : ClassId) (adK adV : Nat → Nat) (sz : Nat) (a_lp a_lp_facts a_lp_turns a_lp_first a_lp_src a_s1 a_wk a_wk_items a_rn a_rn_levels a_rn_path a_s2 : Nat) (lp_choices : Int32) (lp_guesses : Int32) (lp_unaries : Int32) (lp_ranked : Int32) (lp_facts : Nat → Int32) (lp_turns : Nat → Int32) (wk_size : Int32) (wk_items : Nat → Int32) (rn_reached : Int32) (rn_greatestLevel : Int32) (rn_pathSize : Int32) (rn_levels : Nat → Int32) (post : (Nat → Int32) → Int32 → (Nat → Int32) → Int32 → Int32 → (Nat → Int32) → Prop) (h : wp_Runs_findLevels lp_choices lp_facts lp_turns wk_size wk_items rn_reached rn_greatestLevel rn_levels post) : Met l y_Runs_findLevels w_Runs_findLevels ({ frames := 3, cells := 0, slots := 0, locals := 63 }) (pc_ (dC, dI) [(cI, .int), (cB, .byte), (cZ, .boolean)] [(a_lp, .inr (4, [.ref a_lp_facts, .ref a_lp_turns, .ref a_lp_first, .ref a_lp_src, .ref a_s1, .int lp_choices, .int lp_guesses, .int lp_unaries, .int lp_ranked])), (a_lp_facts, .inl (cI, 4096, .inl lp_facts)), (a_lp_turns, .inl (cI, 24576, .inl lp_turns)), (a_wk, .inr (10, [.ref a_wk_items, .int wk_size])), (a_wk_items, .inl (cI, 4096, .inl wk_items)), (a_rn, .inr (6, [.ref a_lp, .ref a_rn_levels, .ref a_rn_path, .ref a_s1, .ref a_s2, .ref a_wk, .int rn_reached, .int rn_greatestLevel, .int rn_pathSize])), (a_rn_levels, .inl (cI, 4096, .inl rn_levels))] sz adK adV [.ref a_rn]) (va_Qv (fun (u : (Nat → Int32) × Int32 × (Nat → Int32) × Int32 × Int32 × (Nat → Int32)) => post u.1 u.2.1 u.2.2.1 u.2.2.2.1 u.2.2.2.2.1 u.2.2.2.2.2) (fun (u : (Nat → Int32) × Int32 × (Nat → Int32) × Int32 × Int32 × (Nat → Int32)) t => bw_ (dC, dI) [(cI, .int), (cB, .byte), (cZ, .boolean)] (va_A [(a_lp, .inr (4, [.ref a_lp_facts, .ref a_lp_turns, .ref a_lp_first, .ref a_lp_src, .ref a_s1, .int lp_choices, .int lp_guesses, .int lp_unaries, .int lp_ranked])), (a_lp_facts, .inl (cI, 4096, .inl lp_facts)), (a_lp_turns, .inl (cI, 24576, .inl lp_turns)), (a_wk, .inr (10, [.ref a_wk_items, .int wk_size])), (a_wk_items, .inl (cI, 4096, .inl wk_items)), (a_rn, .inr (6, [.ref a_lp, .ref a_rn_levels, .ref a_rn_path, .ref a_s1, .ref a_s2, .ref a_wk, .int rn_reached, .int rn_greatestLevel, .int rn_pathSize])), (a_rn_levels, .inl (cI, 4096, .inl rn_levels))] sz) [(a_lp, .inr (4, [.ref a_lp_facts, .ref a_lp_turns, .ref a_lp_first, .ref a_lp_src, .ref a_s1, .int lp_choices, .int lp_guesses, .int lp_unaries, .int lp_ranked])), (a_lp_facts, .inl (cI, 4096, .inl u.1)), (a_lp_turns, .inl (cI, 24576, .inl lp_turns)), (a_wk, .inr (10, [.ref a_wk_items, .int u.2.1])), (a_wk_items, .inl (cI, 4096, .inl u.2.2.1)), (a_rn, .inr (6, [.ref a_lp, .ref a_rn_levels, .ref a_rn_path, .ref a_s1, .ref a_s2, .ref a_wk, .int u.2.2.2.1, .int u.2.2.2.2.1, .int rn_pathSize])), (a_rn_levels, .inl (cI, 4096, .inl u.2.2.2.2.2))] t) (va_A [(a_lp, .inr (4, [.ref a_lp_facts, .ref a_lp_turns, .ref a_lp_first, .ref a_lp_src, .ref a_s1, .int lp_choices, .int lp_guesses, .int lp_unaries, .int lp_ranked])), (a_lp_facts, .inl (cI, 4096, .inl lp_facts)), (a_lp_turns, .inl (cI, 24576, .inl lp_turns)), (a_wk, .inr (10, [.ref a_wk_items, .int wk_size])), (a_wk_items, .inl (cI, 4096, .inl wk_items)), (a_rn, .inr (6, [.ref a_lp, .ref a_rn_levels, .ref a_rn_path, .ref a_s1, .ref a_s2, .ref a_wk, .int rn_reached, .int rn_greatestLevel, .int rn_pathSize])), (a_rn_levels, .inl (cI, 4096, .inl rn_levels))] sz)) 0 0 (va_A [(a_lp, .inr (4, [.ref a_lp_facts, .ref a_lp_turns, .ref a_lp_first, .ref a_lp_src, .ref a_s1, .int lp_choices, .int lp_guesses, .int lp_unaries, .int lp_ranked])), (a_lp_facts, .inl (cI, 4096, .inl lp_facts)), (a_lp_turns, .inl (cI, 24576, .inl lp_turns)), (a_wk, .inr (10, [.ref a_wk_items, .int wk_size])), (a_wk_items, .inl (cI, 4096, .inl wk_items)), (a_rn, .inr (6, [.ref a_lp, .ref a_rn_levels, .ref a_rn_path, .ref a_s1, .ref a_s2, .ref a_wk, .int rn_reached, .int rn_greatestLevel, .int rn_pathSize])), (a_rn_levels, .inl (cI, 4096, .inl rn_levels))] sz) := by
  refine Met.ofW (cc := b_Runs_findLevels) (maxL := 4) (ret := none) (by decide) rfl ?_
  intro p e s m args below meth c s₁ B hml hv
  obtain ⟨rfl, hsz, hP, hK, hD0, hN, hT⟩ := hv
  have hx := B.exec
  have hb := B.bytes
  have hr := B.returns
  have hts := atoms_spec (ws := w_Runs_findLevels) B.pre
  have hown : s.vm.findClass "LoopInduction$Runs" = some m.cls := findClass_of_methodNamed B.named
  have hlocks := B.notSynchronized
  subst hsz
  have hD := hD0.self (sz := s.heap.size)
  generalize hAe : va_A [(a_lp, .inr (4, [.ref a_lp_facts, .ref a_lp_turns, .ref a_lp_first, .ref a_lp_src, .ref a_s1, .int lp_choices, .int lp_guesses, .int lp_unaries, .int lp_ranked])), (a_lp_facts, .inl (cI, 4096, .inl lp_facts)), (a_lp_turns, .inl (cI, 24576, .inl lp_turns)), (a_wk, .inr (10, [.ref a_wk_items, .int wk_size])), (a_wk_items, .inl (cI, 4096, .inl wk_items)), (a_rn, .inr (6, [.ref a_lp, .ref a_rn_levels, .ref a_rn_path, .ref a_s1, .ref a_s2, .ref a_wk, .int rn_reached, .int rn_greatestLevel, .int rn_pathSize])), (a_rn_levels, .inl (cI, 4096, .inl rn_levels))] s.heap.size = A at hD hT ⊢
  have hA : ∀ q : Nat, s.heap.size ≤ q → A q := fun q h => by rw [← hAe]; exact Or.inr h
  have hS : va_S A s.heap s.heap [] := va_S.rf
  generalize hQ : MQ below _ _ s 0 0 _ = QQ
  have hl := lv_entry ([.ref a_rn]) (n := 4) (Nat.le_of_ble_eq_true rfl)
  rw [lg_entry_eq]
  generalize (lg_sl ([.ref a_rn]) ++ List.replicate (4 - (lg_sl ([.ref a_rn])).length) Slot.unset).toArray = ls at hl ⊢
  have hl : lv_has ls 4 [(0, .ref a_rn)] := hl
  have fl_9 := (hts _ (List.mem_cons_of_mem _ m_298))
  have fl_18 := (hts _ (List.mem_cons_of_mem _ m_303))
  have fl_22 := (hts _ (List.mem_cons_of_mem _ m_304))
  have fl_28 := (hts _ (List.mem_cons_of_mem _ m_297))
  have fl_49 := (hts _ (List.mem_cons_of_mem _ m_302))
  refine lv_aload_n hx hb d_Runs_findLevels_0 rfl (lv_at hl 0 rfl) ?_
  refine va_get (D := (dC, dI)) (ci := 6) (v := .ref a_rn_levels) (C := "LoopInduction$Runs") (T := F_Runs) (N := 9) hx hb hts iC_Runs hown hK hP 5 rfl rfl 1 (by decide) fl_9 (fun _ h9 => h9) rfl d_Runs_findLevels_1 ?_
  refine lv_iconst (v := (-1)) hx hb d_Runs_findLevels_4 (by decide) ?_
  refine jn_v (wr := [(a_lp, .inr (4, [.ref a_lp_facts, .ref a_lp_turns, .ref a_lp_first, .ref a_lp_src, .ref a_s1, .int lp_choices, .int lp_guesses, .int lp_unaries, .int lp_ranked])), (a_lp_facts, .inl (cI, 4096, .inl lp_facts)), (a_lp_turns, .inl (cI, 24576, .inl lp_turns)), (a_wk, .inr (10, [.ref a_wk_items, .int wk_size])), (a_wk_items, .inl (cI, 4096, .inl wk_items)), (a_rn, .inr (6, [.ref a_lp, .ref a_rn_levels, .ref a_rn_path, .ref a_s1, .ref a_s2, .ref a_wk, .int rn_reached, .int rn_greatestLevel, .int rn_pathSize]))]) (va_runS (As := [.ref a_rn_levels, .int (-1)]) (rest := []) ⟨hx, hb, hml, hown, hts⟩ (c_fill l dC dI cI cB cZ adK adV _ a_rn_levels 4096 rn_levels (-1) (by decide)) ⟨callB_of 2 hts (ga_ m_612) rfl rfl rfl (hts _ (List.mem_cons_of_mem _ m_103)) (hts _ (List.mem_cons_of_mem _ m_779)) pn_fill ⟨Nat.le_of_ble_eq_true rfl, Nat.le_of_ble_eq_true rfl⟩, (hts _ (List.mem_cons_of_mem _ m_611))⟩ ⟨pc_blind, pc_of (hP.sub [6] rfl) hK (hD.sub [6] (by decide) rfl) hN hT hS hA⟩ rfl rfl hl.1 rfl (lv_room (Nat.le_of_ble_eq_true rfl)) d_Runs_findLevels_5 ⟨Nat.zero_le _, Nat.zero_le _⟩) hP hD hS hA [6] [0, 1, 2, 3, 4, 5] rfl rfl (by decide) (by decide) (fun u_1 H locs eu_1 hP hD hS => ?_)
  subst eu_1
  have hP : va_P (dC, dI) vwCl [(a_lp, .inr (4, [.ref a_lp_facts, .ref a_lp_turns, .ref a_lp_first, .ref a_lp_src, .ref a_s1, .int lp_choices, .int lp_guesses, .int lp_unaries, .int lp_ranked])), (a_lp_facts, .inl (cI, 4096, .inl lp_facts)), (a_lp_turns, .inl (cI, 24576, .inl lp_turns)), (a_wk, .inr (10, [.ref a_wk_items, .int wk_size])), (a_wk_items, .inl (cI, 4096, .inl wk_items)), (a_rn, .inr (6, [.ref a_lp, .ref a_rn_levels, .ref a_rn_path, .ref a_s1, .ref a_s2, .ref a_wk, .int rn_reached, .int rn_greatestLevel, .int rn_pathSize])), (a_rn_levels, .inl (cI, 4096, .inl (vp_fill rn_levels 4096 (-1))))] H := hP
  have hD : va_D A [(a_lp, .inr (4, [.ref a_lp_facts, .ref a_lp_turns, .ref a_lp_first, .ref a_lp_src, .ref a_s1, .int lp_choices, .int lp_guesses, .int lp_unaries, .int lp_ranked])), (a_lp_facts, .inl (cI, 4096, .inl lp_facts)), (a_lp_turns, .inl (cI, 24576, .inl lp_turns)), (a_wk, .inr (10, [.ref a_wk_items, .int wk_size])), (a_wk_items, .inl (cI, 4096, .inl wk_items)), (a_rn, .inr (6, [.ref a_lp, .ref a_rn_levels, .ref a_rn_path, .ref a_s1, .ref a_s2, .ref a_wk, .int rn_reached, .int rn_greatestLevel, .int rn_pathSize])), (a_rn_levels, .inl (cI, 4096, .inl (vp_fill rn_levels 4096 (-1))))] := hD
  refine lv_aload_n hx hb d_Runs_findLevels_8 rfl (lv_at hl 0 rfl) ?_
  refine va_get (D := (dC, dI)) (ci := 6) (v := .ref a_wk) (C := "LoopInduction$Runs") (T := F_Runs) (N := 9) hx hb hts iC_Runs hown hK hP 5 rfl rfl 5 (by decide) fl_49 (fun _ h9 => h9) rfl d_Runs_findLevels_9 ?_
  refine jn_v (wr := [(a_lp, .inr (4, [.ref a_lp_facts, .ref a_lp_turns, .ref a_lp_first, .ref a_lp_src, .ref a_s1, .int lp_choices, .int lp_guesses, .int lp_unaries, .int lp_ranked])), (a_lp_facts, .inl (cI, 4096, .inl lp_facts)), (a_lp_turns, .inl (cI, 24576, .inl lp_turns)), (a_wk_items, .inl (cI, 4096, .inl wk_items)), (a_rn, .inr (6, [.ref a_lp, .ref a_rn_levels, .ref a_rn_path, .ref a_s1, .ref a_s2, .ref a_wk, .int rn_reached, .int rn_greatestLevel, .int rn_pathSize])), (a_rn_levels, .inl (cI, 4096, .inl (vp_fill rn_levels 4096 (-1))))]) (va_runV (As := []) (rest := []) ⟨hx, hb, hml, hown, hts⟩ (c_Work_clear l dC dI cI cB cZ adK adV _ a_wk a_wk_items wk_size _ h) (cwV 0 hts (gv_ m_780 m_781 m_782 m_91 m_783) rfl rfl rfl pd_Work_clear ⟨Nat.le_of_ble_eq_true rfl, Nat.le_of_ble_eq_true rfl⟩) ⟨pc_blind, va_recv hK hP (ci := 10) (q0 := 3) rfl rfl, pc_of (hP.sub [3] rfl) hK (hD.sub [3] (by decide) rfl) hN hT hS hA⟩ rfl rfl hl.1 rfl (lv_room (Nat.le_of_ble_eq_true rfl)) d_Runs_findLevels_12 ⟨Nat.zero_le _, Nat.zero_le _⟩) hP hD hS hA [3] [0, 1, 2, 4, 5, 6] rfl rfl (by decide) (by decide) (fun wk_size_2 H locs h hP hD hS => ?_)
  have hP : va_P (dC, dI) vwCl [(a_lp, .inr (4, [.ref a_lp_facts, .ref a_lp_turns, .ref a_lp_first, .ref a_lp_src, .ref a_s1, .int lp_choices, .int lp_guesses, .int lp_unaries, .int lp_ranked])), (a_lp_facts, .inl (cI, 4096, .inl lp_facts)), (a_lp_turns, .inl (cI, 24576, .inl lp_turns)), (a_wk_items, .inl (cI, 4096, .inl wk_items)), (a_rn, .inr (6, [.ref a_lp, .ref a_rn_levels, .ref a_rn_path, .ref a_s1, .ref a_s2, .ref a_wk, .int rn_reached, .int rn_greatestLevel, .int rn_pathSize])), (a_rn_levels, .inl (cI, 4096, .inl (vp_fill rn_levels 4096 (-1)))), (a_wk, .inr (10, [.ref a_wk_items, .int wk_size_2]))] H := hP
  have hD : va_D A [(a_lp, .inr (4, [.ref a_lp_facts, .ref a_lp_turns, .ref a_lp_first, .ref a_lp_src, .ref a_s1, .int lp_choices, .int lp_guesses, .int lp_unaries, .int lp_ranked])), (a_lp_facts, .inl (cI, 4096, .inl lp_facts)), (a_lp_turns, .inl (cI, 24576, .inl lp_turns)), (a_wk_items, .inl (cI, 4096, .inl wk_items)), (a_rn, .inr (6, [.ref a_lp, .ref a_rn_levels, .ref a_rn_path, .ref a_s1, .ref a_s2, .ref a_wk, .int rn_reached, .int rn_greatestLevel, .int rn_pathSize])), (a_rn_levels, .inl (cI, 4096, .inl (vp_fill rn_levels 4096 (-1)))), (a_wk, .inr (10, [.ref a_wk_items, .int wk_size_2]))] := hD
  refine lv_iconst (v := 0) hx hb d_Runs_findLevels_15 (by decide) ?_
  refine lv_istore_n (lv' := [(1, .int 0), (0, .ref a_rn)]) hx hb d_Runs_findLevels_16 rfl hl (by decide) rfl (fun ls hl => ?_)
  have L17_q_8 : ∀ (k48 : (Nat → Int32) → (Int32) → (Nat → Int32) → (Nat → Int32) → Prop) (hk48 : ∀ (lp_facts_9 : Nat → Int32) (wk_size_10 : Int32) (wk_items_11 : Nat → Int32) (rn_levels_12 : Nat → Int32), k48 lp_facts_9 wk_size_10 wk_items_11 rn_levels_12 → ∀ (H : Heap) (locs : List Loc), va_P (dC, dI) vwCl [(a_lp, .inr (4, [.ref a_lp_facts, .ref a_lp_turns, .ref a_lp_first, .ref a_lp_src, .ref a_s1, .int lp_choices, .int lp_guesses, .int lp_unaries, .int lp_ranked])), (a_lp_facts, .inl (cI, 4096, .inl lp_facts_9)), (a_lp_turns, .inl (cI, 24576, .inl lp_turns)), (a_wk_items, .inl (cI, 4096, .inl wk_items_11)), (a_rn, .inr (6, [.ref a_lp, .ref a_rn_levels, .ref a_rn_path, .ref a_s1, .ref a_s2, .ref a_wk, .int rn_reached, .int rn_greatestLevel, .int rn_pathSize])), (a_rn_levels, .inl (cI, 4096, .inl rn_levels_12)), (a_wk, .inr (10, [.ref a_wk_items, .int wk_size_10]))] H → va_D A [(a_lp, .inr (4, [.ref a_lp_facts, .ref a_lp_turns, .ref a_lp_first, .ref a_lp_src, .ref a_s1, .int lp_choices, .int lp_guesses, .int lp_unaries, .int lp_ranked])), (a_lp_facts, .inl (cI, 4096, .inl lp_facts_9)), (a_lp_turns, .inl (cI, 24576, .inl lp_turns)), (a_wk_items, .inl (cI, 4096, .inl wk_items_11)), (a_rn, .inr (6, [.ref a_lp, .ref a_rn_levels, .ref a_rn_path, .ref a_s1, .ref a_s2, .ref a_wk, .int rn_reached, .int rn_greatestLevel, .int rn_pathSize])), (a_rn_levels, .inl (cI, 4096, .inl rn_levels_12)), (a_wk, .inr (10, [.ref a_wk_items, .int wk_size_10]))] → va_S A s.heap H locs → ∀ ls : Array Slot, lv_has ls 4 [(0, .ref a_rn)] → W p l e (headSpec w_Runs_findLevels ({ frames := 3, cells := 0, slots := 0, locals := 63 })).room s m (([.ref a_rn] : List Value).toArray) below meth c H locs 0 0 QQ (F0 m 48 ls [])) (n : Nat) (x1_3 : Int32) (lp_facts_4 : Nat → Int32) (wk_size_5 : Int32) (wk_items_6 : Nat → Int32) (rn_levels_7 : Nat → Int32), wp_Runs_findLevels_L17 k48 n x1_3 lp_facts_4 wk_size_5 wk_items_6 rn_levels_7 → ∀ (H : Heap) (locs : List Loc), va_P (dC, dI) vwCl [(a_lp, .inr (4, [.ref a_lp_facts, .ref a_lp_turns, .ref a_lp_first, .ref a_lp_src, .ref a_s1, .int lp_choices, .int lp_guesses, .int lp_unaries, .int lp_ranked])), (a_lp_facts, .inl (cI, 4096, .inl lp_facts_4)), (a_lp_turns, .inl (cI, 24576, .inl lp_turns)), (a_wk_items, .inl (cI, 4096, .inl wk_items_6)), (a_rn, .inr (6, [.ref a_lp, .ref a_rn_levels, .ref a_rn_path, .ref a_s1, .ref a_s2, .ref a_wk, .int rn_reached, .int rn_greatestLevel, .int rn_pathSize])), (a_rn_levels, .inl (cI, 4096, .inl rn_levels_7)), (a_wk, .inr (10, [.ref a_wk_items, .int wk_size_5]))] H → va_D A [(a_lp, .inr (4, [.ref a_lp_facts, .ref a_lp_turns, .ref a_lp_first, .ref a_lp_src, .ref a_s1, .int lp_choices, .int lp_guesses, .int lp_unaries, .int lp_ranked])), (a_lp_facts, .inl (cI, 4096, .inl lp_facts_4)), (a_lp_turns, .inl (cI, 24576, .inl lp_turns)), (a_wk_items, .inl (cI, 4096, .inl wk_items_6)), (a_rn, .inr (6, [.ref a_lp, .ref a_rn_levels, .ref a_rn_path, .ref a_s1, .ref a_s2, .ref a_wk, .int rn_reached, .int rn_greatestLevel, .int rn_pathSize])), (a_rn_levels, .inl (cI, 4096, .inl rn_levels_7)), (a_wk, .inr (10, [.ref a_wk_items, .int wk_size_5]))] → va_S A s.heap H locs → ∀ ls : Array Slot, lv_has ls 4 [(0, .ref a_rn), (1, .int x1_3)] → W p l e (headSpec w_Runs_findLevels ({ frames := 3, cells := 0, slots := 0, locals := 63 })).room s m (([.ref a_rn] : List Value).toArray) below meth c H locs 0 0 QQ (F0 m 17 ls []) := by
    intro k48 hk48 n
    induction n with
    | zero => intro x1_3 lp_facts_4 wk_size_5 wk_items_6 rn_levels_7 h; exact (show False from h).elim
    | succ n il =>
      intro x1_3 lp_facts_4 wk_size_5 wk_items_6 rn_levels_7 h
      intro H locs hP hD hS ls hl
      refine lv_iload_n hx hb d_Runs_findLevels_17 rfl (lv_at hl 1 rfl) ?_
      refine lv_sipush (v := 4096) hx hb d_Runs_findLevels_18 (by decide) ?_
      refine lv_icmp_ge (tgt := 48) hx hb d_Runs_findLevels_21 (by decide) (fun c_21 => ?_) (fun c_21 => ?_)
      · have h := And.left h c_21
        exact hk48 _ _ _ _ h _ _ hP hD hS _ (lv_sub hl [0] rfl)
      · have h := And.right h c_21
        refine lv_aload_n hx hb d_Runs_findLevels_24 rfl (lv_at hl 0 rfl) ?_
        refine va_get (D := (dC, dI)) (ci := 6) (v := .ref a_lp) (C := "LoopInduction$Runs") (T := F_Runs) (N := 9) hx hb hts iC_Runs hown hK hP 4 rfl rfl 0 (by decide) fl_28 (fun _ h9 => h9) rfl d_Runs_findLevels_25 ?_
        refine lv_iload_n hx hb d_Runs_findLevels_28 rfl (lv_at hl 1 rfl) ?_
        refine lv_iconst (v := 1) hx hb d_Runs_findLevels_29 (by decide) ?_
        refine jn_i (wr := [(a_lp_turns, .inl (cI, 24576, .inl lp_turns)), (a_wk_items, .inl (cI, 4096, .inl wk_items_6)), (a_rn, .inr (6, [.ref a_lp, .ref a_rn_levels, .ref a_rn_path, .ref a_s1, .ref a_s2, .ref a_wk, .int rn_reached, .int rn_greatestLevel, .int rn_pathSize])), (a_rn_levels, .inl (cI, 4096, .inl rn_levels_7)), (a_wk, .inr (10, [.ref a_wk_items, .int wk_size_5]))]) (va_runV (As := [.int x1_3, .int 1]) (rest := []) ⟨hx, hb, hml, hown, hts⟩ (c_Loop_hasAll l dC dI cI cB cZ adK adV _ a_lp a_lp_facts a_lp_turns a_lp_first a_lp_src a_s1 lp_choices lp_guesses lp_unaries lp_ranked lp_facts_4 x1_3 1 _ h) (cwV 2 hts (gv_ m_784 m_785 m_786 m_92 m_787) rfl rfl rfl pd_Loop_hasAll ⟨Nat.le_of_ble_eq_true rfl, Nat.le_of_ble_eq_true rfl⟩) ⟨pc_blind, va_recv hK hP (ci := 4) (q0 := 0) rfl rfl, pc_of (hP.sub [0, 1] rfl) hK (hD.sub [0, 1] (by decide) rfl) hN hT hS hA⟩ rfl rfl hl.1 rfl (lv_room (Nat.le_of_ble_eq_true rfl)) d_Runs_findLevels_30 ⟨Nat.zero_le _, Nat.zero_le _⟩) hP hD hS hA [0, 1] [2, 3, 4, 5, 6] rfl rfl (by decide) (by decide) (fun r_13 u_ H locs h hP hD hS => ?_)
        have hP : va_P (dC, dI) vwCl [(a_lp_turns, .inl (cI, 24576, .inl lp_turns)), (a_wk_items, .inl (cI, 4096, .inl wk_items_6)), (a_rn, .inr (6, [.ref a_lp, .ref a_rn_levels, .ref a_rn_path, .ref a_s1, .ref a_s2, .ref a_wk, .int rn_reached, .int rn_greatestLevel, .int rn_pathSize])), (a_rn_levels, .inl (cI, 4096, .inl rn_levels_7)), (a_wk, .inr (10, [.ref a_wk_items, .int wk_size_5])), (a_lp, .inr (4, [.ref a_lp_facts, .ref a_lp_turns, .ref a_lp_first, .ref a_lp_src, .ref a_s1, .int lp_choices, .int lp_guesses, .int lp_unaries, .int lp_ranked])), (a_lp_facts, .inl (cI, 4096, .inl lp_facts_4))] H := hP
        have hD : va_D A [(a_lp_turns, .inl (cI, 24576, .inl lp_turns)), (a_wk_items, .inl (cI, 4096, .inl wk_items_6)), (a_rn, .inr (6, [.ref a_lp, .ref a_rn_levels, .ref a_rn_path, .ref a_s1, .ref a_s2, .ref a_wk, .int rn_reached, .int rn_greatestLevel, .int rn_pathSize])), (a_rn_levels, .inl (cI, 4096, .inl rn_levels_7)), (a_wk, .inr (10, [.ref a_wk_items, .int wk_size_5])), (a_lp, .inr (4, [.ref a_lp_facts, .ref a_lp_turns, .ref a_lp_first, .ref a_lp_src, .ref a_s1, .int lp_choices, .int lp_guesses, .int lp_unaries, .int lp_ranked])), (a_lp_facts, .inl (cI, 4096, .inl lp_facts_4))] := hD
        refine lv_if_eq (tgt := 42) hx hb d_Runs_findLevels_33 (by decide) (fun c_33 => ?_) (fun c_33 => ?_)
        · have h := And.left h c_33
          refine lv_iinc (v := x1_3 + 1) (lv' := [(1, .int (x1_3 + 1)), (0, .ref a_rn)]) hx hb d_Runs_findLevels_42 hl (k := 1) rfl rfl (by decide) rfl (fun ls hl => ?_)
          refine lv_goto (tgt := 17) hx hb d_Runs_findLevels_45 (by decide) ?_
          exact il _ _ _ _ _ h _ _ (hP.sub [5, 6, 0, 1, 2, 3, 4] rfl) (hD.sub [5, 6, 0, 1, 2, 3, 4] (by decide) rfl) hS _ (lv_sub hl [1, 0] rfl)
        · have h := And.right h c_33
          refine lv_aload_n hx hb d_Runs_findLevels_36 rfl (lv_at hl 0 rfl) ?_
          refine lv_iload_n hx hb d_Runs_findLevels_37 rfl (lv_at hl 1 rfl) ?_
          refine lv_iconst (v := 0) hx hb d_Runs_findLevels_38 (by decide) ?_
          refine jn_v (wr := [(a_lp_turns, .inl (cI, 24576, .inl lp_turns))]) (va_runV (As := [.int x1_3, .int 0]) (rest := []) ⟨hx, hb, hml, hown, hts⟩ (c_Runs_reach l dC dI cI cB cZ adK adV _ a_lp a_lp_facts a_lp_turns a_lp_first a_lp_src a_s1 a_wk a_wk_items a_rn a_rn_levels a_rn_path a_s2 lp_choices lp_guesses lp_unaries lp_ranked lp_facts_4 wk_size_5 wk_items_6 rn_reached rn_greatestLevel rn_pathSize rn_levels_7 x1_3 0 _ h) (cwV 2 hts (gv_ m_788 m_790 m_30 m_93 m_791) rfl rfl rfl pd_Runs_reach ⟨Nat.le_of_ble_eq_true rfl, Nat.le_of_ble_eq_true rfl⟩) ⟨pc_blind, va_recv hK hP (ci := 6) (q0 := 2) rfl rfl, pc_of (hP.sub [5, 6, 4, 1, 2, 3] rfl) hK (hD.sub [5, 6, 4, 1, 2, 3] (by decide) rfl) hN hT hS hA⟩ rfl rfl hl.1 rfl (lv_room (Nat.le_of_ble_eq_true rfl)) d_Runs_findLevels_39 ⟨Nat.zero_le _, Nat.zero_le _⟩) hP hD hS hA [5, 6, 4, 1, 2, 3] [0] rfl rfl (by decide) (by decide) (fun u_ H locs h hP hD hS => ?_)
          obtain ⟨lp_facts_14, wk_size_15, wk_items_16, rn_levels_17⟩ := u_
          have hP : va_P (dC, dI) vwCl [(a_lp_turns, .inl (cI, 24576, .inl lp_turns)), (a_lp, .inr (4, [.ref a_lp_facts, .ref a_lp_turns, .ref a_lp_first, .ref a_lp_src, .ref a_s1, .int lp_choices, .int lp_guesses, .int lp_unaries, .int lp_ranked])), (a_lp_facts, .inl (cI, 4096, .inl lp_facts_14)), (a_wk, .inr (10, [.ref a_wk_items, .int wk_size_15])), (a_wk_items, .inl (cI, 4096, .inl wk_items_16)), (a_rn, .inr (6, [.ref a_lp, .ref a_rn_levels, .ref a_rn_path, .ref a_s1, .ref a_s2, .ref a_wk, .int rn_reached, .int rn_greatestLevel, .int rn_pathSize])), (a_rn_levels, .inl (cI, 4096, .inl rn_levels_17))] H := hP
          have hD : va_D A [(a_lp_turns, .inl (cI, 24576, .inl lp_turns)), (a_lp, .inr (4, [.ref a_lp_facts, .ref a_lp_turns, .ref a_lp_first, .ref a_lp_src, .ref a_s1, .int lp_choices, .int lp_guesses, .int lp_unaries, .int lp_ranked])), (a_lp_facts, .inl (cI, 4096, .inl lp_facts_14)), (a_wk, .inr (10, [.ref a_wk_items, .int wk_size_15])), (a_wk_items, .inl (cI, 4096, .inl wk_items_16)), (a_rn, .inr (6, [.ref a_lp, .ref a_rn_levels, .ref a_rn_path, .ref a_s1, .ref a_s2, .ref a_wk, .int rn_reached, .int rn_greatestLevel, .int rn_pathSize])), (a_rn_levels, .inl (cI, 4096, .inl rn_levels_17))] := hD
          refine lv_iinc (v := x1_3 + 1) (lv' := [(1, .int (x1_3 + 1)), (0, .ref a_rn)]) hx hb d_Runs_findLevels_42 hl (k := 1) rfl rfl (by decide) rfl (fun ls hl => ?_)
          refine lv_goto (tgt := 17) hx hb d_Runs_findLevels_45 (by decide) ?_
          exact il _ _ _ _ _ h _ _ (hP.sub [1, 2, 0, 4, 5, 6, 3] rfl) (hD.sub [1, 2, 0, 4, 5, 6, 3] (by decide) rfl) hS _ (lv_sub hl [1, 0] rfl)
  obtain ⟨n_, h⟩ := h
  refine L17_q_8 _ ?_ n_ _ _ _ _ _ h _ _ hP hD hS _ (lv_sub hl [1, 0] rfl)
  intro lp_facts_18 wk_size_19 wk_items_20 rn_levels_21 h
  intro H locs hP hD hS ls hl
  refine lv_iconst (v := 0) hx hb d_Runs_findLevels_48 (by decide) ?_
  refine lv_istore_n (lv' := [(1, .int 0), (0, .ref a_rn)]) hx hb d_Runs_findLevels_49 rfl hl (by decide) rfl (fun ls hl => ?_)
  have L50_q_27 : ∀ (k122 : (Nat → Int32) → (Int32) → (Nat → Int32) → (Nat → Int32) → Prop) (hk122 : ∀ (lp_facts_28 : Nat → Int32) (wk_size_29 : Int32) (wk_items_30 : Nat → Int32) (rn_levels_31 : Nat → Int32), k122 lp_facts_28 wk_size_29 wk_items_30 rn_levels_31 → ∀ (H : Heap) (locs : List Loc), va_P (dC, dI) vwCl [(a_lp, .inr (4, [.ref a_lp_facts, .ref a_lp_turns, .ref a_lp_first, .ref a_lp_src, .ref a_s1, .int lp_choices, .int lp_guesses, .int lp_unaries, .int lp_ranked])), (a_lp_facts, .inl (cI, 4096, .inl lp_facts_28)), (a_lp_turns, .inl (cI, 24576, .inl lp_turns)), (a_wk_items, .inl (cI, 4096, .inl wk_items_30)), (a_rn, .inr (6, [.ref a_lp, .ref a_rn_levels, .ref a_rn_path, .ref a_s1, .ref a_s2, .ref a_wk, .int rn_reached, .int rn_greatestLevel, .int rn_pathSize])), (a_rn_levels, .inl (cI, 4096, .inl rn_levels_31)), (a_wk, .inr (10, [.ref a_wk_items, .int wk_size_29]))] H → va_D A [(a_lp, .inr (4, [.ref a_lp_facts, .ref a_lp_turns, .ref a_lp_first, .ref a_lp_src, .ref a_s1, .int lp_choices, .int lp_guesses, .int lp_unaries, .int lp_ranked])), (a_lp_facts, .inl (cI, 4096, .inl lp_facts_28)), (a_lp_turns, .inl (cI, 24576, .inl lp_turns)), (a_wk_items, .inl (cI, 4096, .inl wk_items_30)), (a_rn, .inr (6, [.ref a_lp, .ref a_rn_levels, .ref a_rn_path, .ref a_s1, .ref a_s2, .ref a_wk, .int rn_reached, .int rn_greatestLevel, .int rn_pathSize])), (a_rn_levels, .inl (cI, 4096, .inl rn_levels_31)), (a_wk, .inr (10, [.ref a_wk_items, .int wk_size_29]))] → va_S A s.heap H locs → ∀ ls : Array Slot, lv_has ls 4 [(0, .ref a_rn)] → W p l e (headSpec w_Runs_findLevels ({ frames := 3, cells := 0, slots := 0, locals := 63 })).room s m (([.ref a_rn] : List Value).toArray) below meth c H locs 0 0 QQ (F0 m 122 ls [])) (n : Nat) (x1_22 : Int32) (lp_facts_23 : Nat → Int32) (wk_size_24 : Int32) (wk_items_25 : Nat → Int32) (rn_levels_26 : Nat → Int32), wp_Runs_findLevels_L50 lp_choices lp_turns k122 n x1_22 lp_facts_23 wk_size_24 wk_items_25 rn_levels_26 → ∀ (H : Heap) (locs : List Loc), va_P (dC, dI) vwCl [(a_lp, .inr (4, [.ref a_lp_facts, .ref a_lp_turns, .ref a_lp_first, .ref a_lp_src, .ref a_s1, .int lp_choices, .int lp_guesses, .int lp_unaries, .int lp_ranked])), (a_lp_facts, .inl (cI, 4096, .inl lp_facts_23)), (a_lp_turns, .inl (cI, 24576, .inl lp_turns)), (a_wk_items, .inl (cI, 4096, .inl wk_items_25)), (a_rn, .inr (6, [.ref a_lp, .ref a_rn_levels, .ref a_rn_path, .ref a_s1, .ref a_s2, .ref a_wk, .int rn_reached, .int rn_greatestLevel, .int rn_pathSize])), (a_rn_levels, .inl (cI, 4096, .inl rn_levels_26)), (a_wk, .inr (10, [.ref a_wk_items, .int wk_size_24]))] H → va_D A [(a_lp, .inr (4, [.ref a_lp_facts, .ref a_lp_turns, .ref a_lp_first, .ref a_lp_src, .ref a_s1, .int lp_choices, .int lp_guesses, .int lp_unaries, .int lp_ranked])), (a_lp_facts, .inl (cI, 4096, .inl lp_facts_23)), (a_lp_turns, .inl (cI, 24576, .inl lp_turns)), (a_wk_items, .inl (cI, 4096, .inl wk_items_25)), (a_rn, .inr (6, [.ref a_lp, .ref a_rn_levels, .ref a_rn_path, .ref a_s1, .ref a_s2, .ref a_wk, .int rn_reached, .int rn_greatestLevel, .int rn_pathSize])), (a_rn_levels, .inl (cI, 4096, .inl rn_levels_26)), (a_wk, .inr (10, [.ref a_wk_items, .int wk_size_24]))] → va_S A s.heap H locs → ∀ ls : Array Slot, lv_has ls 4 [(0, .ref a_rn), (1, .int x1_22)] → W p l e (headSpec w_Runs_findLevels ({ frames := 3, cells := 0, slots := 0, locals := 63 })).room s m (([.ref a_rn] : List Value).toArray) below meth c H locs 0 0 QQ (F0 m 50 ls []) := by
    intro k122 hk122 n
    induction n with
    | zero => intro x1_22 lp_facts_23 wk_size_24 wk_items_25 rn_levels_26 h; exact (show False from h).elim
    | succ n il =>
      intro x1_22 lp_facts_23 wk_size_24 wk_items_25 rn_levels_26 h
      intro H locs hP hD hS ls hl
      refine lv_iload_n hx hb d_Runs_findLevels_50 rfl (lv_at hl 1 rfl) ?_
      refine lv_sipush (v := 4096) hx hb d_Runs_findLevels_51 (by decide) ?_
      refine lv_icmp_ge (tgt := 122) hx hb d_Runs_findLevels_54 (by decide) (fun c_54 => ?_) (fun c_54 => ?_)
      · have h := And.left h c_54
        exact hk122 _ _ _ _ h _ _ hP hD hS _ (lv_sub hl [0] rfl)
      · have h := And.right h c_54
        refine lv_iload_n hx hb d_Runs_findLevels_57 rfl (lv_at hl 1 rfl) ?_
        refine lv_aload_n hx hb d_Runs_findLevels_58 rfl (lv_at hl 0 rfl) ?_
        refine va_get (D := (dC, dI)) (ci := 6) (v := .ref a_wk) (C := "LoopInduction$Runs") (T := F_Runs) (N := 9) hx hb hts iC_Runs hown hK hP 4 rfl rfl 5 (by decide) fl_49 (fun _ h9 => h9) rfl d_Runs_findLevels_59 ?_
        refine jn_i (wr := [(a_lp, .inr (4, [.ref a_lp_facts, .ref a_lp_turns, .ref a_lp_first, .ref a_lp_src, .ref a_s1, .int lp_choices, .int lp_guesses, .int lp_unaries, .int lp_ranked])), (a_lp_facts, .inl (cI, 4096, .inl lp_facts_23)), (a_lp_turns, .inl (cI, 24576, .inl lp_turns)), (a_wk_items, .inl (cI, 4096, .inl wk_items_25)), (a_rn, .inr (6, [.ref a_lp, .ref a_rn_levels, .ref a_rn_path, .ref a_s1, .ref a_s2, .ref a_wk, .int rn_reached, .int rn_greatestLevel, .int rn_pathSize])), (a_rn_levels, .inl (cI, 4096, .inl rn_levels_26))]) (va_runV (As := []) (rest := [.int x1_22]) ⟨hx, hb, hml, hown, hts⟩ (c_Work_size l dC dI cI cB cZ adK adV _ a_wk a_wk_items wk_size_24 _ h) (cwV 0 hts (gv_ m_801 m_802 m_803 m_91 m_804) rfl rfl rfl pd_Work_size ⟨Nat.le_of_ble_eq_true rfl, Nat.le_of_ble_eq_true rfl⟩) ⟨pc_blind, va_recv hK hP (ci := 10) (q0 := 6) rfl rfl, pc_of (hP.sub [6] rfl) hK (hD.sub [6] (by decide) rfl) hN hT hS hA⟩ rfl rfl hl.1 rfl (lv_room (Nat.le_of_ble_eq_true rfl)) d_Runs_findLevels_62 ⟨Nat.zero_le _, Nat.zero_le _⟩) hP hD hS hA [6] [0, 1, 2, 3, 4, 5] rfl rfl (by decide) (by decide) (fun r_32 u_ H locs h hP hD hS => ?_)
        have hP : va_P (dC, dI) vwCl [(a_lp, .inr (4, [.ref a_lp_facts, .ref a_lp_turns, .ref a_lp_first, .ref a_lp_src, .ref a_s1, .int lp_choices, .int lp_guesses, .int lp_unaries, .int lp_ranked])), (a_lp_facts, .inl (cI, 4096, .inl lp_facts_23)), (a_lp_turns, .inl (cI, 24576, .inl lp_turns)), (a_wk_items, .inl (cI, 4096, .inl wk_items_25)), (a_rn, .inr (6, [.ref a_lp, .ref a_rn_levels, .ref a_rn_path, .ref a_s1, .ref a_s2, .ref a_wk, .int rn_reached, .int rn_greatestLevel, .int rn_pathSize])), (a_rn_levels, .inl (cI, 4096, .inl rn_levels_26)), (a_wk, .inr (10, [.ref a_wk_items, .int wk_size_24]))] H := hP
        have hD : va_D A [(a_lp, .inr (4, [.ref a_lp_facts, .ref a_lp_turns, .ref a_lp_first, .ref a_lp_src, .ref a_s1, .int lp_choices, .int lp_guesses, .int lp_unaries, .int lp_ranked])), (a_lp_facts, .inl (cI, 4096, .inl lp_facts_23)), (a_lp_turns, .inl (cI, 24576, .inl lp_turns)), (a_wk_items, .inl (cI, 4096, .inl wk_items_25)), (a_rn, .inr (6, [.ref a_lp, .ref a_rn_levels, .ref a_rn_path, .ref a_s1, .ref a_s2, .ref a_wk, .int rn_reached, .int rn_greatestLevel, .int rn_pathSize])), (a_rn_levels, .inl (cI, 4096, .inl rn_levels_26)), (a_wk, .inr (10, [.ref a_wk_items, .int wk_size_24]))] := hD
        refine lv_icmp_ge (tgt := 122) hx hb d_Runs_findLevels_65 (by decide) (fun c_65 => ?_) (fun c_65 => ?_)
        · have h := And.left h c_65
          exact hk122 _ _ _ _ h _ _ hP hD hS _ (lv_sub hl [0] rfl)
        · have h := And.right h c_65
          refine lv_aload_n hx hb d_Runs_findLevels_68 rfl (lv_at hl 0 rfl) ?_
          refine va_get (D := (dC, dI)) (ci := 6) (v := .ref a_wk) (C := "LoopInduction$Runs") (T := F_Runs) (N := 9) hx hb hts iC_Runs hown hK hP 4 rfl rfl 5 (by decide) fl_49 (fun _ h9 => h9) rfl d_Runs_findLevels_69 ?_
          refine lv_iload_n hx hb d_Runs_findLevels_72 rfl (lv_at hl 1 rfl) ?_
          refine jn_i (wr := [(a_lp, .inr (4, [.ref a_lp_facts, .ref a_lp_turns, .ref a_lp_first, .ref a_lp_src, .ref a_s1, .int lp_choices, .int lp_guesses, .int lp_unaries, .int lp_ranked])), (a_lp_facts, .inl (cI, 4096, .inl lp_facts_23)), (a_lp_turns, .inl (cI, 24576, .inl lp_turns)), (a_rn, .inr (6, [.ref a_lp, .ref a_rn_levels, .ref a_rn_path, .ref a_s1, .ref a_s2, .ref a_wk, .int rn_reached, .int rn_greatestLevel, .int rn_pathSize])), (a_rn_levels, .inl (cI, 4096, .inl rn_levels_26))]) (va_runV (As := [.int x1_22]) (rest := []) ⟨hx, hb, hml, hown, hts⟩ (c_Work_item l dC dI cI cB cZ adK adV _ a_wk a_wk_items wk_size_24 wk_items_25 x1_22 _ h) (cwV 1 hts (gv_ m_805 m_806 m_807 m_91 m_808) rfl rfl rfl pd_Work_item ⟨Nat.le_of_ble_eq_true rfl, Nat.le_of_ble_eq_true rfl⟩) ⟨pc_blind, va_recv hK hP (ci := 10) (q0 := 6) rfl rfl, pc_of (hP.sub [6, 3] rfl) hK (hD.sub [6, 3] (by decide) rfl) hN hT hS hA⟩ rfl rfl hl.1 rfl (lv_room (Nat.le_of_ble_eq_true rfl)) d_Runs_findLevels_73 ⟨Nat.zero_le _, Nat.zero_le _⟩) hP hD hS hA [6, 3] [0, 1, 2, 4, 5] rfl rfl (by decide) (by decide) (fun r_33 u_ H locs h hP hD hS => ?_)
          have hP : va_P (dC, dI) vwCl [(a_lp, .inr (4, [.ref a_lp_facts, .ref a_lp_turns, .ref a_lp_first, .ref a_lp_src, .ref a_s1, .int lp_choices, .int lp_guesses, .int lp_unaries, .int lp_ranked])), (a_lp_facts, .inl (cI, 4096, .inl lp_facts_23)), (a_lp_turns, .inl (cI, 24576, .inl lp_turns)), (a_rn, .inr (6, [.ref a_lp, .ref a_rn_levels, .ref a_rn_path, .ref a_s1, .ref a_s2, .ref a_wk, .int rn_reached, .int rn_greatestLevel, .int rn_pathSize])), (a_rn_levels, .inl (cI, 4096, .inl rn_levels_26)), (a_wk, .inr (10, [.ref a_wk_items, .int wk_size_24])), (a_wk_items, .inl (cI, 4096, .inl wk_items_25))] H := hP
          have hD : va_D A [(a_lp, .inr (4, [.ref a_lp_facts, .ref a_lp_turns, .ref a_lp_first, .ref a_lp_src, .ref a_s1, .int lp_choices, .int lp_guesses, .int lp_unaries, .int lp_ranked])), (a_lp_facts, .inl (cI, 4096, .inl lp_facts_23)), (a_lp_turns, .inl (cI, 24576, .inl lp_turns)), (a_rn, .inr (6, [.ref a_lp, .ref a_rn_levels, .ref a_rn_path, .ref a_s1, .ref a_s2, .ref a_wk, .int rn_reached, .int rn_greatestLevel, .int rn_pathSize])), (a_rn_levels, .inl (cI, 4096, .inl rn_levels_26)), (a_wk, .inr (10, [.ref a_wk_items, .int wk_size_24])), (a_wk_items, .inl (cI, 4096, .inl wk_items_25))] := hD
          refine lv_istore_n (lv' := [(2, .int r_33), (0, .ref a_rn), (1, .int x1_22)]) hx hb d_Runs_findLevels_76 rfl hl (by decide) rfl (fun ls hl => ?_)
          refine lv_iconst (v := 0) hx hb d_Runs_findLevels_77 (by decide) ?_
          refine lv_istore_n (lv' := [(3, .int 0), (2, .int r_33), (0, .ref a_rn), (1, .int x1_22)]) hx hb d_Runs_findLevels_78 rfl hl (by decide) rfl (fun ls hl => ?_)
          have L79_q_39 : ∀ (k116 : (Nat → Int32) → (Int32) → (Nat → Int32) → (Nat → Int32) → Prop) (hk116 : ∀ (lp_facts_40 : Nat → Int32) (wk_size_41 : Int32) (wk_items_42 : Nat → Int32) (rn_levels_43 : Nat → Int32), k116 lp_facts_40 wk_size_41 wk_items_42 rn_levels_43 → ∀ (H : Heap) (locs : List Loc), va_P (dC, dI) vwCl [(a_lp, .inr (4, [.ref a_lp_facts, .ref a_lp_turns, .ref a_lp_first, .ref a_lp_src, .ref a_s1, .int lp_choices, .int lp_guesses, .int lp_unaries, .int lp_ranked])), (a_lp_facts, .inl (cI, 4096, .inl lp_facts_40)), (a_lp_turns, .inl (cI, 24576, .inl lp_turns)), (a_rn, .inr (6, [.ref a_lp, .ref a_rn_levels, .ref a_rn_path, .ref a_s1, .ref a_s2, .ref a_wk, .int rn_reached, .int rn_greatestLevel, .int rn_pathSize])), (a_rn_levels, .inl (cI, 4096, .inl rn_levels_43)), (a_wk, .inr (10, [.ref a_wk_items, .int wk_size_41])), (a_wk_items, .inl (cI, 4096, .inl wk_items_42))] H → va_D A [(a_lp, .inr (4, [.ref a_lp_facts, .ref a_lp_turns, .ref a_lp_first, .ref a_lp_src, .ref a_s1, .int lp_choices, .int lp_guesses, .int lp_unaries, .int lp_ranked])), (a_lp_facts, .inl (cI, 4096, .inl lp_facts_40)), (a_lp_turns, .inl (cI, 24576, .inl lp_turns)), (a_rn, .inr (6, [.ref a_lp, .ref a_rn_levels, .ref a_rn_path, .ref a_s1, .ref a_s2, .ref a_wk, .int rn_reached, .int rn_greatestLevel, .int rn_pathSize])), (a_rn_levels, .inl (cI, 4096, .inl rn_levels_43)), (a_wk, .inr (10, [.ref a_wk_items, .int wk_size_41])), (a_wk_items, .inl (cI, 4096, .inl wk_items_42))] → va_S A s.heap H locs → ∀ ls : Array Slot, lv_has ls 4 [(0, .ref a_rn), (1, .int x1_22)] → W p l e (headSpec w_Runs_findLevels ({ frames := 3, cells := 0, slots := 0, locals := 63 })).room s m (([.ref a_rn] : List Value).toArray) below meth c H locs 0 0 QQ (F0 m 116 ls [])) (n : Nat) (x3_34 : Int32) (lp_facts_35 : Nat → Int32) (wk_size_36 : Int32) (wk_items_37 : Nat → Int32) (rn_levels_38 : Nat → Int32), wp_Runs_findLevels_L79 x1_22 r_33 lp_choices lp_turns k116 n x3_34 lp_facts_35 wk_size_36 wk_items_37 rn_levels_38 → ∀ (H : Heap) (locs : List Loc), va_P (dC, dI) vwCl [(a_lp, .inr (4, [.ref a_lp_facts, .ref a_lp_turns, .ref a_lp_first, .ref a_lp_src, .ref a_s1, .int lp_choices, .int lp_guesses, .int lp_unaries, .int lp_ranked])), (a_lp_facts, .inl (cI, 4096, .inl lp_facts_35)), (a_lp_turns, .inl (cI, 24576, .inl lp_turns)), (a_rn, .inr (6, [.ref a_lp, .ref a_rn_levels, .ref a_rn_path, .ref a_s1, .ref a_s2, .ref a_wk, .int rn_reached, .int rn_greatestLevel, .int rn_pathSize])), (a_rn_levels, .inl (cI, 4096, .inl rn_levels_38)), (a_wk, .inr (10, [.ref a_wk_items, .int wk_size_36])), (a_wk_items, .inl (cI, 4096, .inl wk_items_37))] H → va_D A [(a_lp, .inr (4, [.ref a_lp_facts, .ref a_lp_turns, .ref a_lp_first, .ref a_lp_src, .ref a_s1, .int lp_choices, .int lp_guesses, .int lp_unaries, .int lp_ranked])), (a_lp_facts, .inl (cI, 4096, .inl lp_facts_35)), (a_lp_turns, .inl (cI, 24576, .inl lp_turns)), (a_rn, .inr (6, [.ref a_lp, .ref a_rn_levels, .ref a_rn_path, .ref a_s1, .ref a_s2, .ref a_wk, .int rn_reached, .int rn_greatestLevel, .int rn_pathSize])), (a_rn_levels, .inl (cI, 4096, .inl rn_levels_38)), (a_wk, .inr (10, [.ref a_wk_items, .int wk_size_36])), (a_wk_items, .inl (cI, 4096, .inl wk_items_37))] → va_S A s.heap H locs → ∀ ls : Array Slot, lv_has ls 4 [(0, .ref a_rn), (1, .int x1_22), (2, .int r_33), (3, .int x3_34)] → W p l e (headSpec w_Runs_findLevels ({ frames := 3, cells := 0, slots := 0, locals := 63 })).room s m (([.ref a_rn] : List Value).toArray) below meth c H locs 0 0 QQ (F0 m 79 ls []) := by
            intro k116 hk116 n
            induction n with
            | zero => intro x3_34 lp_facts_35 wk_size_36 wk_items_37 rn_levels_38 h; exact (show False from h).elim
            | succ n il =>
              intro x3_34 lp_facts_35 wk_size_36 wk_items_37 rn_levels_38 h
              intro H locs hP hD hS ls hl
              refine lv_iload_n hx hb d_Runs_findLevels_79 rfl (lv_at hl 3 rfl) ?_
              refine lv_aload_n hx hb d_Runs_findLevels_80 rfl (lv_at hl 0 rfl) ?_
              refine va_get (D := (dC, dI)) (ci := 6) (v := .ref a_lp) (C := "LoopInduction$Runs") (T := F_Runs) (N := 9) hx hb hts iC_Runs hown hK hP 3 rfl rfl 0 (by decide) fl_28 (fun _ h9 => h9) rfl d_Runs_findLevels_81 ?_
              refine jn_i (wr := [(a_lp_facts, .inl (cI, 4096, .inl lp_facts_35)), (a_lp_turns, .inl (cI, 24576, .inl lp_turns)), (a_rn, .inr (6, [.ref a_lp, .ref a_rn_levels, .ref a_rn_path, .ref a_s1, .ref a_s2, .ref a_wk, .int rn_reached, .int rn_greatestLevel, .int rn_pathSize])), (a_rn_levels, .inl (cI, 4096, .inl rn_levels_38)), (a_wk, .inr (10, [.ref a_wk_items, .int wk_size_36])), (a_wk_items, .inl (cI, 4096, .inl wk_items_37))]) (va_runV (As := []) (rest := [.int x3_34]) ⟨hx, hb, hml, hown, hts⟩ (c_Loop_choices l dC dI cI cB cZ adK adV _ a_lp a_lp_facts a_lp_turns a_lp_first a_lp_src a_s1 lp_choices lp_guesses lp_unaries lp_ranked _ h) (cwV 0 hts (gv_ m_809 m_810 m_811 m_92 m_812) rfl rfl rfl pd_Loop_choices ⟨Nat.le_of_ble_eq_true rfl, Nat.le_of_ble_eq_true rfl⟩) ⟨pc_blind, va_recv hK hP (ci := 4) (q0 := 0) rfl rfl, pc_of (hP.sub [0] rfl) hK (hD.sub [0] (by decide) rfl) hN hT hS hA⟩ rfl rfl hl.1 rfl (lv_room (Nat.le_of_ble_eq_true rfl)) d_Runs_findLevels_84 ⟨Nat.zero_le _, Nat.zero_le _⟩) hP hD hS hA [0] [1, 2, 3, 4, 5, 6] rfl rfl (by decide) (by decide) (fun r_44 u_ H locs h hP hD hS => ?_)
              have hP : va_P (dC, dI) vwCl [(a_lp_facts, .inl (cI, 4096, .inl lp_facts_35)), (a_lp_turns, .inl (cI, 24576, .inl lp_turns)), (a_rn, .inr (6, [.ref a_lp, .ref a_rn_levels, .ref a_rn_path, .ref a_s1, .ref a_s2, .ref a_wk, .int rn_reached, .int rn_greatestLevel, .int rn_pathSize])), (a_rn_levels, .inl (cI, 4096, .inl rn_levels_38)), (a_wk, .inr (10, [.ref a_wk_items, .int wk_size_36])), (a_wk_items, .inl (cI, 4096, .inl wk_items_37)), (a_lp, .inr (4, [.ref a_lp_facts, .ref a_lp_turns, .ref a_lp_first, .ref a_lp_src, .ref a_s1, .int lp_choices, .int lp_guesses, .int lp_unaries, .int lp_ranked]))] H := hP
              have hD : va_D A [(a_lp_facts, .inl (cI, 4096, .inl lp_facts_35)), (a_lp_turns, .inl (cI, 24576, .inl lp_turns)), (a_rn, .inr (6, [.ref a_lp, .ref a_rn_levels, .ref a_rn_path, .ref a_s1, .ref a_s2, .ref a_wk, .int rn_reached, .int rn_greatestLevel, .int rn_pathSize])), (a_rn_levels, .inl (cI, 4096, .inl rn_levels_38)), (a_wk, .inr (10, [.ref a_wk_items, .int wk_size_36])), (a_wk_items, .inl (cI, 4096, .inl wk_items_37)), (a_lp, .inr (4, [.ref a_lp_facts, .ref a_lp_turns, .ref a_lp_first, .ref a_lp_src, .ref a_s1, .int lp_choices, .int lp_guesses, .int lp_unaries, .int lp_ranked]))] := hD
              refine lv_icmp_ge (tgt := 116) hx hb d_Runs_findLevels_87 (by decide) (fun c_87 => ?_) (fun c_87 => ?_)
              · have h := And.left h c_87
                exact hk116 _ _ _ _ h _ _ (hP.sub [6, 0, 1, 2, 3, 4, 5] rfl) (hD.sub [6, 0, 1, 2, 3, 4, 5] (by decide) rfl) hS _ (lv_sub hl [0, 1] rfl)
              · have h := And.right h c_87
                refine lv_aload_n hx hb d_Runs_findLevels_90 rfl (lv_at hl 0 rfl) ?_
                refine lv_aload_n hx hb d_Runs_findLevels_91 rfl (lv_at hl 0 rfl) ?_
                refine va_get (D := (dC, dI)) (ci := 6) (v := .ref a_lp) (C := "LoopInduction$Runs") (T := F_Runs) (N := 9) hx hb hts iC_Runs hown hK hP 2 rfl rfl 0 (by decide) fl_28 (fun _ h9 => h9) rfl d_Runs_findLevels_92 ?_
                refine lv_iload_n hx hb d_Runs_findLevels_95 rfl (lv_at hl 2 rfl) ?_
                refine lv_iload_n hx hb d_Runs_findLevels_96 rfl (lv_at hl 3 rfl) ?_
                refine jn_i (wr := [(a_lp_facts, .inl (cI, 4096, .inl lp_facts_35)), (a_rn, .inr (6, [.ref a_lp, .ref a_rn_levels, .ref a_rn_path, .ref a_s1, .ref a_s2, .ref a_wk, .int rn_reached, .int rn_greatestLevel, .int rn_pathSize])), (a_rn_levels, .inl (cI, 4096, .inl rn_levels_38)), (a_wk, .inr (10, [.ref a_wk_items, .int wk_size_36])), (a_wk_items, .inl (cI, 4096, .inl wk_items_37))]) (va_runV (As := [.int r_33, .int x3_34]) (rest := [.ref a_rn]) ⟨hx, hb, hml, hown, hts⟩ (c_Loop_turn l dC dI cI cB cZ adK adV _ a_lp a_lp_facts a_lp_turns a_lp_first a_lp_src a_s1 lp_choices lp_guesses lp_unaries lp_ranked lp_turns r_33 x3_34 _ h) (cwV 2 hts (gv_ m_813 m_757 m_758 m_92 m_759) rfl rfl rfl pd_Loop_turn ⟨Nat.le_of_ble_eq_true rfl, Nat.le_of_ble_eq_true rfl⟩) ⟨pc_blind, va_recv hK hP (ci := 4) (q0 := 6) rfl rfl, pc_of (hP.sub [6, 1] rfl) hK (hD.sub [6, 1] (by decide) rfl) hN hT hS hA⟩ rfl rfl hl.1 rfl (lv_room (Nat.le_of_ble_eq_true rfl)) d_Runs_findLevels_97 ⟨Nat.zero_le _, Nat.zero_le _⟩) hP hD hS hA [6, 1] [0, 2, 3, 4, 5] rfl rfl (by decide) (by decide) (fun r_45 u_ H locs h hP hD hS => ?_)
                have hP : va_P (dC, dI) vwCl [(a_lp_facts, .inl (cI, 4096, .inl lp_facts_35)), (a_rn, .inr (6, [.ref a_lp, .ref a_rn_levels, .ref a_rn_path, .ref a_s1, .ref a_s2, .ref a_wk, .int rn_reached, .int rn_greatestLevel, .int rn_pathSize])), (a_rn_levels, .inl (cI, 4096, .inl rn_levels_38)), (a_wk, .inr (10, [.ref a_wk_items, .int wk_size_36])), (a_wk_items, .inl (cI, 4096, .inl wk_items_37)), (a_lp, .inr (4, [.ref a_lp_facts, .ref a_lp_turns, .ref a_lp_first, .ref a_lp_src, .ref a_s1, .int lp_choices, .int lp_guesses, .int lp_unaries, .int lp_ranked])), (a_lp_turns, .inl (cI, 24576, .inl lp_turns))] H := hP
                have hD : va_D A [(a_lp_facts, .inl (cI, 4096, .inl lp_facts_35)), (a_rn, .inr (6, [.ref a_lp, .ref a_rn_levels, .ref a_rn_path, .ref a_s1, .ref a_s2, .ref a_wk, .int rn_reached, .int rn_greatestLevel, .int rn_pathSize])), (a_rn_levels, .inl (cI, 4096, .inl rn_levels_38)), (a_wk, .inr (10, [.ref a_wk_items, .int wk_size_36])), (a_wk_items, .inl (cI, 4096, .inl wk_items_37)), (a_lp, .inr (4, [.ref a_lp_facts, .ref a_lp_turns, .ref a_lp_first, .ref a_lp_src, .ref a_s1, .int lp_choices, .int lp_guesses, .int lp_unaries, .int lp_ranked])), (a_lp_turns, .inl (cI, 24576, .inl lp_turns))] := hD
                refine lv_aload_n hx hb d_Runs_findLevels_100 rfl (lv_at hl 0 rfl) ?_
                refine lv_iload_n hx hb d_Runs_findLevels_101 rfl (lv_at hl 2 rfl) ?_
                refine jn_i (wr := [(a_lp_facts, .inl (cI, 4096, .inl lp_facts_35)), (a_wk, .inr (10, [.ref a_wk_items, .int wk_size_36])), (a_wk_items, .inl (cI, 4096, .inl wk_items_37)), (a_lp, .inr (4, [.ref a_lp_facts, .ref a_lp_turns, .ref a_lp_first, .ref a_lp_src, .ref a_s1, .int lp_choices, .int lp_guesses, .int lp_unaries, .int lp_ranked])), (a_lp_turns, .inl (cI, 24576, .inl lp_turns))]) (va_runV (As := [.int r_33]) (rest := [.int r_45, .ref a_rn]) ⟨hx, hb, hml, hown, hts⟩ (c_Runs_levelOf l dC dI cI cB cZ adK adV _ a_rn a_lp a_rn_levels a_rn_path a_s1 a_s2 a_wk rn_reached rn_greatestLevel rn_pathSize rn_levels_38 r_33 _ h) (cwV 1 hts (gv_ m_814 m_815 m_816 m_93 m_817) rfl rfl rfl pd_Runs_levelOf ⟨Nat.le_of_ble_eq_true rfl, Nat.le_of_ble_eq_true rfl⟩) ⟨pc_blind, va_recv hK hP (ci := 6) (q0 := 1) rfl rfl, pc_of (hP.sub [1, 2] rfl) hK (hD.sub [1, 2] (by decide) rfl) hN hT hS hA⟩ rfl rfl hl.1 rfl (lv_room (Nat.le_of_ble_eq_true rfl)) d_Runs_findLevels_102 ⟨Nat.zero_le _, Nat.zero_le _⟩) hP hD hS hA [1, 2] [0, 3, 4, 5, 6] rfl rfl (by decide) (by decide) (fun r_46 u_ H locs h hP hD hS => ?_)
                have hP : va_P (dC, dI) vwCl [(a_lp_facts, .inl (cI, 4096, .inl lp_facts_35)), (a_wk, .inr (10, [.ref a_wk_items, .int wk_size_36])), (a_wk_items, .inl (cI, 4096, .inl wk_items_37)), (a_lp, .inr (4, [.ref a_lp_facts, .ref a_lp_turns, .ref a_lp_first, .ref a_lp_src, .ref a_s1, .int lp_choices, .int lp_guesses, .int lp_unaries, .int lp_ranked])), (a_lp_turns, .inl (cI, 24576, .inl lp_turns)), (a_rn, .inr (6, [.ref a_lp, .ref a_rn_levels, .ref a_rn_path, .ref a_s1, .ref a_s2, .ref a_wk, .int rn_reached, .int rn_greatestLevel, .int rn_pathSize])), (a_rn_levels, .inl (cI, 4096, .inl rn_levels_38))] H := hP
                have hD : va_D A [(a_lp_facts, .inl (cI, 4096, .inl lp_facts_35)), (a_wk, .inr (10, [.ref a_wk_items, .int wk_size_36])), (a_wk_items, .inl (cI, 4096, .inl wk_items_37)), (a_lp, .inr (4, [.ref a_lp_facts, .ref a_lp_turns, .ref a_lp_first, .ref a_lp_src, .ref a_s1, .int lp_choices, .int lp_guesses, .int lp_unaries, .int lp_ranked])), (a_lp_turns, .inl (cI, 24576, .inl lp_turns)), (a_rn, .inr (6, [.ref a_lp, .ref a_rn_levels, .ref a_rn_path, .ref a_s1, .ref a_s2, .ref a_wk, .int rn_reached, .int rn_greatestLevel, .int rn_pathSize])), (a_rn_levels, .inl (cI, 4096, .inl rn_levels_38))] := hD
                refine lv_iconst (v := 1) hx hb d_Runs_findLevels_105 (by decide) ?_
                refine lv_iadd hx hb d_Runs_findLevels_106 ?_
                refine jn_v (wr := [(a_lp_turns, .inl (cI, 24576, .inl lp_turns))]) (va_runV (As := [.int r_45, .int (r_46 + 1)]) (rest := []) ⟨hx, hb, hml, hown, hts⟩ (c_Runs_reach l dC dI cI cB cZ adK adV _ a_lp a_lp_facts a_lp_turns a_lp_first a_lp_src a_s1 a_wk a_wk_items a_rn a_rn_levels a_rn_path a_s2 lp_choices lp_guesses lp_unaries lp_ranked lp_facts_35 wk_size_36 wk_items_37 rn_reached rn_greatestLevel rn_pathSize rn_levels_38 r_45 (r_46 + 1) _ h) (cwV 2 hts (gv_ m_788 m_790 m_30 m_93 m_791) rfl rfl rfl pd_Runs_reach ⟨Nat.le_of_ble_eq_true rfl, Nat.le_of_ble_eq_true rfl⟩) ⟨pc_blind, va_recv hK hP (ci := 6) (q0 := 5) rfl rfl, pc_of (hP.sub [3, 0, 1, 2, 5, 6] rfl) hK (hD.sub [3, 0, 1, 2, 5, 6] (by decide) rfl) hN hT hS hA⟩ rfl rfl hl.1 rfl (lv_room (Nat.le_of_ble_eq_true rfl)) d_Runs_findLevels_107 ⟨Nat.zero_le _, Nat.zero_le _⟩) hP hD hS hA [3, 0, 1, 2, 5, 6] [4] rfl rfl (by decide) (by decide) (fun u_ H locs h hP hD hS => ?_)
                obtain ⟨lp_facts_47, wk_size_48, wk_items_49, rn_levels_50⟩ := u_
                have hP : va_P (dC, dI) vwCl [(a_lp_turns, .inl (cI, 24576, .inl lp_turns)), (a_lp, .inr (4, [.ref a_lp_facts, .ref a_lp_turns, .ref a_lp_first, .ref a_lp_src, .ref a_s1, .int lp_choices, .int lp_guesses, .int lp_unaries, .int lp_ranked])), (a_lp_facts, .inl (cI, 4096, .inl lp_facts_47)), (a_wk, .inr (10, [.ref a_wk_items, .int wk_size_48])), (a_wk_items, .inl (cI, 4096, .inl wk_items_49)), (a_rn, .inr (6, [.ref a_lp, .ref a_rn_levels, .ref a_rn_path, .ref a_s1, .ref a_s2, .ref a_wk, .int rn_reached, .int rn_greatestLevel, .int rn_pathSize])), (a_rn_levels, .inl (cI, 4096, .inl rn_levels_50))] H := hP
                have hD : va_D A [(a_lp_turns, .inl (cI, 24576, .inl lp_turns)), (a_lp, .inr (4, [.ref a_lp_facts, .ref a_lp_turns, .ref a_lp_first, .ref a_lp_src, .ref a_s1, .int lp_choices, .int lp_guesses, .int lp_unaries, .int lp_ranked])), (a_lp_facts, .inl (cI, 4096, .inl lp_facts_47)), (a_wk, .inr (10, [.ref a_wk_items, .int wk_size_48])), (a_wk_items, .inl (cI, 4096, .inl wk_items_49)), (a_rn, .inr (6, [.ref a_lp, .ref a_rn_levels, .ref a_rn_path, .ref a_s1, .ref a_s2, .ref a_wk, .int rn_reached, .int rn_greatestLevel, .int rn_pathSize])), (a_rn_levels, .inl (cI, 4096, .inl rn_levels_50))] := hD
                refine lv_iinc (v := x3_34 + 1) (lv' := [(3, .int (x3_34 + 1)), (0, .ref a_rn), (1, .int x1_22), (2, .int r_33)]) hx hb d_Runs_findLevels_110 hl (k := 3) rfl rfl (by decide) rfl (fun ls hl => ?_)
                refine lv_goto (tgt := 79) hx hb d_Runs_findLevels_113 (by decide) ?_
                exact il _ _ _ _ _ h _ _ (hP.sub [1, 2, 0, 5, 6, 3, 4] rfl) (hD.sub [1, 2, 0, 5, 6, 3, 4] (by decide) rfl) hS _ (lv_sub hl [1, 2, 3, 0] rfl)
          obtain ⟨n_, h⟩ := h
          refine L79_q_39 _ ?_ n_ _ _ _ _ _ h _ _ hP hD hS _ (lv_sub hl [2, 3, 1, 0] rfl)
          intro lp_facts_51 wk_size_52 wk_items_53 rn_levels_54 h
          intro H locs hP hD hS ls hl
          refine lv_iinc (v := x1_22 + 1) (lv' := [(1, .int (x1_22 + 1)), (0, .ref a_rn)]) hx hb d_Runs_findLevels_116 hl (k := 1) rfl rfl (by decide) rfl (fun ls hl => ?_)
          refine lv_goto (tgt := 50) hx hb d_Runs_findLevels_119 (by decide) ?_
          exact il _ _ _ _ _ h _ _ (hP.sub [0, 1, 2, 6, 3, 4, 5] rfl) (hD.sub [0, 1, 2, 6, 3, 4, 5] (by decide) rfl) hS _ (lv_sub hl [1, 0] rfl)
  obtain ⟨n_, h⟩ := h
  refine L50_q_27 _ ?_ n_ _ _ _ _ _ h _ _ hP hD hS _ (lv_sub hl [1, 0] rfl)
  intro lp_facts_55 wk_size_56 wk_items_57 rn_levels_58 h
  intro H locs hP hD hS ls hl
  refine lv_aload_n hx hb d_Runs_findLevels_122 rfl (lv_at hl 0 rfl) ?_
  refine lv_aload_n hx hb d_Runs_findLevels_123 rfl (lv_at hl 0 rfl) ?_
  refine va_get (D := (dC, dI)) (ci := 6) (v := .ref a_wk) (C := "LoopInduction$Runs") (T := F_Runs) (N := 9) hx hb hts iC_Runs hown hK hP 4 rfl rfl 5 (by decide) fl_49 (fun _ h9 => h9) rfl d_Runs_findLevels_124 ?_
  refine jn_i (wr := [(a_lp, .inr (4, [.ref a_lp_facts, .ref a_lp_turns, .ref a_lp_first, .ref a_lp_src, .ref a_s1, .int lp_choices, .int lp_guesses, .int lp_unaries, .int lp_ranked])), (a_lp_facts, .inl (cI, 4096, .inl lp_facts_55)), (a_lp_turns, .inl (cI, 24576, .inl lp_turns)), (a_wk_items, .inl (cI, 4096, .inl wk_items_57)), (a_rn, .inr (6, [.ref a_lp, .ref a_rn_levels, .ref a_rn_path, .ref a_s1, .ref a_s2, .ref a_wk, .int rn_reached, .int rn_greatestLevel, .int rn_pathSize])), (a_rn_levels, .inl (cI, 4096, .inl rn_levels_58))]) (va_runV (As := []) (rest := [.ref a_rn]) ⟨hx, hb, hml, hown, hts⟩ (c_Work_size l dC dI cI cB cZ adK adV _ a_wk a_wk_items wk_size_56 _ h) (cwV 0 hts (gv_ m_801 m_802 m_803 m_91 m_804) rfl rfl rfl pd_Work_size ⟨Nat.le_of_ble_eq_true rfl, Nat.le_of_ble_eq_true rfl⟩) ⟨pc_blind, va_recv hK hP (ci := 10) (q0 := 6) rfl rfl, pc_of (hP.sub [6] rfl) hK (hD.sub [6] (by decide) rfl) hN hT hS hA⟩ rfl rfl hl.1 rfl (lv_room (Nat.le_of_ble_eq_true rfl)) d_Runs_findLevels_127 ⟨Nat.zero_le _, Nat.zero_le _⟩) hP hD hS hA [6] [0, 1, 2, 3, 4, 5] rfl rfl (by decide) (by decide) (fun r_59 u_ H locs h hP hD hS => ?_)
  have hP : va_P (dC, dI) vwCl [(a_lp, .inr (4, [.ref a_lp_facts, .ref a_lp_turns, .ref a_lp_first, .ref a_lp_src, .ref a_s1, .int lp_choices, .int lp_guesses, .int lp_unaries, .int lp_ranked])), (a_lp_facts, .inl (cI, 4096, .inl lp_facts_55)), (a_lp_turns, .inl (cI, 24576, .inl lp_turns)), (a_wk_items, .inl (cI, 4096, .inl wk_items_57)), (a_rn, .inr (6, [.ref a_lp, .ref a_rn_levels, .ref a_rn_path, .ref a_s1, .ref a_s2, .ref a_wk, .int rn_reached, .int rn_greatestLevel, .int rn_pathSize])), (a_rn_levels, .inl (cI, 4096, .inl rn_levels_58)), (a_wk, .inr (10, [.ref a_wk_items, .int wk_size_56]))] H := hP
  have hD : va_D A [(a_lp, .inr (4, [.ref a_lp_facts, .ref a_lp_turns, .ref a_lp_first, .ref a_lp_src, .ref a_s1, .int lp_choices, .int lp_guesses, .int lp_unaries, .int lp_ranked])), (a_lp_facts, .inl (cI, 4096, .inl lp_facts_55)), (a_lp_turns, .inl (cI, 24576, .inl lp_turns)), (a_wk_items, .inl (cI, 4096, .inl wk_items_57)), (a_rn, .inr (6, [.ref a_lp, .ref a_rn_levels, .ref a_rn_path, .ref a_s1, .ref a_s2, .ref a_wk, .int rn_reached, .int rn_greatestLevel, .int rn_pathSize])), (a_rn_levels, .inl (cI, 4096, .inl rn_levels_58)), (a_wk, .inr (10, [.ref a_wk_items, .int wk_size_56]))] := hD
  refine va_put (D := (dC, dI)) (ci := 6) (v := .int r_59) (ty := .int) (C := "LoopInduction$Runs") (T := F_Runs) (N := 9) hx hb hts iC_Runs t_Runs t_Runs_ok n_Runs hown hK hP hD hS 4 rfl rfl 6 (by decide) fl_18 (fun _ h9 => h9) rfl (by decide +kernel) rfl rfl (Nat.le_of_ble_eq_true rfl) d_Runs_findLevels_130 (fun H locs hP hD hS => ?_)
  have hP : va_P (dC, dI) vwCl [(a_lp, .inr (4, [.ref a_lp_facts, .ref a_lp_turns, .ref a_lp_first, .ref a_lp_src, .ref a_s1, .int lp_choices, .int lp_guesses, .int lp_unaries, .int lp_ranked])), (a_lp_facts, .inl (cI, 4096, .inl lp_facts_55)), (a_lp_turns, .inl (cI, 24576, .inl lp_turns)), (a_wk_items, .inl (cI, 4096, .inl wk_items_57)), (a_rn, .inr (6, [.ref a_lp, .ref a_rn_levels, .ref a_rn_path, .ref a_s1, .ref a_s2, .ref a_wk, .int r_59, .int rn_greatestLevel, .int rn_pathSize])), (a_rn_levels, .inl (cI, 4096, .inl rn_levels_58)), (a_wk, .inr (10, [.ref a_wk_items, .int wk_size_56]))] H := hP
  have hD : va_D A [(a_lp, .inr (4, [.ref a_lp_facts, .ref a_lp_turns, .ref a_lp_first, .ref a_lp_src, .ref a_s1, .int lp_choices, .int lp_guesses, .int lp_unaries, .int lp_ranked])), (a_lp_facts, .inl (cI, 4096, .inl lp_facts_55)), (a_lp_turns, .inl (cI, 24576, .inl lp_turns)), (a_wk_items, .inl (cI, 4096, .inl wk_items_57)), (a_rn, .inr (6, [.ref a_lp, .ref a_rn_levels, .ref a_rn_path, .ref a_s1, .ref a_s2, .ref a_wk, .int r_59, .int rn_greatestLevel, .int rn_pathSize])), (a_rn_levels, .inl (cI, 4096, .inl rn_levels_58)), (a_wk, .inr (10, [.ref a_wk_items, .int wk_size_56]))] := hD
  refine lv_aload_n hx hb d_Runs_findLevels_133 rfl (lv_at hl 0 rfl) ?_
  refine lv_aload_n hx hb d_Runs_findLevels_134 rfl (lv_at hl 0 rfl) ?_
  refine va_get (D := (dC, dI)) (ci := 6) (v := .int r_59) (C := "LoopInduction$Runs") (T := F_Runs) (N := 9) hx hb hts iC_Runs hown hK hP 4 rfl rfl 6 (by decide) fl_18 (fun _ h9 => h9) rfl d_Runs_findLevels_135 ?_
  refine lv_if_le (tgt := 161) hx hb d_Runs_findLevels_138 (by decide) (fun c_138 => ?_) (fun c_138 => ?_)
  · have h := And.left h c_138
    refine lv_iconst (v := (-1)) hx hb d_Runs_findLevels_161 (by decide) ?_
    refine va_put (D := (dC, dI)) (ci := 6) (v := .int (-1)) (ty := .int) (C := "LoopInduction$Runs") (T := F_Runs) (N := 9) hx hb hts iC_Runs t_Runs t_Runs_ok n_Runs hown hK hP hD hS 4 rfl rfl 7 (by decide) fl_22 (fun _ h9 => h9) rfl (by decide +kernel) rfl rfl (Nat.le_of_ble_eq_true rfl) d_Runs_findLevels_162 (fun H locs hP hD hS => ?_)
    have hP : va_P (dC, dI) vwCl [(a_lp, .inr (4, [.ref a_lp_facts, .ref a_lp_turns, .ref a_lp_first, .ref a_lp_src, .ref a_s1, .int lp_choices, .int lp_guesses, .int lp_unaries, .int lp_ranked])), (a_lp_facts, .inl (cI, 4096, .inl lp_facts_55)), (a_lp_turns, .inl (cI, 24576, .inl lp_turns)), (a_wk_items, .inl (cI, 4096, .inl wk_items_57)), (a_rn, .inr (6, [.ref a_lp, .ref a_rn_levels, .ref a_rn_path, .ref a_s1, .ref a_s2, .ref a_wk, .int r_59, .int (-1), .int rn_pathSize])), (a_rn_levels, .inl (cI, 4096, .inl rn_levels_58)), (a_wk, .inr (10, [.ref a_wk_items, .int wk_size_56]))] H := hP
    have hD : va_D A [(a_lp, .inr (4, [.ref a_lp_facts, .ref a_lp_turns, .ref a_lp_first, .ref a_lp_src, .ref a_s1, .int lp_choices, .int lp_guesses, .int lp_unaries, .int lp_ranked])), (a_lp_facts, .inl (cI, 4096, .inl lp_facts_55)), (a_lp_turns, .inl (cI, 24576, .inl lp_turns)), (a_wk_items, .inl (cI, 4096, .inl wk_items_57)), (a_rn, .inr (6, [.ref a_lp, .ref a_rn_levels, .ref a_rn_path, .ref a_s1, .ref a_s2, .ref a_wk, .int r_59, .int (-1), .int rn_pathSize])), (a_rn_levels, .inl (cI, 4096, .inl rn_levels_58)), (a_wk, .inr (10, [.ref a_wk_items, .int wk_size_56]))] := hD
    rw [← hQ]
    have hP9 := hP.sub (ws' := [(a_lp, .inr (4, [.ref a_lp_facts, .ref a_lp_turns, .ref a_lp_first, .ref a_lp_src, .ref a_s1, .int lp_choices, .int lp_guesses, .int lp_unaries, .int lp_ranked])), (a_lp_facts, .inl (cI, 4096, .inl lp_facts_55)), (a_lp_turns, .inl (cI, 24576, .inl lp_turns)), (a_wk, .inr (10, [.ref a_wk_items, .int wk_size_56])), (a_wk_items, .inl (cI, 4096, .inl wk_items_57)), (a_rn, .inr (6, [.ref a_lp, .ref a_rn_levels, .ref a_rn_path, .ref a_s1, .ref a_s2, .ref a_wk, .int r_59, .int (-1), .int rn_pathSize])), (a_rn_levels, .inl (cI, 4096, .inl rn_levels_58))]) [0, 1, 2, 6, 3, 4, 5] rfl
    have hD9 := hD.sub (ws' := [(a_lp, .inr (4, [.ref a_lp_facts, .ref a_lp_turns, .ref a_lp_first, .ref a_lp_src, .ref a_s1, .int lp_choices, .int lp_guesses, .int lp_unaries, .int lp_ranked])), (a_lp_facts, .inl (cI, 4096, .inl lp_facts_55)), (a_lp_turns, .inl (cI, 24576, .inl lp_turns)), (a_wk, .inr (10, [.ref a_wk_items, .int wk_size_56])), (a_wk_items, .inl (cI, 4096, .inl wk_items_57)), (a_rn, .inr (6, [.ref a_lp, .ref a_rn_levels, .ref a_rn_path, .ref a_s1, .ref a_s2, .ref a_wk, .int r_59, .int (-1), .int rn_pathSize])), (a_rn_levels, .inl (cI, 4096, .inl rn_levels_58))]) [0, 1, 2, 6, 3, 4, 5] (by decide) rfl
    exact W.vret hx hb hr (fun t ht hW => ⟨⟨(lp_facts_55, wk_size_56, wk_items_57, r_59, (-1), rn_levels_58), rfl, h, by rw [ht]; exact hP9, va_K.moved hW.alike hK, hD9⟩, hS.F ht⟩) hS.2.2 d_Runs_findLevels_165
  · have h := And.right h c_138
    refine lv_aload_n hx hb d_Runs_findLevels_141 rfl (lv_at hl 0 rfl) ?_
    refine lv_aload_n hx hb d_Runs_findLevels_142 rfl (lv_at hl 0 rfl) ?_
    refine va_get (D := (dC, dI)) (ci := 6) (v := .ref a_wk) (C := "LoopInduction$Runs") (T := F_Runs) (N := 9) hx hb hts iC_Runs hown hK hP 4 rfl rfl 5 (by decide) fl_49 (fun _ h9 => h9) rfl d_Runs_findLevels_143 ?_
    refine lv_aload_n hx hb d_Runs_findLevels_146 rfl (lv_at hl 0 rfl) ?_
    refine va_get (D := (dC, dI)) (ci := 6) (v := .int r_59) (C := "LoopInduction$Runs") (T := F_Runs) (N := 9) hx hb hts iC_Runs hown hK hP 4 rfl rfl 6 (by decide) fl_18 (fun _ h9 => h9) rfl d_Runs_findLevels_147 ?_
    refine lv_iconst (v := 1) hx hb d_Runs_findLevels_150 (by decide) ?_
    refine lv_isub hx hb d_Runs_findLevels_151 ?_
    refine jn_i (wr := [(a_lp, .inr (4, [.ref a_lp_facts, .ref a_lp_turns, .ref a_lp_first, .ref a_lp_src, .ref a_s1, .int lp_choices, .int lp_guesses, .int lp_unaries, .int lp_ranked])), (a_lp_facts, .inl (cI, 4096, .inl lp_facts_55)), (a_lp_turns, .inl (cI, 24576, .inl lp_turns)), (a_rn, .inr (6, [.ref a_lp, .ref a_rn_levels, .ref a_rn_path, .ref a_s1, .ref a_s2, .ref a_wk, .int r_59, .int rn_greatestLevel, .int rn_pathSize])), (a_rn_levels, .inl (cI, 4096, .inl rn_levels_58))]) (va_runV (As := [.int (r_59 - 1)]) (rest := [.ref a_rn, .ref a_rn]) ⟨hx, hb, hml, hown, hts⟩ (c_Work_item l dC dI cI cB cZ adK adV _ a_wk a_wk_items wk_size_56 wk_items_57 (r_59 - 1) _ h) (cwV 1 hts (gv_ m_805 m_806 m_807 m_91 m_808) rfl rfl rfl pd_Work_item ⟨Nat.le_of_ble_eq_true rfl, Nat.le_of_ble_eq_true rfl⟩) ⟨pc_blind, va_recv hK hP (ci := 10) (q0 := 6) rfl rfl, pc_of (hP.sub [6, 3] rfl) hK (hD.sub [6, 3] (by decide) rfl) hN hT hS hA⟩ rfl rfl hl.1 rfl (lv_room (Nat.le_of_ble_eq_true rfl)) d_Runs_findLevels_152 ⟨Nat.zero_le _, Nat.zero_le _⟩) hP hD hS hA [6, 3] [0, 1, 2, 4, 5] rfl rfl (by decide) (by decide) (fun r_60 u_ H locs h hP hD hS => ?_)
    have hP : va_P (dC, dI) vwCl [(a_lp, .inr (4, [.ref a_lp_facts, .ref a_lp_turns, .ref a_lp_first, .ref a_lp_src, .ref a_s1, .int lp_choices, .int lp_guesses, .int lp_unaries, .int lp_ranked])), (a_lp_facts, .inl (cI, 4096, .inl lp_facts_55)), (a_lp_turns, .inl (cI, 24576, .inl lp_turns)), (a_rn, .inr (6, [.ref a_lp, .ref a_rn_levels, .ref a_rn_path, .ref a_s1, .ref a_s2, .ref a_wk, .int r_59, .int rn_greatestLevel, .int rn_pathSize])), (a_rn_levels, .inl (cI, 4096, .inl rn_levels_58)), (a_wk, .inr (10, [.ref a_wk_items, .int wk_size_56])), (a_wk_items, .inl (cI, 4096, .inl wk_items_57))] H := hP
    have hD : va_D A [(a_lp, .inr (4, [.ref a_lp_facts, .ref a_lp_turns, .ref a_lp_first, .ref a_lp_src, .ref a_s1, .int lp_choices, .int lp_guesses, .int lp_unaries, .int lp_ranked])), (a_lp_facts, .inl (cI, 4096, .inl lp_facts_55)), (a_lp_turns, .inl (cI, 24576, .inl lp_turns)), (a_rn, .inr (6, [.ref a_lp, .ref a_rn_levels, .ref a_rn_path, .ref a_s1, .ref a_s2, .ref a_wk, .int r_59, .int rn_greatestLevel, .int rn_pathSize])), (a_rn_levels, .inl (cI, 4096, .inl rn_levels_58)), (a_wk, .inr (10, [.ref a_wk_items, .int wk_size_56])), (a_wk_items, .inl (cI, 4096, .inl wk_items_57))] := hD
    refine jn_i (wr := [(a_lp, .inr (4, [.ref a_lp_facts, .ref a_lp_turns, .ref a_lp_first, .ref a_lp_src, .ref a_s1, .int lp_choices, .int lp_guesses, .int lp_unaries, .int lp_ranked])), (a_lp_facts, .inl (cI, 4096, .inl lp_facts_55)), (a_lp_turns, .inl (cI, 24576, .inl lp_turns)), (a_wk, .inr (10, [.ref a_wk_items, .int wk_size_56])), (a_wk_items, .inl (cI, 4096, .inl wk_items_57))]) (va_runV (As := [.int r_60]) (rest := [.ref a_rn]) ⟨hx, hb, hml, hown, hts⟩ (c_Runs_levelOf l dC dI cI cB cZ adK adV _ a_rn a_lp a_rn_levels a_rn_path a_s1 a_s2 a_wk r_59 rn_greatestLevel rn_pathSize rn_levels_58 r_60 _ h) (cwV 1 hts (gv_ m_814 m_815 m_816 m_93 m_817) rfl rfl rfl pd_Runs_levelOf ⟨Nat.le_of_ble_eq_true rfl, Nat.le_of_ble_eq_true rfl⟩) ⟨pc_blind, va_recv hK hP (ci := 6) (q0 := 3) rfl rfl, pc_of (hP.sub [3, 4] rfl) hK (hD.sub [3, 4] (by decide) rfl) hN hT hS hA⟩ rfl rfl hl.1 rfl (lv_room (Nat.le_of_ble_eq_true rfl)) d_Runs_findLevels_155 ⟨Nat.zero_le _, Nat.zero_le _⟩) hP hD hS hA [3, 4] [0, 1, 2, 5, 6] rfl rfl (by decide) (by decide) (fun r_61 u_ H locs h hP hD hS => ?_)
    have hP : va_P (dC, dI) vwCl [(a_lp, .inr (4, [.ref a_lp_facts, .ref a_lp_turns, .ref a_lp_first, .ref a_lp_src, .ref a_s1, .int lp_choices, .int lp_guesses, .int lp_unaries, .int lp_ranked])), (a_lp_facts, .inl (cI, 4096, .inl lp_facts_55)), (a_lp_turns, .inl (cI, 24576, .inl lp_turns)), (a_wk, .inr (10, [.ref a_wk_items, .int wk_size_56])), (a_wk_items, .inl (cI, 4096, .inl wk_items_57)), (a_rn, .inr (6, [.ref a_lp, .ref a_rn_levels, .ref a_rn_path, .ref a_s1, .ref a_s2, .ref a_wk, .int r_59, .int rn_greatestLevel, .int rn_pathSize])), (a_rn_levels, .inl (cI, 4096, .inl rn_levels_58))] H := hP
    have hD : va_D A [(a_lp, .inr (4, [.ref a_lp_facts, .ref a_lp_turns, .ref a_lp_first, .ref a_lp_src, .ref a_s1, .int lp_choices, .int lp_guesses, .int lp_unaries, .int lp_ranked])), (a_lp_facts, .inl (cI, 4096, .inl lp_facts_55)), (a_lp_turns, .inl (cI, 24576, .inl lp_turns)), (a_wk, .inr (10, [.ref a_wk_items, .int wk_size_56])), (a_wk_items, .inl (cI, 4096, .inl wk_items_57)), (a_rn, .inr (6, [.ref a_lp, .ref a_rn_levels, .ref a_rn_path, .ref a_s1, .ref a_s2, .ref a_wk, .int r_59, .int rn_greatestLevel, .int rn_pathSize])), (a_rn_levels, .inl (cI, 4096, .inl rn_levels_58))] := hD
    refine lv_goto (tgt := 162) hx hb d_Runs_findLevels_158 (by decide) ?_
    refine va_put (D := (dC, dI)) (ci := 6) (v := .int r_61) (ty := .int) (C := "LoopInduction$Runs") (T := F_Runs) (N := 9) hx hb hts iC_Runs t_Runs t_Runs_ok n_Runs hown hK hP hD hS 5 rfl rfl 7 (by decide) fl_22 (fun _ h9 => h9) rfl (by decide +kernel) rfl rfl (Nat.le_of_ble_eq_true rfl) d_Runs_findLevels_162 (fun H locs hP hD hS => ?_)
    have hP : va_P (dC, dI) vwCl [(a_lp, .inr (4, [.ref a_lp_facts, .ref a_lp_turns, .ref a_lp_first, .ref a_lp_src, .ref a_s1, .int lp_choices, .int lp_guesses, .int lp_unaries, .int lp_ranked])), (a_lp_facts, .inl (cI, 4096, .inl lp_facts_55)), (a_lp_turns, .inl (cI, 24576, .inl lp_turns)), (a_wk, .inr (10, [.ref a_wk_items, .int wk_size_56])), (a_wk_items, .inl (cI, 4096, .inl wk_items_57)), (a_rn, .inr (6, [.ref a_lp, .ref a_rn_levels, .ref a_rn_path, .ref a_s1, .ref a_s2, .ref a_wk, .int r_59, .int r_61, .int rn_pathSize])), (a_rn_levels, .inl (cI, 4096, .inl rn_levels_58))] H := hP
    have hD : va_D A [(a_lp, .inr (4, [.ref a_lp_facts, .ref a_lp_turns, .ref a_lp_first, .ref a_lp_src, .ref a_s1, .int lp_choices, .int lp_guesses, .int lp_unaries, .int lp_ranked])), (a_lp_facts, .inl (cI, 4096, .inl lp_facts_55)), (a_lp_turns, .inl (cI, 24576, .inl lp_turns)), (a_wk, .inr (10, [.ref a_wk_items, .int wk_size_56])), (a_wk_items, .inl (cI, 4096, .inl wk_items_57)), (a_rn, .inr (6, [.ref a_lp, .ref a_rn_levels, .ref a_rn_path, .ref a_s1, .ref a_s2, .ref a_wk, .int r_59, .int r_61, .int rn_pathSize])), (a_rn_levels, .inl (cI, 4096, .inl rn_levels_58))] := hD
    rw [← hQ]
    have hP9 := hP
    have hD9 := hD
    exact W.vret hx hb hr (fun t ht hW => ⟨⟨(lp_facts_55, wk_size_56, wk_items_57, r_59, r_61, rn_levels_58), rfl, h, by rw [ht]; exact hP9, va_K.moved hW.alike hK, hD9⟩, hS.F ht⟩) hS.2.2 d_Runs_findLevels_165
set_option maxHeartbeats 4000000 in
set_option maxRecDepth 100000 in
theorem c_Runs_measureSource (l : Launch) (dC : Nat → ClassId) (dI : Nat → Nat → Nat) (cI cB cZ : ClassId) (adK adV : Nat → Nat) (sz : Nat) (a_s1 a_wk a_wk_items a_rn a_lp a_rn_levels a_rn_path a_s2 : Nat) (s1 : Nat → Int32) (wk_size : Int32) (wk_items : Nat → Int32) (rn_reached : Int32) (rn_greatestLevel : Int32) (rn_pathSize : Int32) (x1 : Int32) (x2 : Int32) (post : (Nat → Int32) → Int32 → (Nat → Int32) → Prop) (h : wp_Runs_measureSource x1 x2 s1 wk_size wk_items post) : Met l y_Runs_measureSource w_Runs_measureSource ({ frames := 1, cells := 0, slots := 0, locals := 21 }) (pc_ (dC, dI) [(cI, .int), (cB, .byte), (cZ, .boolean)] [(a_s1, .inl (cI, 4096, .inl s1)), (a_wk, .inr (10, [.ref a_wk_items, .int wk_size])), (a_wk_items, .inl (cI, 4096, .inl wk_items)), (a_rn, .inr (6, [.ref a_lp, .ref a_rn_levels, .ref a_rn_path, .ref a_s1, .ref a_s2, .ref a_wk, .int rn_reached, .int rn_greatestLevel, .int rn_pathSize]))] sz adK adV [.ref a_rn, .int x1, .int x2]) (va_Qv (fun (u : (Nat → Int32) × Int32 × (Nat → Int32)) => post u.1 u.2.1 u.2.2) (fun (u : (Nat → Int32) × Int32 × (Nat → Int32)) t => bw_ (dC, dI) [(cI, .int), (cB, .byte), (cZ, .boolean)] (va_A [(a_s1, .inl (cI, 4096, .inl s1)), (a_wk, .inr (10, [.ref a_wk_items, .int wk_size])), (a_wk_items, .inl (cI, 4096, .inl wk_items)), (a_rn, .inr (6, [.ref a_lp, .ref a_rn_levels, .ref a_rn_path, .ref a_s1, .ref a_s2, .ref a_wk, .int rn_reached, .int rn_greatestLevel, .int rn_pathSize]))] sz) [(a_s1, .inl (cI, 4096, .inl u.1)), (a_wk, .inr (10, [.ref a_wk_items, .int u.2.1])), (a_wk_items, .inl (cI, 4096, .inl u.2.2)), (a_rn, .inr (6, [.ref a_lp, .ref a_rn_levels, .ref a_rn_path, .ref a_s1, .ref a_s2, .ref a_wk, .int rn_reached, .int rn_greatestLevel, .int rn_pathSize]))] t) (va_A [(a_s1, .inl (cI, 4096, .inl s1)), (a_wk, .inr (10, [.ref a_wk_items, .int wk_size])), (a_wk_items, .inl (cI, 4096, .inl wk_items)), (a_rn, .inr (6, [.ref a_lp, .ref a_rn_levels, .ref a_rn_path, .ref a_s1, .ref a_s2, .ref a_wk, .int rn_reached, .int rn_greatestLevel, .int rn_pathSize]))] sz)) 0 0 (va_A [(a_s1, .inl (cI, 4096, .inl s1)), (a_wk, .inr (10, [.ref a_wk_items, .int wk_size])), (a_wk_items, .inl (cI, 4096, .inl wk_items)), (a_rn, .inr (6, [.ref a_lp, .ref a_rn_levels, .ref a_rn_path, .ref a_s1, .ref a_s2, .ref a_wk, .int rn_reached, .int rn_greatestLevel, .int rn_pathSize]))] sz) := by
  refine Met.ofW (cc := b_Runs_measureSource) (maxL := 3) (ret := none) (by decide) rfl ?_
  intro p e s m args below meth c s₁ B hml hv
  obtain ⟨rfl, hsz, hP, hK, hD0, hN, hT⟩ := hv
  have hx := B.exec
  have hb := B.bytes
  have hr := B.returns
  have hts := atoms_spec (ws := w_Runs_measureSource) B.pre
  have hown : s.vm.findClass "LoopInduction$Runs" = some m.cls := findClass_of_methodNamed B.named
  have hlocks := B.notSynchronized
  subst hsz
  have hD := hD0.self (sz := s.heap.size)
  generalize hAe : va_A [(a_s1, .inl (cI, 4096, .inl s1)), (a_wk, .inr (10, [.ref a_wk_items, .int wk_size])), (a_wk_items, .inl (cI, 4096, .inl wk_items)), (a_rn, .inr (6, [.ref a_lp, .ref a_rn_levels, .ref a_rn_path, .ref a_s1, .ref a_s2, .ref a_wk, .int rn_reached, .int rn_greatestLevel, .int rn_pathSize]))] s.heap.size = A at hD hT ⊢
  have hA : ∀ q : Nat, s.heap.size ≤ q → A q := fun q h => by rw [← hAe]; exact Or.inr h
  have hS : va_S A s.heap s.heap [] := va_S.rf
  generalize hQ : MQ below _ _ s 0 0 _ = QQ
  have hl := lv_entry ([.ref a_rn, .int x1, .int x2]) (n := 3) (Nat.le_of_ble_eq_true rfl)
  rw [lg_entry_eq]
  generalize (lg_sl ([.ref a_rn, .int x1, .int x2]) ++ List.replicate (3 - (lg_sl ([.ref a_rn, .int x1, .int x2])).length) Slot.unset).toArray = ls at hl ⊢
  have hl : lv_has ls 3 [(0, .ref a_rn), (1, .int x1), (2, .int x2)] := hl
  have fl_38 := (hts _ (List.mem_cons_of_mem _ m_300))
  have fl_49 := (hts _ (List.mem_cons_of_mem _ m_302))
  refine lv_iload_n hx hb d_Runs_measureSource_0 rfl (lv_at hl 1 rfl) ?_
  refine jn_i (wr := [(a_s1, .inl (cI, 4096, .inl s1)), (a_wk, .inr (10, [.ref a_wk_items, .int wk_size])), (a_wk_items, .inl (cI, 4096, .inl wk_items)), (a_rn, .inr (6, [.ref a_lp, .ref a_rn_levels, .ref a_rn_path, .ref a_s1, .ref a_s2, .ref a_wk, .int rn_reached, .int rn_greatestLevel, .int rn_pathSize]))]) (va_runSN (As := [.int x1]) (rest := []) ⟨hx, hb, hml, hown, hts⟩ (c_LI_isState l dC dI cI cB cZ adK adV _ x1 _ h) ⟨va_cnB 1 hts (ga_ m_762) rfl rfl rfl (hN _ (List.mem_of_getElem? (i := 5) rfl)) (hts _ (List.mem_cons_of_mem _ m_85)) pn_LI_isState ⟨Nat.le_of_ble_eq_true rfl, Nat.le_of_ble_eq_true rfl⟩, (hts _ (List.mem_cons_of_mem _ m_761)), trivial⟩ ⟨pc_blind, pc_of (hP.sub [] rfl) hK (hD.sub [] (by decide) rfl) hN hT hS hA⟩ rfl rfl hl.1 rfl (lv_room (Nat.le_of_ble_eq_true rfl)) d_Runs_measureSource_1 ⟨Nat.zero_le _, Nat.zero_le _⟩) hP hD hS hA [] [0, 1, 2, 3] rfl rfl (by decide) (by decide) (fun r_1 u_ H locs h hP hD hS => ?_)
  have hP : va_P (dC, dI) vwCl [(a_s1, .inl (cI, 4096, .inl s1)), (a_wk, .inr (10, [.ref a_wk_items, .int wk_size])), (a_wk_items, .inl (cI, 4096, .inl wk_items)), (a_rn, .inr (6, [.ref a_lp, .ref a_rn_levels, .ref a_rn_path, .ref a_s1, .ref a_s2, .ref a_wk, .int rn_reached, .int rn_greatestLevel, .int rn_pathSize]))] H := hP
  have hD : va_D A [(a_s1, .inl (cI, 4096, .inl s1)), (a_wk, .inr (10, [.ref a_wk_items, .int wk_size])), (a_wk_items, .inl (cI, 4096, .inl wk_items)), (a_rn, .inr (6, [.ref a_lp, .ref a_rn_levels, .ref a_rn_path, .ref a_s1, .ref a_s2, .ref a_wk, .int rn_reached, .int rn_greatestLevel, .int rn_pathSize]))] := hD
  refine lv_if_eq (tgt := 46) hx hb d_Runs_measureSource_4 (by decide) (fun c_4 => ?_) (fun c_4 => ?_)
  · have h := And.left h c_4
    rw [← hQ]
    have hP9 := hP
    have hD9 := hD
    exact W.vret hx hb hr (fun t ht hW => ⟨⟨(s1, wk_size, wk_items), rfl, h, by rw [ht]; exact hP9, va_K.moved hW.alike hK, hD9⟩, hS.F ht⟩) hS.2.2 d_Runs_measureSource_46
  · have h := And.right h c_4
    refine lv_iload_n hx hb d_Runs_measureSource_7 rfl (lv_at hl 2 rfl) ?_
    refine jn_i (wr := [(a_s1, .inl (cI, 4096, .inl s1)), (a_wk, .inr (10, [.ref a_wk_items, .int wk_size])), (a_wk_items, .inl (cI, 4096, .inl wk_items)), (a_rn, .inr (6, [.ref a_lp, .ref a_rn_levels, .ref a_rn_path, .ref a_s1, .ref a_s2, .ref a_wk, .int rn_reached, .int rn_greatestLevel, .int rn_pathSize]))]) (va_runSN (As := [.int x2]) (rest := []) ⟨hx, hb, hml, hown, hts⟩ (c_LI_isState l dC dI cI cB cZ adK adV _ x2 _ h) ⟨va_cnB 1 hts (ga_ m_762) rfl rfl rfl (hN _ (List.mem_of_getElem? (i := 5) rfl)) (hts _ (List.mem_cons_of_mem _ m_85)) pn_LI_isState ⟨Nat.le_of_ble_eq_true rfl, Nat.le_of_ble_eq_true rfl⟩, (hts _ (List.mem_cons_of_mem _ m_761)), trivial⟩ ⟨pc_blind, pc_of (hP.sub [] rfl) hK (hD.sub [] (by decide) rfl) hN hT hS hA⟩ rfl rfl hl.1 rfl (lv_room (Nat.le_of_ble_eq_true rfl)) d_Runs_measureSource_8 ⟨Nat.zero_le _, Nat.zero_le _⟩) hP hD hS hA [] [0, 1, 2, 3] rfl rfl (by decide) (by decide) (fun r_2 u_ H locs h hP hD hS => ?_)
    have hP : va_P (dC, dI) vwCl [(a_s1, .inl (cI, 4096, .inl s1)), (a_wk, .inr (10, [.ref a_wk_items, .int wk_size])), (a_wk_items, .inl (cI, 4096, .inl wk_items)), (a_rn, .inr (6, [.ref a_lp, .ref a_rn_levels, .ref a_rn_path, .ref a_s1, .ref a_s2, .ref a_wk, .int rn_reached, .int rn_greatestLevel, .int rn_pathSize]))] H := hP
    have hD : va_D A [(a_s1, .inl (cI, 4096, .inl s1)), (a_wk, .inr (10, [.ref a_wk_items, .int wk_size])), (a_wk_items, .inl (cI, 4096, .inl wk_items)), (a_rn, .inr (6, [.ref a_lp, .ref a_rn_levels, .ref a_rn_path, .ref a_s1, .ref a_s2, .ref a_wk, .int rn_reached, .int rn_greatestLevel, .int rn_pathSize]))] := hD
    refine lv_if_eq (tgt := 46) hx hb d_Runs_measureSource_11 (by decide) (fun c_11 => ?_) (fun c_11 => ?_)
    · have h := And.left h c_11
      rw [← hQ]
      have hP9 := hP
      have hD9 := hD
      exact W.vret hx hb hr (fun t ht hW => ⟨⟨(s1, wk_size, wk_items), rfl, h, by rw [ht]; exact hP9, va_K.moved hW.alike hK, hD9⟩, hS.F ht⟩) hS.2.2 d_Runs_measureSource_46
    · have h := And.right h c_11
      refine lv_aload_n hx hb d_Runs_measureSource_14 rfl (lv_at hl 0 rfl) ?_
      refine va_get (D := (dC, dI)) (ci := 6) (v := .ref a_s1) (C := "LoopInduction$Runs") (T := F_Runs) (N := 9) hx hb hts iC_Runs hown hK hP 3 rfl rfl 3 (by decide) fl_38 (fun _ h9 => h9) rfl d_Runs_measureSource_15 ?_
      refine lv_iload_n hx hb d_Runs_measureSource_18 rfl (lv_at hl 1 rfl) ?_
      obtain ⟨hin_19, h⟩ := h
      refine va_iald hx hb hK hP 0 0 rfl rfl hin_19 d_Runs_measureSource_19 ?_
      refine lv_iconst (v := (-1)) hx hb d_Runs_measureSource_20 (by decide) ?_
      refine lv_icmp_ne (tgt := 46) hx hb d_Runs_measureSource_21 (by decide) (fun c_21 => ?_) (fun c_21 => ?_)
      · have h := And.left h c_21
        rw [← hQ]
        have hP9 := hP
        have hD9 := hD
        exact W.vret hx hb hr (fun t ht hW => ⟨⟨(s1, wk_size, wk_items), rfl, h, by rw [ht]; exact hP9, va_K.moved hW.alike hK, hD9⟩, hS.F ht⟩) hS.2.2 d_Runs_measureSource_46
      · have h := And.right h c_21
        refine lv_aload_n hx hb d_Runs_measureSource_24 rfl (lv_at hl 0 rfl) ?_
        refine va_get (D := (dC, dI)) (ci := 6) (v := .ref a_s1) (C := "LoopInduction$Runs") (T := F_Runs) (N := 9) hx hb hts iC_Runs hown hK hP 3 rfl rfl 3 (by decide) fl_38 (fun _ h9 => h9) rfl d_Runs_measureSource_25 ?_
        refine lv_iload_n hx hb d_Runs_measureSource_28 rfl (lv_at hl 1 rfl) ?_
        refine lv_aload_n hx hb d_Runs_measureSource_29 rfl (lv_at hl 0 rfl) ?_
        refine va_get (D := (dC, dI)) (ci := 6) (v := .ref a_s1) (C := "LoopInduction$Runs") (T := F_Runs) (N := 9) hx hb hts iC_Runs hown hK hP 3 rfl rfl 3 (by decide) fl_38 (fun _ h9 => h9) rfl d_Runs_measureSource_30 ?_
        refine lv_iload_n hx hb d_Runs_measureSource_33 rfl (lv_at hl 2 rfl) ?_
        obtain ⟨hin_34, h⟩ := h
        refine va_iald hx hb hK hP 0 0 rfl rfl hin_34 d_Runs_measureSource_34 ?_
        refine lv_iconst (v := 1) hx hb d_Runs_measureSource_35 (by decide) ?_
        refine lv_iadd hx hb d_Runs_measureSource_36 ?_
        obtain ⟨hin_37, h⟩ := h
        refine va_iast hx hb hK hP hD hS 0 0 rfl rfl hin_37 d_Runs_measureSource_37 (fun H locs hP hD hS => ?_)
        have hP : va_P (dC, dI) vwCl [(a_s1, .inl (cI, 4096, .inl (upd s1 (x1 : Int32).toNatClampNeg ((s1 (x2 : Int32).toNatClampNeg) + 1)))), (a_wk, .inr (10, [.ref a_wk_items, .int wk_size])), (a_wk_items, .inl (cI, 4096, .inl wk_items)), (a_rn, .inr (6, [.ref a_lp, .ref a_rn_levels, .ref a_rn_path, .ref a_s1, .ref a_s2, .ref a_wk, .int rn_reached, .int rn_greatestLevel, .int rn_pathSize]))] H := hP
        have hD : va_D A [(a_s1, .inl (cI, 4096, .inl (upd s1 (x1 : Int32).toNatClampNeg ((s1 (x2 : Int32).toNatClampNeg) + 1)))), (a_wk, .inr (10, [.ref a_wk_items, .int wk_size])), (a_wk_items, .inl (cI, 4096, .inl wk_items)), (a_rn, .inr (6, [.ref a_lp, .ref a_rn_levels, .ref a_rn_path, .ref a_s1, .ref a_s2, .ref a_wk, .int rn_reached, .int rn_greatestLevel, .int rn_pathSize]))] := hD
        refine lv_aload_n hx hb d_Runs_measureSource_38 rfl (lv_at hl 0 rfl) ?_
        refine va_get (D := (dC, dI)) (ci := 6) (v := .ref a_wk) (C := "LoopInduction$Runs") (T := F_Runs) (N := 9) hx hb hts iC_Runs hown hK hP 3 rfl rfl 5 (by decide) fl_49 (fun _ h9 => h9) rfl d_Runs_measureSource_39 ?_
        refine lv_iload_n hx hb d_Runs_measureSource_42 rfl (lv_at hl 1 rfl) ?_
        refine jn_v (wr := [(a_s1, .inl (cI, 4096, .inl (upd s1 (x1 : Int32).toNatClampNeg ((s1 (x2 : Int32).toNatClampNeg) + 1)))), (a_rn, .inr (6, [.ref a_lp, .ref a_rn_levels, .ref a_rn_path, .ref a_s1, .ref a_s2, .ref a_wk, .int rn_reached, .int rn_greatestLevel, .int rn_pathSize]))]) (va_runV (As := [.int x1]) (rest := []) ⟨hx, hb, hml, hown, hts⟩ (c_Work_put l dC dI cI cB cZ adK adV _ a_wk a_wk_items wk_size wk_items x1 _ h) (cwV 1 hts (gv_ m_797 m_798 m_799 m_91 m_800) rfl rfl rfl pd_Work_put ⟨Nat.le_of_ble_eq_true rfl, Nat.le_of_ble_eq_true rfl⟩) ⟨pc_blind, va_recv hK hP (ci := 10) (q0 := 1) rfl rfl, pc_of (hP.sub [1, 2] rfl) hK (hD.sub [1, 2] (by decide) rfl) hN hT hS hA⟩ rfl rfl hl.1 rfl (lv_room (Nat.le_of_ble_eq_true rfl)) d_Runs_measureSource_43 ⟨Nat.zero_le _, Nat.zero_le _⟩) hP hD hS hA [1, 2] [0, 3] rfl rfl (by decide) (by decide) (fun u_ H locs h hP hD hS => ?_)
        obtain ⟨wk_size_3, wk_items_4⟩ := u_
        have hP : va_P (dC, dI) vwCl [(a_s1, .inl (cI, 4096, .inl (upd s1 (x1 : Int32).toNatClampNeg ((s1 (x2 : Int32).toNatClampNeg) + 1)))), (a_rn, .inr (6, [.ref a_lp, .ref a_rn_levels, .ref a_rn_path, .ref a_s1, .ref a_s2, .ref a_wk, .int rn_reached, .int rn_greatestLevel, .int rn_pathSize])), (a_wk, .inr (10, [.ref a_wk_items, .int wk_size_3])), (a_wk_items, .inl (cI, 4096, .inl wk_items_4))] H := hP
        have hD : va_D A [(a_s1, .inl (cI, 4096, .inl (upd s1 (x1 : Int32).toNatClampNeg ((s1 (x2 : Int32).toNatClampNeg) + 1)))), (a_rn, .inr (6, [.ref a_lp, .ref a_rn_levels, .ref a_rn_path, .ref a_s1, .ref a_s2, .ref a_wk, .int rn_reached, .int rn_greatestLevel, .int rn_pathSize])), (a_wk, .inr (10, [.ref a_wk_items, .int wk_size_3])), (a_wk_items, .inl (cI, 4096, .inl wk_items_4))] := hD
        rw [← hQ]
        have hP9 := hP.sub (ws' := [(a_s1, .inl (cI, 4096, .inl (upd s1 (x1 : Int32).toNatClampNeg ((s1 (x2 : Int32).toNatClampNeg) + 1)))), (a_wk, .inr (10, [.ref a_wk_items, .int wk_size_3])), (a_wk_items, .inl (cI, 4096, .inl wk_items_4)), (a_rn, .inr (6, [.ref a_lp, .ref a_rn_levels, .ref a_rn_path, .ref a_s1, .ref a_s2, .ref a_wk, .int rn_reached, .int rn_greatestLevel, .int rn_pathSize]))]) [0, 2, 3, 1] rfl
        have hD9 := hD.sub (ws' := [(a_s1, .inl (cI, 4096, .inl (upd s1 (x1 : Int32).toNatClampNeg ((s1 (x2 : Int32).toNatClampNeg) + 1)))), (a_wk, .inr (10, [.ref a_wk_items, .int wk_size_3])), (a_wk_items, .inl (cI, 4096, .inl wk_items_4)), (a_rn, .inr (6, [.ref a_lp, .ref a_rn_levels, .ref a_rn_path, .ref a_s1, .ref a_s2, .ref a_wk, .int rn_reached, .int rn_greatestLevel, .int rn_pathSize]))]) [0, 2, 3, 1] (by decide) rfl
        exact W.vret hx hb hr (fun t ht hW => ⟨⟨(upd s1 (x1 : Int32).toNatClampNeg ((s1 (x2 : Int32).toNatClampNeg) + 1), wk_size_3, wk_items_4), rfl, h, by rw [ht]; exact hP9, va_K.moved hW.alike hK, hD9⟩, hS.F ht⟩) hS.2.2 d_Runs_measureSource_46
set_option maxHeartbeats 4000000 in
set_option maxRecDepth 100000 in
theorem c_Runs_measureToBad (l : Launch) (dC : Nat → ClassId) (dI : Nat → Nat → Nat) (cI cB cZ : ClassId) (adK adV : Nat → Nat) (sz : Nat) (a_lp a_lp_facts a_lp_turns a_lp_first a_lp_src a_s1 a_wk a_wk_items a_rn a_rn_levels a_rn_path a_s2 : Nat) (lp_choices : Int32) (lp_guesses : Int32) (lp_unaries : Int32) (lp_ranked : Int32) (lp_facts : Nat → Int32) (lp_first : Nat → Int32) (lp_src : Nat → Int32) (s1 : Nat → Int32) (wk_size : Int32) (wk_items : Nat → Int32) (rn_reached : Int32) (rn_greatestLevel : Int32) (rn_pathSize : Int32) (post : (Nat → Int32) → Int32 → (Nat → Int32) → Prop) (h : wp_Runs_measureToBad lp_facts lp_first lp_src s1 wk_size wk_items post) : Met l y_Runs_measureToBad w_Runs_measureToBad ({ frames := 2, cells := 0, slots := 0, locals := 43 }) (pc_ (dC, dI) [(cI, .int), (cB, .byte), (cZ, .boolean)] [(a_lp, .inr (4, [.ref a_lp_facts, .ref a_lp_turns, .ref a_lp_first, .ref a_lp_src, .ref a_s1, .int lp_choices, .int lp_guesses, .int lp_unaries, .int lp_ranked])), (a_lp_facts, .inl (cI, 4096, .inl lp_facts)), (a_lp_first, .inl (cI, 4097, .inl lp_first)), (a_lp_src, .inl (cI, 24576, .inl lp_src)), (a_s1, .inl (cI, 4096, .inl s1)), (a_wk, .inr (10, [.ref a_wk_items, .int wk_size])), (a_wk_items, .inl (cI, 4096, .inl wk_items)), (a_rn, .inr (6, [.ref a_lp, .ref a_rn_levels, .ref a_rn_path, .ref a_s1, .ref a_s2, .ref a_wk, .int rn_reached, .int rn_greatestLevel, .int rn_pathSize]))] sz adK adV [.ref a_rn]) (va_Qv (fun (u : (Nat → Int32) × Int32 × (Nat → Int32)) => post u.1 u.2.1 u.2.2) (fun (u : (Nat → Int32) × Int32 × (Nat → Int32)) t => bw_ (dC, dI) [(cI, .int), (cB, .byte), (cZ, .boolean)] (va_A [(a_lp, .inr (4, [.ref a_lp_facts, .ref a_lp_turns, .ref a_lp_first, .ref a_lp_src, .ref a_s1, .int lp_choices, .int lp_guesses, .int lp_unaries, .int lp_ranked])), (a_lp_facts, .inl (cI, 4096, .inl lp_facts)), (a_lp_first, .inl (cI, 4097, .inl lp_first)), (a_lp_src, .inl (cI, 24576, .inl lp_src)), (a_s1, .inl (cI, 4096, .inl s1)), (a_wk, .inr (10, [.ref a_wk_items, .int wk_size])), (a_wk_items, .inl (cI, 4096, .inl wk_items)), (a_rn, .inr (6, [.ref a_lp, .ref a_rn_levels, .ref a_rn_path, .ref a_s1, .ref a_s2, .ref a_wk, .int rn_reached, .int rn_greatestLevel, .int rn_pathSize]))] sz) [(a_lp, .inr (4, [.ref a_lp_facts, .ref a_lp_turns, .ref a_lp_first, .ref a_lp_src, .ref a_s1, .int lp_choices, .int lp_guesses, .int lp_unaries, .int lp_ranked])), (a_lp_facts, .inl (cI, 4096, .inl lp_facts)), (a_lp_first, .inl (cI, 4097, .inl lp_first)), (a_lp_src, .inl (cI, 24576, .inl lp_src)), (a_s1, .inl (cI, 4096, .inl u.1)), (a_wk, .inr (10, [.ref a_wk_items, .int u.2.1])), (a_wk_items, .inl (cI, 4096, .inl u.2.2)), (a_rn, .inr (6, [.ref a_lp, .ref a_rn_levels, .ref a_rn_path, .ref a_s1, .ref a_s2, .ref a_wk, .int rn_reached, .int rn_greatestLevel, .int rn_pathSize]))] t) (va_A [(a_lp, .inr (4, [.ref a_lp_facts, .ref a_lp_turns, .ref a_lp_first, .ref a_lp_src, .ref a_s1, .int lp_choices, .int lp_guesses, .int lp_unaries, .int lp_ranked])), (a_lp_facts, .inl (cI, 4096, .inl lp_facts)), (a_lp_first, .inl (cI, 4097, .inl lp_first)), (a_lp_src, .inl (cI, 24576, .inl lp_src)), (a_s1, .inl (cI, 4096, .inl s1)), (a_wk, .inr (10, [.ref a_wk_items, .int wk_size])), (a_wk_items, .inl (cI, 4096, .inl wk_items)), (a_rn, .inr (6, [.ref a_lp, .ref a_rn_levels, .ref a_rn_path, .ref a_s1, .ref a_s2, .ref a_wk, .int rn_reached, .int rn_greatestLevel, .int rn_pathSize]))] sz)) 0 0 (va_A [(a_lp, .inr (4, [.ref a_lp_facts, .ref a_lp_turns, .ref a_lp_first, .ref a_lp_src, .ref a_s1, .int lp_choices, .int lp_guesses, .int lp_unaries, .int lp_ranked])), (a_lp_facts, .inl (cI, 4096, .inl lp_facts)), (a_lp_first, .inl (cI, 4097, .inl lp_first)), (a_lp_src, .inl (cI, 24576, .inl lp_src)), (a_s1, .inl (cI, 4096, .inl s1)), (a_wk, .inr (10, [.ref a_wk_items, .int wk_size])), (a_wk_items, .inl (cI, 4096, .inl wk_items)), (a_rn, .inr (6, [.ref a_lp, .ref a_rn_levels, .ref a_rn_path, .ref a_s1, .ref a_s2, .ref a_wk, .int rn_reached, .int rn_greatestLevel, .int rn_pathSize]))] sz) := by
  refine Met.ofW (cc := b_Runs_measureToBad) (maxL := 5) (ret := none) (by decide) rfl ?_
  intro p e s m args below meth c s₁ B hml hv
  obtain ⟨rfl, hsz, hP, hK, hD0, hN, hT⟩ := hv
  have hx := B.exec
  have hb := B.bytes
  have hr := B.returns
  have hts := atoms_spec (ws := w_Runs_measureToBad) B.pre
  have hown : s.vm.findClass "LoopInduction$Runs" = some m.cls := findClass_of_methodNamed B.named
  have hlocks := B.notSynchronized
  subst hsz
  have hD := hD0.self (sz := s.heap.size)
  generalize hAe : va_A [(a_lp, .inr (4, [.ref a_lp_facts, .ref a_lp_turns, .ref a_lp_first, .ref a_lp_src, .ref a_s1, .int lp_choices, .int lp_guesses, .int lp_unaries, .int lp_ranked])), (a_lp_facts, .inl (cI, 4096, .inl lp_facts)), (a_lp_first, .inl (cI, 4097, .inl lp_first)), (a_lp_src, .inl (cI, 24576, .inl lp_src)), (a_s1, .inl (cI, 4096, .inl s1)), (a_wk, .inr (10, [.ref a_wk_items, .int wk_size])), (a_wk_items, .inl (cI, 4096, .inl wk_items)), (a_rn, .inr (6, [.ref a_lp, .ref a_rn_levels, .ref a_rn_path, .ref a_s1, .ref a_s2, .ref a_wk, .int rn_reached, .int rn_greatestLevel, .int rn_pathSize]))] s.heap.size = A at hD hT ⊢
  have hA : ∀ q : Nat, s.heap.size ≤ q → A q := fun q h => by rw [← hAe]; exact Or.inr h
  have hS : va_S A s.heap s.heap [] := va_S.rf
  generalize hQ : MQ below _ _ s 0 0 _ = QQ
  have hl := lv_entry ([.ref a_rn]) (n := 5) (Nat.le_of_ble_eq_true rfl)
  rw [lg_entry_eq]
  generalize (lg_sl ([.ref a_rn]) ++ List.replicate (5 - (lg_sl ([.ref a_rn])).length) Slot.unset).toArray = ls at hl ⊢
  have hl : lv_has ls 5 [(0, .ref a_rn)] := hl
  have fl_28 := (hts _ (List.mem_cons_of_mem _ m_297))
  have fl_38 := (hts _ (List.mem_cons_of_mem _ m_300))
  have fl_49 := (hts _ (List.mem_cons_of_mem _ m_302))
  refine lv_aload_n hx hb d_Runs_measureToBad_0 rfl (lv_at hl 0 rfl) ?_
  refine va_get (D := (dC, dI)) (ci := 6) (v := .ref a_wk) (C := "LoopInduction$Runs") (T := F_Runs) (N := 9) hx hb hts iC_Runs hown hK hP 7 rfl rfl 5 (by decide) fl_49 (fun _ h9 => h9) rfl d_Runs_measureToBad_1 ?_
  refine jn_v (wr := [(a_lp, .inr (4, [.ref a_lp_facts, .ref a_lp_turns, .ref a_lp_first, .ref a_lp_src, .ref a_s1, .int lp_choices, .int lp_guesses, .int lp_unaries, .int lp_ranked])), (a_lp_facts, .inl (cI, 4096, .inl lp_facts)), (a_lp_first, .inl (cI, 4097, .inl lp_first)), (a_lp_src, .inl (cI, 24576, .inl lp_src)), (a_s1, .inl (cI, 4096, .inl s1)), (a_wk_items, .inl (cI, 4096, .inl wk_items)), (a_rn, .inr (6, [.ref a_lp, .ref a_rn_levels, .ref a_rn_path, .ref a_s1, .ref a_s2, .ref a_wk, .int rn_reached, .int rn_greatestLevel, .int rn_pathSize]))]) (va_runV (As := []) (rest := []) ⟨hx, hb, hml, hown, hts⟩ (c_Work_clear l dC dI cI cB cZ adK adV _ a_wk a_wk_items wk_size _ h) (cwV 0 hts (gv_ m_780 m_781 m_782 m_91 m_783) rfl rfl rfl pd_Work_clear ⟨Nat.le_of_ble_eq_true rfl, Nat.le_of_ble_eq_true rfl⟩) ⟨pc_blind, va_recv hK hP (ci := 10) (q0 := 5) rfl rfl, pc_of (hP.sub [5] rfl) hK (hD.sub [5] (by decide) rfl) hN hT hS hA⟩ rfl rfl hl.1 rfl (lv_room (Nat.le_of_ble_eq_true rfl)) d_Runs_measureToBad_4 ⟨Nat.zero_le _, Nat.zero_le _⟩) hP hD hS hA [5] [0, 1, 2, 3, 4, 6, 7] rfl rfl (by decide) (by decide) (fun wk_size_1 H locs h hP hD hS => ?_)
  have hP : va_P (dC, dI) vwCl [(a_lp, .inr (4, [.ref a_lp_facts, .ref a_lp_turns, .ref a_lp_first, .ref a_lp_src, .ref a_s1, .int lp_choices, .int lp_guesses, .int lp_unaries, .int lp_ranked])), (a_lp_facts, .inl (cI, 4096, .inl lp_facts)), (a_lp_first, .inl (cI, 4097, .inl lp_first)), (a_lp_src, .inl (cI, 24576, .inl lp_src)), (a_s1, .inl (cI, 4096, .inl s1)), (a_wk_items, .inl (cI, 4096, .inl wk_items)), (a_rn, .inr (6, [.ref a_lp, .ref a_rn_levels, .ref a_rn_path, .ref a_s1, .ref a_s2, .ref a_wk, .int rn_reached, .int rn_greatestLevel, .int rn_pathSize])), (a_wk, .inr (10, [.ref a_wk_items, .int wk_size_1]))] H := hP
  have hD : va_D A [(a_lp, .inr (4, [.ref a_lp_facts, .ref a_lp_turns, .ref a_lp_first, .ref a_lp_src, .ref a_s1, .int lp_choices, .int lp_guesses, .int lp_unaries, .int lp_ranked])), (a_lp_facts, .inl (cI, 4096, .inl lp_facts)), (a_lp_first, .inl (cI, 4097, .inl lp_first)), (a_lp_src, .inl (cI, 24576, .inl lp_src)), (a_s1, .inl (cI, 4096, .inl s1)), (a_wk_items, .inl (cI, 4096, .inl wk_items)), (a_rn, .inr (6, [.ref a_lp, .ref a_rn_levels, .ref a_rn_path, .ref a_s1, .ref a_s2, .ref a_wk, .int rn_reached, .int rn_greatestLevel, .int rn_pathSize])), (a_wk, .inr (10, [.ref a_wk_items, .int wk_size_1]))] := hD
  refine lv_iconst (v := 0) hx hb d_Runs_measureToBad_7 (by decide) ?_
  refine lv_istore_n (lv' := [(1, .int 0), (0, .ref a_rn)]) hx hb d_Runs_measureToBad_8 rfl hl (by decide) rfl (fun ls hl => ?_)
  have L9_q_6 : ∀ (k56 : (Nat → Int32) → (Int32) → (Nat → Int32) → Prop) (hk56 : ∀ (s1_7 : Nat → Int32) (wk_size_8 : Int32) (wk_items_9 : Nat → Int32), k56 s1_7 wk_size_8 wk_items_9 → ∀ (H : Heap) (locs : List Loc), va_P (dC, dI) vwCl [(a_lp, .inr (4, [.ref a_lp_facts, .ref a_lp_turns, .ref a_lp_first, .ref a_lp_src, .ref a_s1, .int lp_choices, .int lp_guesses, .int lp_unaries, .int lp_ranked])), (a_lp_facts, .inl (cI, 4096, .inl lp_facts)), (a_lp_first, .inl (cI, 4097, .inl lp_first)), (a_lp_src, .inl (cI, 24576, .inl lp_src)), (a_s1, .inl (cI, 4096, .inl s1_7)), (a_wk_items, .inl (cI, 4096, .inl wk_items_9)), (a_rn, .inr (6, [.ref a_lp, .ref a_rn_levels, .ref a_rn_path, .ref a_s1, .ref a_s2, .ref a_wk, .int rn_reached, .int rn_greatestLevel, .int rn_pathSize])), (a_wk, .inr (10, [.ref a_wk_items, .int wk_size_8]))] H → va_D A [(a_lp, .inr (4, [.ref a_lp_facts, .ref a_lp_turns, .ref a_lp_first, .ref a_lp_src, .ref a_s1, .int lp_choices, .int lp_guesses, .int lp_unaries, .int lp_ranked])), (a_lp_facts, .inl (cI, 4096, .inl lp_facts)), (a_lp_first, .inl (cI, 4097, .inl lp_first)), (a_lp_src, .inl (cI, 24576, .inl lp_src)), (a_s1, .inl (cI, 4096, .inl s1_7)), (a_wk_items, .inl (cI, 4096, .inl wk_items_9)), (a_rn, .inr (6, [.ref a_lp, .ref a_rn_levels, .ref a_rn_path, .ref a_s1, .ref a_s2, .ref a_wk, .int rn_reached, .int rn_greatestLevel, .int rn_pathSize])), (a_wk, .inr (10, [.ref a_wk_items, .int wk_size_8]))] → va_S A s.heap H locs → ∀ ls : Array Slot, lv_has ls 5 [(0, .ref a_rn)] → W p l e (headSpec w_Runs_measureToBad ({ frames := 2, cells := 0, slots := 0, locals := 43 })).room s m (([.ref a_rn] : List Value).toArray) below meth c H locs 0 0 QQ (F0 m 56 ls [])) (n : Nat) (x1_2 : Int32) (s1_3 : Nat → Int32) (wk_size_4 : Int32) (wk_items_5 : Nat → Int32), wp_Runs_measureToBad_L9 lp_facts k56 n x1_2 s1_3 wk_size_4 wk_items_5 → ∀ (H : Heap) (locs : List Loc), va_P (dC, dI) vwCl [(a_lp, .inr (4, [.ref a_lp_facts, .ref a_lp_turns, .ref a_lp_first, .ref a_lp_src, .ref a_s1, .int lp_choices, .int lp_guesses, .int lp_unaries, .int lp_ranked])), (a_lp_facts, .inl (cI, 4096, .inl lp_facts)), (a_lp_first, .inl (cI, 4097, .inl lp_first)), (a_lp_src, .inl (cI, 24576, .inl lp_src)), (a_s1, .inl (cI, 4096, .inl s1_3)), (a_wk_items, .inl (cI, 4096, .inl wk_items_5)), (a_rn, .inr (6, [.ref a_lp, .ref a_rn_levels, .ref a_rn_path, .ref a_s1, .ref a_s2, .ref a_wk, .int rn_reached, .int rn_greatestLevel, .int rn_pathSize])), (a_wk, .inr (10, [.ref a_wk_items, .int wk_size_4]))] H → va_D A [(a_lp, .inr (4, [.ref a_lp_facts, .ref a_lp_turns, .ref a_lp_first, .ref a_lp_src, .ref a_s1, .int lp_choices, .int lp_guesses, .int lp_unaries, .int lp_ranked])), (a_lp_facts, .inl (cI, 4096, .inl lp_facts)), (a_lp_first, .inl (cI, 4097, .inl lp_first)), (a_lp_src, .inl (cI, 24576, .inl lp_src)), (a_s1, .inl (cI, 4096, .inl s1_3)), (a_wk_items, .inl (cI, 4096, .inl wk_items_5)), (a_rn, .inr (6, [.ref a_lp, .ref a_rn_levels, .ref a_rn_path, .ref a_s1, .ref a_s2, .ref a_wk, .int rn_reached, .int rn_greatestLevel, .int rn_pathSize])), (a_wk, .inr (10, [.ref a_wk_items, .int wk_size_4]))] → va_S A s.heap H locs → ∀ ls : Array Slot, lv_has ls 5 [(0, .ref a_rn), (1, .int x1_2)] → W p l e (headSpec w_Runs_measureToBad ({ frames := 2, cells := 0, slots := 0, locals := 43 })).room s m (([.ref a_rn] : List Value).toArray) below meth c H locs 0 0 QQ (F0 m 9 ls []) := by
    intro k56 hk56 n
    induction n with
    | zero => intro x1_2 s1_3 wk_size_4 wk_items_5 h; exact (show False from h).elim
    | succ n il =>
      intro x1_2 s1_3 wk_size_4 wk_items_5 h
      intro H locs hP hD hS ls hl
      refine lv_iload_n hx hb d_Runs_measureToBad_9 rfl (lv_at hl 1 rfl) ?_
      refine lv_sipush (v := 4096) hx hb d_Runs_measureToBad_10 (by decide) ?_
      refine lv_icmp_ge (tgt := 56) hx hb d_Runs_measureToBad_13 (by decide) (fun c_13 => ?_) (fun c_13 => ?_)
      · have h := And.left h c_13
        exact hk56 _ _ _ h _ _ hP hD hS _ (lv_sub hl [0] rfl)
      · have h := And.right h c_13
        refine lv_aload_n hx hb d_Runs_measureToBad_16 rfl (lv_at hl 0 rfl) ?_
        refine va_get (D := (dC, dI)) (ci := 6) (v := .ref a_s1) (C := "LoopInduction$Runs") (T := F_Runs) (N := 9) hx hb hts iC_Runs hown hK hP 6 rfl rfl 3 (by decide) fl_38 (fun _ h9 => h9) rfl d_Runs_measureToBad_17 ?_
        refine lv_iload_n hx hb d_Runs_measureToBad_20 rfl (lv_at hl 1 rfl) ?_
        refine lv_iconst (v := (-1)) hx hb d_Runs_measureToBad_21 (by decide) ?_
        obtain ⟨hin_22, h⟩ := h
        refine va_iast hx hb hK hP hD hS 4 0 rfl rfl hin_22 d_Runs_measureToBad_22 (fun H locs hP hD hS => ?_)
        have hP : va_P (dC, dI) vwCl [(a_lp, .inr (4, [.ref a_lp_facts, .ref a_lp_turns, .ref a_lp_first, .ref a_lp_src, .ref a_s1, .int lp_choices, .int lp_guesses, .int lp_unaries, .int lp_ranked])), (a_lp_facts, .inl (cI, 4096, .inl lp_facts)), (a_lp_first, .inl (cI, 4097, .inl lp_first)), (a_lp_src, .inl (cI, 24576, .inl lp_src)), (a_s1, .inl (cI, 4096, .inl (upd s1_3 (x1_2 : Int32).toNatClampNeg (-1)))), (a_wk_items, .inl (cI, 4096, .inl wk_items_5)), (a_rn, .inr (6, [.ref a_lp, .ref a_rn_levels, .ref a_rn_path, .ref a_s1, .ref a_s2, .ref a_wk, .int rn_reached, .int rn_greatestLevel, .int rn_pathSize])), (a_wk, .inr (10, [.ref a_wk_items, .int wk_size_4]))] H := hP
        have hD : va_D A [(a_lp, .inr (4, [.ref a_lp_facts, .ref a_lp_turns, .ref a_lp_first, .ref a_lp_src, .ref a_s1, .int lp_choices, .int lp_guesses, .int lp_unaries, .int lp_ranked])), (a_lp_facts, .inl (cI, 4096, .inl lp_facts)), (a_lp_first, .inl (cI, 4097, .inl lp_first)), (a_lp_src, .inl (cI, 24576, .inl lp_src)), (a_s1, .inl (cI, 4096, .inl (upd s1_3 (x1_2 : Int32).toNatClampNeg (-1)))), (a_wk_items, .inl (cI, 4096, .inl wk_items_5)), (a_rn, .inr (6, [.ref a_lp, .ref a_rn_levels, .ref a_rn_path, .ref a_s1, .ref a_s2, .ref a_wk, .int rn_reached, .int rn_greatestLevel, .int rn_pathSize])), (a_wk, .inr (10, [.ref a_wk_items, .int wk_size_4]))] := hD
        refine lv_aload_n hx hb d_Runs_measureToBad_23 rfl (lv_at hl 0 rfl) ?_
        refine va_get (D := (dC, dI)) (ci := 6) (v := .ref a_lp) (C := "LoopInduction$Runs") (T := F_Runs) (N := 9) hx hb hts iC_Runs hown hK hP 6 rfl rfl 0 (by decide) fl_28 (fun _ h9 => h9) rfl d_Runs_measureToBad_24 ?_
        refine lv_iload_n hx hb d_Runs_measureToBad_27 rfl (lv_at hl 1 rfl) ?_
        refine lv_iconst (v := 2) hx hb d_Runs_measureToBad_28 (by decide) ?_
        refine jn_i (wr := [(a_lp_first, .inl (cI, 4097, .inl lp_first)), (a_lp_src, .inl (cI, 24576, .inl lp_src)), (a_s1, .inl (cI, 4096, .inl (upd s1_3 (x1_2 : Int32).toNatClampNeg (-1)))), (a_wk_items, .inl (cI, 4096, .inl wk_items_5)), (a_rn, .inr (6, [.ref a_lp, .ref a_rn_levels, .ref a_rn_path, .ref a_s1, .ref a_s2, .ref a_wk, .int rn_reached, .int rn_greatestLevel, .int rn_pathSize])), (a_wk, .inr (10, [.ref a_wk_items, .int wk_size_4]))]) (va_runV (As := [.int x1_2, .int 2]) (rest := []) ⟨hx, hb, hml, hown, hts⟩ (c_Loop_hasAll l dC dI cI cB cZ adK adV _ a_lp a_lp_facts a_lp_turns a_lp_first a_lp_src a_s1 lp_choices lp_guesses lp_unaries lp_ranked lp_facts x1_2 2 _ h) (cwV 2 hts (gv_ m_784 m_785 m_786 m_92 m_787) rfl rfl rfl pd_Loop_hasAll ⟨Nat.le_of_ble_eq_true rfl, Nat.le_of_ble_eq_true rfl⟩) ⟨pc_blind, va_recv hK hP (ci := 4) (q0 := 0) rfl rfl, pc_of (hP.sub [0, 1] rfl) hK (hD.sub [0, 1] (by decide) rfl) hN hT hS hA⟩ rfl rfl hl.1 rfl (lv_room (Nat.le_of_ble_eq_true rfl)) d_Runs_measureToBad_29 ⟨Nat.zero_le _, Nat.zero_le _⟩) hP hD hS hA [0, 1] [2, 3, 4, 5, 6, 7] rfl rfl (by decide) (by decide) (fun r_10 u_ H locs h hP hD hS => ?_)
        have hP : va_P (dC, dI) vwCl [(a_lp_first, .inl (cI, 4097, .inl lp_first)), (a_lp_src, .inl (cI, 24576, .inl lp_src)), (a_s1, .inl (cI, 4096, .inl (upd s1_3 (x1_2 : Int32).toNatClampNeg (-1)))), (a_wk_items, .inl (cI, 4096, .inl wk_items_5)), (a_rn, .inr (6, [.ref a_lp, .ref a_rn_levels, .ref a_rn_path, .ref a_s1, .ref a_s2, .ref a_wk, .int rn_reached, .int rn_greatestLevel, .int rn_pathSize])), (a_wk, .inr (10, [.ref a_wk_items, .int wk_size_4])), (a_lp, .inr (4, [.ref a_lp_facts, .ref a_lp_turns, .ref a_lp_first, .ref a_lp_src, .ref a_s1, .int lp_choices, .int lp_guesses, .int lp_unaries, .int lp_ranked])), (a_lp_facts, .inl (cI, 4096, .inl lp_facts))] H := hP
        have hD : va_D A [(a_lp_first, .inl (cI, 4097, .inl lp_first)), (a_lp_src, .inl (cI, 24576, .inl lp_src)), (a_s1, .inl (cI, 4096, .inl (upd s1_3 (x1_2 : Int32).toNatClampNeg (-1)))), (a_wk_items, .inl (cI, 4096, .inl wk_items_5)), (a_rn, .inr (6, [.ref a_lp, .ref a_rn_levels, .ref a_rn_path, .ref a_s1, .ref a_s2, .ref a_wk, .int rn_reached, .int rn_greatestLevel, .int rn_pathSize])), (a_wk, .inr (10, [.ref a_wk_items, .int wk_size_4])), (a_lp, .inr (4, [.ref a_lp_facts, .ref a_lp_turns, .ref a_lp_first, .ref a_lp_src, .ref a_s1, .int lp_choices, .int lp_guesses, .int lp_unaries, .int lp_ranked])), (a_lp_facts, .inl (cI, 4096, .inl lp_facts))] := hD
        refine lv_if_ne (tgt := 50) hx hb d_Runs_measureToBad_32 (by decide) (fun c_32 => ?_) (fun c_32 => ?_)
        · have h := And.left h c_32
          refine lv_iinc (v := x1_2 + 1) (lv' := [(1, .int (x1_2 + 1)), (0, .ref a_rn)]) hx hb d_Runs_measureToBad_50 hl (k := 1) rfl rfl (by decide) rfl (fun ls hl => ?_)
          refine lv_goto (tgt := 9) hx hb d_Runs_measureToBad_53 (by decide) ?_
          exact il _ _ _ _ h _ _ (hP.sub [6, 7, 0, 1, 2, 3, 4, 5] rfl) (hD.sub [6, 7, 0, 1, 2, 3, 4, 5] (by decide) rfl) hS _ (lv_sub hl [1, 0] rfl)
        · have h := And.right h c_32
          refine lv_aload_n hx hb d_Runs_measureToBad_35 rfl (lv_at hl 0 rfl) ?_
          refine va_get (D := (dC, dI)) (ci := 6) (v := .ref a_s1) (C := "LoopInduction$Runs") (T := F_Runs) (N := 9) hx hb hts iC_Runs hown hK hP 4 rfl rfl 3 (by decide) fl_38 (fun _ h9 => h9) rfl d_Runs_measureToBad_36 ?_
          refine lv_iload_n hx hb d_Runs_measureToBad_39 rfl (lv_at hl 1 rfl) ?_
          refine lv_iconst (v := 0) hx hb d_Runs_measureToBad_40 (by decide) ?_
          obtain ⟨hin_41, h⟩ := h
          refine va_iast hx hb hK hP hD hS 2 0 rfl rfl hin_41 d_Runs_measureToBad_41 (fun H locs hP hD hS => ?_)
          have hP : va_P (dC, dI) vwCl [(a_lp_first, .inl (cI, 4097, .inl lp_first)), (a_lp_src, .inl (cI, 24576, .inl lp_src)), (a_s1, .inl (cI, 4096, .inl (upd (upd s1_3 (x1_2 : Int32).toNatClampNeg (-1)) (x1_2 : Int32).toNatClampNeg 0))), (a_wk_items, .inl (cI, 4096, .inl wk_items_5)), (a_rn, .inr (6, [.ref a_lp, .ref a_rn_levels, .ref a_rn_path, .ref a_s1, .ref a_s2, .ref a_wk, .int rn_reached, .int rn_greatestLevel, .int rn_pathSize])), (a_wk, .inr (10, [.ref a_wk_items, .int wk_size_4])), (a_lp, .inr (4, [.ref a_lp_facts, .ref a_lp_turns, .ref a_lp_first, .ref a_lp_src, .ref a_s1, .int lp_choices, .int lp_guesses, .int lp_unaries, .int lp_ranked])), (a_lp_facts, .inl (cI, 4096, .inl lp_facts))] H := hP
          have hD : va_D A [(a_lp_first, .inl (cI, 4097, .inl lp_first)), (a_lp_src, .inl (cI, 24576, .inl lp_src)), (a_s1, .inl (cI, 4096, .inl (upd (upd s1_3 (x1_2 : Int32).toNatClampNeg (-1)) (x1_2 : Int32).toNatClampNeg 0))), (a_wk_items, .inl (cI, 4096, .inl wk_items_5)), (a_rn, .inr (6, [.ref a_lp, .ref a_rn_levels, .ref a_rn_path, .ref a_s1, .ref a_s2, .ref a_wk, .int rn_reached, .int rn_greatestLevel, .int rn_pathSize])), (a_wk, .inr (10, [.ref a_wk_items, .int wk_size_4])), (a_lp, .inr (4, [.ref a_lp_facts, .ref a_lp_turns, .ref a_lp_first, .ref a_lp_src, .ref a_s1, .int lp_choices, .int lp_guesses, .int lp_unaries, .int lp_ranked])), (a_lp_facts, .inl (cI, 4096, .inl lp_facts))] := hD
          refine lv_aload_n hx hb d_Runs_measureToBad_42 rfl (lv_at hl 0 rfl) ?_
          refine va_get (D := (dC, dI)) (ci := 6) (v := .ref a_wk) (C := "LoopInduction$Runs") (T := F_Runs) (N := 9) hx hb hts iC_Runs hown hK hP 4 rfl rfl 5 (by decide) fl_49 (fun _ h9 => h9) rfl d_Runs_measureToBad_43 ?_
          refine lv_iload_n hx hb d_Runs_measureToBad_46 rfl (lv_at hl 1 rfl) ?_
          refine jn_v (wr := [(a_lp_first, .inl (cI, 4097, .inl lp_first)), (a_lp_src, .inl (cI, 24576, .inl lp_src)), (a_s1, .inl (cI, 4096, .inl (upd (upd s1_3 (x1_2 : Int32).toNatClampNeg (-1)) (x1_2 : Int32).toNatClampNeg 0))), (a_rn, .inr (6, [.ref a_lp, .ref a_rn_levels, .ref a_rn_path, .ref a_s1, .ref a_s2, .ref a_wk, .int rn_reached, .int rn_greatestLevel, .int rn_pathSize])), (a_lp, .inr (4, [.ref a_lp_facts, .ref a_lp_turns, .ref a_lp_first, .ref a_lp_src, .ref a_s1, .int lp_choices, .int lp_guesses, .int lp_unaries, .int lp_ranked])), (a_lp_facts, .inl (cI, 4096, .inl lp_facts))]) (va_runV (As := [.int x1_2]) (rest := []) ⟨hx, hb, hml, hown, hts⟩ (c_Work_put l dC dI cI cB cZ adK adV _ a_wk a_wk_items wk_size_4 wk_items_5 x1_2 _ h) (cwV 1 hts (gv_ m_797 m_798 m_799 m_91 m_800) rfl rfl rfl pd_Work_put ⟨Nat.le_of_ble_eq_true rfl, Nat.le_of_ble_eq_true rfl⟩) ⟨pc_blind, va_recv hK hP (ci := 10) (q0 := 5) rfl rfl, pc_of (hP.sub [5, 3] rfl) hK (hD.sub [5, 3] (by decide) rfl) hN hT hS hA⟩ rfl rfl hl.1 rfl (lv_room (Nat.le_of_ble_eq_true rfl)) d_Runs_measureToBad_47 ⟨Nat.zero_le _, Nat.zero_le _⟩) hP hD hS hA [5, 3] [0, 1, 2, 4, 6, 7] rfl rfl (by decide) (by decide) (fun u_ H locs h hP hD hS => ?_)
          obtain ⟨wk_size_11, wk_items_12⟩ := u_
          have hP : va_P (dC, dI) vwCl [(a_lp_first, .inl (cI, 4097, .inl lp_first)), (a_lp_src, .inl (cI, 24576, .inl lp_src)), (a_s1, .inl (cI, 4096, .inl (upd (upd s1_3 (x1_2 : Int32).toNatClampNeg (-1)) (x1_2 : Int32).toNatClampNeg 0))), (a_rn, .inr (6, [.ref a_lp, .ref a_rn_levels, .ref a_rn_path, .ref a_s1, .ref a_s2, .ref a_wk, .int rn_reached, .int rn_greatestLevel, .int rn_pathSize])), (a_lp, .inr (4, [.ref a_lp_facts, .ref a_lp_turns, .ref a_lp_first, .ref a_lp_src, .ref a_s1, .int lp_choices, .int lp_guesses, .int lp_unaries, .int lp_ranked])), (a_lp_facts, .inl (cI, 4096, .inl lp_facts)), (a_wk, .inr (10, [.ref a_wk_items, .int wk_size_11])), (a_wk_items, .inl (cI, 4096, .inl wk_items_12))] H := hP
          have hD : va_D A [(a_lp_first, .inl (cI, 4097, .inl lp_first)), (a_lp_src, .inl (cI, 24576, .inl lp_src)), (a_s1, .inl (cI, 4096, .inl (upd (upd s1_3 (x1_2 : Int32).toNatClampNeg (-1)) (x1_2 : Int32).toNatClampNeg 0))), (a_rn, .inr (6, [.ref a_lp, .ref a_rn_levels, .ref a_rn_path, .ref a_s1, .ref a_s2, .ref a_wk, .int rn_reached, .int rn_greatestLevel, .int rn_pathSize])), (a_lp, .inr (4, [.ref a_lp_facts, .ref a_lp_turns, .ref a_lp_first, .ref a_lp_src, .ref a_s1, .int lp_choices, .int lp_guesses, .int lp_unaries, .int lp_ranked])), (a_lp_facts, .inl (cI, 4096, .inl lp_facts)), (a_wk, .inr (10, [.ref a_wk_items, .int wk_size_11])), (a_wk_items, .inl (cI, 4096, .inl wk_items_12))] := hD
          refine lv_iinc (v := x1_2 + 1) (lv' := [(1, .int (x1_2 + 1)), (0, .ref a_rn)]) hx hb d_Runs_measureToBad_50 hl (k := 1) rfl rfl (by decide) rfl (fun ls hl => ?_)
          refine lv_goto (tgt := 9) hx hb d_Runs_measureToBad_53 (by decide) ?_
          exact il _ _ _ _ h _ _ (hP.sub [4, 5, 0, 1, 2, 7, 3, 6] rfl) (hD.sub [4, 5, 0, 1, 2, 7, 3, 6] (by decide) rfl) hS _ (lv_sub hl [1, 0] rfl)
  obtain ⟨n_, h⟩ := h
  refine L9_q_6 _ ?_ n_ _ _ _ _ h _ _ hP hD hS _ (lv_sub hl [1, 0] rfl)
  intro s1_13 wk_size_14 wk_items_15 h
  intro H locs hP hD hS ls hl
  refine lv_iconst (v := 0) hx hb d_Runs_measureToBad_56 (by decide) ?_
  refine lv_istore_n (lv' := [(1, .int 0), (0, .ref a_rn)]) hx hb d_Runs_measureToBad_57 rfl hl (by decide) rfl (fun ls hl => ?_)
  have L58_q_20 : ∀ (k136 : (Nat → Int32) → (Int32) → (Nat → Int32) → Prop) (hk136 : ∀ (s1_21 : Nat → Int32) (wk_size_22 : Int32) (wk_items_23 : Nat → Int32), k136 s1_21 wk_size_22 wk_items_23 → ∀ (H : Heap) (locs : List Loc), va_P (dC, dI) vwCl [(a_lp, .inr (4, [.ref a_lp_facts, .ref a_lp_turns, .ref a_lp_first, .ref a_lp_src, .ref a_s1, .int lp_choices, .int lp_guesses, .int lp_unaries, .int lp_ranked])), (a_lp_facts, .inl (cI, 4096, .inl lp_facts)), (a_lp_first, .inl (cI, 4097, .inl lp_first)), (a_lp_src, .inl (cI, 24576, .inl lp_src)), (a_s1, .inl (cI, 4096, .inl s1_21)), (a_wk_items, .inl (cI, 4096, .inl wk_items_23)), (a_rn, .inr (6, [.ref a_lp, .ref a_rn_levels, .ref a_rn_path, .ref a_s1, .ref a_s2, .ref a_wk, .int rn_reached, .int rn_greatestLevel, .int rn_pathSize])), (a_wk, .inr (10, [.ref a_wk_items, .int wk_size_22]))] H → va_D A [(a_lp, .inr (4, [.ref a_lp_facts, .ref a_lp_turns, .ref a_lp_first, .ref a_lp_src, .ref a_s1, .int lp_choices, .int lp_guesses, .int lp_unaries, .int lp_ranked])), (a_lp_facts, .inl (cI, 4096, .inl lp_facts)), (a_lp_first, .inl (cI, 4097, .inl lp_first)), (a_lp_src, .inl (cI, 24576, .inl lp_src)), (a_s1, .inl (cI, 4096, .inl s1_21)), (a_wk_items, .inl (cI, 4096, .inl wk_items_23)), (a_rn, .inr (6, [.ref a_lp, .ref a_rn_levels, .ref a_rn_path, .ref a_s1, .ref a_s2, .ref a_wk, .int rn_reached, .int rn_greatestLevel, .int rn_pathSize])), (a_wk, .inr (10, [.ref a_wk_items, .int wk_size_22]))] → va_S A s.heap H locs → ∀ ls : Array Slot, lv_has ls 5 [] → W p l e (headSpec w_Runs_measureToBad ({ frames := 2, cells := 0, slots := 0, locals := 43 })).room s m (([.ref a_rn] : List Value).toArray) below meth c H locs 0 0 QQ (F0 m 136 ls [])) (n : Nat) (x1_16 : Int32) (s1_17 : Nat → Int32) (wk_size_18 : Int32) (wk_items_19 : Nat → Int32), wp_Runs_measureToBad_L58 lp_first lp_src k136 n x1_16 s1_17 wk_size_18 wk_items_19 → ∀ (H : Heap) (locs : List Loc), va_P (dC, dI) vwCl [(a_lp, .inr (4, [.ref a_lp_facts, .ref a_lp_turns, .ref a_lp_first, .ref a_lp_src, .ref a_s1, .int lp_choices, .int lp_guesses, .int lp_unaries, .int lp_ranked])), (a_lp_facts, .inl (cI, 4096, .inl lp_facts)), (a_lp_first, .inl (cI, 4097, .inl lp_first)), (a_lp_src, .inl (cI, 24576, .inl lp_src)), (a_s1, .inl (cI, 4096, .inl s1_17)), (a_wk_items, .inl (cI, 4096, .inl wk_items_19)), (a_rn, .inr (6, [.ref a_lp, .ref a_rn_levels, .ref a_rn_path, .ref a_s1, .ref a_s2, .ref a_wk, .int rn_reached, .int rn_greatestLevel, .int rn_pathSize])), (a_wk, .inr (10, [.ref a_wk_items, .int wk_size_18]))] H → va_D A [(a_lp, .inr (4, [.ref a_lp_facts, .ref a_lp_turns, .ref a_lp_first, .ref a_lp_src, .ref a_s1, .int lp_choices, .int lp_guesses, .int lp_unaries, .int lp_ranked])), (a_lp_facts, .inl (cI, 4096, .inl lp_facts)), (a_lp_first, .inl (cI, 4097, .inl lp_first)), (a_lp_src, .inl (cI, 24576, .inl lp_src)), (a_s1, .inl (cI, 4096, .inl s1_17)), (a_wk_items, .inl (cI, 4096, .inl wk_items_19)), (a_rn, .inr (6, [.ref a_lp, .ref a_rn_levels, .ref a_rn_path, .ref a_s1, .ref a_s2, .ref a_wk, .int rn_reached, .int rn_greatestLevel, .int rn_pathSize])), (a_wk, .inr (10, [.ref a_wk_items, .int wk_size_18]))] → va_S A s.heap H locs → ∀ ls : Array Slot, lv_has ls 5 [(0, .ref a_rn), (1, .int x1_16)] → W p l e (headSpec w_Runs_measureToBad ({ frames := 2, cells := 0, slots := 0, locals := 43 })).room s m (([.ref a_rn] : List Value).toArray) below meth c H locs 0 0 QQ (F0 m 58 ls []) := by
    intro k136 hk136 n
    induction n with
    | zero => intro x1_16 s1_17 wk_size_18 wk_items_19 h; exact (show False from h).elim
    | succ n il =>
      intro x1_16 s1_17 wk_size_18 wk_items_19 h
      intro H locs hP hD hS ls hl
      refine lv_iload_n hx hb d_Runs_measureToBad_58 rfl (lv_at hl 1 rfl) ?_
      refine lv_sipush (v := 4096) hx hb d_Runs_measureToBad_59 (by decide) ?_
      refine lv_icmp_ge (tgt := 136) hx hb d_Runs_measureToBad_62 (by decide) (fun c_62 => ?_) (fun c_62 => ?_)
      · have h := And.left h c_62
        exact hk136 _ _ _ h _ _ hP hD hS _ (lv_sub hl [] rfl)
      · have h := And.right h c_62
        refine lv_iload_n hx hb d_Runs_measureToBad_65 rfl (lv_at hl 1 rfl) ?_
        refine lv_aload_n hx hb d_Runs_measureToBad_66 rfl (lv_at hl 0 rfl) ?_
        refine va_get (D := (dC, dI)) (ci := 6) (v := .ref a_wk) (C := "LoopInduction$Runs") (T := F_Runs) (N := 9) hx hb hts iC_Runs hown hK hP 6 rfl rfl 5 (by decide) fl_49 (fun _ h9 => h9) rfl d_Runs_measureToBad_67 ?_
        refine jn_i (wr := [(a_lp, .inr (4, [.ref a_lp_facts, .ref a_lp_turns, .ref a_lp_first, .ref a_lp_src, .ref a_s1, .int lp_choices, .int lp_guesses, .int lp_unaries, .int lp_ranked])), (a_lp_facts, .inl (cI, 4096, .inl lp_facts)), (a_lp_first, .inl (cI, 4097, .inl lp_first)), (a_lp_src, .inl (cI, 24576, .inl lp_src)), (a_s1, .inl (cI, 4096, .inl s1_17)), (a_wk_items, .inl (cI, 4096, .inl wk_items_19)), (a_rn, .inr (6, [.ref a_lp, .ref a_rn_levels, .ref a_rn_path, .ref a_s1, .ref a_s2, .ref a_wk, .int rn_reached, .int rn_greatestLevel, .int rn_pathSize]))]) (va_runV (As := []) (rest := [.int x1_16]) ⟨hx, hb, hml, hown, hts⟩ (c_Work_size l dC dI cI cB cZ adK adV _ a_wk a_wk_items wk_size_18 _ h) (cwV 0 hts (gv_ m_801 m_802 m_803 m_91 m_804) rfl rfl rfl pd_Work_size ⟨Nat.le_of_ble_eq_true rfl, Nat.le_of_ble_eq_true rfl⟩) ⟨pc_blind, va_recv hK hP (ci := 10) (q0 := 7) rfl rfl, pc_of (hP.sub [7] rfl) hK (hD.sub [7] (by decide) rfl) hN hT hS hA⟩ rfl rfl hl.1 rfl (lv_room (Nat.le_of_ble_eq_true rfl)) d_Runs_measureToBad_70 ⟨Nat.zero_le _, Nat.zero_le _⟩) hP hD hS hA [7] [0, 1, 2, 3, 4, 5, 6] rfl rfl (by decide) (by decide) (fun r_24 u_ H locs h hP hD hS => ?_)
        have hP : va_P (dC, dI) vwCl [(a_lp, .inr (4, [.ref a_lp_facts, .ref a_lp_turns, .ref a_lp_first, .ref a_lp_src, .ref a_s1, .int lp_choices, .int lp_guesses, .int lp_unaries, .int lp_ranked])), (a_lp_facts, .inl (cI, 4096, .inl lp_facts)), (a_lp_first, .inl (cI, 4097, .inl lp_first)), (a_lp_src, .inl (cI, 24576, .inl lp_src)), (a_s1, .inl (cI, 4096, .inl s1_17)), (a_wk_items, .inl (cI, 4096, .inl wk_items_19)), (a_rn, .inr (6, [.ref a_lp, .ref a_rn_levels, .ref a_rn_path, .ref a_s1, .ref a_s2, .ref a_wk, .int rn_reached, .int rn_greatestLevel, .int rn_pathSize])), (a_wk, .inr (10, [.ref a_wk_items, .int wk_size_18]))] H := hP
        have hD : va_D A [(a_lp, .inr (4, [.ref a_lp_facts, .ref a_lp_turns, .ref a_lp_first, .ref a_lp_src, .ref a_s1, .int lp_choices, .int lp_guesses, .int lp_unaries, .int lp_ranked])), (a_lp_facts, .inl (cI, 4096, .inl lp_facts)), (a_lp_first, .inl (cI, 4097, .inl lp_first)), (a_lp_src, .inl (cI, 24576, .inl lp_src)), (a_s1, .inl (cI, 4096, .inl s1_17)), (a_wk_items, .inl (cI, 4096, .inl wk_items_19)), (a_rn, .inr (6, [.ref a_lp, .ref a_rn_levels, .ref a_rn_path, .ref a_s1, .ref a_s2, .ref a_wk, .int rn_reached, .int rn_greatestLevel, .int rn_pathSize])), (a_wk, .inr (10, [.ref a_wk_items, .int wk_size_18]))] := hD
        refine lv_icmp_ge (tgt := 136) hx hb d_Runs_measureToBad_73 (by decide) (fun c_73 => ?_) (fun c_73 => ?_)
        · have h := And.left h c_73
          exact hk136 _ _ _ h _ _ hP hD hS _ (lv_sub hl [] rfl)
        · have h := And.right h c_73
          refine lv_aload_n hx hb d_Runs_measureToBad_76 rfl (lv_at hl 0 rfl) ?_
          refine va_get (D := (dC, dI)) (ci := 6) (v := .ref a_wk) (C := "LoopInduction$Runs") (T := F_Runs) (N := 9) hx hb hts iC_Runs hown hK hP 6 rfl rfl 5 (by decide) fl_49 (fun _ h9 => h9) rfl d_Runs_measureToBad_77 ?_
          refine lv_iload_n hx hb d_Runs_measureToBad_80 rfl (lv_at hl 1 rfl) ?_
          refine jn_i (wr := [(a_lp, .inr (4, [.ref a_lp_facts, .ref a_lp_turns, .ref a_lp_first, .ref a_lp_src, .ref a_s1, .int lp_choices, .int lp_guesses, .int lp_unaries, .int lp_ranked])), (a_lp_facts, .inl (cI, 4096, .inl lp_facts)), (a_lp_first, .inl (cI, 4097, .inl lp_first)), (a_lp_src, .inl (cI, 24576, .inl lp_src)), (a_s1, .inl (cI, 4096, .inl s1_17)), (a_rn, .inr (6, [.ref a_lp, .ref a_rn_levels, .ref a_rn_path, .ref a_s1, .ref a_s2, .ref a_wk, .int rn_reached, .int rn_greatestLevel, .int rn_pathSize]))]) (va_runV (As := [.int x1_16]) (rest := []) ⟨hx, hb, hml, hown, hts⟩ (c_Work_item l dC dI cI cB cZ adK adV _ a_wk a_wk_items wk_size_18 wk_items_19 x1_16 _ h) (cwV 1 hts (gv_ m_805 m_806 m_807 m_91 m_808) rfl rfl rfl pd_Work_item ⟨Nat.le_of_ble_eq_true rfl, Nat.le_of_ble_eq_true rfl⟩) ⟨pc_blind, va_recv hK hP (ci := 10) (q0 := 7) rfl rfl, pc_of (hP.sub [7, 5] rfl) hK (hD.sub [7, 5] (by decide) rfl) hN hT hS hA⟩ rfl rfl hl.1 rfl (lv_room (Nat.le_of_ble_eq_true rfl)) d_Runs_measureToBad_81 ⟨Nat.zero_le _, Nat.zero_le _⟩) hP hD hS hA [7, 5] [0, 1, 2, 3, 4, 6] rfl rfl (by decide) (by decide) (fun r_25 u_ H locs h hP hD hS => ?_)
          have hP : va_P (dC, dI) vwCl [(a_lp, .inr (4, [.ref a_lp_facts, .ref a_lp_turns, .ref a_lp_first, .ref a_lp_src, .ref a_s1, .int lp_choices, .int lp_guesses, .int lp_unaries, .int lp_ranked])), (a_lp_facts, .inl (cI, 4096, .inl lp_facts)), (a_lp_first, .inl (cI, 4097, .inl lp_first)), (a_lp_src, .inl (cI, 24576, .inl lp_src)), (a_s1, .inl (cI, 4096, .inl s1_17)), (a_rn, .inr (6, [.ref a_lp, .ref a_rn_levels, .ref a_rn_path, .ref a_s1, .ref a_s2, .ref a_wk, .int rn_reached, .int rn_greatestLevel, .int rn_pathSize])), (a_wk, .inr (10, [.ref a_wk_items, .int wk_size_18])), (a_wk_items, .inl (cI, 4096, .inl wk_items_19))] H := hP
          have hD : va_D A [(a_lp, .inr (4, [.ref a_lp_facts, .ref a_lp_turns, .ref a_lp_first, .ref a_lp_src, .ref a_s1, .int lp_choices, .int lp_guesses, .int lp_unaries, .int lp_ranked])), (a_lp_facts, .inl (cI, 4096, .inl lp_facts)), (a_lp_first, .inl (cI, 4097, .inl lp_first)), (a_lp_src, .inl (cI, 24576, .inl lp_src)), (a_s1, .inl (cI, 4096, .inl s1_17)), (a_rn, .inr (6, [.ref a_lp, .ref a_rn_levels, .ref a_rn_path, .ref a_s1, .ref a_s2, .ref a_wk, .int rn_reached, .int rn_greatestLevel, .int rn_pathSize])), (a_wk, .inr (10, [.ref a_wk_items, .int wk_size_18])), (a_wk_items, .inl (cI, 4096, .inl wk_items_19))] := hD
          refine lv_istore_n (lv' := [(2, .int r_25), (0, .ref a_rn), (1, .int x1_16)]) hx hb d_Runs_measureToBad_84 rfl hl (by decide) rfl (fun ls hl => ?_)
          refine lv_aload_n hx hb d_Runs_measureToBad_85 rfl (lv_at hl 1 rfl) ?_
          refine va_get (D := (dC, dI)) (ci := 6) (v := .ref a_lp) (C := "LoopInduction$Runs") (T := F_Runs) (N := 9) hx hb hts iC_Runs hown hK hP 5 rfl rfl 0 (by decide) fl_28 (fun _ h9 => h9) rfl d_Runs_measureToBad_86 ?_
          refine lv_iload_n hx hb d_Runs_measureToBad_89 rfl (lv_at hl 0 rfl) ?_
          refine jn_i (wr := [(a_lp_facts, .inl (cI, 4096, .inl lp_facts)), (a_lp_src, .inl (cI, 24576, .inl lp_src)), (a_s1, .inl (cI, 4096, .inl s1_17)), (a_rn, .inr (6, [.ref a_lp, .ref a_rn_levels, .ref a_rn_path, .ref a_s1, .ref a_s2, .ref a_wk, .int rn_reached, .int rn_greatestLevel, .int rn_pathSize])), (a_wk, .inr (10, [.ref a_wk_items, .int wk_size_18])), (a_wk_items, .inl (cI, 4096, .inl wk_items_19))]) (va_runV (As := [.int r_25]) (rest := []) ⟨hx, hb, hml, hown, hts⟩ (c_Loop_lastSource l dC dI cI cB cZ adK adV _ a_lp a_lp_facts a_lp_turns a_lp_first a_lp_src a_s1 lp_choices lp_guesses lp_unaries lp_ranked lp_first r_25 _ h) (cwV 1 hts (gv_ m_822 m_823 m_824 m_92 m_825) rfl rfl rfl pd_Loop_lastSource ⟨Nat.le_of_ble_eq_true rfl, Nat.le_of_ble_eq_true rfl⟩) ⟨pc_blind, va_recv hK hP (ci := 4) (q0 := 0) rfl rfl, pc_of (hP.sub [0, 2] rfl) hK (hD.sub [0, 2] (by decide) rfl) hN hT hS hA⟩ rfl rfl hl.1 rfl (lv_room (Nat.le_of_ble_eq_true rfl)) d_Runs_measureToBad_90 ⟨Nat.zero_le _, Nat.zero_le _⟩) hP hD hS hA [0, 2] [1, 3, 4, 5, 6, 7] rfl rfl (by decide) (by decide) (fun r_26 u_ H locs h hP hD hS => ?_)
          have hP : va_P (dC, dI) vwCl [(a_lp_facts, .inl (cI, 4096, .inl lp_facts)), (a_lp_src, .inl (cI, 24576, .inl lp_src)), (a_s1, .inl (cI, 4096, .inl s1_17)), (a_rn, .inr (6, [.ref a_lp, .ref a_rn_levels, .ref a_rn_path, .ref a_s1, .ref a_s2, .ref a_wk, .int rn_reached, .int rn_greatestLevel, .int rn_pathSize])), (a_wk, .inr (10, [.ref a_wk_items, .int wk_size_18])), (a_wk_items, .inl (cI, 4096, .inl wk_items_19)), (a_lp, .inr (4, [.ref a_lp_facts, .ref a_lp_turns, .ref a_lp_first, .ref a_lp_src, .ref a_s1, .int lp_choices, .int lp_guesses, .int lp_unaries, .int lp_ranked])), (a_lp_first, .inl (cI, 4097, .inl lp_first))] H := hP
          have hD : va_D A [(a_lp_facts, .inl (cI, 4096, .inl lp_facts)), (a_lp_src, .inl (cI, 24576, .inl lp_src)), (a_s1, .inl (cI, 4096, .inl s1_17)), (a_rn, .inr (6, [.ref a_lp, .ref a_rn_levels, .ref a_rn_path, .ref a_s1, .ref a_s2, .ref a_wk, .int rn_reached, .int rn_greatestLevel, .int rn_pathSize])), (a_wk, .inr (10, [.ref a_wk_items, .int wk_size_18])), (a_wk_items, .inl (cI, 4096, .inl wk_items_19)), (a_lp, .inr (4, [.ref a_lp_facts, .ref a_lp_turns, .ref a_lp_first, .ref a_lp_src, .ref a_s1, .int lp_choices, .int lp_guesses, .int lp_unaries, .int lp_ranked])), (a_lp_first, .inl (cI, 4097, .inl lp_first))] := hD
          refine lv_istore_n (lv' := [(3, .int r_26), (2, .int r_25), (0, .ref a_rn), (1, .int x1_16)]) hx hb d_Runs_measureToBad_93 rfl hl (by decide) rfl (fun ls hl => ?_)
          refine lv_aload_n hx hb d_Runs_measureToBad_94 rfl (lv_at hl 2 rfl) ?_
          refine va_get (D := (dC, dI)) (ci := 6) (v := .ref a_lp) (C := "LoopInduction$Runs") (T := F_Runs) (N := 9) hx hb hts iC_Runs hown hK hP 3 rfl rfl 0 (by decide) fl_28 (fun _ h9 => h9) rfl d_Runs_measureToBad_95 ?_
          refine lv_iload_n hx hb d_Runs_measureToBad_98 rfl (lv_at hl 1 rfl) ?_
          refine jn_i (wr := [(a_lp_facts, .inl (cI, 4096, .inl lp_facts)), (a_lp_src, .inl (cI, 24576, .inl lp_src)), (a_s1, .inl (cI, 4096, .inl s1_17)), (a_rn, .inr (6, [.ref a_lp, .ref a_rn_levels, .ref a_rn_path, .ref a_s1, .ref a_s2, .ref a_wk, .int rn_reached, .int rn_greatestLevel, .int rn_pathSize])), (a_wk, .inr (10, [.ref a_wk_items, .int wk_size_18])), (a_wk_items, .inl (cI, 4096, .inl wk_items_19))]) (va_runV (As := [.int r_25]) (rest := []) ⟨hx, hb, hml, hown, hts⟩ (c_Loop_firstSource l dC dI cI cB cZ adK adV _ a_lp a_lp_facts a_lp_turns a_lp_first a_lp_src a_s1 lp_choices lp_guesses lp_unaries lp_ranked lp_first r_25 _ h) (cwV 1 hts (gv_ m_826 m_827 m_828 m_92 m_829) rfl rfl rfl pd_Loop_firstSource ⟨Nat.le_of_ble_eq_true rfl, Nat.le_of_ble_eq_true rfl⟩) ⟨pc_blind, va_recv hK hP (ci := 4) (q0 := 6) rfl rfl, pc_of (hP.sub [6, 7] rfl) hK (hD.sub [6, 7] (by decide) rfl) hN hT hS hA⟩ rfl rfl hl.1 rfl (lv_room (Nat.le_of_ble_eq_true rfl)) d_Runs_measureToBad_99 ⟨Nat.zero_le _, Nat.zero_le _⟩) hP hD hS hA [6, 7] [0, 1, 2, 3, 4, 5] rfl rfl (by decide) (by decide) (fun r_27 u_ H locs h hP hD hS => ?_)
          have hP : va_P (dC, dI) vwCl [(a_lp_facts, .inl (cI, 4096, .inl lp_facts)), (a_lp_src, .inl (cI, 24576, .inl lp_src)), (a_s1, .inl (cI, 4096, .inl s1_17)), (a_rn, .inr (6, [.ref a_lp, .ref a_rn_levels, .ref a_rn_path, .ref a_s1, .ref a_s2, .ref a_wk, .int rn_reached, .int rn_greatestLevel, .int rn_pathSize])), (a_wk, .inr (10, [.ref a_wk_items, .int wk_size_18])), (a_wk_items, .inl (cI, 4096, .inl wk_items_19)), (a_lp, .inr (4, [.ref a_lp_facts, .ref a_lp_turns, .ref a_lp_first, .ref a_lp_src, .ref a_s1, .int lp_choices, .int lp_guesses, .int lp_unaries, .int lp_ranked])), (a_lp_first, .inl (cI, 4097, .inl lp_first))] H := hP
          have hD : va_D A [(a_lp_facts, .inl (cI, 4096, .inl lp_facts)), (a_lp_src, .inl (cI, 24576, .inl lp_src)), (a_s1, .inl (cI, 4096, .inl s1_17)), (a_rn, .inr (6, [.ref a_lp, .ref a_rn_levels, .ref a_rn_path, .ref a_s1, .ref a_s2, .ref a_wk, .int rn_reached, .int rn_greatestLevel, .int rn_pathSize])), (a_wk, .inr (10, [.ref a_wk_items, .int wk_size_18])), (a_wk_items, .inl (cI, 4096, .inl wk_items_19)), (a_lp, .inr (4, [.ref a_lp_facts, .ref a_lp_turns, .ref a_lp_first, .ref a_lp_src, .ref a_s1, .int lp_choices, .int lp_guesses, .int lp_unaries, .int lp_ranked])), (a_lp_first, .inl (cI, 4097, .inl lp_first))] := hD
          refine lv_istore (lv' := [(4, .int r_27), (3, .int r_26), (2, .int r_25), (0, .ref a_rn), (1, .int x1_16)]) hx hb d_Runs_measureToBad_102 hl (by decide) rfl (fun ls hl => ?_)
          have L104_q_32 : ∀ (k130 : (Nat → Int32) → (Int32) → (Nat → Int32) → Prop) (hk130 : ∀ (s1_33 : Nat → Int32) (wk_size_34 : Int32) (wk_items_35 : Nat → Int32), k130 s1_33 wk_size_34 wk_items_35 → ∀ (H : Heap) (locs : List Loc), va_P (dC, dI) vwCl [(a_lp_facts, .inl (cI, 4096, .inl lp_facts)), (a_lp_src, .inl (cI, 24576, .inl lp_src)), (a_s1, .inl (cI, 4096, .inl s1_33)), (a_rn, .inr (6, [.ref a_lp, .ref a_rn_levels, .ref a_rn_path, .ref a_s1, .ref a_s2, .ref a_wk, .int rn_reached, .int rn_greatestLevel, .int rn_pathSize])), (a_wk, .inr (10, [.ref a_wk_items, .int wk_size_34])), (a_wk_items, .inl (cI, 4096, .inl wk_items_35)), (a_lp, .inr (4, [.ref a_lp_facts, .ref a_lp_turns, .ref a_lp_first, .ref a_lp_src, .ref a_s1, .int lp_choices, .int lp_guesses, .int lp_unaries, .int lp_ranked])), (a_lp_first, .inl (cI, 4097, .inl lp_first))] H → va_D A [(a_lp_facts, .inl (cI, 4096, .inl lp_facts)), (a_lp_src, .inl (cI, 24576, .inl lp_src)), (a_s1, .inl (cI, 4096, .inl s1_33)), (a_rn, .inr (6, [.ref a_lp, .ref a_rn_levels, .ref a_rn_path, .ref a_s1, .ref a_s2, .ref a_wk, .int rn_reached, .int rn_greatestLevel, .int rn_pathSize])), (a_wk, .inr (10, [.ref a_wk_items, .int wk_size_34])), (a_wk_items, .inl (cI, 4096, .inl wk_items_35)), (a_lp, .inr (4, [.ref a_lp_facts, .ref a_lp_turns, .ref a_lp_first, .ref a_lp_src, .ref a_s1, .int lp_choices, .int lp_guesses, .int lp_unaries, .int lp_ranked])), (a_lp_first, .inl (cI, 4097, .inl lp_first))] → va_S A s.heap H locs → ∀ ls : Array Slot, lv_has ls 5 [(0, .ref a_rn), (1, .int x1_16)] → W p l e (headSpec w_Runs_measureToBad ({ frames := 2, cells := 0, slots := 0, locals := 43 })).room s m (([.ref a_rn] : List Value).toArray) below meth c H locs 0 0 QQ (F0 m 130 ls [])) (n : Nat) (x4_28 : Int32) (s1_29 : Nat → Int32) (wk_size_30 : Int32) (wk_items_31 : Nat → Int32), wp_Runs_measureToBad_L104 x1_16 r_25 r_26 lp_src k130 n x4_28 s1_29 wk_size_30 wk_items_31 → ∀ (H : Heap) (locs : List Loc), va_P (dC, dI) vwCl [(a_lp_facts, .inl (cI, 4096, .inl lp_facts)), (a_lp_src, .inl (cI, 24576, .inl lp_src)), (a_s1, .inl (cI, 4096, .inl s1_29)), (a_rn, .inr (6, [.ref a_lp, .ref a_rn_levels, .ref a_rn_path, .ref a_s1, .ref a_s2, .ref a_wk, .int rn_reached, .int rn_greatestLevel, .int rn_pathSize])), (a_wk, .inr (10, [.ref a_wk_items, .int wk_size_30])), (a_wk_items, .inl (cI, 4096, .inl wk_items_31)), (a_lp, .inr (4, [.ref a_lp_facts, .ref a_lp_turns, .ref a_lp_first, .ref a_lp_src, .ref a_s1, .int lp_choices, .int lp_guesses, .int lp_unaries, .int lp_ranked])), (a_lp_first, .inl (cI, 4097, .inl lp_first))] H → va_D A [(a_lp_facts, .inl (cI, 4096, .inl lp_facts)), (a_lp_src, .inl (cI, 24576, .inl lp_src)), (a_s1, .inl (cI, 4096, .inl s1_29)), (a_rn, .inr (6, [.ref a_lp, .ref a_rn_levels, .ref a_rn_path, .ref a_s1, .ref a_s2, .ref a_wk, .int rn_reached, .int rn_greatestLevel, .int rn_pathSize])), (a_wk, .inr (10, [.ref a_wk_items, .int wk_size_30])), (a_wk_items, .inl (cI, 4096, .inl wk_items_31)), (a_lp, .inr (4, [.ref a_lp_facts, .ref a_lp_turns, .ref a_lp_first, .ref a_lp_src, .ref a_s1, .int lp_choices, .int lp_guesses, .int lp_unaries, .int lp_ranked])), (a_lp_first, .inl (cI, 4097, .inl lp_first))] → va_S A s.heap H locs → ∀ ls : Array Slot, lv_has ls 5 [(0, .ref a_rn), (1, .int x1_16), (2, .int r_25), (3, .int r_26), (4, .int x4_28)] → W p l e (headSpec w_Runs_measureToBad ({ frames := 2, cells := 0, slots := 0, locals := 43 })).room s m (([.ref a_rn] : List Value).toArray) below meth c H locs 0 0 QQ (F0 m 104 ls []) := by
            intro k130 hk130 n
            induction n with
            | zero => intro x4_28 s1_29 wk_size_30 wk_items_31 h; exact (show False from h).elim
            | succ n il =>
              intro x4_28 s1_29 wk_size_30 wk_items_31 h
              intro H locs hP hD hS ls hl
              refine lv_iload hx hb d_Runs_measureToBad_104 (lv_at hl 4 rfl) ?_
              refine lv_iload_n hx hb d_Runs_measureToBad_106 rfl (lv_at hl 3 rfl) ?_
              refine lv_icmp_gt (tgt := 130) hx hb d_Runs_measureToBad_107 (by decide) (fun c_107 => ?_) (fun c_107 => ?_)
              · have h := And.left h c_107
                exact hk130 _ _ _ h _ _ hP hD hS _ (lv_sub hl [0, 1] rfl)
              · have h := And.right h c_107
                refine lv_aload_n hx hb d_Runs_measureToBad_110 rfl (lv_at hl 0 rfl) ?_
                refine lv_aload_n hx hb d_Runs_measureToBad_111 rfl (lv_at hl 0 rfl) ?_
                refine va_get (D := (dC, dI)) (ci := 6) (v := .ref a_lp) (C := "LoopInduction$Runs") (T := F_Runs) (N := 9) hx hb hts iC_Runs hown hK hP 3 rfl rfl 0 (by decide) fl_28 (fun _ h9 => h9) rfl d_Runs_measureToBad_112 ?_
                refine lv_iload hx hb d_Runs_measureToBad_115 (lv_at hl 4 rfl) ?_
                refine jn_i (wr := [(a_lp_facts, .inl (cI, 4096, .inl lp_facts)), (a_s1, .inl (cI, 4096, .inl s1_29)), (a_rn, .inr (6, [.ref a_lp, .ref a_rn_levels, .ref a_rn_path, .ref a_s1, .ref a_s2, .ref a_wk, .int rn_reached, .int rn_greatestLevel, .int rn_pathSize])), (a_wk, .inr (10, [.ref a_wk_items, .int wk_size_30])), (a_wk_items, .inl (cI, 4096, .inl wk_items_31)), (a_lp_first, .inl (cI, 4097, .inl lp_first))]) (va_runV (As := [.int x4_28]) (rest := [.ref a_rn]) ⟨hx, hb, hml, hown, hts⟩ (c_Loop_sourceAt l dC dI cI cB cZ adK adV _ a_lp a_lp_facts a_lp_turns a_lp_first a_lp_src a_s1 lp_choices lp_guesses lp_unaries lp_ranked lp_src x4_28 _ h) (cwV 1 hts (gv_ m_830 m_831 m_832 m_92 m_833) rfl rfl rfl pd_Loop_sourceAt ⟨Nat.le_of_ble_eq_true rfl, Nat.le_of_ble_eq_true rfl⟩) ⟨pc_blind, va_recv hK hP (ci := 4) (q0 := 6) rfl rfl, pc_of (hP.sub [6, 1] rfl) hK (hD.sub [6, 1] (by decide) rfl) hN hT hS hA⟩ rfl rfl hl.1 rfl (lv_room (Nat.le_of_ble_eq_true rfl)) d_Runs_measureToBad_117 ⟨Nat.zero_le _, Nat.zero_le _⟩) hP hD hS hA [6, 1] [0, 2, 3, 4, 5, 7] rfl rfl (by decide) (by decide) (fun r_36 u_ H locs h hP hD hS => ?_)
                have hP : va_P (dC, dI) vwCl [(a_lp_facts, .inl (cI, 4096, .inl lp_facts)), (a_s1, .inl (cI, 4096, .inl s1_29)), (a_rn, .inr (6, [.ref a_lp, .ref a_rn_levels, .ref a_rn_path, .ref a_s1, .ref a_s2, .ref a_wk, .int rn_reached, .int rn_greatestLevel, .int rn_pathSize])), (a_wk, .inr (10, [.ref a_wk_items, .int wk_size_30])), (a_wk_items, .inl (cI, 4096, .inl wk_items_31)), (a_lp_first, .inl (cI, 4097, .inl lp_first)), (a_lp, .inr (4, [.ref a_lp_facts, .ref a_lp_turns, .ref a_lp_first, .ref a_lp_src, .ref a_s1, .int lp_choices, .int lp_guesses, .int lp_unaries, .int lp_ranked])), (a_lp_src, .inl (cI, 24576, .inl lp_src))] H := hP
                have hD : va_D A [(a_lp_facts, .inl (cI, 4096, .inl lp_facts)), (a_s1, .inl (cI, 4096, .inl s1_29)), (a_rn, .inr (6, [.ref a_lp, .ref a_rn_levels, .ref a_rn_path, .ref a_s1, .ref a_s2, .ref a_wk, .int rn_reached, .int rn_greatestLevel, .int rn_pathSize])), (a_wk, .inr (10, [.ref a_wk_items, .int wk_size_30])), (a_wk_items, .inl (cI, 4096, .inl wk_items_31)), (a_lp_first, .inl (cI, 4097, .inl lp_first)), (a_lp, .inr (4, [.ref a_lp_facts, .ref a_lp_turns, .ref a_lp_first, .ref a_lp_src, .ref a_s1, .int lp_choices, .int lp_guesses, .int lp_unaries, .int lp_ranked])), (a_lp_src, .inl (cI, 24576, .inl lp_src))] := hD
                refine lv_iload_n hx hb d_Runs_measureToBad_120 rfl (lv_at hl 2 rfl) ?_
                refine jn_v (wr := [(a_lp_facts, .inl (cI, 4096, .inl lp_facts)), (a_lp_first, .inl (cI, 4097, .inl lp_first)), (a_lp, .inr (4, [.ref a_lp_facts, .ref a_lp_turns, .ref a_lp_first, .ref a_lp_src, .ref a_s1, .int lp_choices, .int lp_guesses, .int lp_unaries, .int lp_ranked])), (a_lp_src, .inl (cI, 24576, .inl lp_src))]) (va_runV (As := [.int r_36, .int r_25]) (rest := []) ⟨hx, hb, hml, hown, hts⟩ (c_Runs_measureSource l dC dI cI cB cZ adK adV _ a_s1 a_wk a_wk_items a_rn a_lp a_rn_levels a_rn_path a_s2 s1_29 wk_size_30 wk_items_31 rn_reached rn_greatestLevel rn_pathSize r_36 r_25 _ h) (cwV 2 hts (gv_ m_834 m_836 m_32 m_93 m_837) rfl rfl rfl pd_Runs_measureSource ⟨Nat.le_of_ble_eq_true rfl, Nat.le_of_ble_eq_true rfl⟩) ⟨pc_blind, va_recv hK hP (ci := 6) (q0 := 2) rfl rfl, pc_of (hP.sub [1, 3, 4, 2] rfl) hK (hD.sub [1, 3, 4, 2] (by decide) rfl) hN hT hS hA⟩ rfl rfl hl.1 rfl (lv_room (Nat.le_of_ble_eq_true rfl)) d_Runs_measureToBad_121 ⟨Nat.zero_le _, Nat.zero_le _⟩) hP hD hS hA [1, 3, 4, 2] [0, 5, 6, 7] rfl rfl (by decide) (by decide) (fun u_ H locs h hP hD hS => ?_)
                obtain ⟨s1_37, wk_size_38, wk_items_39⟩ := u_
                have hP : va_P (dC, dI) vwCl [(a_lp_facts, .inl (cI, 4096, .inl lp_facts)), (a_lp_first, .inl (cI, 4097, .inl lp_first)), (a_lp, .inr (4, [.ref a_lp_facts, .ref a_lp_turns, .ref a_lp_first, .ref a_lp_src, .ref a_s1, .int lp_choices, .int lp_guesses, .int lp_unaries, .int lp_ranked])), (a_lp_src, .inl (cI, 24576, .inl lp_src)), (a_s1, .inl (cI, 4096, .inl s1_37)), (a_wk, .inr (10, [.ref a_wk_items, .int wk_size_38])), (a_wk_items, .inl (cI, 4096, .inl wk_items_39)), (a_rn, .inr (6, [.ref a_lp, .ref a_rn_levels, .ref a_rn_path, .ref a_s1, .ref a_s2, .ref a_wk, .int rn_reached, .int rn_greatestLevel, .int rn_pathSize]))] H := hP
                have hD : va_D A [(a_lp_facts, .inl (cI, 4096, .inl lp_facts)), (a_lp_first, .inl (cI, 4097, .inl lp_first)), (a_lp, .inr (4, [.ref a_lp_facts, .ref a_lp_turns, .ref a_lp_first, .ref a_lp_src, .ref a_s1, .int lp_choices, .int lp_guesses, .int lp_unaries, .int lp_ranked])), (a_lp_src, .inl (cI, 24576, .inl lp_src)), (a_s1, .inl (cI, 4096, .inl s1_37)), (a_wk, .inr (10, [.ref a_wk_items, .int wk_size_38])), (a_wk_items, .inl (cI, 4096, .inl wk_items_39)), (a_rn, .inr (6, [.ref a_lp, .ref a_rn_levels, .ref a_rn_path, .ref a_s1, .ref a_s2, .ref a_wk, .int rn_reached, .int rn_greatestLevel, .int rn_pathSize]))] := hD
                refine lv_iinc (v := x4_28 + 1) (lv' := [(4, .int (x4_28 + 1)), (0, .ref a_rn), (1, .int x1_16), (2, .int r_25), (3, .int r_26)]) hx hb d_Runs_measureToBad_124 hl (k := 4) rfl rfl (by decide) rfl (fun ls hl => ?_)
                refine lv_goto (tgt := 104) hx hb d_Runs_measureToBad_127 (by decide) ?_
                exact il _ _ _ _ h _ _ (hP.sub [0, 3, 4, 7, 5, 6, 2, 1] rfl) (hD.sub [0, 3, 4, 7, 5, 6, 2, 1] (by decide) rfl) hS _ (lv_sub hl [1, 2, 3, 4, 0] rfl)
          obtain ⟨n_, h⟩ := h
          refine L104_q_32 _ ?_ n_ _ _ _ _ h _ _ hP hD hS _ (lv_sub hl [3, 4, 2, 1, 0] rfl)
          intro s1_40 wk_size_41 wk_items_42 h
          intro H locs hP hD hS ls hl
          refine lv_iinc (v := x1_16 + 1) (lv' := [(1, .int (x1_16 + 1)), (0, .ref a_rn)]) hx hb d_Runs_measureToBad_130 hl (k := 1) rfl rfl (by decide) rfl (fun ls hl => ?_)
          refine lv_goto (tgt := 58) hx hb d_Runs_measureToBad_133 (by decide) ?_
          exact il _ _ _ _ h _ _ (hP.sub [6, 0, 7, 1, 2, 5, 3, 4] rfl) (hD.sub [6, 0, 7, 1, 2, 5, 3, 4] (by decide) rfl) hS _ (lv_sub hl [1, 0] rfl)
  obtain ⟨n_, h⟩ := h
  refine L58_q_20 _ ?_ n_ _ _ _ _ h _ _ hP hD hS _ (lv_sub hl [1, 0] rfl)
  intro s1_43 wk_size_44 wk_items_45 h
  intro H locs hP hD hS ls hl
  rw [← hQ]
  have hP9 := hP.sub (ws' := [(a_lp, .inr (4, [.ref a_lp_facts, .ref a_lp_turns, .ref a_lp_first, .ref a_lp_src, .ref a_s1, .int lp_choices, .int lp_guesses, .int lp_unaries, .int lp_ranked])), (a_lp_facts, .inl (cI, 4096, .inl lp_facts)), (a_lp_first, .inl (cI, 4097, .inl lp_first)), (a_lp_src, .inl (cI, 24576, .inl lp_src)), (a_s1, .inl (cI, 4096, .inl s1_43)), (a_wk, .inr (10, [.ref a_wk_items, .int wk_size_44])), (a_wk_items, .inl (cI, 4096, .inl wk_items_45)), (a_rn, .inr (6, [.ref a_lp, .ref a_rn_levels, .ref a_rn_path, .ref a_s1, .ref a_s2, .ref a_wk, .int rn_reached, .int rn_greatestLevel, .int rn_pathSize]))]) [0, 1, 2, 3, 4, 7, 5, 6] rfl
  have hD9 := hD.sub (ws' := [(a_lp, .inr (4, [.ref a_lp_facts, .ref a_lp_turns, .ref a_lp_first, .ref a_lp_src, .ref a_s1, .int lp_choices, .int lp_guesses, .int lp_unaries, .int lp_ranked])), (a_lp_facts, .inl (cI, 4096, .inl lp_facts)), (a_lp_first, .inl (cI, 4097, .inl lp_first)), (a_lp_src, .inl (cI, 24576, .inl lp_src)), (a_s1, .inl (cI, 4096, .inl s1_43)), (a_wk, .inr (10, [.ref a_wk_items, .int wk_size_44])), (a_wk_items, .inl (cI, 4096, .inl wk_items_45)), (a_rn, .inr (6, [.ref a_lp, .ref a_rn_levels, .ref a_rn_path, .ref a_s1, .ref a_s2, .ref a_wk, .int rn_reached, .int rn_greatestLevel, .int rn_pathSize]))]) [0, 1, 2, 3, 4, 7, 5, 6] (by decide) rfl
  exact W.vret hx hb hr (fun t ht hW => ⟨⟨(s1_43, wk_size_44, wk_items_45), rfl, h, by rw [ht]; exact hP9, va_K.moved hW.alike hK, hD9⟩, hS.F ht⟩) hS.2.2 d_Runs_measureToBad_136
set_option maxHeartbeats 4000000 in
set_option maxRecDepth 100000 in
theorem c_Runs_bestBegin (l : Launch) (dC : Nat → ClassId) (dI : Nat → Nat → Nat) (cI cB cZ : ClassId) (adK adV : Nat → Nat) (sz : Nat) (a_lp a_lp_facts a_lp_turns a_lp_first a_lp_src a_s1 a_rn a_rn_levels a_rn_path a_s2 a_wk : Nat) (lp_choices : Int32) (lp_guesses : Int32) (lp_unaries : Int32) (lp_ranked : Int32) (lp_facts : Nat → Int32) (s1 : Nat → Int32) (rn_reached : Int32) (rn_greatestLevel : Int32) (rn_pathSize : Int32) (post : Int32 → Prop) (h : wp_Runs_bestBegin lp_facts s1 post) : Met l y_Runs_bestBegin w_Runs_bestBegin ({ frames := 2, cells := 0, slots := 0, locals := 42 }) (pc_ (dC, dI) [(cI, .int), (cB, .byte), (cZ, .boolean)] [(a_lp, .inr (4, [.ref a_lp_facts, .ref a_lp_turns, .ref a_lp_first, .ref a_lp_src, .ref a_s1, .int lp_choices, .int lp_guesses, .int lp_unaries, .int lp_ranked])), (a_lp_facts, .inl (cI, 4096, .inl lp_facts)), (a_s1, .inl (cI, 4096, .inl s1)), (a_rn, .inr (6, [.ref a_lp, .ref a_rn_levels, .ref a_rn_path, .ref a_s1, .ref a_s2, .ref a_wk, .int rn_reached, .int rn_greatestLevel, .int rn_pathSize]))] sz adK adV [.ref a_rn]) (va_Qi (fun (r : Int32) (u : Unit) => post r ) (fun (u : Unit) t => bw_ (dC, dI) [(cI, .int), (cB, .byte), (cZ, .boolean)] (va_A [(a_lp, .inr (4, [.ref a_lp_facts, .ref a_lp_turns, .ref a_lp_first, .ref a_lp_src, .ref a_s1, .int lp_choices, .int lp_guesses, .int lp_unaries, .int lp_ranked])), (a_lp_facts, .inl (cI, 4096, .inl lp_facts)), (a_s1, .inl (cI, 4096, .inl s1)), (a_rn, .inr (6, [.ref a_lp, .ref a_rn_levels, .ref a_rn_path, .ref a_s1, .ref a_s2, .ref a_wk, .int rn_reached, .int rn_greatestLevel, .int rn_pathSize]))] sz) [(a_lp, .inr (4, [.ref a_lp_facts, .ref a_lp_turns, .ref a_lp_first, .ref a_lp_src, .ref a_s1, .int lp_choices, .int lp_guesses, .int lp_unaries, .int lp_ranked])), (a_lp_facts, .inl (cI, 4096, .inl lp_facts)), (a_s1, .inl (cI, 4096, .inl s1)), (a_rn, .inr (6, [.ref a_lp, .ref a_rn_levels, .ref a_rn_path, .ref a_s1, .ref a_s2, .ref a_wk, .int rn_reached, .int rn_greatestLevel, .int rn_pathSize]))] t) (va_A [(a_lp, .inr (4, [.ref a_lp_facts, .ref a_lp_turns, .ref a_lp_first, .ref a_lp_src, .ref a_s1, .int lp_choices, .int lp_guesses, .int lp_unaries, .int lp_ranked])), (a_lp_facts, .inl (cI, 4096, .inl lp_facts)), (a_s1, .inl (cI, 4096, .inl s1)), (a_rn, .inr (6, [.ref a_lp, .ref a_rn_levels, .ref a_rn_path, .ref a_s1, .ref a_s2, .ref a_wk, .int rn_reached, .int rn_greatestLevel, .int rn_pathSize]))] sz)) 0 0 (va_A [(a_lp, .inr (4, [.ref a_lp_facts, .ref a_lp_turns, .ref a_lp_first, .ref a_lp_src, .ref a_s1, .int lp_choices, .int lp_guesses, .int lp_unaries, .int lp_ranked])), (a_lp_facts, .inl (cI, 4096, .inl lp_facts)), (a_s1, .inl (cI, 4096, .inl s1)), (a_rn, .inr (6, [.ref a_lp, .ref a_rn_levels, .ref a_rn_path, .ref a_s1, .ref a_s2, .ref a_wk, .int rn_reached, .int rn_greatestLevel, .int rn_pathSize]))] sz) := by
  refine Met.ofW (cc := b_Runs_bestBegin) (maxL := 4) (ret := (some .int)) (by decide) rfl ?_
  intro p e s m args below meth c s₁ B hml hv
  obtain ⟨rfl, hsz, hP, hK, hD0, hN, hT⟩ := hv
  have hx := B.exec
  have hb := B.bytes
  have hr := B.returns
  have hts := atoms_spec (ws := w_Runs_bestBegin) B.pre
  have hown : s.vm.findClass "LoopInduction$Runs" = some m.cls := findClass_of_methodNamed B.named
  have hlocks := B.notSynchronized
  subst hsz
  have hD := hD0.self (sz := s.heap.size)
  generalize hAe : va_A [(a_lp, .inr (4, [.ref a_lp_facts, .ref a_lp_turns, .ref a_lp_first, .ref a_lp_src, .ref a_s1, .int lp_choices, .int lp_guesses, .int lp_unaries, .int lp_ranked])), (a_lp_facts, .inl (cI, 4096, .inl lp_facts)), (a_s1, .inl (cI, 4096, .inl s1)), (a_rn, .inr (6, [.ref a_lp, .ref a_rn_levels, .ref a_rn_path, .ref a_s1, .ref a_s2, .ref a_wk, .int rn_reached, .int rn_greatestLevel, .int rn_pathSize]))] s.heap.size = A at hD hT ⊢
  have hA : ∀ q : Nat, s.heap.size ≤ q → A q := fun q h => by rw [← hAe]; exact Or.inr h
  have hS : va_S A s.heap s.heap [] := va_S.rf
  generalize hQ : MQ below _ _ s 0 0 _ = QQ
  have hl := lv_entry ([.ref a_rn]) (n := 4) (Nat.le_of_ble_eq_true rfl)
  rw [lg_entry_eq]
  generalize (lg_sl ([.ref a_rn]) ++ List.replicate (4 - (lg_sl ([.ref a_rn])).length) Slot.unset).toArray = ls at hl ⊢
  have hl : lv_has ls 4 [(0, .ref a_rn)] := hl
  have fl_28 := (hts _ (List.mem_cons_of_mem _ m_297))
  have fl_38 := (hts _ (List.mem_cons_of_mem _ m_300))
  refine lv_iconst (v := (-1)) hx hb d_Runs_bestBegin_0 (by decide) ?_
  refine lv_istore_n (lv' := [(1, .int (-1)), (0, .ref a_rn)]) hx hb d_Runs_bestBegin_1 rfl hl (by decide) rfl (fun ls hl => ?_)
  refine lv_sipush (v := 4096) hx hb d_Runs_bestBegin_2 (by decide) ?_
  refine lv_istore_n (lv' := [(2, .int 4096), (1, .int (-1)), (0, .ref a_rn)]) hx hb d_Runs_bestBegin_5 rfl hl (by decide) rfl (fun ls hl => ?_)
  refine lv_iconst (v := 0) hx hb d_Runs_bestBegin_6 (by decide) ?_
  refine lv_istore_n (lv' := [(3, .int 0), (2, .int 4096), (1, .int (-1)), (0, .ref a_rn)]) hx hb d_Runs_bestBegin_7 rfl hl (by decide) rfl (fun ls hl => ?_)
  have L8_q_4 : ∀ (k62 : Int32 → Prop) (hk62 : ∀ (x1_5 : Int32), k62 x1_5 → ∀ (H : Heap) (locs : List Loc), va_P (dC, dI) vwCl [(a_lp, .inr (4, [.ref a_lp_facts, .ref a_lp_turns, .ref a_lp_first, .ref a_lp_src, .ref a_s1, .int lp_choices, .int lp_guesses, .int lp_unaries, .int lp_ranked])), (a_lp_facts, .inl (cI, 4096, .inl lp_facts)), (a_s1, .inl (cI, 4096, .inl s1)), (a_rn, .inr (6, [.ref a_lp, .ref a_rn_levels, .ref a_rn_path, .ref a_s1, .ref a_s2, .ref a_wk, .int rn_reached, .int rn_greatestLevel, .int rn_pathSize]))] H → va_D A [(a_lp, .inr (4, [.ref a_lp_facts, .ref a_lp_turns, .ref a_lp_first, .ref a_lp_src, .ref a_s1, .int lp_choices, .int lp_guesses, .int lp_unaries, .int lp_ranked])), (a_lp_facts, .inl (cI, 4096, .inl lp_facts)), (a_s1, .inl (cI, 4096, .inl s1)), (a_rn, .inr (6, [.ref a_lp, .ref a_rn_levels, .ref a_rn_path, .ref a_s1, .ref a_s2, .ref a_wk, .int rn_reached, .int rn_greatestLevel, .int rn_pathSize]))] → va_S A s.heap H locs → ∀ ls : Array Slot, lv_has ls 4 [(1, .int x1_5)] → W p l e (headSpec w_Runs_bestBegin ({ frames := 2, cells := 0, slots := 0, locals := 42 })).room s m (([.ref a_rn] : List Value).toArray) below meth c H locs 0 0 QQ (F0 m 62 ls [])) (n : Nat) (x1_1 : Int32) (x2_2 : Int32) (x3_3 : Int32), wp_Runs_bestBegin_L8 lp_facts s1 k62 n x1_1 x2_2 x3_3 → ∀ (H : Heap) (locs : List Loc), va_P (dC, dI) vwCl [(a_lp, .inr (4, [.ref a_lp_facts, .ref a_lp_turns, .ref a_lp_first, .ref a_lp_src, .ref a_s1, .int lp_choices, .int lp_guesses, .int lp_unaries, .int lp_ranked])), (a_lp_facts, .inl (cI, 4096, .inl lp_facts)), (a_s1, .inl (cI, 4096, .inl s1)), (a_rn, .inr (6, [.ref a_lp, .ref a_rn_levels, .ref a_rn_path, .ref a_s1, .ref a_s2, .ref a_wk, .int rn_reached, .int rn_greatestLevel, .int rn_pathSize]))] H → va_D A [(a_lp, .inr (4, [.ref a_lp_facts, .ref a_lp_turns, .ref a_lp_first, .ref a_lp_src, .ref a_s1, .int lp_choices, .int lp_guesses, .int lp_unaries, .int lp_ranked])), (a_lp_facts, .inl (cI, 4096, .inl lp_facts)), (a_s1, .inl (cI, 4096, .inl s1)), (a_rn, .inr (6, [.ref a_lp, .ref a_rn_levels, .ref a_rn_path, .ref a_s1, .ref a_s2, .ref a_wk, .int rn_reached, .int rn_greatestLevel, .int rn_pathSize]))] → va_S A s.heap H locs → ∀ ls : Array Slot, lv_has ls 4 [(0, .ref a_rn), (1, .int x1_1), (2, .int x2_2), (3, .int x3_3)] → W p l e (headSpec w_Runs_bestBegin ({ frames := 2, cells := 0, slots := 0, locals := 42 })).room s m (([.ref a_rn] : List Value).toArray) below meth c H locs 0 0 QQ (F0 m 8 ls []) := by
    intro k62 hk62 n
    induction n with
    | zero => intro x1_1 x2_2 x3_3 h; exact (show False from h).elim
    | succ n il =>
      intro x1_1 x2_2 x3_3 h
      intro H locs hP hD hS ls hl
      refine lv_iload_n hx hb d_Runs_bestBegin_8 rfl (lv_at hl 3 rfl) ?_
      refine lv_sipush (v := 4096) hx hb d_Runs_bestBegin_9 (by decide) ?_
      refine lv_icmp_ge (tgt := 62) hx hb d_Runs_bestBegin_12 (by decide) (fun c_12 => ?_) (fun c_12 => ?_)
      · have h := And.left h c_12
        exact hk62 _ h _ _ hP hD hS _ (lv_sub hl [1] rfl)
      · have h := And.right h c_12
        refine lv_aload_n hx hb d_Runs_bestBegin_15 rfl (lv_at hl 0 rfl) ?_
        refine va_get (D := (dC, dI)) (ci := 6) (v := .ref a_lp) (C := "LoopInduction$Runs") (T := F_Runs) (N := 9) hx hb hts iC_Runs hown hK hP 3 rfl rfl 0 (by decide) fl_28 (fun _ h9 => h9) rfl d_Runs_bestBegin_16 ?_
        refine lv_iload_n hx hb d_Runs_bestBegin_19 rfl (lv_at hl 3 rfl) ?_
        refine lv_iconst (v := 1) hx hb d_Runs_bestBegin_20 (by decide) ?_
        refine jn_i (wr := [(a_s1, .inl (cI, 4096, .inl s1)), (a_rn, .inr (6, [.ref a_lp, .ref a_rn_levels, .ref a_rn_path, .ref a_s1, .ref a_s2, .ref a_wk, .int rn_reached, .int rn_greatestLevel, .int rn_pathSize]))]) (va_runV (As := [.int x3_3, .int 1]) (rest := []) ⟨hx, hb, hml, hown, hts⟩ (c_Loop_hasAll l dC dI cI cB cZ adK adV _ a_lp a_lp_facts a_lp_turns a_lp_first a_lp_src a_s1 lp_choices lp_guesses lp_unaries lp_ranked lp_facts x3_3 1 _ h) (cwV 2 hts (gv_ m_784 m_785 m_786 m_92 m_787) rfl rfl rfl pd_Loop_hasAll ⟨Nat.le_of_ble_eq_true rfl, Nat.le_of_ble_eq_true rfl⟩) ⟨pc_blind, va_recv hK hP (ci := 4) (q0 := 0) rfl rfl, pc_of (hP.sub [0, 1] rfl) hK (hD.sub [0, 1] (by decide) rfl) hN hT hS hA⟩ rfl rfl hl.1 rfl (lv_room (Nat.le_of_ble_eq_true rfl)) d_Runs_bestBegin_21 ⟨Nat.zero_le _, Nat.zero_le _⟩) hP hD hS hA [0, 1] [2, 3] rfl rfl (by decide) (by decide) (fun r_6 u_ H locs h hP hD hS => ?_)
        have hP : va_P (dC, dI) vwCl [(a_s1, .inl (cI, 4096, .inl s1)), (a_rn, .inr (6, [.ref a_lp, .ref a_rn_levels, .ref a_rn_path, .ref a_s1, .ref a_s2, .ref a_wk, .int rn_reached, .int rn_greatestLevel, .int rn_pathSize])), (a_lp, .inr (4, [.ref a_lp_facts, .ref a_lp_turns, .ref a_lp_first, .ref a_lp_src, .ref a_s1, .int lp_choices, .int lp_guesses, .int lp_unaries, .int lp_ranked])), (a_lp_facts, .inl (cI, 4096, .inl lp_facts))] H := hP
        have hD : va_D A [(a_s1, .inl (cI, 4096, .inl s1)), (a_rn, .inr (6, [.ref a_lp, .ref a_rn_levels, .ref a_rn_path, .ref a_s1, .ref a_s2, .ref a_wk, .int rn_reached, .int rn_greatestLevel, .int rn_pathSize])), (a_lp, .inr (4, [.ref a_lp_facts, .ref a_lp_turns, .ref a_lp_first, .ref a_lp_src, .ref a_s1, .int lp_choices, .int lp_guesses, .int lp_unaries, .int lp_ranked])), (a_lp_facts, .inl (cI, 4096, .inl lp_facts))] := hD
        refine lv_if_eq (tgt := 56) hx hb d_Runs_bestBegin_24 (by decide) (fun c_24 => ?_) (fun c_24 => ?_)
        · have h := And.left h c_24
          refine lv_iinc (v := x3_3 + 1) (lv' := [(3, .int (x3_3 + 1)), (0, .ref a_rn), (1, .int x1_1), (2, .int x2_2)]) hx hb d_Runs_bestBegin_56 hl (k := 3) rfl rfl (by decide) rfl (fun ls hl => ?_)
          refine lv_goto (tgt := 8) hx hb d_Runs_bestBegin_59 (by decide) ?_
          exact il _ _ _ h _ _ (hP.sub [2, 3, 0, 1] rfl) (hD.sub [2, 3, 0, 1] (by decide) rfl) hS _ (lv_sub hl [1, 2, 3, 0] rfl)
        · have h := And.right h c_24
          refine lv_aload_n hx hb d_Runs_bestBegin_27 rfl (lv_at hl 0 rfl) ?_
          refine va_get (D := (dC, dI)) (ci := 6) (v := .ref a_s1) (C := "LoopInduction$Runs") (T := F_Runs) (N := 9) hx hb hts iC_Runs hown hK hP 1 rfl rfl 3 (by decide) fl_38 (fun _ h9 => h9) rfl d_Runs_bestBegin_28 ?_
          refine lv_iload_n hx hb d_Runs_bestBegin_31 rfl (lv_at hl 3 rfl) ?_
          obtain ⟨hin_32, h⟩ := h
          refine va_iald hx hb hK hP 0 0 rfl rfl hin_32 d_Runs_bestBegin_32 ?_
          refine lv_iconst (v := (-1)) hx hb d_Runs_bestBegin_33 (by decide) ?_
          refine lv_icmp_eq (tgt := 56) hx hb d_Runs_bestBegin_34 (by decide) (fun c_34 => ?_) (fun c_34 => ?_)
          · have h := And.left h c_34
            refine lv_iinc (v := x3_3 + 1) (lv' := [(3, .int (x3_3 + 1)), (0, .ref a_rn), (1, .int x1_1), (2, .int x2_2)]) hx hb d_Runs_bestBegin_56 hl (k := 3) rfl rfl (by decide) rfl (fun ls hl => ?_)
            refine lv_goto (tgt := 8) hx hb d_Runs_bestBegin_59 (by decide) ?_
            exact il _ _ _ h _ _ (hP.sub [2, 3, 0, 1] rfl) (hD.sub [2, 3, 0, 1] (by decide) rfl) hS _ (lv_sub hl [1, 2, 3, 0] rfl)
          · have h := And.right h c_34
            refine lv_aload_n hx hb d_Runs_bestBegin_37 rfl (lv_at hl 0 rfl) ?_
            refine va_get (D := (dC, dI)) (ci := 6) (v := .ref a_s1) (C := "LoopInduction$Runs") (T := F_Runs) (N := 9) hx hb hts iC_Runs hown hK hP 1 rfl rfl 3 (by decide) fl_38 (fun _ h9 => h9) rfl d_Runs_bestBegin_38 ?_
            refine lv_iload_n hx hb d_Runs_bestBegin_41 rfl (lv_at hl 3 rfl) ?_
            obtain ⟨hin_42, h⟩ := h
            refine va_iald hx hb hK hP 0 0 rfl rfl hin_42 d_Runs_bestBegin_42 ?_
            refine lv_iload_n hx hb d_Runs_bestBegin_43 rfl (lv_at hl 2 rfl) ?_
            refine lv_icmp_ge (tgt := 56) hx hb d_Runs_bestBegin_44 (by decide) (fun c_44 => ?_) (fun c_44 => ?_)
            · have h := And.left h c_44
              refine lv_iinc (v := x3_3 + 1) (lv' := [(3, .int (x3_3 + 1)), (0, .ref a_rn), (1, .int x1_1), (2, .int x2_2)]) hx hb d_Runs_bestBegin_56 hl (k := 3) rfl rfl (by decide) rfl (fun ls hl => ?_)
              refine lv_goto (tgt := 8) hx hb d_Runs_bestBegin_59 (by decide) ?_
              exact il _ _ _ h _ _ (hP.sub [2, 3, 0, 1] rfl) (hD.sub [2, 3, 0, 1] (by decide) rfl) hS _ (lv_sub hl [1, 2, 3, 0] rfl)
            · have h := And.right h c_44
              refine lv_iload_n hx hb d_Runs_bestBegin_47 rfl (lv_at hl 3 rfl) ?_
              refine lv_istore_n (lv' := [(1, .int x3_3), (0, .ref a_rn), (2, .int x2_2), (3, .int x3_3)]) hx hb d_Runs_bestBegin_48 rfl hl (by decide) rfl (fun ls hl => ?_)
              refine lv_aload_n hx hb d_Runs_bestBegin_49 rfl (lv_at hl 1 rfl) ?_
              refine va_get (D := (dC, dI)) (ci := 6) (v := .ref a_s1) (C := "LoopInduction$Runs") (T := F_Runs) (N := 9) hx hb hts iC_Runs hown hK hP 1 rfl rfl 3 (by decide) fl_38 (fun _ h9 => h9) rfl d_Runs_bestBegin_50 ?_
              refine lv_iload_n hx hb d_Runs_bestBegin_53 rfl (lv_at hl 3 rfl) ?_
              obtain ⟨hin_54, h⟩ := h
              refine va_iald hx hb hK hP 0 0 rfl rfl hin_54 d_Runs_bestBegin_54 ?_
              refine lv_topi (fun x2_7 ex2_7 => ?_)
              have h := h x2_7 ex2_7
              refine lv_istore_n (lv' := [(2, .int x2_7), (1, .int x3_3), (0, .ref a_rn), (3, .int x3_3)]) hx hb d_Runs_bestBegin_55 rfl hl (by decide) rfl (fun ls hl => ?_)
              refine lv_iinc (v := x3_3 + 1) (lv' := [(3, .int (x3_3 + 1)), (2, .int x2_7), (1, .int x3_3), (0, .ref a_rn)]) hx hb d_Runs_bestBegin_56 hl (k := 3) rfl rfl (by decide) rfl (fun ls hl => ?_)
              refine lv_goto (tgt := 8) hx hb d_Runs_bestBegin_59 (by decide) ?_
              exact il _ _ _ h _ _ (hP.sub [2, 3, 0, 1] rfl) (hD.sub [2, 3, 0, 1] (by decide) rfl) hS _ (lv_sub hl [3, 2, 1, 0] rfl)
  obtain ⟨n_, h⟩ := h
  refine L8_q_4 _ ?_ n_ _ _ _ h _ _ hP hD hS _ (lv_sub hl [3, 2, 1, 0] rfl)
  intro x1_8 h
  intro H locs hP hD hS ls hl
  refine lv_iload_n hx hb d_Runs_bestBegin_62 rfl (lv_at hl 0 rfl) ?_
  rw [← hQ]
  have hP9 := hP
  have hD9 := hD
  exact W.iret (v := x1_8) hx hb hr (fun t ht hW => ⟨⟨x1_8, (), rfl, h, by rw [ht]; exact hP9, va_K.moved hW.alike hK, hD9⟩, hS.F ht⟩) hS.2.2 d_Runs_bestBegin_63
set_option maxHeartbeats 4000000 in
set_option maxRecDepth 100000 in
theorem c_Runs_bestTurn (l : Launch) (dC : Nat → ClassId) (dI : Nat → Nat → Nat) (cI cB cZ : ClassId) (adK adV : Nat → Nat) (sz : Nat) (a_lp a_lp_facts a_lp_turns a_lp_first a_lp_src a_s1 a_rn a_rn_levels a_rn_path a_s2 a_wk : Nat) (lp_choices : Int32) (lp_guesses : Int32) (lp_unaries : Int32) (lp_ranked : Int32) (lp_turns : Nat → Int32) (s1 : Nat → Int32) (rn_reached : Int32) (rn_greatestLevel : Int32) (rn_pathSize : Int32) (x1 : Int32) (post : Int32 → Prop) (h : wp_Runs_bestTurn x1 lp_choices lp_turns s1 post) : Met l y_Runs_bestTurn w_Runs_bestTurn ({ frames := 2, cells := 0, slots := 0, locals := 42 }) (pc_ (dC, dI) [(cI, .int), (cB, .byte), (cZ, .boolean)] [(a_lp, .inr (4, [.ref a_lp_facts, .ref a_lp_turns, .ref a_lp_first, .ref a_lp_src, .ref a_s1, .int lp_choices, .int lp_guesses, .int lp_unaries, .int lp_ranked])), (a_lp_turns, .inl (cI, 24576, .inl lp_turns)), (a_s1, .inl (cI, 4096, .inl s1)), (a_rn, .inr (6, [.ref a_lp, .ref a_rn_levels, .ref a_rn_path, .ref a_s1, .ref a_s2, .ref a_wk, .int rn_reached, .int rn_greatestLevel, .int rn_pathSize]))] sz adK adV [.ref a_rn, .int x1]) (va_Qi (fun (r : Int32) (u : Unit) => post r ) (fun (u : Unit) t => bw_ (dC, dI) [(cI, .int), (cB, .byte), (cZ, .boolean)] (va_A [(a_lp, .inr (4, [.ref a_lp_facts, .ref a_lp_turns, .ref a_lp_first, .ref a_lp_src, .ref a_s1, .int lp_choices, .int lp_guesses, .int lp_unaries, .int lp_ranked])), (a_lp_turns, .inl (cI, 24576, .inl lp_turns)), (a_s1, .inl (cI, 4096, .inl s1)), (a_rn, .inr (6, [.ref a_lp, .ref a_rn_levels, .ref a_rn_path, .ref a_s1, .ref a_s2, .ref a_wk, .int rn_reached, .int rn_greatestLevel, .int rn_pathSize]))] sz) [(a_lp, .inr (4, [.ref a_lp_facts, .ref a_lp_turns, .ref a_lp_first, .ref a_lp_src, .ref a_s1, .int lp_choices, .int lp_guesses, .int lp_unaries, .int lp_ranked])), (a_lp_turns, .inl (cI, 24576, .inl lp_turns)), (a_s1, .inl (cI, 4096, .inl s1)), (a_rn, .inr (6, [.ref a_lp, .ref a_rn_levels, .ref a_rn_path, .ref a_s1, .ref a_s2, .ref a_wk, .int rn_reached, .int rn_greatestLevel, .int rn_pathSize]))] t) (va_A [(a_lp, .inr (4, [.ref a_lp_facts, .ref a_lp_turns, .ref a_lp_first, .ref a_lp_src, .ref a_s1, .int lp_choices, .int lp_guesses, .int lp_unaries, .int lp_ranked])), (a_lp_turns, .inl (cI, 24576, .inl lp_turns)), (a_s1, .inl (cI, 4096, .inl s1)), (a_rn, .inr (6, [.ref a_lp, .ref a_rn_levels, .ref a_rn_path, .ref a_s1, .ref a_s2, .ref a_wk, .int rn_reached, .int rn_greatestLevel, .int rn_pathSize]))] sz)) 0 0 (va_A [(a_lp, .inr (4, [.ref a_lp_facts, .ref a_lp_turns, .ref a_lp_first, .ref a_lp_src, .ref a_s1, .int lp_choices, .int lp_guesses, .int lp_unaries, .int lp_ranked])), (a_lp_turns, .inl (cI, 24576, .inl lp_turns)), (a_s1, .inl (cI, 4096, .inl s1)), (a_rn, .inr (6, [.ref a_lp, .ref a_rn_levels, .ref a_rn_path, .ref a_s1, .ref a_s2, .ref a_wk, .int rn_reached, .int rn_greatestLevel, .int rn_pathSize]))] sz) := by
  refine Met.ofW (cc := b_Runs_bestTurn) (maxL := 5) (ret := (some .int)) (by decide) rfl ?_
  intro p e s m args below meth c s₁ B hml hv
  obtain ⟨rfl, hsz, hP, hK, hD0, hN, hT⟩ := hv
  have hx := B.exec
  have hb := B.bytes
  have hr := B.returns
  have hts := atoms_spec (ws := w_Runs_bestTurn) B.pre
  have hown : s.vm.findClass "LoopInduction$Runs" = some m.cls := findClass_of_methodNamed B.named
  have hlocks := B.notSynchronized
  subst hsz
  have hD := hD0.self (sz := s.heap.size)
  generalize hAe : va_A [(a_lp, .inr (4, [.ref a_lp_facts, .ref a_lp_turns, .ref a_lp_first, .ref a_lp_src, .ref a_s1, .int lp_choices, .int lp_guesses, .int lp_unaries, .int lp_ranked])), (a_lp_turns, .inl (cI, 24576, .inl lp_turns)), (a_s1, .inl (cI, 4096, .inl s1)), (a_rn, .inr (6, [.ref a_lp, .ref a_rn_levels, .ref a_rn_path, .ref a_s1, .ref a_s2, .ref a_wk, .int rn_reached, .int rn_greatestLevel, .int rn_pathSize]))] s.heap.size = A at hD hT ⊢
  have hA : ∀ q : Nat, s.heap.size ≤ q → A q := fun q h => by rw [← hAe]; exact Or.inr h
  have hS : va_S A s.heap s.heap [] := va_S.rf
  generalize hQ : MQ below _ _ s 0 0 _ = QQ
  have hl := lv_entry ([.ref a_rn, .int x1]) (n := 5) (Nat.le_of_ble_eq_true rfl)
  rw [lg_entry_eq]
  generalize (lg_sl ([.ref a_rn, .int x1]) ++ List.replicate (5 - (lg_sl ([.ref a_rn, .int x1])).length) Slot.unset).toArray = ls at hl ⊢
  have hl : lv_has ls 5 [(0, .ref a_rn), (1, .int x1)] := hl
  have fl_28 := (hts _ (List.mem_cons_of_mem _ m_297))
  have fl_38 := (hts _ (List.mem_cons_of_mem _ m_300))
  refine lv_iconst (v := (-1)) hx hb d_Runs_bestTurn_0 (by decide) ?_
  refine lv_istore_n (lv' := [(2, .int (-1)), (0, .ref a_rn), (1, .int x1)]) hx hb d_Runs_bestTurn_1 rfl hl (by decide) rfl (fun ls hl => ?_)
  refine lv_iload_n hx hb d_Runs_bestTurn_2 rfl (lv_at hl 2 rfl) ?_
  refine jn_i (wr := [(a_lp, .inr (4, [.ref a_lp_facts, .ref a_lp_turns, .ref a_lp_first, .ref a_lp_src, .ref a_s1, .int lp_choices, .int lp_guesses, .int lp_unaries, .int lp_ranked])), (a_lp_turns, .inl (cI, 24576, .inl lp_turns)), (a_s1, .inl (cI, 4096, .inl s1)), (a_rn, .inr (6, [.ref a_lp, .ref a_rn_levels, .ref a_rn_path, .ref a_s1, .ref a_s2, .ref a_wk, .int rn_reached, .int rn_greatestLevel, .int rn_pathSize]))]) (va_runSN (As := [.int x1]) (rest := []) ⟨hx, hb, hml, hown, hts⟩ (c_LI_isState l dC dI cI cB cZ adK adV _ x1 _ h) ⟨va_cnB 1 hts (ga_ m_762) rfl rfl rfl (hN _ (List.mem_of_getElem? (i := 5) rfl)) (hts _ (List.mem_cons_of_mem _ m_85)) pn_LI_isState ⟨Nat.le_of_ble_eq_true rfl, Nat.le_of_ble_eq_true rfl⟩, (hts _ (List.mem_cons_of_mem _ m_761)), trivial⟩ ⟨pc_blind, pc_of (hP.sub [] rfl) hK (hD.sub [] (by decide) rfl) hN hT hS hA⟩ rfl rfl hl.1 rfl (lv_room (Nat.le_of_ble_eq_true rfl)) d_Runs_bestTurn_3 ⟨Nat.zero_le _, Nat.zero_le _⟩) hP hD hS hA [] [0, 1, 2, 3] rfl rfl (by decide) (by decide) (fun r_1 u_ H locs h hP hD hS => ?_)
  have hP : va_P (dC, dI) vwCl [(a_lp, .inr (4, [.ref a_lp_facts, .ref a_lp_turns, .ref a_lp_first, .ref a_lp_src, .ref a_s1, .int lp_choices, .int lp_guesses, .int lp_unaries, .int lp_ranked])), (a_lp_turns, .inl (cI, 24576, .inl lp_turns)), (a_s1, .inl (cI, 4096, .inl s1)), (a_rn, .inr (6, [.ref a_lp, .ref a_rn_levels, .ref a_rn_path, .ref a_s1, .ref a_s2, .ref a_wk, .int rn_reached, .int rn_greatestLevel, .int rn_pathSize]))] H := hP
  have hD : va_D A [(a_lp, .inr (4, [.ref a_lp_facts, .ref a_lp_turns, .ref a_lp_first, .ref a_lp_src, .ref a_s1, .int lp_choices, .int lp_guesses, .int lp_unaries, .int lp_ranked])), (a_lp_turns, .inl (cI, 24576, .inl lp_turns)), (a_s1, .inl (cI, 4096, .inl s1)), (a_rn, .inr (6, [.ref a_lp, .ref a_rn_levels, .ref a_rn_path, .ref a_s1, .ref a_s2, .ref a_wk, .int rn_reached, .int rn_greatestLevel, .int rn_pathSize]))] := hD
  refine lv_if_eq (tgt := 18) hx hb d_Runs_bestTurn_6 (by decide) (fun c_6 => ?_) (fun c_6 => ?_)
  · have h := And.left h c_6
    refine lv_iload_n hx hb d_Runs_bestTurn_18 rfl (lv_at hl 0 rfl) ?_
    rw [← hQ]
    have hP9 := hP
    have hD9 := hD
    exact W.iret (v := (-1)) hx hb hr (fun t ht hW => ⟨⟨(-1), (), rfl, h, by rw [ht]; exact hP9, va_K.moved hW.alike hK, hD9⟩, hS.F ht⟩) hS.2.2 d_Runs_bestTurn_19
  · have h := And.right h c_6
    refine lv_aload_n hx hb d_Runs_bestTurn_9 rfl (lv_at hl 1 rfl) ?_
    refine va_get (D := (dC, dI)) (ci := 6) (v := .ref a_s1) (C := "LoopInduction$Runs") (T := F_Runs) (N := 9) hx hb hts iC_Runs hown hK hP 3 rfl rfl 3 (by decide) fl_38 (fun _ h9 => h9) rfl d_Runs_bestTurn_10 ?_
    refine lv_iload_n hx hb d_Runs_bestTurn_13 rfl (lv_at hl 2 rfl) ?_
    obtain ⟨hin_14, h⟩ := h
    refine va_iald hx hb hK hP 2 0 rfl rfl hin_14 d_Runs_bestTurn_14 ?_
    refine lv_if_gt (tgt := 20) hx hb d_Runs_bestTurn_15 (by decide) (fun c_15 => ?_) (fun c_15 => ?_)
    · have h := And.left h c_15
      refine lv_iconst (v := 0) hx hb d_Runs_bestTurn_20 (by decide) ?_
      refine lv_istore_n (lv' := [(3, .int 0), (2, .int (-1)), (0, .ref a_rn), (1, .int x1)]) hx hb d_Runs_bestTurn_21 rfl hl (by decide) rfl (fun ls hl => ?_)
      have L22_q_4 : ∀ (k90 : Int32 → Prop) (hk90 : ∀ (x2_5 : Int32), k90 x2_5 → ∀ (H : Heap) (locs : List Loc), va_P (dC, dI) vwCl [(a_lp, .inr (4, [.ref a_lp_facts, .ref a_lp_turns, .ref a_lp_first, .ref a_lp_src, .ref a_s1, .int lp_choices, .int lp_guesses, .int lp_unaries, .int lp_ranked])), (a_lp_turns, .inl (cI, 24576, .inl lp_turns)), (a_s1, .inl (cI, 4096, .inl s1)), (a_rn, .inr (6, [.ref a_lp, .ref a_rn_levels, .ref a_rn_path, .ref a_s1, .ref a_s2, .ref a_wk, .int rn_reached, .int rn_greatestLevel, .int rn_pathSize]))] H → va_D A [(a_lp, .inr (4, [.ref a_lp_facts, .ref a_lp_turns, .ref a_lp_first, .ref a_lp_src, .ref a_s1, .int lp_choices, .int lp_guesses, .int lp_unaries, .int lp_ranked])), (a_lp_turns, .inl (cI, 24576, .inl lp_turns)), (a_s1, .inl (cI, 4096, .inl s1)), (a_rn, .inr (6, [.ref a_lp, .ref a_rn_levels, .ref a_rn_path, .ref a_s1, .ref a_s2, .ref a_wk, .int rn_reached, .int rn_greatestLevel, .int rn_pathSize]))] → va_S A s.heap H locs → ∀ ls : Array Slot, lv_has ls 5 [(2, .int x2_5)] → W p l e (headSpec w_Runs_bestTurn ({ frames := 2, cells := 0, slots := 0, locals := 42 })).room s m (([.ref a_rn, .int x1] : List Value).toArray) below meth c H locs 0 0 QQ (F0 m 90 ls [])) (n : Nat) (x2_2 : Int32) (x3_3 : Int32), wp_Runs_bestTurn_L22 x1 lp_choices lp_turns s1 k90 n x2_2 x3_3 → ∀ (H : Heap) (locs : List Loc), va_P (dC, dI) vwCl [(a_lp, .inr (4, [.ref a_lp_facts, .ref a_lp_turns, .ref a_lp_first, .ref a_lp_src, .ref a_s1, .int lp_choices, .int lp_guesses, .int lp_unaries, .int lp_ranked])), (a_lp_turns, .inl (cI, 24576, .inl lp_turns)), (a_s1, .inl (cI, 4096, .inl s1)), (a_rn, .inr (6, [.ref a_lp, .ref a_rn_levels, .ref a_rn_path, .ref a_s1, .ref a_s2, .ref a_wk, .int rn_reached, .int rn_greatestLevel, .int rn_pathSize]))] H → va_D A [(a_lp, .inr (4, [.ref a_lp_facts, .ref a_lp_turns, .ref a_lp_first, .ref a_lp_src, .ref a_s1, .int lp_choices, .int lp_guesses, .int lp_unaries, .int lp_ranked])), (a_lp_turns, .inl (cI, 24576, .inl lp_turns)), (a_s1, .inl (cI, 4096, .inl s1)), (a_rn, .inr (6, [.ref a_lp, .ref a_rn_levels, .ref a_rn_path, .ref a_s1, .ref a_s2, .ref a_wk, .int rn_reached, .int rn_greatestLevel, .int rn_pathSize]))] → va_S A s.heap H locs → ∀ ls : Array Slot, lv_has ls 5 [(0, .ref a_rn), (1, .int x1), (2, .int x2_2), (3, .int x3_3)] → W p l e (headSpec w_Runs_bestTurn ({ frames := 2, cells := 0, slots := 0, locals := 42 })).room s m (([.ref a_rn, .int x1] : List Value).toArray) below meth c H locs 0 0 QQ (F0 m 22 ls []) := by
        intro k90 hk90 n
        induction n with
        | zero => intro x2_2 x3_3 h; exact (show False from h).elim
        | succ n il =>
          intro x2_2 x3_3 h
          intro H locs hP hD hS ls hl
          refine lv_iload_n hx hb d_Runs_bestTurn_22 rfl (lv_at hl 3 rfl) ?_
          refine lv_aload_n hx hb d_Runs_bestTurn_23 rfl (lv_at hl 0 rfl) ?_
          refine va_get (D := (dC, dI)) (ci := 6) (v := .ref a_lp) (C := "LoopInduction$Runs") (T := F_Runs) (N := 9) hx hb hts iC_Runs hown hK hP 3 rfl rfl 0 (by decide) fl_28 (fun _ h9 => h9) rfl d_Runs_bestTurn_24 ?_
          refine jn_i (wr := [(a_lp_turns, .inl (cI, 24576, .inl lp_turns)), (a_s1, .inl (cI, 4096, .inl s1)), (a_rn, .inr (6, [.ref a_lp, .ref a_rn_levels, .ref a_rn_path, .ref a_s1, .ref a_s2, .ref a_wk, .int rn_reached, .int rn_greatestLevel, .int rn_pathSize]))]) (va_runV (As := []) (rest := [.int x3_3]) ⟨hx, hb, hml, hown, hts⟩ (c_Loop_choices l dC dI cI cB cZ adK adV _ a_lp a_lp_facts a_lp_turns a_lp_first a_lp_src a_s1 lp_choices lp_guesses lp_unaries lp_ranked _ h) (cwV 0 hts (gv_ m_809 m_810 m_811 m_92 m_812) rfl rfl rfl pd_Loop_choices ⟨Nat.le_of_ble_eq_true rfl, Nat.le_of_ble_eq_true rfl⟩) ⟨pc_blind, va_recv hK hP (ci := 4) (q0 := 0) rfl rfl, pc_of (hP.sub [0] rfl) hK (hD.sub [0] (by decide) rfl) hN hT hS hA⟩ rfl rfl hl.1 rfl (lv_room (Nat.le_of_ble_eq_true rfl)) d_Runs_bestTurn_27 ⟨Nat.zero_le _, Nat.zero_le _⟩) hP hD hS hA [0] [1, 2, 3] rfl rfl (by decide) (by decide) (fun r_6 u_ H locs h hP hD hS => ?_)
          have hP : va_P (dC, dI) vwCl [(a_lp_turns, .inl (cI, 24576, .inl lp_turns)), (a_s1, .inl (cI, 4096, .inl s1)), (a_rn, .inr (6, [.ref a_lp, .ref a_rn_levels, .ref a_rn_path, .ref a_s1, .ref a_s2, .ref a_wk, .int rn_reached, .int rn_greatestLevel, .int rn_pathSize])), (a_lp, .inr (4, [.ref a_lp_facts, .ref a_lp_turns, .ref a_lp_first, .ref a_lp_src, .ref a_s1, .int lp_choices, .int lp_guesses, .int lp_unaries, .int lp_ranked]))] H := hP
          have hD : va_D A [(a_lp_turns, .inl (cI, 24576, .inl lp_turns)), (a_s1, .inl (cI, 4096, .inl s1)), (a_rn, .inr (6, [.ref a_lp, .ref a_rn_levels, .ref a_rn_path, .ref a_s1, .ref a_s2, .ref a_wk, .int rn_reached, .int rn_greatestLevel, .int rn_pathSize])), (a_lp, .inr (4, [.ref a_lp_facts, .ref a_lp_turns, .ref a_lp_first, .ref a_lp_src, .ref a_s1, .int lp_choices, .int lp_guesses, .int lp_unaries, .int lp_ranked]))] := hD
          refine lv_icmp_ge (tgt := 90) hx hb d_Runs_bestTurn_30 (by decide) (fun c_30 => ?_) (fun c_30 => ?_)
          · have h := And.left h c_30
            exact hk90 _ h _ _ (hP.sub [3, 0, 1, 2] rfl) (hD.sub [3, 0, 1, 2] (by decide) rfl) hS _ (lv_sub hl [2] rfl)
          · have h := And.right h c_30
            refine lv_aload_n hx hb d_Runs_bestTurn_33 rfl (lv_at hl 0 rfl) ?_
            refine va_get (D := (dC, dI)) (ci := 6) (v := .ref a_lp) (C := "LoopInduction$Runs") (T := F_Runs) (N := 9) hx hb hts iC_Runs hown hK hP 2 rfl rfl 0 (by decide) fl_28 (fun _ h9 => h9) rfl d_Runs_bestTurn_34 ?_
            refine lv_iload_n hx hb d_Runs_bestTurn_37 rfl (lv_at hl 1 rfl) ?_
            refine lv_iload_n hx hb d_Runs_bestTurn_38 rfl (lv_at hl 3 rfl) ?_
            refine jn_i (wr := [(a_s1, .inl (cI, 4096, .inl s1)), (a_rn, .inr (6, [.ref a_lp, .ref a_rn_levels, .ref a_rn_path, .ref a_s1, .ref a_s2, .ref a_wk, .int rn_reached, .int rn_greatestLevel, .int rn_pathSize]))]) (va_runV (As := [.int x1, .int x3_3]) (rest := []) ⟨hx, hb, hml, hown, hts⟩ (c_Loop_turn l dC dI cI cB cZ adK adV _ a_lp a_lp_facts a_lp_turns a_lp_first a_lp_src a_s1 lp_choices lp_guesses lp_unaries lp_ranked lp_turns x1 x3_3 _ h) (cwV 2 hts (gv_ m_813 m_757 m_758 m_92 m_759) rfl rfl rfl pd_Loop_turn ⟨Nat.le_of_ble_eq_true rfl, Nat.le_of_ble_eq_true rfl⟩) ⟨pc_blind, va_recv hK hP (ci := 4) (q0 := 3) rfl rfl, pc_of (hP.sub [3, 0] rfl) hK (hD.sub [3, 0] (by decide) rfl) hN hT hS hA⟩ rfl rfl hl.1 rfl (lv_room (Nat.le_of_ble_eq_true rfl)) d_Runs_bestTurn_39 ⟨Nat.zero_le _, Nat.zero_le _⟩) hP hD hS hA [3, 0] [1, 2] rfl rfl (by decide) (by decide) (fun r_7 u_ H locs h hP hD hS => ?_)
            have hP : va_P (dC, dI) vwCl [(a_s1, .inl (cI, 4096, .inl s1)), (a_rn, .inr (6, [.ref a_lp, .ref a_rn_levels, .ref a_rn_path, .ref a_s1, .ref a_s2, .ref a_wk, .int rn_reached, .int rn_greatestLevel, .int rn_pathSize])), (a_lp, .inr (4, [.ref a_lp_facts, .ref a_lp_turns, .ref a_lp_first, .ref a_lp_src, .ref a_s1, .int lp_choices, .int lp_guesses, .int lp_unaries, .int lp_ranked])), (a_lp_turns, .inl (cI, 24576, .inl lp_turns))] H := hP
            have hD : va_D A [(a_s1, .inl (cI, 4096, .inl s1)), (a_rn, .inr (6, [.ref a_lp, .ref a_rn_levels, .ref a_rn_path, .ref a_s1, .ref a_s2, .ref a_wk, .int rn_reached, .int rn_greatestLevel, .int rn_pathSize])), (a_lp, .inr (4, [.ref a_lp_facts, .ref a_lp_turns, .ref a_lp_first, .ref a_lp_src, .ref a_s1, .int lp_choices, .int lp_guesses, .int lp_unaries, .int lp_ranked])), (a_lp_turns, .inl (cI, 24576, .inl lp_turns))] := hD
            refine lv_istore (lv' := [(4, .int r_7), (0, .ref a_rn), (1, .int x1), (2, .int x2_2), (3, .int x3_3)]) hx hb d_Runs_bestTurn_42 hl (by decide) rfl (fun ls hl => ?_)
            refine lv_iload hx hb d_Runs_bestTurn_44 (lv_at hl 0 rfl) ?_
            refine jn_i (wr := [(a_s1, .inl (cI, 4096, .inl s1)), (a_rn, .inr (6, [.ref a_lp, .ref a_rn_levels, .ref a_rn_path, .ref a_s1, .ref a_s2, .ref a_wk, .int rn_reached, .int rn_greatestLevel, .int rn_pathSize])), (a_lp, .inr (4, [.ref a_lp_facts, .ref a_lp_turns, .ref a_lp_first, .ref a_lp_src, .ref a_s1, .int lp_choices, .int lp_guesses, .int lp_unaries, .int lp_ranked])), (a_lp_turns, .inl (cI, 24576, .inl lp_turns))]) (va_runSN (As := [.int r_7]) (rest := []) ⟨hx, hb, hml, hown, hts⟩ (c_LI_isState l dC dI cI cB cZ adK adV _ r_7 _ h) ⟨va_cnB 1 hts (ga_ m_762) rfl rfl rfl (hN _ (List.mem_of_getElem? (i := 5) rfl)) (hts _ (List.mem_cons_of_mem _ m_85)) pn_LI_isState ⟨Nat.le_of_ble_eq_true rfl, Nat.le_of_ble_eq_true rfl⟩, (hts _ (List.mem_cons_of_mem _ m_761)), trivial⟩ ⟨pc_blind, pc_of (hP.sub [] rfl) hK (hD.sub [] (by decide) rfl) hN hT hS hA⟩ rfl rfl hl.1 rfl (lv_room (Nat.le_of_ble_eq_true rfl)) d_Runs_bestTurn_46 ⟨Nat.zero_le _, Nat.zero_le _⟩) hP hD hS hA [] [0, 1, 2, 3] rfl rfl (by decide) (by decide) (fun r_8 u_ H locs h hP hD hS => ?_)
            have hP : va_P (dC, dI) vwCl [(a_s1, .inl (cI, 4096, .inl s1)), (a_rn, .inr (6, [.ref a_lp, .ref a_rn_levels, .ref a_rn_path, .ref a_s1, .ref a_s2, .ref a_wk, .int rn_reached, .int rn_greatestLevel, .int rn_pathSize])), (a_lp, .inr (4, [.ref a_lp_facts, .ref a_lp_turns, .ref a_lp_first, .ref a_lp_src, .ref a_s1, .int lp_choices, .int lp_guesses, .int lp_unaries, .int lp_ranked])), (a_lp_turns, .inl (cI, 24576, .inl lp_turns))] H := hP
            have hD : va_D A [(a_s1, .inl (cI, 4096, .inl s1)), (a_rn, .inr (6, [.ref a_lp, .ref a_rn_levels, .ref a_rn_path, .ref a_s1, .ref a_s2, .ref a_wk, .int rn_reached, .int rn_greatestLevel, .int rn_pathSize])), (a_lp, .inr (4, [.ref a_lp_facts, .ref a_lp_turns, .ref a_lp_first, .ref a_lp_src, .ref a_s1, .int lp_choices, .int lp_guesses, .int lp_unaries, .int lp_ranked])), (a_lp_turns, .inl (cI, 24576, .inl lp_turns))] := hD
            refine lv_if_eq (tgt := 84) hx hb d_Runs_bestTurn_49 (by decide) (fun c_49 => ?_) (fun c_49 => ?_)
            · have h := And.left h c_49
              refine lv_iinc (v := x3_3 + 1) (lv' := [(3, .int (x3_3 + 1)), (4, .int r_7), (0, .ref a_rn), (1, .int x1), (2, .int x2_2)]) hx hb d_Runs_bestTurn_84 hl (k := 4) rfl rfl (by decide) rfl (fun ls hl => ?_)
              refine lv_goto (tgt := 22) hx hb d_Runs_bestTurn_87 (by decide) ?_
              exact il _ _ h _ _ (hP.sub [2, 3, 0, 1] rfl) (hD.sub [2, 3, 0, 1] (by decide) rfl) hS _ (lv_sub hl [2, 3, 4, 0] rfl)
            · have h := And.right h c_49
              refine lv_aload_n hx hb d_Runs_bestTurn_52 rfl (lv_at hl 1 rfl) ?_
              refine va_get (D := (dC, dI)) (ci := 6) (v := .ref a_s1) (C := "LoopInduction$Runs") (T := F_Runs) (N := 9) hx hb hts iC_Runs hown hK hP 1 rfl rfl 3 (by decide) fl_38 (fun _ h9 => h9) rfl d_Runs_bestTurn_53 ?_
              refine lv_iload hx hb d_Runs_bestTurn_56 (lv_at hl 0 rfl) ?_
              obtain ⟨hin_58, h⟩ := h
              refine va_iald hx hb hK hP 0 0 rfl rfl hin_58 d_Runs_bestTurn_58 ?_
              refine lv_aload_n hx hb d_Runs_bestTurn_59 rfl (lv_at hl 1 rfl) ?_
              refine va_get (D := (dC, dI)) (ci := 6) (v := .ref a_s1) (C := "LoopInduction$Runs") (T := F_Runs) (N := 9) hx hb hts iC_Runs hown hK hP 1 rfl rfl 3 (by decide) fl_38 (fun _ h9 => h9) rfl d_Runs_bestTurn_60 ?_
              refine lv_iload_n hx hb d_Runs_bestTurn_63 rfl (lv_at hl 2 rfl) ?_
              obtain ⟨hin_64, h⟩ := h
              refine va_iald hx hb hK hP 0 0 rfl rfl hin_64 d_Runs_bestTurn_64 ?_
              refine lv_iconst (v := 1) hx hb d_Runs_bestTurn_65 (by decide) ?_
              refine lv_isub hx hb d_Runs_bestTurn_66 ?_
              refine lv_icmp_ne (tgt := 84) hx hb d_Runs_bestTurn_67 (by decide) (fun c_67 => ?_) (fun c_67 => ?_)
              · have h := And.left h c_67
                refine lv_iinc (v := x3_3 + 1) (lv' := [(3, .int (x3_3 + 1)), (4, .int r_7), (0, .ref a_rn), (1, .int x1), (2, .int x2_2)]) hx hb d_Runs_bestTurn_84 hl (k := 4) rfl rfl (by decide) rfl (fun ls hl => ?_)
                refine lv_goto (tgt := 22) hx hb d_Runs_bestTurn_87 (by decide) ?_
                exact il _ _ h _ _ (hP.sub [2, 3, 0, 1] rfl) (hD.sub [2, 3, 0, 1] (by decide) rfl) hS _ (lv_sub hl [2, 3, 4, 0] rfl)
              · have h := And.right h c_67
                refine lv_iload_n hx hb d_Runs_bestTurn_70 rfl (lv_at hl 3 rfl) ?_
                refine lv_iconst (v := (-1)) hx hb d_Runs_bestTurn_71 (by decide) ?_
                refine lv_icmp_eq (tgt := 81) hx hb d_Runs_bestTurn_72 (by decide) (fun c_72 => ?_) (fun c_72 => ?_)
                · have h := And.left h c_72
                  refine lv_iload hx hb d_Runs_bestTurn_81 (lv_at hl 0 rfl) ?_
                  refine lv_istore_n (lv' := [(2, .int r_7), (4, .int r_7), (0, .ref a_rn), (1, .int x1), (3, .int x3_3)]) hx hb d_Runs_bestTurn_83 rfl hl (by decide) rfl (fun ls hl => ?_)
                  refine lv_iinc (v := x3_3 + 1) (lv' := [(3, .int (x3_3 + 1)), (2, .int r_7), (4, .int r_7), (0, .ref a_rn), (1, .int x1)]) hx hb d_Runs_bestTurn_84 hl (k := 4) rfl rfl (by decide) rfl (fun ls hl => ?_)
                  refine lv_goto (tgt := 22) hx hb d_Runs_bestTurn_87 (by decide) ?_
                  exact il _ _ h _ _ (hP.sub [2, 3, 0, 1] rfl) (hD.sub [2, 3, 0, 1] (by decide) rfl) hS _ (lv_sub hl [3, 4, 1, 0] rfl)
                · have h := And.right h c_72
                  refine lv_iload hx hb d_Runs_bestTurn_75 (lv_at hl 0 rfl) ?_
                  refine lv_iload_n hx hb d_Runs_bestTurn_77 rfl (lv_at hl 3 rfl) ?_
                  refine lv_icmp_ge (tgt := 84) hx hb d_Runs_bestTurn_78 (by decide) (fun c_78 => ?_) (fun c_78 => ?_)
                  · have h := And.left h c_78
                    refine lv_iinc (v := x3_3 + 1) (lv' := [(3, .int (x3_3 + 1)), (4, .int r_7), (0, .ref a_rn), (1, .int x1), (2, .int x2_2)]) hx hb d_Runs_bestTurn_84 hl (k := 4) rfl rfl (by decide) rfl (fun ls hl => ?_)
                    refine lv_goto (tgt := 22) hx hb d_Runs_bestTurn_87 (by decide) ?_
                    exact il _ _ h _ _ (hP.sub [2, 3, 0, 1] rfl) (hD.sub [2, 3, 0, 1] (by decide) rfl) hS _ (lv_sub hl [2, 3, 4, 0] rfl)
                  · have h := And.right h c_78
                    refine lv_iload hx hb d_Runs_bestTurn_81 (lv_at hl 0 rfl) ?_
                    refine lv_istore_n (lv' := [(2, .int r_7), (4, .int r_7), (0, .ref a_rn), (1, .int x1), (3, .int x3_3)]) hx hb d_Runs_bestTurn_83 rfl hl (by decide) rfl (fun ls hl => ?_)
                    refine lv_iinc (v := x3_3 + 1) (lv' := [(3, .int (x3_3 + 1)), (2, .int r_7), (4, .int r_7), (0, .ref a_rn), (1, .int x1)]) hx hb d_Runs_bestTurn_84 hl (k := 4) rfl rfl (by decide) rfl (fun ls hl => ?_)
                    refine lv_goto (tgt := 22) hx hb d_Runs_bestTurn_87 (by decide) ?_
                    exact il _ _ h _ _ (hP.sub [2, 3, 0, 1] rfl) (hD.sub [2, 3, 0, 1] (by decide) rfl) hS _ (lv_sub hl [3, 4, 1, 0] rfl)
      obtain ⟨n_, h⟩ := h
      refine L22_q_4 _ ?_ n_ _ _ h _ _ hP hD hS _ (lv_sub hl [2, 3, 1, 0] rfl)
      intro x2_9 h
      intro H locs hP hD hS ls hl
      refine lv_iload_n hx hb d_Runs_bestTurn_90 rfl (lv_at hl 0 rfl) ?_
      rw [← hQ]
      have hP9 := hP
      have hD9 := hD
      exact W.iret (v := x2_9) hx hb hr (fun t ht hW => ⟨⟨x2_9, (), rfl, h, by rw [ht]; exact hP9, va_K.moved hW.alike hK, hD9⟩, hS.F ht⟩) hS.2.2 d_Runs_bestTurn_91
    · have h := And.right h c_15
      refine lv_iload_n hx hb d_Runs_bestTurn_18 rfl (lv_at hl 0 rfl) ?_
      rw [← hQ]
      have hP9 := hP
      have hD9 := hD
      exact W.iret (v := (-1)) hx hb hr (fun t ht hW => ⟨⟨(-1), (), rfl, h, by rw [ht]; exact hP9, va_K.moved hW.alike hK, hD9⟩, hS.F ht⟩) hS.2.2 d_Runs_bestTurn_19
set_option maxHeartbeats 4000000 in
set_option maxRecDepth 100000 in
theorem c_Runs_findPath (l : Launch) (dC : Nat → ClassId) (dI : Nat → Nat → Nat) (cI cB cZ : ClassId) (adK adV : Nat → Nat) (sz : Nat) (a_lp a_lp_facts a_lp_turns a_lp_first a_lp_src a_s1 a_rn a_rn_levels a_rn_path a_s2 a_wk : Nat) (lp_choices : Int32) (lp_guesses : Int32) (lp_unaries : Int32) (lp_ranked : Int32) (lp_facts : Nat → Int32) (lp_turns : Nat → Int32) (s1 : Nat → Int32) (rn_reached : Int32) (rn_greatestLevel : Int32) (rn_pathSize : Int32) (rn_path : Nat → Int32) (post : Int32 → (Nat → Int32) → Prop) (h : wp_Runs_findPath lp_choices lp_facts lp_turns s1 rn_pathSize rn_path post) : Met l y_Runs_findPath w_Runs_findPath ({ frames := 3, cells := 0, slots := 0, locals := 66 }) (pc_ (dC, dI) [(cI, .int), (cB, .byte), (cZ, .boolean)] [(a_lp, .inr (4, [.ref a_lp_facts, .ref a_lp_turns, .ref a_lp_first, .ref a_lp_src, .ref a_s1, .int lp_choices, .int lp_guesses, .int lp_unaries, .int lp_ranked])), (a_lp_facts, .inl (cI, 4096, .inl lp_facts)), (a_lp_turns, .inl (cI, 24576, .inl lp_turns)), (a_s1, .inl (cI, 4096, .inl s1)), (a_rn, .inr (6, [.ref a_lp, .ref a_rn_levels, .ref a_rn_path, .ref a_s1, .ref a_s2, .ref a_wk, .int rn_reached, .int rn_greatestLevel, .int rn_pathSize])), (a_rn_path, .inl (cI, 4096, .inl rn_path))] sz adK adV [.ref a_rn]) (va_Qv (fun (u : Int32 × (Nat → Int32)) => post u.1 u.2) (fun (u : Int32 × (Nat → Int32)) t => bw_ (dC, dI) [(cI, .int), (cB, .byte), (cZ, .boolean)] (va_A [(a_lp, .inr (4, [.ref a_lp_facts, .ref a_lp_turns, .ref a_lp_first, .ref a_lp_src, .ref a_s1, .int lp_choices, .int lp_guesses, .int lp_unaries, .int lp_ranked])), (a_lp_facts, .inl (cI, 4096, .inl lp_facts)), (a_lp_turns, .inl (cI, 24576, .inl lp_turns)), (a_s1, .inl (cI, 4096, .inl s1)), (a_rn, .inr (6, [.ref a_lp, .ref a_rn_levels, .ref a_rn_path, .ref a_s1, .ref a_s2, .ref a_wk, .int rn_reached, .int rn_greatestLevel, .int rn_pathSize])), (a_rn_path, .inl (cI, 4096, .inl rn_path))] sz) [(a_lp, .inr (4, [.ref a_lp_facts, .ref a_lp_turns, .ref a_lp_first, .ref a_lp_src, .ref a_s1, .int lp_choices, .int lp_guesses, .int lp_unaries, .int lp_ranked])), (a_lp_facts, .inl (cI, 4096, .inl lp_facts)), (a_lp_turns, .inl (cI, 24576, .inl lp_turns)), (a_s1, .inl (cI, 4096, .inl s1)), (a_rn, .inr (6, [.ref a_lp, .ref a_rn_levels, .ref a_rn_path, .ref a_s1, .ref a_s2, .ref a_wk, .int rn_reached, .int rn_greatestLevel, .int u.1])), (a_rn_path, .inl (cI, 4096, .inl u.2))] t) (va_A [(a_lp, .inr (4, [.ref a_lp_facts, .ref a_lp_turns, .ref a_lp_first, .ref a_lp_src, .ref a_s1, .int lp_choices, .int lp_guesses, .int lp_unaries, .int lp_ranked])), (a_lp_facts, .inl (cI, 4096, .inl lp_facts)), (a_lp_turns, .inl (cI, 24576, .inl lp_turns)), (a_s1, .inl (cI, 4096, .inl s1)), (a_rn, .inr (6, [.ref a_lp, .ref a_rn_levels, .ref a_rn_path, .ref a_s1, .ref a_s2, .ref a_wk, .int rn_reached, .int rn_greatestLevel, .int rn_pathSize])), (a_rn_path, .inl (cI, 4096, .inl rn_path))] sz)) 0 0 (va_A [(a_lp, .inr (4, [.ref a_lp_facts, .ref a_lp_turns, .ref a_lp_first, .ref a_lp_src, .ref a_s1, .int lp_choices, .int lp_guesses, .int lp_unaries, .int lp_ranked])), (a_lp_facts, .inl (cI, 4096, .inl lp_facts)), (a_lp_turns, .inl (cI, 24576, .inl lp_turns)), (a_s1, .inl (cI, 4096, .inl s1)), (a_rn, .inr (6, [.ref a_lp, .ref a_rn_levels, .ref a_rn_path, .ref a_s1, .ref a_s2, .ref a_wk, .int rn_reached, .int rn_greatestLevel, .int rn_pathSize])), (a_rn_path, .inl (cI, 4096, .inl rn_path))] sz) := by
  refine Met.ofW (cc := b_Runs_findPath) (maxL := 3) (ret := none) (by decide) rfl ?_
  intro p e s m args below meth c s₁ B hml hv
  obtain ⟨rfl, hsz, hP, hK, hD0, hN, hT⟩ := hv
  have hx := B.exec
  have hb := B.bytes
  have hr := B.returns
  have hts := atoms_spec (ws := w_Runs_findPath) B.pre
  have hown : s.vm.findClass "LoopInduction$Runs" = some m.cls := findClass_of_methodNamed B.named
  have hlocks := B.notSynchronized
  subst hsz
  have hD := hD0.self (sz := s.heap.size)
  generalize hAe : va_A [(a_lp, .inr (4, [.ref a_lp_facts, .ref a_lp_turns, .ref a_lp_first, .ref a_lp_src, .ref a_s1, .int lp_choices, .int lp_guesses, .int lp_unaries, .int lp_ranked])), (a_lp_facts, .inl (cI, 4096, .inl lp_facts)), (a_lp_turns, .inl (cI, 24576, .inl lp_turns)), (a_s1, .inl (cI, 4096, .inl s1)), (a_rn, .inr (6, [.ref a_lp, .ref a_rn_levels, .ref a_rn_path, .ref a_s1, .ref a_s2, .ref a_wk, .int rn_reached, .int rn_greatestLevel, .int rn_pathSize])), (a_rn_path, .inl (cI, 4096, .inl rn_path))] s.heap.size = A at hD hT ⊢
  have hA : ∀ q : Nat, s.heap.size ≤ q → A q := fun q h => by rw [← hAe]; exact Or.inr h
  have hS : va_S A s.heap s.heap [] := va_S.rf
  generalize hQ : MQ below _ _ s 0 0 _ = QQ
  have hl := lv_entry ([.ref a_rn]) (n := 3) (Nat.le_of_ble_eq_true rfl)
  rw [lg_entry_eq]
  generalize (lg_sl ([.ref a_rn]) ++ List.replicate (3 - (lg_sl ([.ref a_rn])).length) Slot.unset).toArray = ls at hl ⊢
  have hl : lv_has ls 3 [(0, .ref a_rn)] := hl
  have fl_15 := (hts _ (List.mem_cons_of_mem _ m_299))
  have fl_25 := (hts _ (List.mem_cons_of_mem _ m_305))
  refine lv_aload_n hx hb d_Runs_findPath_0 rfl (lv_at hl 0 rfl) ?_
  refine lv_iconst (v := 0) hx hb d_Runs_findPath_1 (by decide) ?_
  refine va_put (D := (dC, dI)) (ci := 6) (v := .int 0) (ty := .int) (C := "LoopInduction$Runs") (T := F_Runs) (N := 9) hx hb hts iC_Runs t_Runs t_Runs_ok n_Runs hown hK hP hD hS 4 rfl rfl 8 (by decide) fl_25 (fun _ h9 => h9) rfl (by decide +kernel) rfl rfl (Nat.le_of_ble_eq_true rfl) d_Runs_findPath_2 (fun H locs hP hD hS => ?_)
  have hP : va_P (dC, dI) vwCl [(a_lp, .inr (4, [.ref a_lp_facts, .ref a_lp_turns, .ref a_lp_first, .ref a_lp_src, .ref a_s1, .int lp_choices, .int lp_guesses, .int lp_unaries, .int lp_ranked])), (a_lp_facts, .inl (cI, 4096, .inl lp_facts)), (a_lp_turns, .inl (cI, 24576, .inl lp_turns)), (a_s1, .inl (cI, 4096, .inl s1)), (a_rn, .inr (6, [.ref a_lp, .ref a_rn_levels, .ref a_rn_path, .ref a_s1, .ref a_s2, .ref a_wk, .int rn_reached, .int rn_greatestLevel, .int 0])), (a_rn_path, .inl (cI, 4096, .inl rn_path))] H := hP
  have hD : va_D A [(a_lp, .inr (4, [.ref a_lp_facts, .ref a_lp_turns, .ref a_lp_first, .ref a_lp_src, .ref a_s1, .int lp_choices, .int lp_guesses, .int lp_unaries, .int lp_ranked])), (a_lp_facts, .inl (cI, 4096, .inl lp_facts)), (a_lp_turns, .inl (cI, 24576, .inl lp_turns)), (a_s1, .inl (cI, 4096, .inl s1)), (a_rn, .inr (6, [.ref a_lp, .ref a_rn_levels, .ref a_rn_path, .ref a_s1, .ref a_s2, .ref a_wk, .int rn_reached, .int rn_greatestLevel, .int 0])), (a_rn_path, .inl (cI, 4096, .inl rn_path))] := hD
  refine lv_aload_n hx hb d_Runs_findPath_5 rfl (lv_at hl 0 rfl) ?_
  refine jn_i (wr := [(a_lp_turns, .inl (cI, 24576, .inl lp_turns)), (a_rn_path, .inl (cI, 4096, .inl rn_path))]) (va_runV (As := []) (rest := []) ⟨hx, hb, hml, hown, hts⟩ (c_Runs_bestBegin l dC dI cI cB cZ adK adV _ a_lp a_lp_facts a_lp_turns a_lp_first a_lp_src a_s1 a_rn a_rn_levels a_rn_path a_s2 a_wk lp_choices lp_guesses lp_unaries lp_ranked lp_facts s1 rn_reached rn_greatestLevel 0 _ h) (cwV 0 hts (gv_ m_842 m_844 m_34 m_93 m_845) rfl rfl rfl pd_Runs_bestBegin ⟨Nat.le_of_ble_eq_true rfl, Nat.le_of_ble_eq_true rfl⟩) ⟨pc_blind, va_recv hK hP (ci := 6) (q0 := 4) rfl rfl, pc_of (hP.sub [0, 1, 3, 4] rfl) hK (hD.sub [0, 1, 3, 4] (by decide) rfl) hN hT hS hA⟩ rfl rfl hl.1 rfl (lv_room (Nat.le_of_ble_eq_true rfl)) d_Runs_findPath_6 ⟨Nat.zero_le _, Nat.zero_le _⟩) hP hD hS hA [0, 1, 3, 4] [2, 5] rfl rfl (by decide) (by decide) (fun r_1 u_ H locs h hP hD hS => ?_)
  have hP : va_P (dC, dI) vwCl [(a_lp_turns, .inl (cI, 24576, .inl lp_turns)), (a_rn_path, .inl (cI, 4096, .inl rn_path)), (a_lp, .inr (4, [.ref a_lp_facts, .ref a_lp_turns, .ref a_lp_first, .ref a_lp_src, .ref a_s1, .int lp_choices, .int lp_guesses, .int lp_unaries, .int lp_ranked])), (a_lp_facts, .inl (cI, 4096, .inl lp_facts)), (a_s1, .inl (cI, 4096, .inl s1)), (a_rn, .inr (6, [.ref a_lp, .ref a_rn_levels, .ref a_rn_path, .ref a_s1, .ref a_s2, .ref a_wk, .int rn_reached, .int rn_greatestLevel, .int 0]))] H := hP
  have hD : va_D A [(a_lp_turns, .inl (cI, 24576, .inl lp_turns)), (a_rn_path, .inl (cI, 4096, .inl rn_path)), (a_lp, .inr (4, [.ref a_lp_facts, .ref a_lp_turns, .ref a_lp_first, .ref a_lp_src, .ref a_s1, .int lp_choices, .int lp_guesses, .int lp_unaries, .int lp_ranked])), (a_lp_facts, .inl (cI, 4096, .inl lp_facts)), (a_s1, .inl (cI, 4096, .inl s1)), (a_rn, .inr (6, [.ref a_lp, .ref a_rn_levels, .ref a_rn_path, .ref a_s1, .ref a_s2, .ref a_wk, .int rn_reached, .int rn_greatestLevel, .int 0]))] := hD
  refine lv_istore_n (lv' := [(1, .int r_1), (0, .ref a_rn)]) hx hb d_Runs_findPath_9 rfl hl (by decide) rfl (fun ls hl => ?_)
  refine lv_iconst (v := 0) hx hb d_Runs_findPath_10 (by decide) ?_
  refine lv_istore_n (lv' := [(2, .int 0), (1, .int r_1), (0, .ref a_rn)]) hx hb d_Runs_findPath_11 rfl hl (by decide) rfl (fun ls hl => ?_)
  have L12_q_6 : ∀ (k52 : (Int32) → (Nat → Int32) → Prop) (hk52 : ∀ (rn_pathSize_7 : Int32) (rn_path_8 : Nat → Int32), k52 rn_pathSize_7 rn_path_8 → ∀ (H : Heap) (locs : List Loc), va_P (dC, dI) vwCl [(a_lp_turns, .inl (cI, 24576, .inl lp_turns)), (a_rn_path, .inl (cI, 4096, .inl rn_path_8)), (a_lp, .inr (4, [.ref a_lp_facts, .ref a_lp_turns, .ref a_lp_first, .ref a_lp_src, .ref a_s1, .int lp_choices, .int lp_guesses, .int lp_unaries, .int lp_ranked])), (a_lp_facts, .inl (cI, 4096, .inl lp_facts)), (a_s1, .inl (cI, 4096, .inl s1)), (a_rn, .inr (6, [.ref a_lp, .ref a_rn_levels, .ref a_rn_path, .ref a_s1, .ref a_s2, .ref a_wk, .int rn_reached, .int rn_greatestLevel, .int rn_pathSize_7]))] H → va_D A [(a_lp_turns, .inl (cI, 24576, .inl lp_turns)), (a_rn_path, .inl (cI, 4096, .inl rn_path_8)), (a_lp, .inr (4, [.ref a_lp_facts, .ref a_lp_turns, .ref a_lp_first, .ref a_lp_src, .ref a_s1, .int lp_choices, .int lp_guesses, .int lp_unaries, .int lp_ranked])), (a_lp_facts, .inl (cI, 4096, .inl lp_facts)), (a_s1, .inl (cI, 4096, .inl s1)), (a_rn, .inr (6, [.ref a_lp, .ref a_rn_levels, .ref a_rn_path, .ref a_s1, .ref a_s2, .ref a_wk, .int rn_reached, .int rn_greatestLevel, .int rn_pathSize_7]))] → va_S A s.heap H locs → ∀ ls : Array Slot, lv_has ls 3 [] → W p l e (headSpec w_Runs_findPath ({ frames := 3, cells := 0, slots := 0, locals := 66 })).room s m (([.ref a_rn] : List Value).toArray) below meth c H locs 0 0 QQ (F0 m 52 ls [])) (n : Nat) (x1_2 : Int32) (x2_3 : Int32) (rn_pathSize_4 : Int32) (rn_path_5 : Nat → Int32), wp_Runs_findPath_L12 lp_choices lp_turns s1 k52 n x1_2 x2_3 rn_pathSize_4 rn_path_5 → ∀ (H : Heap) (locs : List Loc), va_P (dC, dI) vwCl [(a_lp_turns, .inl (cI, 24576, .inl lp_turns)), (a_rn_path, .inl (cI, 4096, .inl rn_path_5)), (a_lp, .inr (4, [.ref a_lp_facts, .ref a_lp_turns, .ref a_lp_first, .ref a_lp_src, .ref a_s1, .int lp_choices, .int lp_guesses, .int lp_unaries, .int lp_ranked])), (a_lp_facts, .inl (cI, 4096, .inl lp_facts)), (a_s1, .inl (cI, 4096, .inl s1)), (a_rn, .inr (6, [.ref a_lp, .ref a_rn_levels, .ref a_rn_path, .ref a_s1, .ref a_s2, .ref a_wk, .int rn_reached, .int rn_greatestLevel, .int rn_pathSize_4]))] H → va_D A [(a_lp_turns, .inl (cI, 24576, .inl lp_turns)), (a_rn_path, .inl (cI, 4096, .inl rn_path_5)), (a_lp, .inr (4, [.ref a_lp_facts, .ref a_lp_turns, .ref a_lp_first, .ref a_lp_src, .ref a_s1, .int lp_choices, .int lp_guesses, .int lp_unaries, .int lp_ranked])), (a_lp_facts, .inl (cI, 4096, .inl lp_facts)), (a_s1, .inl (cI, 4096, .inl s1)), (a_rn, .inr (6, [.ref a_lp, .ref a_rn_levels, .ref a_rn_path, .ref a_s1, .ref a_s2, .ref a_wk, .int rn_reached, .int rn_greatestLevel, .int rn_pathSize_4]))] → va_S A s.heap H locs → ∀ ls : Array Slot, lv_has ls 3 [(0, .ref a_rn), (1, .int x1_2), (2, .int x2_3)] → W p l e (headSpec w_Runs_findPath ({ frames := 3, cells := 0, slots := 0, locals := 66 })).room s m (([.ref a_rn] : List Value).toArray) below meth c H locs 0 0 QQ (F0 m 12 ls []) := by
    intro k52 hk52 n
    induction n with
    | zero => intro x1_2 x2_3 rn_pathSize_4 rn_path_5 h; exact (show False from h).elim
    | succ n il =>
      intro x1_2 x2_3 rn_pathSize_4 rn_path_5 h
      intro H locs hP hD hS ls hl
      refine lv_iload_n hx hb d_Runs_findPath_12 rfl (lv_at hl 2 rfl) ?_
      refine lv_sipush (v := 4096) hx hb d_Runs_findPath_13 (by decide) ?_
      refine lv_icmp_ge (tgt := 52) hx hb d_Runs_findPath_16 (by decide) (fun c_16 => ?_) (fun c_16 => ?_)
      · have h := And.left h c_16
        exact hk52 _ _ h _ _ hP hD hS _ (lv_sub hl [] rfl)
      · have h := And.right h c_16
        refine lv_iload_n hx hb d_Runs_findPath_19 rfl (lv_at hl 1 rfl) ?_
        refine jn_i (wr := [(a_lp_turns, .inl (cI, 24576, .inl lp_turns)), (a_rn_path, .inl (cI, 4096, .inl rn_path_5)), (a_lp, .inr (4, [.ref a_lp_facts, .ref a_lp_turns, .ref a_lp_first, .ref a_lp_src, .ref a_s1, .int lp_choices, .int lp_guesses, .int lp_unaries, .int lp_ranked])), (a_lp_facts, .inl (cI, 4096, .inl lp_facts)), (a_s1, .inl (cI, 4096, .inl s1)), (a_rn, .inr (6, [.ref a_lp, .ref a_rn_levels, .ref a_rn_path, .ref a_s1, .ref a_s2, .ref a_wk, .int rn_reached, .int rn_greatestLevel, .int rn_pathSize_4]))]) (va_runSN (As := [.int x1_2]) (rest := []) ⟨hx, hb, hml, hown, hts⟩ (c_LI_isState l dC dI cI cB cZ adK adV _ x1_2 _ h) ⟨va_cnB 1 hts (ga_ m_762) rfl rfl rfl (hN _ (List.mem_of_getElem? (i := 5) rfl)) (hts _ (List.mem_cons_of_mem _ m_85)) pn_LI_isState ⟨Nat.le_of_ble_eq_true rfl, Nat.le_of_ble_eq_true rfl⟩, (hts _ (List.mem_cons_of_mem _ m_761)), trivial⟩ ⟨pc_blind, pc_of (hP.sub [] rfl) hK (hD.sub [] (by decide) rfl) hN hT hS hA⟩ rfl rfl hl.1 rfl (lv_room (Nat.le_of_ble_eq_true rfl)) d_Runs_findPath_20 ⟨Nat.zero_le _, Nat.zero_le _⟩) hP hD hS hA [] [0, 1, 2, 3, 4, 5] rfl rfl (by decide) (by decide) (fun r_9 u_ H locs h hP hD hS => ?_)
        have hP : va_P (dC, dI) vwCl [(a_lp_turns, .inl (cI, 24576, .inl lp_turns)), (a_rn_path, .inl (cI, 4096, .inl rn_path_5)), (a_lp, .inr (4, [.ref a_lp_facts, .ref a_lp_turns, .ref a_lp_first, .ref a_lp_src, .ref a_s1, .int lp_choices, .int lp_guesses, .int lp_unaries, .int lp_ranked])), (a_lp_facts, .inl (cI, 4096, .inl lp_facts)), (a_s1, .inl (cI, 4096, .inl s1)), (a_rn, .inr (6, [.ref a_lp, .ref a_rn_levels, .ref a_rn_path, .ref a_s1, .ref a_s2, .ref a_wk, .int rn_reached, .int rn_greatestLevel, .int rn_pathSize_4]))] H := hP
        have hD : va_D A [(a_lp_turns, .inl (cI, 24576, .inl lp_turns)), (a_rn_path, .inl (cI, 4096, .inl rn_path_5)), (a_lp, .inr (4, [.ref a_lp_facts, .ref a_lp_turns, .ref a_lp_first, .ref a_lp_src, .ref a_s1, .int lp_choices, .int lp_guesses, .int lp_unaries, .int lp_ranked])), (a_lp_facts, .inl (cI, 4096, .inl lp_facts)), (a_s1, .inl (cI, 4096, .inl s1)), (a_rn, .inr (6, [.ref a_lp, .ref a_rn_levels, .ref a_rn_path, .ref a_s1, .ref a_s2, .ref a_wk, .int rn_reached, .int rn_greatestLevel, .int rn_pathSize_4]))] := hD
        refine lv_if_eq (tgt := 52) hx hb d_Runs_findPath_23 (by decide) (fun c_23 => ?_) (fun c_23 => ?_)
        · have h := And.left h c_23
          exact hk52 _ _ h _ _ hP hD hS _ (lv_sub hl [] rfl)
        · have h := And.right h c_23
          refine lv_aload_n hx hb d_Runs_findPath_26 rfl (lv_at hl 0 rfl) ?_
          refine va_get (D := (dC, dI)) (ci := 6) (v := .ref a_rn_path) (C := "LoopInduction$Runs") (T := F_Runs) (N := 9) hx hb hts iC_Runs hown hK hP 5 rfl rfl 2 (by decide) fl_15 (fun _ h9 => h9) rfl d_Runs_findPath_27 ?_
          refine lv_iload_n hx hb d_Runs_findPath_30 rfl (lv_at hl 2 rfl) ?_
          refine lv_iload_n hx hb d_Runs_findPath_31 rfl (lv_at hl 1 rfl) ?_
          obtain ⟨hin_32, h⟩ := h
          refine va_iast hx hb hK hP hD hS 1 0 rfl rfl hin_32 d_Runs_findPath_32 (fun H locs hP hD hS => ?_)
          have hP : va_P (dC, dI) vwCl [(a_lp_turns, .inl (cI, 24576, .inl lp_turns)), (a_rn_path, .inl (cI, 4096, .inl (upd rn_path_5 (x2_3 : Int32).toNatClampNeg x1_2))), (a_lp, .inr (4, [.ref a_lp_facts, .ref a_lp_turns, .ref a_lp_first, .ref a_lp_src, .ref a_s1, .int lp_choices, .int lp_guesses, .int lp_unaries, .int lp_ranked])), (a_lp_facts, .inl (cI, 4096, .inl lp_facts)), (a_s1, .inl (cI, 4096, .inl s1)), (a_rn, .inr (6, [.ref a_lp, .ref a_rn_levels, .ref a_rn_path, .ref a_s1, .ref a_s2, .ref a_wk, .int rn_reached, .int rn_greatestLevel, .int rn_pathSize_4]))] H := hP
          have hD : va_D A [(a_lp_turns, .inl (cI, 24576, .inl lp_turns)), (a_rn_path, .inl (cI, 4096, .inl (upd rn_path_5 (x2_3 : Int32).toNatClampNeg x1_2))), (a_lp, .inr (4, [.ref a_lp_facts, .ref a_lp_turns, .ref a_lp_first, .ref a_lp_src, .ref a_s1, .int lp_choices, .int lp_guesses, .int lp_unaries, .int lp_ranked])), (a_lp_facts, .inl (cI, 4096, .inl lp_facts)), (a_s1, .inl (cI, 4096, .inl s1)), (a_rn, .inr (6, [.ref a_lp, .ref a_rn_levels, .ref a_rn_path, .ref a_s1, .ref a_s2, .ref a_wk, .int rn_reached, .int rn_greatestLevel, .int rn_pathSize_4]))] := hD
          refine lv_aload_n hx hb d_Runs_findPath_33 rfl (lv_at hl 0 rfl) ?_
          refine lv_iload_n hx hb d_Runs_findPath_34 rfl (lv_at hl 2 rfl) ?_
          refine lv_iconst (v := 1) hx hb d_Runs_findPath_35 (by decide) ?_
          refine lv_iadd hx hb d_Runs_findPath_36 ?_
          refine va_put (D := (dC, dI)) (ci := 6) (v := .int (x2_3 + 1)) (ty := .int) (C := "LoopInduction$Runs") (T := F_Runs) (N := 9) hx hb hts iC_Runs t_Runs t_Runs_ok n_Runs hown hK hP hD hS 5 rfl rfl 8 (by decide) fl_25 (fun _ h9 => h9) rfl (by decide +kernel) rfl rfl (Nat.le_of_ble_eq_true rfl) d_Runs_findPath_37 (fun H locs hP hD hS => ?_)
          have hP : va_P (dC, dI) vwCl [(a_lp_turns, .inl (cI, 24576, .inl lp_turns)), (a_rn_path, .inl (cI, 4096, .inl (upd rn_path_5 (x2_3 : Int32).toNatClampNeg x1_2))), (a_lp, .inr (4, [.ref a_lp_facts, .ref a_lp_turns, .ref a_lp_first, .ref a_lp_src, .ref a_s1, .int lp_choices, .int lp_guesses, .int lp_unaries, .int lp_ranked])), (a_lp_facts, .inl (cI, 4096, .inl lp_facts)), (a_s1, .inl (cI, 4096, .inl s1)), (a_rn, .inr (6, [.ref a_lp, .ref a_rn_levels, .ref a_rn_path, .ref a_s1, .ref a_s2, .ref a_wk, .int rn_reached, .int rn_greatestLevel, .int (x2_3 + 1)]))] H := hP
          have hD : va_D A [(a_lp_turns, .inl (cI, 24576, .inl lp_turns)), (a_rn_path, .inl (cI, 4096, .inl (upd rn_path_5 (x2_3 : Int32).toNatClampNeg x1_2))), (a_lp, .inr (4, [.ref a_lp_facts, .ref a_lp_turns, .ref a_lp_first, .ref a_lp_src, .ref a_s1, .int lp_choices, .int lp_guesses, .int lp_unaries, .int lp_ranked])), (a_lp_facts, .inl (cI, 4096, .inl lp_facts)), (a_s1, .inl (cI, 4096, .inl s1)), (a_rn, .inr (6, [.ref a_lp, .ref a_rn_levels, .ref a_rn_path, .ref a_s1, .ref a_s2, .ref a_wk, .int rn_reached, .int rn_greatestLevel, .int (x2_3 + 1)]))] := hD
          refine lv_aload_n hx hb d_Runs_findPath_40 rfl (lv_at hl 0 rfl) ?_
          refine lv_iload_n hx hb d_Runs_findPath_41 rfl (lv_at hl 1 rfl) ?_
          refine jn_i (wr := [(a_rn_path, .inl (cI, 4096, .inl (upd rn_path_5 (x2_3 : Int32).toNatClampNeg x1_2))), (a_lp_facts, .inl (cI, 4096, .inl lp_facts))]) (va_runV (As := [.int x1_2]) (rest := []) ⟨hx, hb, hml, hown, hts⟩ (c_Runs_bestTurn l dC dI cI cB cZ adK adV _ a_lp a_lp_facts a_lp_turns a_lp_first a_lp_src a_s1 a_rn a_rn_levels a_rn_path a_s2 a_wk lp_choices lp_guesses lp_unaries lp_ranked lp_turns s1 rn_reached rn_greatestLevel (x2_3 + 1) x1_2 _ h) (cwV 1 hts (gv_ m_846 m_848 m_35 m_93 m_849) rfl rfl rfl pd_Runs_bestTurn ⟨Nat.le_of_ble_eq_true rfl, Nat.le_of_ble_eq_true rfl⟩) ⟨pc_blind, va_recv hK hP (ci := 6) (q0 := 5) rfl rfl, pc_of (hP.sub [2, 0, 4, 5] rfl) hK (hD.sub [2, 0, 4, 5] (by decide) rfl) hN hT hS hA⟩ rfl rfl hl.1 rfl (lv_room (Nat.le_of_ble_eq_true rfl)) d_Runs_findPath_42 ⟨Nat.zero_le _, Nat.zero_le _⟩) hP hD hS hA [2, 0, 4, 5] [1, 3] rfl rfl (by decide) (by decide) (fun r_10 u_ H locs h hP hD hS => ?_)
          have hP : va_P (dC, dI) vwCl [(a_rn_path, .inl (cI, 4096, .inl (upd rn_path_5 (x2_3 : Int32).toNatClampNeg x1_2))), (a_lp_facts, .inl (cI, 4096, .inl lp_facts)), (a_lp, .inr (4, [.ref a_lp_facts, .ref a_lp_turns, .ref a_lp_first, .ref a_lp_src, .ref a_s1, .int lp_choices, .int lp_guesses, .int lp_unaries, .int lp_ranked])), (a_lp_turns, .inl (cI, 24576, .inl lp_turns)), (a_s1, .inl (cI, 4096, .inl s1)), (a_rn, .inr (6, [.ref a_lp, .ref a_rn_levels, .ref a_rn_path, .ref a_s1, .ref a_s2, .ref a_wk, .int rn_reached, .int rn_greatestLevel, .int (x2_3 + 1)]))] H := hP
          have hD : va_D A [(a_rn_path, .inl (cI, 4096, .inl (upd rn_path_5 (x2_3 : Int32).toNatClampNeg x1_2))), (a_lp_facts, .inl (cI, 4096, .inl lp_facts)), (a_lp, .inr (4, [.ref a_lp_facts, .ref a_lp_turns, .ref a_lp_first, .ref a_lp_src, .ref a_s1, .int lp_choices, .int lp_guesses, .int lp_unaries, .int lp_ranked])), (a_lp_turns, .inl (cI, 24576, .inl lp_turns)), (a_s1, .inl (cI, 4096, .inl s1)), (a_rn, .inr (6, [.ref a_lp, .ref a_rn_levels, .ref a_rn_path, .ref a_s1, .ref a_s2, .ref a_wk, .int rn_reached, .int rn_greatestLevel, .int (x2_3 + 1)]))] := hD
          refine lv_istore_n (lv' := [(1, .int r_10), (0, .ref a_rn), (2, .int x2_3)]) hx hb d_Runs_findPath_45 rfl hl (by decide) rfl (fun ls hl => ?_)
          refine lv_iinc (v := x2_3 + 1) (lv' := [(2, .int (x2_3 + 1)), (1, .int r_10), (0, .ref a_rn)]) hx hb d_Runs_findPath_46 hl (k := 2) rfl rfl (by decide) rfl (fun ls hl => ?_)
          refine lv_goto (tgt := 12) hx hb d_Runs_findPath_49 (by decide) ?_
          exact il _ _ _ _ h _ _ (hP.sub [3, 0, 2, 1, 4, 5] rfl) (hD.sub [3, 0, 2, 1, 4, 5] (by decide) rfl) hS _ (lv_sub hl [2, 1, 0] rfl)
  obtain ⟨n_, h⟩ := h
  refine L12_q_6 _ ?_ n_ _ _ _ _ h _ _ hP hD hS _ (lv_sub hl [2, 1, 0] rfl)
  intro rn_pathSize_11 rn_path_12 h
  intro H locs hP hD hS ls hl
  rw [← hQ]
  have hP9 := hP.sub (ws' := [(a_lp, .inr (4, [.ref a_lp_facts, .ref a_lp_turns, .ref a_lp_first, .ref a_lp_src, .ref a_s1, .int lp_choices, .int lp_guesses, .int lp_unaries, .int lp_ranked])), (a_lp_facts, .inl (cI, 4096, .inl lp_facts)), (a_lp_turns, .inl (cI, 24576, .inl lp_turns)), (a_s1, .inl (cI, 4096, .inl s1)), (a_rn, .inr (6, [.ref a_lp, .ref a_rn_levels, .ref a_rn_path, .ref a_s1, .ref a_s2, .ref a_wk, .int rn_reached, .int rn_greatestLevel, .int rn_pathSize_11])), (a_rn_path, .inl (cI, 4096, .inl rn_path_12))]) [2, 3, 0, 4, 5, 1] rfl
  have hD9 := hD.sub (ws' := [(a_lp, .inr (4, [.ref a_lp_facts, .ref a_lp_turns, .ref a_lp_first, .ref a_lp_src, .ref a_s1, .int lp_choices, .int lp_guesses, .int lp_unaries, .int lp_ranked])), (a_lp_facts, .inl (cI, 4096, .inl lp_facts)), (a_lp_turns, .inl (cI, 24576, .inl lp_turns)), (a_s1, .inl (cI, 4096, .inl s1)), (a_rn, .inr (6, [.ref a_lp, .ref a_rn_levels, .ref a_rn_path, .ref a_s1, .ref a_s2, .ref a_wk, .int rn_reached, .int rn_greatestLevel, .int rn_pathSize_11])), (a_rn_path, .inl (cI, 4096, .inl rn_path_12))]) [2, 3, 0, 4, 5, 1] (by decide) rfl
  exact W.vret hx hb hr (fun t ht hW => ⟨⟨(rn_pathSize_11, rn_path_12), rfl, h, by rw [ht]; exact hP9, va_K.moved hW.alike hK, hD9⟩, hS.F ht⟩) hS.2.2 d_Runs_findPath_52
set_option maxHeartbeats 4000000 in
set_option maxRecDepth 100000 in
theorem c_Runs_explore (l : Launch) (dC : Nat → ClassId) (dI : Nat → Nat → Nat) (cI cB cZ : ClassId) (adK adV : Nat → Nat) (sz : Nat) (a_lp a_lp_facts a_lp_turns a_lp_first a_lp_src a_s1 a_wk a_wk_items a_rn a_rn_levels a_rn_path a_s2 : Nat) (lp_choices : Int32) (lp_guesses : Int32) (lp_unaries : Int32) (lp_ranked : Int32) (lp_facts : Nat → Int32) (lp_turns : Nat → Int32) (lp_first : Nat → Int32) (lp_src : Nat → Int32) (s1 : Nat → Int32) (wk_size : Int32) (wk_items : Nat → Int32) (rn_reached : Int32) (rn_greatestLevel : Int32) (rn_pathSize : Int32) (rn_levels : Nat → Int32) (rn_path : Nat → Int32) (post : (Nat → Int32) → (Nat → Int32) → Int32 → (Nat → Int32) → Int32 → Int32 → Int32 → (Nat → Int32) → (Nat → Int32) → Prop) (h : wp_Runs_explore lp_choices lp_facts lp_turns lp_first lp_src s1 wk_size wk_items rn_reached rn_greatestLevel rn_pathSize rn_levels rn_path post) : Met l y_Runs_explore w_Runs_explore ({ frames := 4, cells := 0, slots := 0, locals := 88 }) (pc_ (dC, dI) [(cI, .int), (cB, .byte), (cZ, .boolean)] [(a_lp, .inr (4, [.ref a_lp_facts, .ref a_lp_turns, .ref a_lp_first, .ref a_lp_src, .ref a_s1, .int lp_choices, .int lp_guesses, .int lp_unaries, .int lp_ranked])), (a_lp_facts, .inl (cI, 4096, .inl lp_facts)), (a_lp_turns, .inl (cI, 24576, .inl lp_turns)), (a_lp_first, .inl (cI, 4097, .inl lp_first)), (a_lp_src, .inl (cI, 24576, .inl lp_src)), (a_s1, .inl (cI, 4096, .inl s1)), (a_wk, .inr (10, [.ref a_wk_items, .int wk_size])), (a_wk_items, .inl (cI, 4096, .inl wk_items)), (a_rn, .inr (6, [.ref a_lp, .ref a_rn_levels, .ref a_rn_path, .ref a_s1, .ref a_s2, .ref a_wk, .int rn_reached, .int rn_greatestLevel, .int rn_pathSize])), (a_rn_levels, .inl (cI, 4096, .inl rn_levels)), (a_rn_path, .inl (cI, 4096, .inl rn_path))] sz adK adV [.ref a_rn]) (va_Qv (fun (u : (Nat → Int32) × (Nat → Int32) × Int32 × (Nat → Int32) × Int32 × Int32 × Int32 × (Nat → Int32) × (Nat → Int32)) => post u.1 u.2.1 u.2.2.1 u.2.2.2.1 u.2.2.2.2.1 u.2.2.2.2.2.1 u.2.2.2.2.2.2.1 u.2.2.2.2.2.2.2.1 u.2.2.2.2.2.2.2.2) (fun (u : (Nat → Int32) × (Nat → Int32) × Int32 × (Nat → Int32) × Int32 × Int32 × Int32 × (Nat → Int32) × (Nat → Int32)) t => bw_ (dC, dI) [(cI, .int), (cB, .byte), (cZ, .boolean)] (va_A [(a_lp, .inr (4, [.ref a_lp_facts, .ref a_lp_turns, .ref a_lp_first, .ref a_lp_src, .ref a_s1, .int lp_choices, .int lp_guesses, .int lp_unaries, .int lp_ranked])), (a_lp_facts, .inl (cI, 4096, .inl lp_facts)), (a_lp_turns, .inl (cI, 24576, .inl lp_turns)), (a_lp_first, .inl (cI, 4097, .inl lp_first)), (a_lp_src, .inl (cI, 24576, .inl lp_src)), (a_s1, .inl (cI, 4096, .inl s1)), (a_wk, .inr (10, [.ref a_wk_items, .int wk_size])), (a_wk_items, .inl (cI, 4096, .inl wk_items)), (a_rn, .inr (6, [.ref a_lp, .ref a_rn_levels, .ref a_rn_path, .ref a_s1, .ref a_s2, .ref a_wk, .int rn_reached, .int rn_greatestLevel, .int rn_pathSize])), (a_rn_levels, .inl (cI, 4096, .inl rn_levels)), (a_rn_path, .inl (cI, 4096, .inl rn_path))] sz) [(a_lp, .inr (4, [.ref a_lp_facts, .ref a_lp_turns, .ref a_lp_first, .ref a_lp_src, .ref a_s1, .int lp_choices, .int lp_guesses, .int lp_unaries, .int lp_ranked])), (a_lp_facts, .inl (cI, 4096, .inl u.1)), (a_lp_turns, .inl (cI, 24576, .inl lp_turns)), (a_lp_first, .inl (cI, 4097, .inl lp_first)), (a_lp_src, .inl (cI, 24576, .inl lp_src)), (a_s1, .inl (cI, 4096, .inl u.2.1)), (a_wk, .inr (10, [.ref a_wk_items, .int u.2.2.1])), (a_wk_items, .inl (cI, 4096, .inl u.2.2.2.1)), (a_rn, .inr (6, [.ref a_lp, .ref a_rn_levels, .ref a_rn_path, .ref a_s1, .ref a_s2, .ref a_wk, .int u.2.2.2.2.1, .int u.2.2.2.2.2.1, .int u.2.2.2.2.2.2.1])), (a_rn_levels, .inl (cI, 4096, .inl u.2.2.2.2.2.2.2.1)), (a_rn_path, .inl (cI, 4096, .inl u.2.2.2.2.2.2.2.2))] t) (va_A [(a_lp, .inr (4, [.ref a_lp_facts, .ref a_lp_turns, .ref a_lp_first, .ref a_lp_src, .ref a_s1, .int lp_choices, .int lp_guesses, .int lp_unaries, .int lp_ranked])), (a_lp_facts, .inl (cI, 4096, .inl lp_facts)), (a_lp_turns, .inl (cI, 24576, .inl lp_turns)), (a_lp_first, .inl (cI, 4097, .inl lp_first)), (a_lp_src, .inl (cI, 24576, .inl lp_src)), (a_s1, .inl (cI, 4096, .inl s1)), (a_wk, .inr (10, [.ref a_wk_items, .int wk_size])), (a_wk_items, .inl (cI, 4096, .inl wk_items)), (a_rn, .inr (6, [.ref a_lp, .ref a_rn_levels, .ref a_rn_path, .ref a_s1, .ref a_s2, .ref a_wk, .int rn_reached, .int rn_greatestLevel, .int rn_pathSize])), (a_rn_levels, .inl (cI, 4096, .inl rn_levels)), (a_rn_path, .inl (cI, 4096, .inl rn_path))] sz)) 0 0 (va_A [(a_lp, .inr (4, [.ref a_lp_facts, .ref a_lp_turns, .ref a_lp_first, .ref a_lp_src, .ref a_s1, .int lp_choices, .int lp_guesses, .int lp_unaries, .int lp_ranked])), (a_lp_facts, .inl (cI, 4096, .inl lp_facts)), (a_lp_turns, .inl (cI, 24576, .inl lp_turns)), (a_lp_first, .inl (cI, 4097, .inl lp_first)), (a_lp_src, .inl (cI, 24576, .inl lp_src)), (a_s1, .inl (cI, 4096, .inl s1)), (a_wk, .inr (10, [.ref a_wk_items, .int wk_size])), (a_wk_items, .inl (cI, 4096, .inl wk_items)), (a_rn, .inr (6, [.ref a_lp, .ref a_rn_levels, .ref a_rn_path, .ref a_s1, .ref a_s2, .ref a_wk, .int rn_reached, .int rn_greatestLevel, .int rn_pathSize])), (a_rn_levels, .inl (cI, 4096, .inl rn_levels)), (a_rn_path, .inl (cI, 4096, .inl rn_path))] sz) := by
  refine Met.ofW (cc := b_Runs_explore) (maxL := 1) (ret := none) (by decide) rfl ?_
  intro p e s m args below meth c s₁ B hml hv
  obtain ⟨rfl, hsz, hP, hK, hD0, hN, hT⟩ := hv
  have hx := B.exec
  have hb := B.bytes
  have hr := B.returns
  have hts := atoms_spec (ws := w_Runs_explore) B.pre
  have hown : s.vm.findClass "LoopInduction$Runs" = some m.cls := findClass_of_methodNamed B.named
  have hlocks := B.notSynchronized
  subst hsz
  have hD := hD0.self (sz := s.heap.size)
  generalize hAe : va_A [(a_lp, .inr (4, [.ref a_lp_facts, .ref a_lp_turns, .ref a_lp_first, .ref a_lp_src, .ref a_s1, .int lp_choices, .int lp_guesses, .int lp_unaries, .int lp_ranked])), (a_lp_facts, .inl (cI, 4096, .inl lp_facts)), (a_lp_turns, .inl (cI, 24576, .inl lp_turns)), (a_lp_first, .inl (cI, 4097, .inl lp_first)), (a_lp_src, .inl (cI, 24576, .inl lp_src)), (a_s1, .inl (cI, 4096, .inl s1)), (a_wk, .inr (10, [.ref a_wk_items, .int wk_size])), (a_wk_items, .inl (cI, 4096, .inl wk_items)), (a_rn, .inr (6, [.ref a_lp, .ref a_rn_levels, .ref a_rn_path, .ref a_s1, .ref a_s2, .ref a_wk, .int rn_reached, .int rn_greatestLevel, .int rn_pathSize])), (a_rn_levels, .inl (cI, 4096, .inl rn_levels)), (a_rn_path, .inl (cI, 4096, .inl rn_path))] s.heap.size = A at hD hT ⊢
  have hA : ∀ q : Nat, s.heap.size ≤ q → A q := fun q h => by rw [← hAe]; exact Or.inr h
  have hS : va_S A s.heap s.heap [] := va_S.rf
  generalize hQ : MQ below _ _ s 0 0 _ = QQ
  have hl := lv_entry ([.ref a_rn]) (n := 1) (Nat.le_of_ble_eq_true rfl)
  rw [lg_entry_eq]
  generalize (lg_sl ([.ref a_rn]) ++ List.replicate (1 - (lg_sl ([.ref a_rn])).length) Slot.unset).toArray = ls at hl ⊢
  have hl : lv_has ls 1 [(0, .ref a_rn)] := hl
  refine lv_aload_n hx hb d_Runs_explore_0 rfl (lv_at hl 0 rfl) ?_
  refine jn_v (wr := [(a_lp_first, .inl (cI, 4097, .inl lp_first)), (a_lp_src, .inl (cI, 24576, .inl lp_src)), (a_s1, .inl (cI, 4096, .inl s1)), (a_rn_path, .inl (cI, 4096, .inl rn_path))]) (va_runV (As := []) (rest := []) ⟨hx, hb, hml, hown, hts⟩ (c_Runs_findLevels l dC dI cI cB cZ adK adV _ a_lp a_lp_facts a_lp_turns a_lp_first a_lp_src a_s1 a_wk a_wk_items a_rn a_rn_levels a_rn_path a_s2 lp_choices lp_guesses lp_unaries lp_ranked lp_facts lp_turns wk_size wk_items rn_reached rn_greatestLevel rn_pathSize rn_levels _ h) (cwV 0 hts (gv_ m_775 m_777 m_29 m_93 m_778) rfl rfl rfl pd_Runs_findLevels ⟨Nat.le_of_ble_eq_true rfl, Nat.le_of_ble_eq_true rfl⟩) ⟨pc_blind, va_recv hK hP (ci := 6) (q0 := 8) rfl rfl, pc_of (hP.sub [0, 1, 2, 6, 7, 8, 9] rfl) hK (hD.sub [0, 1, 2, 6, 7, 8, 9] (by decide) rfl) hN hT hS hA⟩ rfl rfl hl.1 rfl (lv_room (Nat.le_of_ble_eq_true rfl)) d_Runs_explore_1 ⟨Nat.zero_le _, Nat.zero_le _⟩) hP hD hS hA [0, 1, 2, 6, 7, 8, 9] [3, 4, 5, 10] rfl rfl (by decide) (by decide) (fun u_ H locs h hP hD hS => ?_)
  obtain ⟨lp_facts_1, wk_size_2, wk_items_3, rn_reached_4, rn_greatestLevel_5, rn_levels_6⟩ := u_
  have hP : va_P (dC, dI) vwCl [(a_lp_first, .inl (cI, 4097, .inl lp_first)), (a_lp_src, .inl (cI, 24576, .inl lp_src)), (a_s1, .inl (cI, 4096, .inl s1)), (a_rn_path, .inl (cI, 4096, .inl rn_path)), (a_lp, .inr (4, [.ref a_lp_facts, .ref a_lp_turns, .ref a_lp_first, .ref a_lp_src, .ref a_s1, .int lp_choices, .int lp_guesses, .int lp_unaries, .int lp_ranked])), (a_lp_facts, .inl (cI, 4096, .inl lp_facts_1)), (a_lp_turns, .inl (cI, 24576, .inl lp_turns)), (a_wk, .inr (10, [.ref a_wk_items, .int wk_size_2])), (a_wk_items, .inl (cI, 4096, .inl wk_items_3)), (a_rn, .inr (6, [.ref a_lp, .ref a_rn_levels, .ref a_rn_path, .ref a_s1, .ref a_s2, .ref a_wk, .int rn_reached_4, .int rn_greatestLevel_5, .int rn_pathSize])), (a_rn_levels, .inl (cI, 4096, .inl rn_levels_6))] H := hP
  have hD : va_D A [(a_lp_first, .inl (cI, 4097, .inl lp_first)), (a_lp_src, .inl (cI, 24576, .inl lp_src)), (a_s1, .inl (cI, 4096, .inl s1)), (a_rn_path, .inl (cI, 4096, .inl rn_path)), (a_lp, .inr (4, [.ref a_lp_facts, .ref a_lp_turns, .ref a_lp_first, .ref a_lp_src, .ref a_s1, .int lp_choices, .int lp_guesses, .int lp_unaries, .int lp_ranked])), (a_lp_facts, .inl (cI, 4096, .inl lp_facts_1)), (a_lp_turns, .inl (cI, 24576, .inl lp_turns)), (a_wk, .inr (10, [.ref a_wk_items, .int wk_size_2])), (a_wk_items, .inl (cI, 4096, .inl wk_items_3)), (a_rn, .inr (6, [.ref a_lp, .ref a_rn_levels, .ref a_rn_path, .ref a_s1, .ref a_s2, .ref a_wk, .int rn_reached_4, .int rn_greatestLevel_5, .int rn_pathSize])), (a_rn_levels, .inl (cI, 4096, .inl rn_levels_6))] := hD
  refine lv_aload_n hx hb d_Runs_explore_4 rfl (lv_at hl 0 rfl) ?_
  refine jn_v (wr := [(a_rn_path, .inl (cI, 4096, .inl rn_path)), (a_lp_turns, .inl (cI, 24576, .inl lp_turns)), (a_rn_levels, .inl (cI, 4096, .inl rn_levels_6))]) (va_runV (As := []) (rest := []) ⟨hx, hb, hml, hown, hts⟩ (c_Runs_measureToBad l dC dI cI cB cZ adK adV _ a_lp a_lp_facts a_lp_turns a_lp_first a_lp_src a_s1 a_wk a_wk_items a_rn a_rn_levels a_rn_path a_s2 lp_choices lp_guesses lp_unaries lp_ranked lp_facts_1 lp_first lp_src s1 wk_size_2 wk_items_3 rn_reached_4 rn_greatestLevel_5 rn_pathSize _ h) (cwV 0 hts (gv_ m_818 m_820 m_31 m_93 m_821) rfl rfl rfl pd_Runs_measureToBad ⟨Nat.le_of_ble_eq_true rfl, Nat.le_of_ble_eq_true rfl⟩) ⟨pc_blind, va_recv hK hP (ci := 6) (q0 := 9) rfl rfl, pc_of (hP.sub [4, 5, 0, 1, 2, 7, 8, 9] rfl) hK (hD.sub [4, 5, 0, 1, 2, 7, 8, 9] (by decide) rfl) hN hT hS hA⟩ rfl rfl hl.1 rfl (lv_room (Nat.le_of_ble_eq_true rfl)) d_Runs_explore_5 ⟨Nat.zero_le _, Nat.zero_le _⟩) hP hD hS hA [4, 5, 0, 1, 2, 7, 8, 9] [3, 6, 10] rfl rfl (by decide) (by decide) (fun u_ H locs h hP hD hS => ?_)
  obtain ⟨s1_7, wk_size_8, wk_items_9⟩ := u_
  have hP : va_P (dC, dI) vwCl [(a_rn_path, .inl (cI, 4096, .inl rn_path)), (a_lp_turns, .inl (cI, 24576, .inl lp_turns)), (a_rn_levels, .inl (cI, 4096, .inl rn_levels_6)), (a_lp, .inr (4, [.ref a_lp_facts, .ref a_lp_turns, .ref a_lp_first, .ref a_lp_src, .ref a_s1, .int lp_choices, .int lp_guesses, .int lp_unaries, .int lp_ranked])), (a_lp_facts, .inl (cI, 4096, .inl lp_facts_1)), (a_lp_first, .inl (cI, 4097, .inl lp_first)), (a_lp_src, .inl (cI, 24576, .inl lp_src)), (a_s1, .inl (cI, 4096, .inl s1_7)), (a_wk, .inr (10, [.ref a_wk_items, .int wk_size_8])), (a_wk_items, .inl (cI, 4096, .inl wk_items_9)), (a_rn, .inr (6, [.ref a_lp, .ref a_rn_levels, .ref a_rn_path, .ref a_s1, .ref a_s2, .ref a_wk, .int rn_reached_4, .int rn_greatestLevel_5, .int rn_pathSize]))] H := hP
  have hD : va_D A [(a_rn_path, .inl (cI, 4096, .inl rn_path)), (a_lp_turns, .inl (cI, 24576, .inl lp_turns)), (a_rn_levels, .inl (cI, 4096, .inl rn_levels_6)), (a_lp, .inr (4, [.ref a_lp_facts, .ref a_lp_turns, .ref a_lp_first, .ref a_lp_src, .ref a_s1, .int lp_choices, .int lp_guesses, .int lp_unaries, .int lp_ranked])), (a_lp_facts, .inl (cI, 4096, .inl lp_facts_1)), (a_lp_first, .inl (cI, 4097, .inl lp_first)), (a_lp_src, .inl (cI, 24576, .inl lp_src)), (a_s1, .inl (cI, 4096, .inl s1_7)), (a_wk, .inr (10, [.ref a_wk_items, .int wk_size_8])), (a_wk_items, .inl (cI, 4096, .inl wk_items_9)), (a_rn, .inr (6, [.ref a_lp, .ref a_rn_levels, .ref a_rn_path, .ref a_s1, .ref a_s2, .ref a_wk, .int rn_reached_4, .int rn_greatestLevel_5, .int rn_pathSize]))] := hD
  refine lv_aload_n hx hb d_Runs_explore_8 rfl (lv_at hl 0 rfl) ?_
  refine jn_v (wr := [(a_rn_levels, .inl (cI, 4096, .inl rn_levels_6)), (a_lp_first, .inl (cI, 4097, .inl lp_first)), (a_lp_src, .inl (cI, 24576, .inl lp_src)), (a_wk, .inr (10, [.ref a_wk_items, .int wk_size_8])), (a_wk_items, .inl (cI, 4096, .inl wk_items_9))]) (va_runV (As := []) (rest := []) ⟨hx, hb, hml, hown, hts⟩ (c_Runs_findPath l dC dI cI cB cZ adK adV _ a_lp a_lp_facts a_lp_turns a_lp_first a_lp_src a_s1 a_rn a_rn_levels a_rn_path a_s2 a_wk lp_choices lp_guesses lp_unaries lp_ranked lp_facts_1 lp_turns s1_7 rn_reached_4 rn_greatestLevel_5 rn_pathSize rn_path _ h) (cwV 0 hts (gv_ m_838 m_840 m_33 m_93 m_841) rfl rfl rfl pd_Runs_findPath ⟨Nat.le_of_ble_eq_true rfl, Nat.le_of_ble_eq_true rfl⟩) ⟨pc_blind, va_recv hK hP (ci := 6) (q0 := 10) rfl rfl, pc_of (hP.sub [3, 4, 1, 7, 10, 0] rfl) hK (hD.sub [3, 4, 1, 7, 10, 0] (by decide) rfl) hN hT hS hA⟩ rfl rfl hl.1 rfl (lv_room (Nat.le_of_ble_eq_true rfl)) d_Runs_explore_9 ⟨Nat.zero_le _, Nat.zero_le _⟩) hP hD hS hA [3, 4, 1, 7, 10, 0] [2, 5, 6, 8, 9] rfl rfl (by decide) (by decide) (fun u_ H locs h hP hD hS => ?_)
  obtain ⟨rn_pathSize_10, rn_path_11⟩ := u_
  have hP : va_P (dC, dI) vwCl [(a_rn_levels, .inl (cI, 4096, .inl rn_levels_6)), (a_lp_first, .inl (cI, 4097, .inl lp_first)), (a_lp_src, .inl (cI, 24576, .inl lp_src)), (a_wk, .inr (10, [.ref a_wk_items, .int wk_size_8])), (a_wk_items, .inl (cI, 4096, .inl wk_items_9)), (a_lp, .inr (4, [.ref a_lp_facts, .ref a_lp_turns, .ref a_lp_first, .ref a_lp_src, .ref a_s1, .int lp_choices, .int lp_guesses, .int lp_unaries, .int lp_ranked])), (a_lp_facts, .inl (cI, 4096, .inl lp_facts_1)), (a_lp_turns, .inl (cI, 24576, .inl lp_turns)), (a_s1, .inl (cI, 4096, .inl s1_7)), (a_rn, .inr (6, [.ref a_lp, .ref a_rn_levels, .ref a_rn_path, .ref a_s1, .ref a_s2, .ref a_wk, .int rn_reached_4, .int rn_greatestLevel_5, .int rn_pathSize_10])), (a_rn_path, .inl (cI, 4096, .inl rn_path_11))] H := hP
  have hD : va_D A [(a_rn_levels, .inl (cI, 4096, .inl rn_levels_6)), (a_lp_first, .inl (cI, 4097, .inl lp_first)), (a_lp_src, .inl (cI, 24576, .inl lp_src)), (a_wk, .inr (10, [.ref a_wk_items, .int wk_size_8])), (a_wk_items, .inl (cI, 4096, .inl wk_items_9)), (a_lp, .inr (4, [.ref a_lp_facts, .ref a_lp_turns, .ref a_lp_first, .ref a_lp_src, .ref a_s1, .int lp_choices, .int lp_guesses, .int lp_unaries, .int lp_ranked])), (a_lp_facts, .inl (cI, 4096, .inl lp_facts_1)), (a_lp_turns, .inl (cI, 24576, .inl lp_turns)), (a_s1, .inl (cI, 4096, .inl s1_7)), (a_rn, .inr (6, [.ref a_lp, .ref a_rn_levels, .ref a_rn_path, .ref a_s1, .ref a_s2, .ref a_wk, .int rn_reached_4, .int rn_greatestLevel_5, .int rn_pathSize_10])), (a_rn_path, .inl (cI, 4096, .inl rn_path_11))] := hD
  rw [← hQ]
  have hP9 := hP.sub (ws' := [(a_lp, .inr (4, [.ref a_lp_facts, .ref a_lp_turns, .ref a_lp_first, .ref a_lp_src, .ref a_s1, .int lp_choices, .int lp_guesses, .int lp_unaries, .int lp_ranked])), (a_lp_facts, .inl (cI, 4096, .inl lp_facts_1)), (a_lp_turns, .inl (cI, 24576, .inl lp_turns)), (a_lp_first, .inl (cI, 4097, .inl lp_first)), (a_lp_src, .inl (cI, 24576, .inl lp_src)), (a_s1, .inl (cI, 4096, .inl s1_7)), (a_wk, .inr (10, [.ref a_wk_items, .int wk_size_8])), (a_wk_items, .inl (cI, 4096, .inl wk_items_9)), (a_rn, .inr (6, [.ref a_lp, .ref a_rn_levels, .ref a_rn_path, .ref a_s1, .ref a_s2, .ref a_wk, .int rn_reached_4, .int rn_greatestLevel_5, .int rn_pathSize_10])), (a_rn_levels, .inl (cI, 4096, .inl rn_levels_6)), (a_rn_path, .inl (cI, 4096, .inl rn_path_11))]) [5, 6, 7, 1, 2, 8, 3, 4, 9, 0, 10] rfl
  have hD9 := hD.sub (ws' := [(a_lp, .inr (4, [.ref a_lp_facts, .ref a_lp_turns, .ref a_lp_first, .ref a_lp_src, .ref a_s1, .int lp_choices, .int lp_guesses, .int lp_unaries, .int lp_ranked])), (a_lp_facts, .inl (cI, 4096, .inl lp_facts_1)), (a_lp_turns, .inl (cI, 24576, .inl lp_turns)), (a_lp_first, .inl (cI, 4097, .inl lp_first)), (a_lp_src, .inl (cI, 24576, .inl lp_src)), (a_s1, .inl (cI, 4096, .inl s1_7)), (a_wk, .inr (10, [.ref a_wk_items, .int wk_size_8])), (a_wk_items, .inl (cI, 4096, .inl wk_items_9)), (a_rn, .inr (6, [.ref a_lp, .ref a_rn_levels, .ref a_rn_path, .ref a_s1, .ref a_s2, .ref a_wk, .int rn_reached_4, .int rn_greatestLevel_5, .int rn_pathSize_10])), (a_rn_levels, .inl (cI, 4096, .inl rn_levels_6)), (a_rn_path, .inl (cI, 4096, .inl rn_path_11))]) [5, 6, 7, 1, 2, 8, 3, 4, 9, 0, 10] (by decide) rfl
  exact W.vret hx hb hr (fun t ht hW => ⟨⟨(lp_facts_1, s1_7, wk_size_8, wk_items_9, rn_reached_4, rn_greatestLevel_5, rn_pathSize_10, rn_levels_6, rn_path_11), rfl, h, by rw [ht]; exact hP9, va_K.moved hW.alike hK, hD9⟩, hS.F ht⟩) hS.2.2 d_Runs_explore_12
set_option maxHeartbeats 4000000 in
set_option maxRecDepth 100000 in
theorem c_Runs_greatestLevel (l : Launch) (dC : Nat → ClassId) (dI : Nat → Nat → Nat) (cI cB cZ : ClassId) (adK adV : Nat → Nat) (sz : Nat) (a_rn a_lp a_rn_levels a_rn_path a_s1 a_s2 a_wk : Nat) (rn_reached : Int32) (rn_greatestLevel : Int32) (rn_pathSize : Int32) (post : Int32 → Prop) (h : wp_Runs_greatestLevel rn_greatestLevel post) : Met l y_Runs_greatestLevel w_Runs_greatestLevel ({ frames := 0, cells := 0, slots := 0, locals := 0 }) (pc_ (dC, dI) [(cI, .int), (cB, .byte), (cZ, .boolean)] [(a_rn, .inr (6, [.ref a_lp, .ref a_rn_levels, .ref a_rn_path, .ref a_s1, .ref a_s2, .ref a_wk, .int rn_reached, .int rn_greatestLevel, .int rn_pathSize]))] sz adK adV [.ref a_rn]) (va_Qi (fun (r : Int32) (u : Unit) => post r ) (fun (u : Unit) t => bw_ (dC, dI) [(cI, .int), (cB, .byte), (cZ, .boolean)] (va_A [(a_rn, .inr (6, [.ref a_lp, .ref a_rn_levels, .ref a_rn_path, .ref a_s1, .ref a_s2, .ref a_wk, .int rn_reached, .int rn_greatestLevel, .int rn_pathSize]))] sz) [(a_rn, .inr (6, [.ref a_lp, .ref a_rn_levels, .ref a_rn_path, .ref a_s1, .ref a_s2, .ref a_wk, .int rn_reached, .int rn_greatestLevel, .int rn_pathSize]))] t) (va_A [(a_rn, .inr (6, [.ref a_lp, .ref a_rn_levels, .ref a_rn_path, .ref a_s1, .ref a_s2, .ref a_wk, .int rn_reached, .int rn_greatestLevel, .int rn_pathSize]))] sz)) 0 0 (va_A [(a_rn, .inr (6, [.ref a_lp, .ref a_rn_levels, .ref a_rn_path, .ref a_s1, .ref a_s2, .ref a_wk, .int rn_reached, .int rn_greatestLevel, .int rn_pathSize]))] sz) := by
  refine Met.ofW (cc := b_Runs_greatestLevel) (maxL := 1) (ret := (some .int)) (by decide) rfl ?_
  intro p e s m args below meth c s₁ B hml hv
  obtain ⟨rfl, hsz, hP, hK, hD0, hN, hT⟩ := hv
  have hx := B.exec
  have hb := B.bytes
  have hr := B.returns
  have hts := atoms_spec (ws := w_Runs_greatestLevel) B.pre
  have hown : s.vm.findClass "LoopInduction$Runs" = some m.cls := findClass_of_methodNamed B.named
  have hlocks := B.notSynchronized
  subst hsz
  have hD := hD0.self (sz := s.heap.size)
  generalize hAe : va_A [(a_rn, .inr (6, [.ref a_lp, .ref a_rn_levels, .ref a_rn_path, .ref a_s1, .ref a_s2, .ref a_wk, .int rn_reached, .int rn_greatestLevel, .int rn_pathSize]))] s.heap.size = A at hD hT ⊢
  have hA : ∀ q : Nat, s.heap.size ≤ q → A q := fun q h => by rw [← hAe]; exact Or.inr h
  have hS : va_S A s.heap s.heap [] := va_S.rf
  generalize hQ : MQ below _ _ s 0 0 _ = QQ
  have hl := lv_entry ([.ref a_rn]) (n := 1) (Nat.le_of_ble_eq_true rfl)
  rw [lg_entry_eq]
  generalize (lg_sl ([.ref a_rn]) ++ List.replicate (1 - (lg_sl ([.ref a_rn])).length) Slot.unset).toArray = ls at hl ⊢
  have hl : lv_has ls 1 [(0, .ref a_rn)] := hl
  have fl_22 := (hts _ (List.mem_cons_of_mem _ m_304))
  refine lv_aload_n hx hb d_Runs_greatestLevel_0 rfl (lv_at hl 0 rfl) ?_
  refine va_get (D := (dC, dI)) (ci := 6) (v := .int rn_greatestLevel) (C := "LoopInduction$Runs") (T := F_Runs) (N := 9) hx hb hts iC_Runs hown hK hP 0 rfl rfl 7 (by decide) fl_22 (fun _ h9 => h9) rfl d_Runs_greatestLevel_1 ?_
  rw [← hQ]
  have hP9 := hP
  have hD9 := hD
  exact W.iret (v := rn_greatestLevel) hx hb hr (fun t ht hW => ⟨⟨rn_greatestLevel, (), rfl, h, by rw [ht]; exact hP9, va_K.moved hW.alike hK, hD9⟩, hS.F ht⟩) hS.2.2 d_Runs_greatestLevel_4
set_option maxHeartbeats 4000000 in
set_option maxRecDepth 100000 in
theorem c_Runs_onPathToBad (l : Launch) (dC : Nat → ClassId) (dI : Nat → Nat → Nat) (cI cB cZ : ClassId) (adK adV : Nat → Nat) (sz : Nat) (a_rn a_lp a_rn_levels a_rn_path a_s1 a_s2 a_wk : Nat) (rn_reached : Int32) (rn_greatestLevel : Int32) (rn_pathSize : Int32) (rn_path : Nat → Int32) (x1 : Int32) (post : Int32 → Prop) (h : wp_Runs_onPathToBad x1 rn_pathSize rn_path post) : Met l y_Runs_onPathToBad w_Runs_onPathToBad ({ frames := 0, cells := 0, slots := 0, locals := 0 }) (pc_ (dC, dI) [(cI, .int), (cB, .byte), (cZ, .boolean)] [(a_rn, .inr (6, [.ref a_lp, .ref a_rn_levels, .ref a_rn_path, .ref a_s1, .ref a_s2, .ref a_wk, .int rn_reached, .int rn_greatestLevel, .int rn_pathSize])), (a_rn_path, .inl (cI, 4096, .inl rn_path))] sz adK adV [.ref a_rn, .int x1]) (va_Qi (fun (r : Int32) (u : Unit) => post r ) (fun (u : Unit) t => bw_ (dC, dI) [(cI, .int), (cB, .byte), (cZ, .boolean)] (va_A [(a_rn, .inr (6, [.ref a_lp, .ref a_rn_levels, .ref a_rn_path, .ref a_s1, .ref a_s2, .ref a_wk, .int rn_reached, .int rn_greatestLevel, .int rn_pathSize])), (a_rn_path, .inl (cI, 4096, .inl rn_path))] sz) [(a_rn, .inr (6, [.ref a_lp, .ref a_rn_levels, .ref a_rn_path, .ref a_s1, .ref a_s2, .ref a_wk, .int rn_reached, .int rn_greatestLevel, .int rn_pathSize])), (a_rn_path, .inl (cI, 4096, .inl rn_path))] t) (va_A [(a_rn, .inr (6, [.ref a_lp, .ref a_rn_levels, .ref a_rn_path, .ref a_s1, .ref a_s2, .ref a_wk, .int rn_reached, .int rn_greatestLevel, .int rn_pathSize])), (a_rn_path, .inl (cI, 4096, .inl rn_path))] sz)) 0 0 (va_A [(a_rn, .inr (6, [.ref a_lp, .ref a_rn_levels, .ref a_rn_path, .ref a_s1, .ref a_s2, .ref a_wk, .int rn_reached, .int rn_greatestLevel, .int rn_pathSize])), (a_rn_path, .inl (cI, 4096, .inl rn_path))] sz) := by
  refine Met.ofW (cc := b_Runs_onPathToBad) (maxL := 2) (ret := (some .int)) (by decide) rfl ?_
  intro p e s m args below meth c s₁ B hml hv
  obtain ⟨rfl, hsz, hP, hK, hD0, hN, hT⟩ := hv
  have hx := B.exec
  have hb := B.bytes
  have hr := B.returns
  have hts := atoms_spec (ws := w_Runs_onPathToBad) B.pre
  have hown : s.vm.findClass "LoopInduction$Runs" = some m.cls := findClass_of_methodNamed B.named
  have hlocks := B.notSynchronized
  subst hsz
  have hD := hD0.self (sz := s.heap.size)
  generalize hAe : va_A [(a_rn, .inr (6, [.ref a_lp, .ref a_rn_levels, .ref a_rn_path, .ref a_s1, .ref a_s2, .ref a_wk, .int rn_reached, .int rn_greatestLevel, .int rn_pathSize])), (a_rn_path, .inl (cI, 4096, .inl rn_path))] s.heap.size = A at hD hT ⊢
  have hA : ∀ q : Nat, s.heap.size ≤ q → A q := fun q h => by rw [← hAe]; exact Or.inr h
  have hS : va_S A s.heap s.heap [] := va_S.rf
  generalize hQ : MQ below _ _ s 0 0 _ = QQ
  have hl := lv_entry ([.ref a_rn, .int x1]) (n := 2) (Nat.le_of_ble_eq_true rfl)
  rw [lg_entry_eq]
  generalize (lg_sl ([.ref a_rn, .int x1]) ++ List.replicate (2 - (lg_sl ([.ref a_rn, .int x1])).length) Slot.unset).toArray = ls at hl ⊢
  have hl : lv_has ls 2 [(0, .ref a_rn), (1, .int x1)] := hl
  have fl_15 := (hts _ (List.mem_cons_of_mem _ m_299))
  have fl_25 := (hts _ (List.mem_cons_of_mem _ m_305))
  refine lv_iload_n hx hb d_Runs_onPathToBad_0 rfl (lv_at hl 1 rfl) ?_
  refine lv_if_lt (tgt := 30) hx hb d_Runs_onPathToBad_1 (by decide) (fun c_1 => ?_) (fun c_1 => ?_)
  · have h := And.left h c_1
    refine lv_iconst (v := (-1)) hx hb d_Runs_onPathToBad_30 (by decide) ?_
    rw [← hQ]
    have hP9 := hP
    have hD9 := hD
    exact W.iret (v := (-1)) hx hb hr (fun t ht hW => ⟨⟨(-1), (), rfl, h, by rw [ht]; exact hP9, va_K.moved hW.alike hK, hD9⟩, hS.F ht⟩) hS.2.2 d_Runs_onPathToBad_31
  · have h := And.right h c_1
    refine lv_iload_n hx hb d_Runs_onPathToBad_4 rfl (lv_at hl 1 rfl) ?_
    refine lv_aload_n hx hb d_Runs_onPathToBad_5 rfl (lv_at hl 0 rfl) ?_
    refine va_get (D := (dC, dI)) (ci := 6) (v := .int rn_pathSize) (C := "LoopInduction$Runs") (T := F_Runs) (N := 9) hx hb hts iC_Runs hown hK hP 0 rfl rfl 8 (by decide) fl_25 (fun _ h9 => h9) rfl d_Runs_onPathToBad_6 ?_
    refine lv_icmp_ge (tgt := 30) hx hb d_Runs_onPathToBad_9 (by decide) (fun c_9 => ?_) (fun c_9 => ?_)
    · have h := And.left h c_9
      refine lv_iconst (v := (-1)) hx hb d_Runs_onPathToBad_30 (by decide) ?_
      rw [← hQ]
      have hP9 := hP
      have hD9 := hD
      exact W.iret (v := (-1)) hx hb hr (fun t ht hW => ⟨⟨(-1), (), rfl, h, by rw [ht]; exact hP9, va_K.moved hW.alike hK, hD9⟩, hS.F ht⟩) hS.2.2 d_Runs_onPathToBad_31
    · have h := And.right h c_9
      refine lv_iload_n hx hb d_Runs_onPathToBad_12 rfl (lv_at hl 1 rfl) ?_
      refine lv_aload_n hx hb d_Runs_onPathToBad_13 rfl (lv_at hl 0 rfl) ?_
      refine va_get (D := (dC, dI)) (ci := 6) (v := .ref a_rn_path) (C := "LoopInduction$Runs") (T := F_Runs) (N := 9) hx hb hts iC_Runs hown hK hP 0 rfl rfl 2 (by decide) fl_15 (fun _ h9 => h9) rfl d_Runs_onPathToBad_14 ?_
      refine va_alen (v := 4096) hx hb hK hP 1 0 rfl rfl rfl d_Runs_onPathToBad_17 ?_
      refine lv_icmp_ge (tgt := 30) hx hb d_Runs_onPathToBad_18 (by decide) (fun c_18 => ?_) (fun c_18 => ?_)
      · have h := And.left h c_18
        refine lv_iconst (v := (-1)) hx hb d_Runs_onPathToBad_30 (by decide) ?_
        rw [← hQ]
        have hP9 := hP
        have hD9 := hD
        exact W.iret (v := (-1)) hx hb hr (fun t ht hW => ⟨⟨(-1), (), rfl, h, by rw [ht]; exact hP9, va_K.moved hW.alike hK, hD9⟩, hS.F ht⟩) hS.2.2 d_Runs_onPathToBad_31
      · have h := And.right h c_18
        refine lv_aload_n hx hb d_Runs_onPathToBad_21 rfl (lv_at hl 0 rfl) ?_
        refine va_get (D := (dC, dI)) (ci := 6) (v := .ref a_rn_path) (C := "LoopInduction$Runs") (T := F_Runs) (N := 9) hx hb hts iC_Runs hown hK hP 0 rfl rfl 2 (by decide) fl_15 (fun _ h9 => h9) rfl d_Runs_onPathToBad_22 ?_
        refine lv_iload_n hx hb d_Runs_onPathToBad_25 rfl (lv_at hl 1 rfl) ?_
        obtain ⟨hin_26, h⟩ := h
        refine va_iald hx hb hK hP 1 0 rfl rfl hin_26 d_Runs_onPathToBad_26 ?_
        refine lv_goto (tgt := 31) hx hb d_Runs_onPathToBad_27 (by decide) ?_
        rw [← hQ]
        have hP9 := hP
        have hD9 := hD
        exact W.iret (v := rn_path (x1 : Int32).toNatClampNeg) hx hb hr (fun t ht hW => ⟨⟨(rn_path (x1 : Int32).toNatClampNeg), (), rfl, h, by rw [ht]; exact hP9, va_K.moved hW.alike hK, hD9⟩, hS.F ht⟩) hS.2.2 d_Runs_onPathToBad_31
set_option maxHeartbeats 4000000 in
set_option maxRecDepth 100000 in
theorem c_Runs_turnsToBad (l : Launch) (dC : Nat → ClassId) (dI : Nat → Nat → Nat) (cI cB cZ : ClassId) (adK adV : Nat → Nat) (sz : Nat) (a_rn a_lp a_rn_levels a_rn_path a_s1 a_s2 a_wk : Nat) (rn_reached : Int32) (rn_greatestLevel : Int32) (rn_pathSize : Int32) (post : Int32 → Prop) (h : wp_Runs_turnsToBad rn_pathSize post) : Met l y_Runs_turnsToBad w_Runs_turnsToBad ({ frames := 0, cells := 0, slots := 0, locals := 0 }) (pc_ (dC, dI) [(cI, .int), (cB, .byte), (cZ, .boolean)] [(a_rn, .inr (6, [.ref a_lp, .ref a_rn_levels, .ref a_rn_path, .ref a_s1, .ref a_s2, .ref a_wk, .int rn_reached, .int rn_greatestLevel, .int rn_pathSize]))] sz adK adV [.ref a_rn]) (va_Qi (fun (r : Int32) (u : Unit) => post r ) (fun (u : Unit) t => bw_ (dC, dI) [(cI, .int), (cB, .byte), (cZ, .boolean)] (va_A [(a_rn, .inr (6, [.ref a_lp, .ref a_rn_levels, .ref a_rn_path, .ref a_s1, .ref a_s2, .ref a_wk, .int rn_reached, .int rn_greatestLevel, .int rn_pathSize]))] sz) [(a_rn, .inr (6, [.ref a_lp, .ref a_rn_levels, .ref a_rn_path, .ref a_s1, .ref a_s2, .ref a_wk, .int rn_reached, .int rn_greatestLevel, .int rn_pathSize]))] t) (va_A [(a_rn, .inr (6, [.ref a_lp, .ref a_rn_levels, .ref a_rn_path, .ref a_s1, .ref a_s2, .ref a_wk, .int rn_reached, .int rn_greatestLevel, .int rn_pathSize]))] sz)) 0 0 (va_A [(a_rn, .inr (6, [.ref a_lp, .ref a_rn_levels, .ref a_rn_path, .ref a_s1, .ref a_s2, .ref a_wk, .int rn_reached, .int rn_greatestLevel, .int rn_pathSize]))] sz) := by
  refine Met.ofW (cc := b_Runs_turnsToBad) (maxL := 1) (ret := (some .int)) (by decide) rfl ?_
  intro p e s m args below meth c s₁ B hml hv
  obtain ⟨rfl, hsz, hP, hK, hD0, hN, hT⟩ := hv
  have hx := B.exec
  have hb := B.bytes
  have hr := B.returns
  have hts := atoms_spec (ws := w_Runs_turnsToBad) B.pre
  have hown : s.vm.findClass "LoopInduction$Runs" = some m.cls := findClass_of_methodNamed B.named
  have hlocks := B.notSynchronized
  subst hsz
  have hD := hD0.self (sz := s.heap.size)
  generalize hAe : va_A [(a_rn, .inr (6, [.ref a_lp, .ref a_rn_levels, .ref a_rn_path, .ref a_s1, .ref a_s2, .ref a_wk, .int rn_reached, .int rn_greatestLevel, .int rn_pathSize]))] s.heap.size = A at hD hT ⊢
  have hA : ∀ q : Nat, s.heap.size ≤ q → A q := fun q h => by rw [← hAe]; exact Or.inr h
  have hS : va_S A s.heap s.heap [] := va_S.rf
  generalize hQ : MQ below _ _ s 0 0 _ = QQ
  have hl := lv_entry ([.ref a_rn]) (n := 1) (Nat.le_of_ble_eq_true rfl)
  rw [lg_entry_eq]
  generalize (lg_sl ([.ref a_rn]) ++ List.replicate (1 - (lg_sl ([.ref a_rn])).length) Slot.unset).toArray = ls at hl ⊢
  have hl : lv_has ls 1 [(0, .ref a_rn)] := hl
  have fl_25 := (hts _ (List.mem_cons_of_mem _ m_305))
  refine lv_aload_n hx hb d_Runs_turnsToBad_0 rfl (lv_at hl 0 rfl) ?_
  refine va_get (D := (dC, dI)) (ci := 6) (v := .int rn_pathSize) (C := "LoopInduction$Runs") (T := F_Runs) (N := 9) hx hb hts iC_Runs hown hK hP 0 rfl rfl 8 (by decide) fl_25 (fun _ h9 => h9) rfl d_Runs_turnsToBad_1 ?_
  refine lv_iconst (v := 1) hx hb d_Runs_turnsToBad_4 (by decide) ?_
  refine lv_isub hx hb d_Runs_turnsToBad_5 ?_
  rw [← hQ]
  have hP9 := hP
  have hD9 := hD
  exact W.iret (v := rn_pathSize - 1) hx hb hr (fun t ht hW => ⟨⟨(rn_pathSize - 1), (), rfl, h, by rw [ht]; exact hP9, va_K.moved hW.alike hK, hD9⟩, hS.F ht⟩) hS.2.2 d_Runs_turnsToBad_6
set_option maxHeartbeats 4000000 in
set_option maxRecDepth 100000 in
theorem c_Runs_isNewTarget (l : Launch) (dC : Nat → ClassId) (dI : Nat → Nat → Nat) (cI cB cZ : ClassId) (adK adV : Nat → Nat) (sz : Nat) (a_lp a_lp_facts a_lp_turns a_lp_first a_lp_src a_s1 a_rn a_rn_levels a_rn_path a_s2 a_wk : Nat) (lp_choices : Int32) (lp_guesses : Int32) (lp_unaries : Int32) (lp_ranked : Int32) (lp_turns : Nat → Int32) (rn_reached : Int32) (rn_greatestLevel : Int32) (rn_pathSize : Int32) (x1 : Int32) (x2 : Int32) (post : Int32 → Prop) (h : wp_Runs_isNewTarget x1 x2 lp_choices lp_turns post) : Met l y_Runs_isNewTarget w_Runs_isNewTarget ({ frames := 2, cells := 0, slots := 0, locals := 42 }) (pc_ (dC, dI) [(cI, .int), (cB, .byte), (cZ, .boolean)] [(a_lp, .inr (4, [.ref a_lp_facts, .ref a_lp_turns, .ref a_lp_first, .ref a_lp_src, .ref a_s1, .int lp_choices, .int lp_guesses, .int lp_unaries, .int lp_ranked])), (a_lp_turns, .inl (cI, 24576, .inl lp_turns)), (a_rn, .inr (6, [.ref a_lp, .ref a_rn_levels, .ref a_rn_path, .ref a_s1, .ref a_s2, .ref a_wk, .int rn_reached, .int rn_greatestLevel, .int rn_pathSize]))] sz adK adV [.ref a_rn, .int x1, .int x2]) (va_Qi (fun (r : Int32) (u : Unit) => post r ) (fun (u : Unit) t => bw_ (dC, dI) [(cI, .int), (cB, .byte), (cZ, .boolean)] (va_A [(a_lp, .inr (4, [.ref a_lp_facts, .ref a_lp_turns, .ref a_lp_first, .ref a_lp_src, .ref a_s1, .int lp_choices, .int lp_guesses, .int lp_unaries, .int lp_ranked])), (a_lp_turns, .inl (cI, 24576, .inl lp_turns)), (a_rn, .inr (6, [.ref a_lp, .ref a_rn_levels, .ref a_rn_path, .ref a_s1, .ref a_s2, .ref a_wk, .int rn_reached, .int rn_greatestLevel, .int rn_pathSize]))] sz) [(a_lp, .inr (4, [.ref a_lp_facts, .ref a_lp_turns, .ref a_lp_first, .ref a_lp_src, .ref a_s1, .int lp_choices, .int lp_guesses, .int lp_unaries, .int lp_ranked])), (a_lp_turns, .inl (cI, 24576, .inl lp_turns)), (a_rn, .inr (6, [.ref a_lp, .ref a_rn_levels, .ref a_rn_path, .ref a_s1, .ref a_s2, .ref a_wk, .int rn_reached, .int rn_greatestLevel, .int rn_pathSize]))] t) (va_A [(a_lp, .inr (4, [.ref a_lp_facts, .ref a_lp_turns, .ref a_lp_first, .ref a_lp_src, .ref a_s1, .int lp_choices, .int lp_guesses, .int lp_unaries, .int lp_ranked])), (a_lp_turns, .inl (cI, 24576, .inl lp_turns)), (a_rn, .inr (6, [.ref a_lp, .ref a_rn_levels, .ref a_rn_path, .ref a_s1, .ref a_s2, .ref a_wk, .int rn_reached, .int rn_greatestLevel, .int rn_pathSize]))] sz)) 0 0 (va_A [(a_lp, .inr (4, [.ref a_lp_facts, .ref a_lp_turns, .ref a_lp_first, .ref a_lp_src, .ref a_s1, .int lp_choices, .int lp_guesses, .int lp_unaries, .int lp_ranked])), (a_lp_turns, .inl (cI, 24576, .inl lp_turns)), (a_rn, .inr (6, [.ref a_lp, .ref a_rn_levels, .ref a_rn_path, .ref a_s1, .ref a_s2, .ref a_wk, .int rn_reached, .int rn_greatestLevel, .int rn_pathSize]))] sz) := by
  refine Met.ofW (cc := b_Runs_isNewTarget) (maxL := 5) (ret := (some .boolean)) (by decide) rfl ?_
  intro p e s m args below meth c s₁ B hml hv
  obtain ⟨rfl, hsz, hP, hK, hD0, hN, hT⟩ := hv
  have hx := B.exec
  have hb := B.bytes
  have hr := B.returns
  have hts := atoms_spec (ws := w_Runs_isNewTarget) B.pre
  have hown : s.vm.findClass "LoopInduction$Runs" = some m.cls := findClass_of_methodNamed B.named
  have hlocks := B.notSynchronized
  subst hsz
  have hD := hD0.self (sz := s.heap.size)
  generalize hAe : va_A [(a_lp, .inr (4, [.ref a_lp_facts, .ref a_lp_turns, .ref a_lp_first, .ref a_lp_src, .ref a_s1, .int lp_choices, .int lp_guesses, .int lp_unaries, .int lp_ranked])), (a_lp_turns, .inl (cI, 24576, .inl lp_turns)), (a_rn, .inr (6, [.ref a_lp, .ref a_rn_levels, .ref a_rn_path, .ref a_s1, .ref a_s2, .ref a_wk, .int rn_reached, .int rn_greatestLevel, .int rn_pathSize]))] s.heap.size = A at hD hT ⊢
  have hA : ∀ q : Nat, s.heap.size ≤ q → A q := fun q h => by rw [← hAe]; exact Or.inr h
  have hS : va_S A s.heap s.heap [] := va_S.rf
  generalize hQ : MQ below _ _ s 0 0 _ = QQ
  have hl := lv_entry ([.ref a_rn, .int x1, .int x2]) (n := 5) (Nat.le_of_ble_eq_true rfl)
  rw [lg_entry_eq]
  generalize (lg_sl ([.ref a_rn, .int x1, .int x2]) ++ List.replicate (5 - (lg_sl ([.ref a_rn, .int x1, .int x2])).length) Slot.unset).toArray = ls at hl ⊢
  have hl : lv_has ls 5 [(0, .ref a_rn), (1, .int x1), (2, .int x2)] := hl
  have fl_28 := (hts _ (List.mem_cons_of_mem _ m_297))
  refine lv_aload_n hx hb d_Runs_isNewTarget_0 rfl (lv_at hl 0 rfl) ?_
  refine va_get (D := (dC, dI)) (ci := 6) (v := .ref a_lp) (C := "LoopInduction$Runs") (T := F_Runs) (N := 9) hx hb hts iC_Runs hown hK hP 2 rfl rfl 0 (by decide) fl_28 (fun _ h9 => h9) rfl d_Runs_isNewTarget_1 ?_
  refine lv_iload_n hx hb d_Runs_isNewTarget_4 rfl (lv_at hl 1 rfl) ?_
  refine lv_iload_n hx hb d_Runs_isNewTarget_5 rfl (lv_at hl 2 rfl) ?_
  refine jn_i (wr := [(a_rn, .inr (6, [.ref a_lp, .ref a_rn_levels, .ref a_rn_path, .ref a_s1, .ref a_s2, .ref a_wk, .int rn_reached, .int rn_greatestLevel, .int rn_pathSize]))]) (va_runV (As := [.int x1, .int x2]) (rest := []) ⟨hx, hb, hml, hown, hts⟩ (c_Loop_turn l dC dI cI cB cZ adK adV _ a_lp a_lp_facts a_lp_turns a_lp_first a_lp_src a_s1 lp_choices lp_guesses lp_unaries lp_ranked lp_turns x1 x2 _ h) (cwV 2 hts (gv_ m_813 m_757 m_758 m_92 m_759) rfl rfl rfl pd_Loop_turn ⟨Nat.le_of_ble_eq_true rfl, Nat.le_of_ble_eq_true rfl⟩) ⟨pc_blind, va_recv hK hP (ci := 4) (q0 := 0) rfl rfl, pc_of (hP.sub [0, 1] rfl) hK (hD.sub [0, 1] (by decide) rfl) hN hT hS hA⟩ rfl rfl hl.1 rfl (lv_room (Nat.le_of_ble_eq_true rfl)) d_Runs_isNewTarget_6 ⟨Nat.zero_le _, Nat.zero_le _⟩) hP hD hS hA [0, 1] [2] rfl rfl (by decide) (by decide) (fun r_1 u_ H locs h hP hD hS => ?_)
  have hP : va_P (dC, dI) vwCl [(a_rn, .inr (6, [.ref a_lp, .ref a_rn_levels, .ref a_rn_path, .ref a_s1, .ref a_s2, .ref a_wk, .int rn_reached, .int rn_greatestLevel, .int rn_pathSize])), (a_lp, .inr (4, [.ref a_lp_facts, .ref a_lp_turns, .ref a_lp_first, .ref a_lp_src, .ref a_s1, .int lp_choices, .int lp_guesses, .int lp_unaries, .int lp_ranked])), (a_lp_turns, .inl (cI, 24576, .inl lp_turns))] H := hP
  have hD : va_D A [(a_rn, .inr (6, [.ref a_lp, .ref a_rn_levels, .ref a_rn_path, .ref a_s1, .ref a_s2, .ref a_wk, .int rn_reached, .int rn_greatestLevel, .int rn_pathSize])), (a_lp, .inr (4, [.ref a_lp_facts, .ref a_lp_turns, .ref a_lp_first, .ref a_lp_src, .ref a_s1, .int lp_choices, .int lp_guesses, .int lp_unaries, .int lp_ranked])), (a_lp_turns, .inl (cI, 24576, .inl lp_turns))] := hD
  refine lv_istore_n (lv' := [(3, .int r_1), (0, .ref a_rn), (1, .int x1), (2, .int x2)]) hx hb d_Runs_isNewTarget_9 rfl hl (by decide) rfl (fun ls hl => ?_)
  refine lv_iconst (v := 0) hx hb d_Runs_isNewTarget_10 (by decide) ?_
  refine lv_istore (lv' := [(4, .int 0), (3, .int r_1), (0, .ref a_rn), (1, .int x1), (2, .int x2)]) hx hb d_Runs_isNewTarget_11 hl (by decide) rfl (fun ls hl => ?_)
  have L13_q_3 : ∀ (k41 : Prop) (hk41 : k41 → ∀ (H : Heap) (locs : List Loc), va_P (dC, dI) vwCl [(a_rn, .inr (6, [.ref a_lp, .ref a_rn_levels, .ref a_rn_path, .ref a_s1, .ref a_s2, .ref a_wk, .int rn_reached, .int rn_greatestLevel, .int rn_pathSize])), (a_lp, .inr (4, [.ref a_lp_facts, .ref a_lp_turns, .ref a_lp_first, .ref a_lp_src, .ref a_s1, .int lp_choices, .int lp_guesses, .int lp_unaries, .int lp_ranked])), (a_lp_turns, .inl (cI, 24576, .inl lp_turns))] H → va_D A [(a_rn, .inr (6, [.ref a_lp, .ref a_rn_levels, .ref a_rn_path, .ref a_s1, .ref a_s2, .ref a_wk, .int rn_reached, .int rn_greatestLevel, .int rn_pathSize])), (a_lp, .inr (4, [.ref a_lp_facts, .ref a_lp_turns, .ref a_lp_first, .ref a_lp_src, .ref a_s1, .int lp_choices, .int lp_guesses, .int lp_unaries, .int lp_ranked])), (a_lp_turns, .inl (cI, 24576, .inl lp_turns))] → va_S A s.heap H locs → ∀ ls : Array Slot, lv_has ls 5 [] → W p l e (headSpec w_Runs_isNewTarget ({ frames := 2, cells := 0, slots := 0, locals := 42 })).room s m (([.ref a_rn, .int x1, .int x2] : List Value).toArray) below meth c H locs 0 0 QQ (F0 m 41 ls [])) (k33 : Prop) (hk33 : k33 → ∀ (H : Heap) (locs : List Loc), va_P (dC, dI) vwCl [(a_rn, .inr (6, [.ref a_lp, .ref a_rn_levels, .ref a_rn_path, .ref a_s1, .ref a_s2, .ref a_wk, .int rn_reached, .int rn_greatestLevel, .int rn_pathSize])), (a_lp, .inr (4, [.ref a_lp_facts, .ref a_lp_turns, .ref a_lp_first, .ref a_lp_src, .ref a_s1, .int lp_choices, .int lp_guesses, .int lp_unaries, .int lp_ranked])), (a_lp_turns, .inl (cI, 24576, .inl lp_turns))] H → va_D A [(a_rn, .inr (6, [.ref a_lp, .ref a_rn_levels, .ref a_rn_path, .ref a_s1, .ref a_s2, .ref a_wk, .int rn_reached, .int rn_greatestLevel, .int rn_pathSize])), (a_lp, .inr (4, [.ref a_lp_facts, .ref a_lp_turns, .ref a_lp_first, .ref a_lp_src, .ref a_s1, .int lp_choices, .int lp_guesses, .int lp_unaries, .int lp_ranked])), (a_lp_turns, .inl (cI, 24576, .inl lp_turns))] → va_S A s.heap H locs → ∀ ls : Array Slot, lv_has ls 5 [] → W p l e (headSpec w_Runs_isNewTarget ({ frames := 2, cells := 0, slots := 0, locals := 42 })).room s m (([.ref a_rn, .int x1, .int x2] : List Value).toArray) below meth c H locs 0 0 QQ (F0 m 33 ls [])) (n : Nat) (x4_2 : Int32), wp_Runs_isNewTarget_L13 x1 x2 r_1 lp_choices lp_turns k41 k33 n x4_2 → ∀ (H : Heap) (locs : List Loc), va_P (dC, dI) vwCl [(a_rn, .inr (6, [.ref a_lp, .ref a_rn_levels, .ref a_rn_path, .ref a_s1, .ref a_s2, .ref a_wk, .int rn_reached, .int rn_greatestLevel, .int rn_pathSize])), (a_lp, .inr (4, [.ref a_lp_facts, .ref a_lp_turns, .ref a_lp_first, .ref a_lp_src, .ref a_s1, .int lp_choices, .int lp_guesses, .int lp_unaries, .int lp_ranked])), (a_lp_turns, .inl (cI, 24576, .inl lp_turns))] H → va_D A [(a_rn, .inr (6, [.ref a_lp, .ref a_rn_levels, .ref a_rn_path, .ref a_s1, .ref a_s2, .ref a_wk, .int rn_reached, .int rn_greatestLevel, .int rn_pathSize])), (a_lp, .inr (4, [.ref a_lp_facts, .ref a_lp_turns, .ref a_lp_first, .ref a_lp_src, .ref a_s1, .int lp_choices, .int lp_guesses, .int lp_unaries, .int lp_ranked])), (a_lp_turns, .inl (cI, 24576, .inl lp_turns))] → va_S A s.heap H locs → ∀ ls : Array Slot, lv_has ls 5 [(0, .ref a_rn), (1, .int x1), (2, .int x2), (3, .int r_1), (4, .int x4_2)] → W p l e (headSpec w_Runs_isNewTarget ({ frames := 2, cells := 0, slots := 0, locals := 42 })).room s m (([.ref a_rn, .int x1, .int x2] : List Value).toArray) below meth c H locs 0 0 QQ (F0 m 13 ls []) := by
    intro k41 hk41 k33 hk33 n
    induction n with
    | zero => intro x4_2 h; exact (show False from h).elim
    | succ n il =>
      intro x4_2 h
      intro H locs hP hD hS ls hl
      refine lv_iload hx hb d_Runs_isNewTarget_13 (lv_at hl 4 rfl) ?_
      refine lv_iload_n hx hb d_Runs_isNewTarget_15 rfl (lv_at hl 2 rfl) ?_
      refine lv_icmp_ge (tgt := 41) hx hb d_Runs_isNewTarget_16 (by decide) (fun c_16 => ?_) (fun c_16 => ?_)
      · have h := And.left h c_16
        exact hk41 h _ _ hP hD hS _ (lv_sub hl [] rfl)
      · have h := And.right h c_16
        refine lv_aload_n hx hb d_Runs_isNewTarget_19 rfl (lv_at hl 0 rfl) ?_
        refine va_get (D := (dC, dI)) (ci := 6) (v := .ref a_lp) (C := "LoopInduction$Runs") (T := F_Runs) (N := 9) hx hb hts iC_Runs hown hK hP 0 rfl rfl 0 (by decide) fl_28 (fun _ h9 => h9) rfl d_Runs_isNewTarget_20 ?_
        refine lv_iload_n hx hb d_Runs_isNewTarget_23 rfl (lv_at hl 1 rfl) ?_
        refine lv_iload hx hb d_Runs_isNewTarget_24 (lv_at hl 4 rfl) ?_
        refine jn_i (wr := [(a_rn, .inr (6, [.ref a_lp, .ref a_rn_levels, .ref a_rn_path, .ref a_s1, .ref a_s2, .ref a_wk, .int rn_reached, .int rn_greatestLevel, .int rn_pathSize]))]) (va_runV (As := [.int x1, .int x4_2]) (rest := []) ⟨hx, hb, hml, hown, hts⟩ (c_Loop_turn l dC dI cI cB cZ adK adV _ a_lp a_lp_facts a_lp_turns a_lp_first a_lp_src a_s1 lp_choices lp_guesses lp_unaries lp_ranked lp_turns x1 x4_2 _ h) (cwV 2 hts (gv_ m_813 m_757 m_758 m_92 m_759) rfl rfl rfl pd_Loop_turn ⟨Nat.le_of_ble_eq_true rfl, Nat.le_of_ble_eq_true rfl⟩) ⟨pc_blind, va_recv hK hP (ci := 4) (q0 := 1) rfl rfl, pc_of (hP.sub [1, 2] rfl) hK (hD.sub [1, 2] (by decide) rfl) hN hT hS hA⟩ rfl rfl hl.1 rfl (lv_room (Nat.le_of_ble_eq_true rfl)) d_Runs_isNewTarget_26 ⟨Nat.zero_le _, Nat.zero_le _⟩) hP hD hS hA [1, 2] [0] rfl rfl (by decide) (by decide) (fun r_4 u_ H locs h hP hD hS => ?_)
        have hP : va_P (dC, dI) vwCl [(a_rn, .inr (6, [.ref a_lp, .ref a_rn_levels, .ref a_rn_path, .ref a_s1, .ref a_s2, .ref a_wk, .int rn_reached, .int rn_greatestLevel, .int rn_pathSize])), (a_lp, .inr (4, [.ref a_lp_facts, .ref a_lp_turns, .ref a_lp_first, .ref a_lp_src, .ref a_s1, .int lp_choices, .int lp_guesses, .int lp_unaries, .int lp_ranked])), (a_lp_turns, .inl (cI, 24576, .inl lp_turns))] H := hP
        have hD : va_D A [(a_rn, .inr (6, [.ref a_lp, .ref a_rn_levels, .ref a_rn_path, .ref a_s1, .ref a_s2, .ref a_wk, .int rn_reached, .int rn_greatestLevel, .int rn_pathSize])), (a_lp, .inr (4, [.ref a_lp_facts, .ref a_lp_turns, .ref a_lp_first, .ref a_lp_src, .ref a_s1, .int lp_choices, .int lp_guesses, .int lp_unaries, .int lp_ranked])), (a_lp_turns, .inl (cI, 24576, .inl lp_turns))] := hD
        refine lv_iload_n hx hb d_Runs_isNewTarget_29 rfl (lv_at hl 3 rfl) ?_
        refine lv_icmp_ne (tgt := 35) hx hb d_Runs_isNewTarget_30 (by decide) (fun c_30 => ?_) (fun c_30 => ?_)
        · have h := And.left h c_30
          refine lv_iinc (v := x4_2 + 1) (lv' := [(4, .int (x4_2 + 1)), (0, .ref a_rn), (1, .int x1), (2, .int x2), (3, .int r_1)]) hx hb d_Runs_isNewTarget_35 hl (k := 4) rfl rfl (by decide) rfl (fun ls hl => ?_)
          refine lv_goto (tgt := 13) hx hb d_Runs_isNewTarget_38 (by decide) ?_
          exact il _ h _ _ hP hD hS _ (lv_sub hl [1, 2, 3, 4, 0] rfl)
        · have h := And.right h c_30
          exact hk33 h _ _ hP hD hS _ (lv_sub hl [] rfl)
  obtain ⟨n_, h⟩ := h
  refine L13_q_3 _ ?_ _ ?_ n_ _ h _ _ hP hD hS _ (lv_sub hl [2, 3, 4, 1, 0] rfl)
  · intro h
    intro H locs hP hD hS ls hl
    refine lv_iconst (v := 1) hx hb d_Runs_isNewTarget_41 (by decide) ?_
    rw [← hQ]
    have hP9 := hP.sub (ws' := [(a_lp, .inr (4, [.ref a_lp_facts, .ref a_lp_turns, .ref a_lp_first, .ref a_lp_src, .ref a_s1, .int lp_choices, .int lp_guesses, .int lp_unaries, .int lp_ranked])), (a_lp_turns, .inl (cI, 24576, .inl lp_turns)), (a_rn, .inr (6, [.ref a_lp, .ref a_rn_levels, .ref a_rn_path, .ref a_s1, .ref a_s2, .ref a_wk, .int rn_reached, .int rn_greatestLevel, .int rn_pathSize]))]) [1, 2, 0] rfl
    have hD9 := hD.sub (ws' := [(a_lp, .inr (4, [.ref a_lp_facts, .ref a_lp_turns, .ref a_lp_first, .ref a_lp_src, .ref a_s1, .int lp_choices, .int lp_guesses, .int lp_unaries, .int lp_ranked])), (a_lp_turns, .inl (cI, 24576, .inl lp_turns)), (a_rn, .inr (6, [.ref a_lp, .ref a_rn_levels, .ref a_rn_path, .ref a_s1, .ref a_s2, .ref a_wk, .int rn_reached, .int rn_greatestLevel, .int rn_pathSize]))]) [1, 2, 0] (by decide) rfl
    exact W.zret (v := 1) hx hb hr rfl (fun t ht hW => ⟨⟨1, (), rfl, h, by rw [ht]; exact hP9, va_K.moved hW.alike hK, hD9⟩, hS.F ht⟩) hS.2.2 d_Runs_isNewTarget_42
  · intro h
    intro H locs hP hD hS ls hl
    refine lv_iconst (v := 0) hx hb d_Runs_isNewTarget_33 (by decide) ?_
    rw [← hQ]
    have hP9 := hP.sub (ws' := [(a_lp, .inr (4, [.ref a_lp_facts, .ref a_lp_turns, .ref a_lp_first, .ref a_lp_src, .ref a_s1, .int lp_choices, .int lp_guesses, .int lp_unaries, .int lp_ranked])), (a_lp_turns, .inl (cI, 24576, .inl lp_turns)), (a_rn, .inr (6, [.ref a_lp, .ref a_rn_levels, .ref a_rn_path, .ref a_s1, .ref a_s2, .ref a_wk, .int rn_reached, .int rn_greatestLevel, .int rn_pathSize]))]) [1, 2, 0] rfl
    have hD9 := hD.sub (ws' := [(a_lp, .inr (4, [.ref a_lp_facts, .ref a_lp_turns, .ref a_lp_first, .ref a_lp_src, .ref a_s1, .int lp_choices, .int lp_guesses, .int lp_unaries, .int lp_ranked])), (a_lp_turns, .inl (cI, 24576, .inl lp_turns)), (a_rn, .inr (6, [.ref a_lp, .ref a_rn_levels, .ref a_rn_path, .ref a_s1, .ref a_s2, .ref a_wk, .int rn_reached, .int rn_greatestLevel, .int rn_pathSize]))]) [1, 2, 0] (by decide) rfl
    exact W.zret (v := 0) hx hb hr rfl (fun t ht hW => ⟨⟨0, (), rfl, h, by rw [ht]; exact hP9, va_K.moved hW.alike hK, hD9⟩, hS.F ht⟩) hS.2.2 d_Runs_isNewTarget_34
set_option maxHeartbeats 4000000 in
set_option maxRecDepth 100000 in
theorem c_Runs_countTargets (l : Launch) (dC : Nat → ClassId) (dI : Nat → Nat → Nat) (cI cB cZ : ClassId) (adK adV : Nat → Nat) (sz : Nat) (a_lp a_lp_facts a_lp_turns a_lp_first a_lp_src a_s1 a_rn a_rn_levels a_rn_path a_s2 a_wk : Nat) (lp_choices : Int32) (lp_guesses : Int32) (lp_unaries : Int32) (lp_ranked : Int32) (lp_turns : Nat → Int32) (rn_reached : Int32) (rn_greatestLevel : Int32) (rn_pathSize : Int32) (x1 : Int32) (post : Int32 → Prop) (h : wp_Runs_countTargets x1 lp_choices lp_turns post) : Met l y_Runs_countTargets w_Runs_countTargets ({ frames := 3, cells := 0, slots := 0, locals := 66 }) (pc_ (dC, dI) [(cI, .int), (cB, .byte), (cZ, .boolean)] [(a_lp, .inr (4, [.ref a_lp_facts, .ref a_lp_turns, .ref a_lp_first, .ref a_lp_src, .ref a_s1, .int lp_choices, .int lp_guesses, .int lp_unaries, .int lp_ranked])), (a_lp_turns, .inl (cI, 24576, .inl lp_turns)), (a_rn, .inr (6, [.ref a_lp, .ref a_rn_levels, .ref a_rn_path, .ref a_s1, .ref a_s2, .ref a_wk, .int rn_reached, .int rn_greatestLevel, .int rn_pathSize]))] sz adK adV [.ref a_rn, .int x1]) (va_Qi (fun (r : Int32) (u : Unit) => post r ) (fun (u : Unit) t => bw_ (dC, dI) [(cI, .int), (cB, .byte), (cZ, .boolean)] (va_A [(a_lp, .inr (4, [.ref a_lp_facts, .ref a_lp_turns, .ref a_lp_first, .ref a_lp_src, .ref a_s1, .int lp_choices, .int lp_guesses, .int lp_unaries, .int lp_ranked])), (a_lp_turns, .inl (cI, 24576, .inl lp_turns)), (a_rn, .inr (6, [.ref a_lp, .ref a_rn_levels, .ref a_rn_path, .ref a_s1, .ref a_s2, .ref a_wk, .int rn_reached, .int rn_greatestLevel, .int rn_pathSize]))] sz) [(a_lp, .inr (4, [.ref a_lp_facts, .ref a_lp_turns, .ref a_lp_first, .ref a_lp_src, .ref a_s1, .int lp_choices, .int lp_guesses, .int lp_unaries, .int lp_ranked])), (a_lp_turns, .inl (cI, 24576, .inl lp_turns)), (a_rn, .inr (6, [.ref a_lp, .ref a_rn_levels, .ref a_rn_path, .ref a_s1, .ref a_s2, .ref a_wk, .int rn_reached, .int rn_greatestLevel, .int rn_pathSize]))] t) (va_A [(a_lp, .inr (4, [.ref a_lp_facts, .ref a_lp_turns, .ref a_lp_first, .ref a_lp_src, .ref a_s1, .int lp_choices, .int lp_guesses, .int lp_unaries, .int lp_ranked])), (a_lp_turns, .inl (cI, 24576, .inl lp_turns)), (a_rn, .inr (6, [.ref a_lp, .ref a_rn_levels, .ref a_rn_path, .ref a_s1, .ref a_s2, .ref a_wk, .int rn_reached, .int rn_greatestLevel, .int rn_pathSize]))] sz)) 0 0 (va_A [(a_lp, .inr (4, [.ref a_lp_facts, .ref a_lp_turns, .ref a_lp_first, .ref a_lp_src, .ref a_s1, .int lp_choices, .int lp_guesses, .int lp_unaries, .int lp_ranked])), (a_lp_turns, .inl (cI, 24576, .inl lp_turns)), (a_rn, .inr (6, [.ref a_lp, .ref a_rn_levels, .ref a_rn_path, .ref a_s1, .ref a_s2, .ref a_wk, .int rn_reached, .int rn_greatestLevel, .int rn_pathSize]))] sz) := by
  refine Met.ofW (cc := b_Runs_countTargets) (maxL := 4) (ret := (some .int)) (by decide) rfl ?_
  intro p e s m args below meth c s₁ B hml hv
  obtain ⟨rfl, hsz, hP, hK, hD0, hN, hT⟩ := hv
  have hx := B.exec
  have hb := B.bytes
  have hr := B.returns
  have hts := atoms_spec (ws := w_Runs_countTargets) B.pre
  have hown : s.vm.findClass "LoopInduction$Runs" = some m.cls := findClass_of_methodNamed B.named
  have hlocks := B.notSynchronized
  subst hsz
  have hD := hD0.self (sz := s.heap.size)
  generalize hAe : va_A [(a_lp, .inr (4, [.ref a_lp_facts, .ref a_lp_turns, .ref a_lp_first, .ref a_lp_src, .ref a_s1, .int lp_choices, .int lp_guesses, .int lp_unaries, .int lp_ranked])), (a_lp_turns, .inl (cI, 24576, .inl lp_turns)), (a_rn, .inr (6, [.ref a_lp, .ref a_rn_levels, .ref a_rn_path, .ref a_s1, .ref a_s2, .ref a_wk, .int rn_reached, .int rn_greatestLevel, .int rn_pathSize]))] s.heap.size = A at hD hT ⊢
  have hA : ∀ q : Nat, s.heap.size ≤ q → A q := fun q h => by rw [← hAe]; exact Or.inr h
  have hS : va_S A s.heap s.heap [] := va_S.rf
  generalize hQ : MQ below _ _ s 0 0 _ = QQ
  have hl := lv_entry ([.ref a_rn, .int x1]) (n := 4) (Nat.le_of_ble_eq_true rfl)
  rw [lg_entry_eq]
  generalize (lg_sl ([.ref a_rn, .int x1]) ++ List.replicate (4 - (lg_sl ([.ref a_rn, .int x1])).length) Slot.unset).toArray = ls at hl ⊢
  have hl : lv_has ls 4 [(0, .ref a_rn), (1, .int x1)] := hl
  have fl_28 := (hts _ (List.mem_cons_of_mem _ m_297))
  refine lv_iconst (v := 0) hx hb d_Runs_countTargets_0 (by decide) ?_
  refine lv_istore_n (lv' := [(2, .int 0), (0, .ref a_rn), (1, .int x1)]) hx hb d_Runs_countTargets_1 rfl hl (by decide) rfl (fun ls hl => ?_)
  refine lv_iconst (v := 0) hx hb d_Runs_countTargets_2 (by decide) ?_
  refine lv_istore_n (lv' := [(3, .int 0), (2, .int 0), (0, .ref a_rn), (1, .int x1)]) hx hb d_Runs_countTargets_3 rfl hl (by decide) rfl (fun ls hl => ?_)
  have L4_q_3 : ∀ (k46 : Int32 → Prop) (hk46 : ∀ (x2_4 : Int32), k46 x2_4 → ∀ (H : Heap) (locs : List Loc), va_P (dC, dI) vwCl [(a_lp, .inr (4, [.ref a_lp_facts, .ref a_lp_turns, .ref a_lp_first, .ref a_lp_src, .ref a_s1, .int lp_choices, .int lp_guesses, .int lp_unaries, .int lp_ranked])), (a_lp_turns, .inl (cI, 24576, .inl lp_turns)), (a_rn, .inr (6, [.ref a_lp, .ref a_rn_levels, .ref a_rn_path, .ref a_s1, .ref a_s2, .ref a_wk, .int rn_reached, .int rn_greatestLevel, .int rn_pathSize]))] H → va_D A [(a_lp, .inr (4, [.ref a_lp_facts, .ref a_lp_turns, .ref a_lp_first, .ref a_lp_src, .ref a_s1, .int lp_choices, .int lp_guesses, .int lp_unaries, .int lp_ranked])), (a_lp_turns, .inl (cI, 24576, .inl lp_turns)), (a_rn, .inr (6, [.ref a_lp, .ref a_rn_levels, .ref a_rn_path, .ref a_s1, .ref a_s2, .ref a_wk, .int rn_reached, .int rn_greatestLevel, .int rn_pathSize]))] → va_S A s.heap H locs → ∀ ls : Array Slot, lv_has ls 4 [(2, .int x2_4)] → W p l e (headSpec w_Runs_countTargets ({ frames := 3, cells := 0, slots := 0, locals := 66 })).room s m (([.ref a_rn, .int x1] : List Value).toArray) below meth c H locs 0 0 QQ (F0 m 46 ls [])) (n : Nat) (x2_1 : Int32) (x3_2 : Int32), wp_Runs_countTargets_L4 x1 lp_choices lp_turns k46 n x2_1 x3_2 → ∀ (H : Heap) (locs : List Loc), va_P (dC, dI) vwCl [(a_lp, .inr (4, [.ref a_lp_facts, .ref a_lp_turns, .ref a_lp_first, .ref a_lp_src, .ref a_s1, .int lp_choices, .int lp_guesses, .int lp_unaries, .int lp_ranked])), (a_lp_turns, .inl (cI, 24576, .inl lp_turns)), (a_rn, .inr (6, [.ref a_lp, .ref a_rn_levels, .ref a_rn_path, .ref a_s1, .ref a_s2, .ref a_wk, .int rn_reached, .int rn_greatestLevel, .int rn_pathSize]))] H → va_D A [(a_lp, .inr (4, [.ref a_lp_facts, .ref a_lp_turns, .ref a_lp_first, .ref a_lp_src, .ref a_s1, .int lp_choices, .int lp_guesses, .int lp_unaries, .int lp_ranked])), (a_lp_turns, .inl (cI, 24576, .inl lp_turns)), (a_rn, .inr (6, [.ref a_lp, .ref a_rn_levels, .ref a_rn_path, .ref a_s1, .ref a_s2, .ref a_wk, .int rn_reached, .int rn_greatestLevel, .int rn_pathSize]))] → va_S A s.heap H locs → ∀ ls : Array Slot, lv_has ls 4 [(0, .ref a_rn), (1, .int x1), (2, .int x2_1), (3, .int x3_2)] → W p l e (headSpec w_Runs_countTargets ({ frames := 3, cells := 0, slots := 0, locals := 66 })).room s m (([.ref a_rn, .int x1] : List Value).toArray) below meth c H locs 0 0 QQ (F0 m 4 ls []) := by
    intro k46 hk46 n
    induction n with
    | zero => intro x2_1 x3_2 h; exact (show False from h).elim
    | succ n il =>
      intro x2_1 x3_2 h
      intro H locs hP hD hS ls hl
      refine lv_iload_n hx hb d_Runs_countTargets_4 rfl (lv_at hl 3 rfl) ?_
      refine lv_aload_n hx hb d_Runs_countTargets_5 rfl (lv_at hl 0 rfl) ?_
      refine va_get (D := (dC, dI)) (ci := 6) (v := .ref a_lp) (C := "LoopInduction$Runs") (T := F_Runs) (N := 9) hx hb hts iC_Runs hown hK hP 2 rfl rfl 0 (by decide) fl_28 (fun _ h9 => h9) rfl d_Runs_countTargets_6 ?_
      refine jn_i (wr := [(a_lp_turns, .inl (cI, 24576, .inl lp_turns)), (a_rn, .inr (6, [.ref a_lp, .ref a_rn_levels, .ref a_rn_path, .ref a_s1, .ref a_s2, .ref a_wk, .int rn_reached, .int rn_greatestLevel, .int rn_pathSize]))]) (va_runV (As := []) (rest := [.int x3_2]) ⟨hx, hb, hml, hown, hts⟩ (c_Loop_choices l dC dI cI cB cZ adK adV _ a_lp a_lp_facts a_lp_turns a_lp_first a_lp_src a_s1 lp_choices lp_guesses lp_unaries lp_ranked _ h) (cwV 0 hts (gv_ m_809 m_810 m_811 m_92 m_812) rfl rfl rfl pd_Loop_choices ⟨Nat.le_of_ble_eq_true rfl, Nat.le_of_ble_eq_true rfl⟩) ⟨pc_blind, va_recv hK hP (ci := 4) (q0 := 0) rfl rfl, pc_of (hP.sub [0] rfl) hK (hD.sub [0] (by decide) rfl) hN hT hS hA⟩ rfl rfl hl.1 rfl (lv_room (Nat.le_of_ble_eq_true rfl)) d_Runs_countTargets_9 ⟨Nat.zero_le _, Nat.zero_le _⟩) hP hD hS hA [0] [1, 2] rfl rfl (by decide) (by decide) (fun r_5 u_ H locs h hP hD hS => ?_)
      have hP : va_P (dC, dI) vwCl [(a_lp_turns, .inl (cI, 24576, .inl lp_turns)), (a_rn, .inr (6, [.ref a_lp, .ref a_rn_levels, .ref a_rn_path, .ref a_s1, .ref a_s2, .ref a_wk, .int rn_reached, .int rn_greatestLevel, .int rn_pathSize])), (a_lp, .inr (4, [.ref a_lp_facts, .ref a_lp_turns, .ref a_lp_first, .ref a_lp_src, .ref a_s1, .int lp_choices, .int lp_guesses, .int lp_unaries, .int lp_ranked]))] H := hP
      have hD : va_D A [(a_lp_turns, .inl (cI, 24576, .inl lp_turns)), (a_rn, .inr (6, [.ref a_lp, .ref a_rn_levels, .ref a_rn_path, .ref a_s1, .ref a_s2, .ref a_wk, .int rn_reached, .int rn_greatestLevel, .int rn_pathSize])), (a_lp, .inr (4, [.ref a_lp_facts, .ref a_lp_turns, .ref a_lp_first, .ref a_lp_src, .ref a_s1, .int lp_choices, .int lp_guesses, .int lp_unaries, .int lp_ranked]))] := hD
      refine lv_icmp_ge (tgt := 46) hx hb d_Runs_countTargets_12 (by decide) (fun c_12 => ?_) (fun c_12 => ?_)
      · have h := And.left h c_12
        exact hk46 _ h _ _ (hP.sub [2, 0, 1] rfl) (hD.sub [2, 0, 1] (by decide) rfl) hS _ (lv_sub hl [2] rfl)
      · have h := And.right h c_12
        refine lv_aload_n hx hb d_Runs_countTargets_15 rfl (lv_at hl 0 rfl) ?_
        refine va_get (D := (dC, dI)) (ci := 6) (v := .ref a_lp) (C := "LoopInduction$Runs") (T := F_Runs) (N := 9) hx hb hts iC_Runs hown hK hP 1 rfl rfl 0 (by decide) fl_28 (fun _ h9 => h9) rfl d_Runs_countTargets_16 ?_
        refine lv_iload_n hx hb d_Runs_countTargets_19 rfl (lv_at hl 1 rfl) ?_
        refine lv_iload_n hx hb d_Runs_countTargets_20 rfl (lv_at hl 3 rfl) ?_
        refine jn_i (wr := [(a_rn, .inr (6, [.ref a_lp, .ref a_rn_levels, .ref a_rn_path, .ref a_s1, .ref a_s2, .ref a_wk, .int rn_reached, .int rn_greatestLevel, .int rn_pathSize]))]) (va_runV (As := [.int x1, .int x3_2]) (rest := []) ⟨hx, hb, hml, hown, hts⟩ (c_Loop_turn l dC dI cI cB cZ adK adV _ a_lp a_lp_facts a_lp_turns a_lp_first a_lp_src a_s1 lp_choices lp_guesses lp_unaries lp_ranked lp_turns x1 x3_2 _ h) (cwV 2 hts (gv_ m_813 m_757 m_758 m_92 m_759) rfl rfl rfl pd_Loop_turn ⟨Nat.le_of_ble_eq_true rfl, Nat.le_of_ble_eq_true rfl⟩) ⟨pc_blind, va_recv hK hP (ci := 4) (q0 := 2) rfl rfl, pc_of (hP.sub [2, 0] rfl) hK (hD.sub [2, 0] (by decide) rfl) hN hT hS hA⟩ rfl rfl hl.1 rfl (lv_room (Nat.le_of_ble_eq_true rfl)) d_Runs_countTargets_21 ⟨Nat.zero_le _, Nat.zero_le _⟩) hP hD hS hA [2, 0] [1] rfl rfl (by decide) (by decide) (fun r_6 u_ H locs h hP hD hS => ?_)
        have hP : va_P (dC, dI) vwCl [(a_rn, .inr (6, [.ref a_lp, .ref a_rn_levels, .ref a_rn_path, .ref a_s1, .ref a_s2, .ref a_wk, .int rn_reached, .int rn_greatestLevel, .int rn_pathSize])), (a_lp, .inr (4, [.ref a_lp_facts, .ref a_lp_turns, .ref a_lp_first, .ref a_lp_src, .ref a_s1, .int lp_choices, .int lp_guesses, .int lp_unaries, .int lp_ranked])), (a_lp_turns, .inl (cI, 24576, .inl lp_turns))] H := hP
        have hD : va_D A [(a_rn, .inr (6, [.ref a_lp, .ref a_rn_levels, .ref a_rn_path, .ref a_s1, .ref a_s2, .ref a_wk, .int rn_reached, .int rn_greatestLevel, .int rn_pathSize])), (a_lp, .inr (4, [.ref a_lp_facts, .ref a_lp_turns, .ref a_lp_first, .ref a_lp_src, .ref a_s1, .int lp_choices, .int lp_guesses, .int lp_unaries, .int lp_ranked])), (a_lp_turns, .inl (cI, 24576, .inl lp_turns))] := hD
        refine lv_iconst (v := (-1)) hx hb d_Runs_countTargets_24 (by decide) ?_
        refine lv_icmp_eq (tgt := 40) hx hb d_Runs_countTargets_25 (by decide) (fun c_25 => ?_) (fun c_25 => ?_)
        · have h := And.left h c_25
          refine lv_iinc (v := x3_2 + 1) (lv' := [(3, .int (x3_2 + 1)), (0, .ref a_rn), (1, .int x1), (2, .int x2_1)]) hx hb d_Runs_countTargets_40 hl (k := 3) rfl rfl (by decide) rfl (fun ls hl => ?_)
          refine lv_goto (tgt := 4) hx hb d_Runs_countTargets_43 (by decide) ?_
          exact il _ _ h _ _ (hP.sub [1, 2, 0] rfl) (hD.sub [1, 2, 0] (by decide) rfl) hS _ (lv_sub hl [1, 2, 3, 0] rfl)
        · have h := And.right h c_25
          refine lv_aload_n hx hb d_Runs_countTargets_28 rfl (lv_at hl 0 rfl) ?_
          refine lv_iload_n hx hb d_Runs_countTargets_29 rfl (lv_at hl 1 rfl) ?_
          refine lv_iload_n hx hb d_Runs_countTargets_30 rfl (lv_at hl 3 rfl) ?_
          refine jn_i (wr := []) (va_runV (As := [.int x1, .int x3_2]) (rest := []) ⟨hx, hb, hml, hown, hts⟩ (c_Runs_isNewTarget l dC dI cI cB cZ adK adV _ a_lp a_lp_facts a_lp_turns a_lp_first a_lp_src a_s1 a_rn a_rn_levels a_rn_path a_s2 a_wk lp_choices lp_guesses lp_unaries lp_ranked lp_turns rn_reached rn_greatestLevel rn_pathSize x1 x3_2 _ h) (cwV 2 hts (gv_ m_944 m_946 m_41 m_93 m_947) rfl rfl rfl pd_Runs_isNewTarget ⟨Nat.le_of_ble_eq_true rfl, Nat.le_of_ble_eq_true rfl⟩) ⟨pc_blind, va_recv hK hP (ci := 6) (q0 := 0) rfl rfl, pc_of (hP.sub [1, 2, 0] rfl) hK (hD.sub [1, 2, 0] (by decide) rfl) hN hT hS hA⟩ rfl rfl hl.1 rfl (lv_room (Nat.le_of_ble_eq_true rfl)) d_Runs_countTargets_31 ⟨Nat.zero_le _, Nat.zero_le _⟩) hP hD hS hA [1, 2, 0] [] rfl rfl (by decide) (by decide) (fun r_7 u_ H locs h hP hD hS => ?_)
          have hP : va_P (dC, dI) vwCl [(a_lp, .inr (4, [.ref a_lp_facts, .ref a_lp_turns, .ref a_lp_first, .ref a_lp_src, .ref a_s1, .int lp_choices, .int lp_guesses, .int lp_unaries, .int lp_ranked])), (a_lp_turns, .inl (cI, 24576, .inl lp_turns)), (a_rn, .inr (6, [.ref a_lp, .ref a_rn_levels, .ref a_rn_path, .ref a_s1, .ref a_s2, .ref a_wk, .int rn_reached, .int rn_greatestLevel, .int rn_pathSize]))] H := hP
          have hD : va_D A [(a_lp, .inr (4, [.ref a_lp_facts, .ref a_lp_turns, .ref a_lp_first, .ref a_lp_src, .ref a_s1, .int lp_choices, .int lp_guesses, .int lp_unaries, .int lp_ranked])), (a_lp_turns, .inl (cI, 24576, .inl lp_turns)), (a_rn, .inr (6, [.ref a_lp, .ref a_rn_levels, .ref a_rn_path, .ref a_s1, .ref a_s2, .ref a_wk, .int rn_reached, .int rn_greatestLevel, .int rn_pathSize]))] := hD
          refine lv_if_eq (tgt := 40) hx hb d_Runs_countTargets_34 (by decide) (fun c_34 => ?_) (fun c_34 => ?_)
          · have h := And.left h c_34
            refine lv_iinc (v := x3_2 + 1) (lv' := [(3, .int (x3_2 + 1)), (0, .ref a_rn), (1, .int x1), (2, .int x2_1)]) hx hb d_Runs_countTargets_40 hl (k := 3) rfl rfl (by decide) rfl (fun ls hl => ?_)
            refine lv_goto (tgt := 4) hx hb d_Runs_countTargets_43 (by decide) ?_
            exact il _ _ h _ _ hP hD hS _ (lv_sub hl [1, 2, 3, 0] rfl)
          · have h := And.right h c_34
            refine lv_iinc (v := x2_1 + 1) (lv' := [(2, .int (x2_1 + 1)), (0, .ref a_rn), (1, .int x1), (3, .int x3_2)]) hx hb d_Runs_countTargets_37 hl (k := 2) rfl rfl (by decide) rfl (fun ls hl => ?_)
            refine lv_iinc (v := x3_2 + 1) (lv' := [(3, .int (x3_2 + 1)), (2, .int (x2_1 + 1)), (0, .ref a_rn), (1, .int x1)]) hx hb d_Runs_countTargets_40 hl (k := 3) rfl rfl (by decide) rfl (fun ls hl => ?_)
            refine lv_goto (tgt := 4) hx hb d_Runs_countTargets_43 (by decide) ?_
            exact il _ _ h _ _ hP hD hS _ (lv_sub hl [2, 3, 1, 0] rfl)
  obtain ⟨n_, h⟩ := h
  refine L4_q_3 _ ?_ n_ _ _ h _ _ hP hD hS _ (lv_sub hl [2, 3, 1, 0] rfl)
  intro x2_8 h
  intro H locs hP hD hS ls hl
  refine lv_iload_n hx hb d_Runs_countTargets_46 rfl (lv_at hl 0 rfl) ?_
  rw [← hQ]
  have hP9 := hP
  have hD9 := hD
  exact W.iret (v := x2_8) hx hb hr (fun t ht hW => ⟨⟨x2_8, (), rfl, h, by rw [ht]; exact hP9, va_K.moved hW.alike hK, hD9⟩, hS.F ht⟩) hS.2.2 d_Runs_countTargets_47
set_option maxHeartbeats 4000000 in
set_option maxRecDepth 100000 in
theorem c_Runs_countPairs (l : Launch) (dC : Nat → ClassId) (dI : Nat → Nat → Nat) (cI cB cZ : ClassId) (adK adV : Nat → Nat) (sz : Nat) (a_lp a_lp_facts a_lp_turns a_lp_first a_lp_src a_s1 a_rn a_rn_levels a_rn_path a_s2 a_wk : Nat) (lp_choices : Int32) (lp_guesses : Int32) (lp_unaries : Int32) (lp_ranked : Int32) (lp_facts : Nat → Int32) (lp_turns : Nat → Int32) (rn_reached : Int32) (rn_greatestLevel : Int32) (rn_pathSize : Int32) (post : Int32 → Prop) (h : wp_Runs_countPairs lp_choices lp_facts lp_turns post) : Met l y_Runs_countPairs w_Runs_countPairs ({ frames := 4, cells := 0, slots := 0, locals := 89 }) (pc_ (dC, dI) [(cI, .int), (cB, .byte), (cZ, .boolean)] [(a_lp, .inr (4, [.ref a_lp_facts, .ref a_lp_turns, .ref a_lp_first, .ref a_lp_src, .ref a_s1, .int lp_choices, .int lp_guesses, .int lp_unaries, .int lp_ranked])), (a_lp_facts, .inl (cI, 4096, .inl lp_facts)), (a_lp_turns, .inl (cI, 24576, .inl lp_turns)), (a_rn, .inr (6, [.ref a_lp, .ref a_rn_levels, .ref a_rn_path, .ref a_s1, .ref a_s2, .ref a_wk, .int rn_reached, .int rn_greatestLevel, .int rn_pathSize]))] sz adK adV [.ref a_rn]) (va_Qi (fun (r : Int32) (u : Unit) => post r ) (fun (u : Unit) t => bw_ (dC, dI) [(cI, .int), (cB, .byte), (cZ, .boolean)] (va_A [(a_lp, .inr (4, [.ref a_lp_facts, .ref a_lp_turns, .ref a_lp_first, .ref a_lp_src, .ref a_s1, .int lp_choices, .int lp_guesses, .int lp_unaries, .int lp_ranked])), (a_lp_facts, .inl (cI, 4096, .inl lp_facts)), (a_lp_turns, .inl (cI, 24576, .inl lp_turns)), (a_rn, .inr (6, [.ref a_lp, .ref a_rn_levels, .ref a_rn_path, .ref a_s1, .ref a_s2, .ref a_wk, .int rn_reached, .int rn_greatestLevel, .int rn_pathSize]))] sz) [(a_lp, .inr (4, [.ref a_lp_facts, .ref a_lp_turns, .ref a_lp_first, .ref a_lp_src, .ref a_s1, .int lp_choices, .int lp_guesses, .int lp_unaries, .int lp_ranked])), (a_lp_facts, .inl (cI, 4096, .inl lp_facts)), (a_lp_turns, .inl (cI, 24576, .inl lp_turns)), (a_rn, .inr (6, [.ref a_lp, .ref a_rn_levels, .ref a_rn_path, .ref a_s1, .ref a_s2, .ref a_wk, .int rn_reached, .int rn_greatestLevel, .int rn_pathSize]))] t) (va_A [(a_lp, .inr (4, [.ref a_lp_facts, .ref a_lp_turns, .ref a_lp_first, .ref a_lp_src, .ref a_s1, .int lp_choices, .int lp_guesses, .int lp_unaries, .int lp_ranked])), (a_lp_facts, .inl (cI, 4096, .inl lp_facts)), (a_lp_turns, .inl (cI, 24576, .inl lp_turns)), (a_rn, .inr (6, [.ref a_lp, .ref a_rn_levels, .ref a_rn_path, .ref a_s1, .ref a_s2, .ref a_wk, .int rn_reached, .int rn_greatestLevel, .int rn_pathSize]))] sz)) 0 0 (va_A [(a_lp, .inr (4, [.ref a_lp_facts, .ref a_lp_turns, .ref a_lp_first, .ref a_lp_src, .ref a_s1, .int lp_choices, .int lp_guesses, .int lp_unaries, .int lp_ranked])), (a_lp_facts, .inl (cI, 4096, .inl lp_facts)), (a_lp_turns, .inl (cI, 24576, .inl lp_turns)), (a_rn, .inr (6, [.ref a_lp, .ref a_rn_levels, .ref a_rn_path, .ref a_s1, .ref a_s2, .ref a_wk, .int rn_reached, .int rn_greatestLevel, .int rn_pathSize]))] sz) := by
  refine Met.ofW (cc := b_Runs_countPairs) (maxL := 3) (ret := (some .int)) (by decide) rfl ?_
  intro p e s m args below meth c s₁ B hml hv
  obtain ⟨rfl, hsz, hP, hK, hD0, hN, hT⟩ := hv
  have hx := B.exec
  have hb := B.bytes
  have hr := B.returns
  have hts := atoms_spec (ws := w_Runs_countPairs) B.pre
  have hown : s.vm.findClass "LoopInduction$Runs" = some m.cls := findClass_of_methodNamed B.named
  have hlocks := B.notSynchronized
  subst hsz
  have hD := hD0.self (sz := s.heap.size)
  generalize hAe : va_A [(a_lp, .inr (4, [.ref a_lp_facts, .ref a_lp_turns, .ref a_lp_first, .ref a_lp_src, .ref a_s1, .int lp_choices, .int lp_guesses, .int lp_unaries, .int lp_ranked])), (a_lp_facts, .inl (cI, 4096, .inl lp_facts)), (a_lp_turns, .inl (cI, 24576, .inl lp_turns)), (a_rn, .inr (6, [.ref a_lp, .ref a_rn_levels, .ref a_rn_path, .ref a_s1, .ref a_s2, .ref a_wk, .int rn_reached, .int rn_greatestLevel, .int rn_pathSize]))] s.heap.size = A at hD hT ⊢
  have hA : ∀ q : Nat, s.heap.size ≤ q → A q := fun q h => by rw [← hAe]; exact Or.inr h
  have hS : va_S A s.heap s.heap [] := va_S.rf
  generalize hQ : MQ below _ _ s 0 0 _ = QQ
  have hl := lv_entry ([.ref a_rn]) (n := 3) (Nat.le_of_ble_eq_true rfl)
  rw [lg_entry_eq]
  generalize (lg_sl ([.ref a_rn]) ++ List.replicate (3 - (lg_sl ([.ref a_rn])).length) Slot.unset).toArray = ls at hl ⊢
  have hl : lv_has ls 3 [(0, .ref a_rn)] := hl
  have fl_28 := (hts _ (List.mem_cons_of_mem _ m_297))
  refine lv_iconst (v := 0) hx hb d_Runs_countPairs_0 (by decide) ?_
  refine lv_istore_n (lv' := [(1, .int 0), (0, .ref a_rn)]) hx hb d_Runs_countPairs_1 rfl hl (by decide) rfl (fun ls hl => ?_)
  refine lv_iconst (v := 0) hx hb d_Runs_countPairs_2 (by decide) ?_
  refine lv_istore_n (lv' := [(2, .int 0), (1, .int 0), (0, .ref a_rn)]) hx hb d_Runs_countPairs_3 rfl hl (by decide) rfl (fun ls hl => ?_)
  have L4_q_3 : ∀ (k37 : Int32 → Prop) (hk37 : ∀ (x1_4 : Int32), k37 x1_4 → ∀ (H : Heap) (locs : List Loc), va_P (dC, dI) vwCl [(a_lp, .inr (4, [.ref a_lp_facts, .ref a_lp_turns, .ref a_lp_first, .ref a_lp_src, .ref a_s1, .int lp_choices, .int lp_guesses, .int lp_unaries, .int lp_ranked])), (a_lp_facts, .inl (cI, 4096, .inl lp_facts)), (a_lp_turns, .inl (cI, 24576, .inl lp_turns)), (a_rn, .inr (6, [.ref a_lp, .ref a_rn_levels, .ref a_rn_path, .ref a_s1, .ref a_s2, .ref a_wk, .int rn_reached, .int rn_greatestLevel, .int rn_pathSize]))] H → va_D A [(a_lp, .inr (4, [.ref a_lp_facts, .ref a_lp_turns, .ref a_lp_first, .ref a_lp_src, .ref a_s1, .int lp_choices, .int lp_guesses, .int lp_unaries, .int lp_ranked])), (a_lp_facts, .inl (cI, 4096, .inl lp_facts)), (a_lp_turns, .inl (cI, 24576, .inl lp_turns)), (a_rn, .inr (6, [.ref a_lp, .ref a_rn_levels, .ref a_rn_path, .ref a_s1, .ref a_s2, .ref a_wk, .int rn_reached, .int rn_greatestLevel, .int rn_pathSize]))] → va_S A s.heap H locs → ∀ ls : Array Slot, lv_has ls 3 [(1, .int x1_4)] → W p l e (headSpec w_Runs_countPairs ({ frames := 4, cells := 0, slots := 0, locals := 89 })).room s m (([.ref a_rn] : List Value).toArray) below meth c H locs 0 0 QQ (F0 m 37 ls [])) (n : Nat) (x1_1 : Int32) (x2_2 : Int32), wp_Runs_countPairs_L4 lp_choices lp_facts lp_turns k37 n x1_1 x2_2 → ∀ (H : Heap) (locs : List Loc), va_P (dC, dI) vwCl [(a_lp, .inr (4, [.ref a_lp_facts, .ref a_lp_turns, .ref a_lp_first, .ref a_lp_src, .ref a_s1, .int lp_choices, .int lp_guesses, .int lp_unaries, .int lp_ranked])), (a_lp_facts, .inl (cI, 4096, .inl lp_facts)), (a_lp_turns, .inl (cI, 24576, .inl lp_turns)), (a_rn, .inr (6, [.ref a_lp, .ref a_rn_levels, .ref a_rn_path, .ref a_s1, .ref a_s2, .ref a_wk, .int rn_reached, .int rn_greatestLevel, .int rn_pathSize]))] H → va_D A [(a_lp, .inr (4, [.ref a_lp_facts, .ref a_lp_turns, .ref a_lp_first, .ref a_lp_src, .ref a_s1, .int lp_choices, .int lp_guesses, .int lp_unaries, .int lp_ranked])), (a_lp_facts, .inl (cI, 4096, .inl lp_facts)), (a_lp_turns, .inl (cI, 24576, .inl lp_turns)), (a_rn, .inr (6, [.ref a_lp, .ref a_rn_levels, .ref a_rn_path, .ref a_s1, .ref a_s2, .ref a_wk, .int rn_reached, .int rn_greatestLevel, .int rn_pathSize]))] → va_S A s.heap H locs → ∀ ls : Array Slot, lv_has ls 3 [(0, .ref a_rn), (1, .int x1_1), (2, .int x2_2)] → W p l e (headSpec w_Runs_countPairs ({ frames := 4, cells := 0, slots := 0, locals := 89 })).room s m (([.ref a_rn] : List Value).toArray) below meth c H locs 0 0 QQ (F0 m 4 ls []) := by
    intro k37 hk37 n
    induction n with
    | zero => intro x1_1 x2_2 h; exact (show False from h).elim
    | succ n il =>
      intro x1_1 x2_2 h
      intro H locs hP hD hS ls hl
      refine lv_iload_n hx hb d_Runs_countPairs_4 rfl (lv_at hl 2 rfl) ?_
      refine lv_sipush (v := 4096) hx hb d_Runs_countPairs_5 (by decide) ?_
      refine lv_icmp_ge (tgt := 37) hx hb d_Runs_countPairs_8 (by decide) (fun c_8 => ?_) (fun c_8 => ?_)
      · have h := And.left h c_8
        exact hk37 _ h _ _ hP hD hS _ (lv_sub hl [1] rfl)
      · have h := And.right h c_8
        refine lv_aload_n hx hb d_Runs_countPairs_11 rfl (lv_at hl 0 rfl) ?_
        refine va_get (D := (dC, dI)) (ci := 6) (v := .ref a_lp) (C := "LoopInduction$Runs") (T := F_Runs) (N := 9) hx hb hts iC_Runs hown hK hP 3 rfl rfl 0 (by decide) fl_28 (fun _ h9 => h9) rfl d_Runs_countPairs_12 ?_
        refine lv_iload_n hx hb d_Runs_countPairs_15 rfl (lv_at hl 2 rfl) ?_
        refine lv_iconst (v := 4) hx hb d_Runs_countPairs_16 (by decide) ?_
        refine jn_i (wr := [(a_lp_turns, .inl (cI, 24576, .inl lp_turns)), (a_rn, .inr (6, [.ref a_lp, .ref a_rn_levels, .ref a_rn_path, .ref a_s1, .ref a_s2, .ref a_wk, .int rn_reached, .int rn_greatestLevel, .int rn_pathSize]))]) (va_runV (As := [.int x2_2, .int 4]) (rest := []) ⟨hx, hb, hml, hown, hts⟩ (c_Loop_hasAll l dC dI cI cB cZ adK adV _ a_lp a_lp_facts a_lp_turns a_lp_first a_lp_src a_s1 lp_choices lp_guesses lp_unaries lp_ranked lp_facts x2_2 4 _ h) (cwV 2 hts (gv_ m_784 m_785 m_786 m_92 m_787) rfl rfl rfl pd_Loop_hasAll ⟨Nat.le_of_ble_eq_true rfl, Nat.le_of_ble_eq_true rfl⟩) ⟨pc_blind, va_recv hK hP (ci := 4) (q0 := 0) rfl rfl, pc_of (hP.sub [0, 1] rfl) hK (hD.sub [0, 1] (by decide) rfl) hN hT hS hA⟩ rfl rfl hl.1 rfl (lv_room (Nat.le_of_ble_eq_true rfl)) d_Runs_countPairs_17 ⟨Nat.zero_le _, Nat.zero_le _⟩) hP hD hS hA [0, 1] [2, 3] rfl rfl (by decide) (by decide) (fun r_5 u_ H locs h hP hD hS => ?_)
        have hP : va_P (dC, dI) vwCl [(a_lp_turns, .inl (cI, 24576, .inl lp_turns)), (a_rn, .inr (6, [.ref a_lp, .ref a_rn_levels, .ref a_rn_path, .ref a_s1, .ref a_s2, .ref a_wk, .int rn_reached, .int rn_greatestLevel, .int rn_pathSize])), (a_lp, .inr (4, [.ref a_lp_facts, .ref a_lp_turns, .ref a_lp_first, .ref a_lp_src, .ref a_s1, .int lp_choices, .int lp_guesses, .int lp_unaries, .int lp_ranked])), (a_lp_facts, .inl (cI, 4096, .inl lp_facts))] H := hP
        have hD : va_D A [(a_lp_turns, .inl (cI, 24576, .inl lp_turns)), (a_rn, .inr (6, [.ref a_lp, .ref a_rn_levels, .ref a_rn_path, .ref a_s1, .ref a_s2, .ref a_wk, .int rn_reached, .int rn_greatestLevel, .int rn_pathSize])), (a_lp, .inr (4, [.ref a_lp_facts, .ref a_lp_turns, .ref a_lp_first, .ref a_lp_src, .ref a_s1, .int lp_choices, .int lp_guesses, .int lp_unaries, .int lp_ranked])), (a_lp_facts, .inl (cI, 4096, .inl lp_facts))] := hD
        refine lv_if_eq (tgt := 31) hx hb d_Runs_countPairs_20 (by decide) (fun c_20 => ?_) (fun c_20 => ?_)
        · have h := And.left h c_20
          refine lv_iinc (v := x2_2 + 1) (lv' := [(2, .int (x2_2 + 1)), (0, .ref a_rn), (1, .int x1_1)]) hx hb d_Runs_countPairs_31 hl (k := 2) rfl rfl (by decide) rfl (fun ls hl => ?_)
          refine lv_goto (tgt := 4) hx hb d_Runs_countPairs_34 (by decide) ?_
          exact il _ _ h _ _ (hP.sub [2, 3, 0, 1] rfl) (hD.sub [2, 3, 0, 1] (by decide) rfl) hS _ (lv_sub hl [1, 2, 0] rfl)
        · have h := And.right h c_20
          refine lv_iload_n hx hb d_Runs_countPairs_23 rfl (lv_at hl 1 rfl) ?_
          refine lv_aload_n hx hb d_Runs_countPairs_24 rfl (lv_at hl 0 rfl) ?_
          refine lv_iload_n hx hb d_Runs_countPairs_25 rfl (lv_at hl 2 rfl) ?_
          refine jn_i (wr := [(a_lp_facts, .inl (cI, 4096, .inl lp_facts))]) (va_runV (As := [.int x2_2]) (rest := [.int x1_1]) ⟨hx, hb, hml, hown, hts⟩ (c_Runs_countTargets l dC dI cI cB cZ adK adV _ a_lp a_lp_facts a_lp_turns a_lp_first a_lp_src a_s1 a_rn a_rn_levels a_rn_path a_s2 a_wk lp_choices lp_guesses lp_unaries lp_ranked lp_turns rn_reached rn_greatestLevel rn_pathSize x2_2 _ h) (cwV 1 hts (gv_ m_940 m_942 m_40 m_93 m_943) rfl rfl rfl pd_Runs_countTargets ⟨Nat.le_of_ble_eq_true rfl, Nat.le_of_ble_eq_true rfl⟩) ⟨pc_blind, va_recv hK hP (ci := 6) (q0 := 1) rfl rfl, pc_of (hP.sub [2, 0, 1] rfl) hK (hD.sub [2, 0, 1] (by decide) rfl) hN hT hS hA⟩ rfl rfl hl.1 rfl (lv_room (Nat.le_of_ble_eq_true rfl)) d_Runs_countPairs_26 ⟨Nat.zero_le _, Nat.zero_le _⟩) hP hD hS hA [2, 0, 1] [3] rfl rfl (by decide) (by decide) (fun r_6 u_ H locs h hP hD hS => ?_)
          have hP : va_P (dC, dI) vwCl [(a_lp_facts, .inl (cI, 4096, .inl lp_facts)), (a_lp, .inr (4, [.ref a_lp_facts, .ref a_lp_turns, .ref a_lp_first, .ref a_lp_src, .ref a_s1, .int lp_choices, .int lp_guesses, .int lp_unaries, .int lp_ranked])), (a_lp_turns, .inl (cI, 24576, .inl lp_turns)), (a_rn, .inr (6, [.ref a_lp, .ref a_rn_levels, .ref a_rn_path, .ref a_s1, .ref a_s2, .ref a_wk, .int rn_reached, .int rn_greatestLevel, .int rn_pathSize]))] H := hP
          have hD : va_D A [(a_lp_facts, .inl (cI, 4096, .inl lp_facts)), (a_lp, .inr (4, [.ref a_lp_facts, .ref a_lp_turns, .ref a_lp_first, .ref a_lp_src, .ref a_s1, .int lp_choices, .int lp_guesses, .int lp_unaries, .int lp_ranked])), (a_lp_turns, .inl (cI, 24576, .inl lp_turns)), (a_rn, .inr (6, [.ref a_lp, .ref a_rn_levels, .ref a_rn_path, .ref a_s1, .ref a_s2, .ref a_wk, .int rn_reached, .int rn_greatestLevel, .int rn_pathSize]))] := hD
          refine lv_iadd hx hb d_Runs_countPairs_29 ?_
          refine lv_topi (fun x1_7 ex1_7 => ?_)
          have h := h x1_7 ex1_7
          refine lv_istore_n (lv' := [(1, .int x1_7), (0, .ref a_rn), (2, .int x2_2)]) hx hb d_Runs_countPairs_30 rfl hl (by decide) rfl (fun ls hl => ?_)
          refine lv_iinc (v := x2_2 + 1) (lv' := [(2, .int (x2_2 + 1)), (1, .int x1_7), (0, .ref a_rn)]) hx hb d_Runs_countPairs_31 hl (k := 2) rfl rfl (by decide) rfl (fun ls hl => ?_)
          refine lv_goto (tgt := 4) hx hb d_Runs_countPairs_34 (by decide) ?_
          exact il _ _ h _ _ (hP.sub [1, 0, 2, 3] rfl) (hD.sub [1, 0, 2, 3] (by decide) rfl) hS _ (lv_sub hl [2, 1, 0] rfl)
  obtain ⟨n_, h⟩ := h
  refine L4_q_3 _ ?_ n_ _ _ h _ _ hP hD hS _ (lv_sub hl [2, 1, 0] rfl)
  intro x1_8 h
  intro H locs hP hD hS ls hl
  refine lv_iload_n hx hb d_Runs_countPairs_37 rfl (lv_at hl 0 rfl) ?_
  rw [← hQ]
  have hP9 := hP
  have hD9 := hD
  exact W.iret (v := x1_8) hx hb hr (fun t ht hW => ⟨⟨x1_8, (), rfl, h, by rw [ht]; exact hP9, va_K.moved hW.alike hK, hD9⟩, hS.F ht⟩) hS.2.2 d_Runs_countPairs_38
set_option maxHeartbeats 4000000 in
set_option maxRecDepth 100000 in
theorem c_Runs_rankFallsFrom (l : Launch) (dC : Nat → ClassId) (dI : Nat → Nat → Nat) (cI cB cZ : ClassId) (adK adV : Nat → Nat) (sz : Nat) (a_lp a_lp_facts a_lp_turns a_lp_first a_lp_src a_s1 a_rn a_rn_levels a_rn_path a_s2 a_wk : Nat) (lp_choices : Int32) (lp_guesses : Int32) (lp_unaries : Int32) (lp_ranked : Int32) (lp_facts : Nat → Int32) (lp_turns : Nat → Int32) (rn_reached : Int32) (rn_greatestLevel : Int32) (rn_pathSize : Int32) (x1 : Int32) (post : Int32 → Prop) (h : wp_Runs_rankFallsFrom x1 lp_choices lp_facts lp_turns post) : Met l y_Runs_rankFallsFrom w_Runs_rankFallsFrom ({ frames := 2, cells := 0, slots := 0, locals := 42 }) (pc_ (dC, dI) [(cI, .int), (cB, .byte), (cZ, .boolean)] [(a_lp, .inr (4, [.ref a_lp_facts, .ref a_lp_turns, .ref a_lp_first, .ref a_lp_src, .ref a_s1, .int lp_choices, .int lp_guesses, .int lp_unaries, .int lp_ranked])), (a_lp_facts, .inl (cI, 4096, .inl lp_facts)), (a_lp_turns, .inl (cI, 24576, .inl lp_turns)), (a_rn, .inr (6, [.ref a_lp, .ref a_rn_levels, .ref a_rn_path, .ref a_s1, .ref a_s2, .ref a_wk, .int rn_reached, .int rn_greatestLevel, .int rn_pathSize]))] sz adK adV [.ref a_rn, .int x1]) (va_Qi (fun (r : Int32) (u : Unit) => post r ) (fun (u : Unit) t => bw_ (dC, dI) [(cI, .int), (cB, .byte), (cZ, .boolean)] (va_A [(a_lp, .inr (4, [.ref a_lp_facts, .ref a_lp_turns, .ref a_lp_first, .ref a_lp_src, .ref a_s1, .int lp_choices, .int lp_guesses, .int lp_unaries, .int lp_ranked])), (a_lp_facts, .inl (cI, 4096, .inl lp_facts)), (a_lp_turns, .inl (cI, 24576, .inl lp_turns)), (a_rn, .inr (6, [.ref a_lp, .ref a_rn_levels, .ref a_rn_path, .ref a_s1, .ref a_s2, .ref a_wk, .int rn_reached, .int rn_greatestLevel, .int rn_pathSize]))] sz) [(a_lp, .inr (4, [.ref a_lp_facts, .ref a_lp_turns, .ref a_lp_first, .ref a_lp_src, .ref a_s1, .int lp_choices, .int lp_guesses, .int lp_unaries, .int lp_ranked])), (a_lp_facts, .inl (cI, 4096, .inl lp_facts)), (a_lp_turns, .inl (cI, 24576, .inl lp_turns)), (a_rn, .inr (6, [.ref a_lp, .ref a_rn_levels, .ref a_rn_path, .ref a_s1, .ref a_s2, .ref a_wk, .int rn_reached, .int rn_greatestLevel, .int rn_pathSize]))] t) (va_A [(a_lp, .inr (4, [.ref a_lp_facts, .ref a_lp_turns, .ref a_lp_first, .ref a_lp_src, .ref a_s1, .int lp_choices, .int lp_guesses, .int lp_unaries, .int lp_ranked])), (a_lp_facts, .inl (cI, 4096, .inl lp_facts)), (a_lp_turns, .inl (cI, 24576, .inl lp_turns)), (a_rn, .inr (6, [.ref a_lp, .ref a_rn_levels, .ref a_rn_path, .ref a_s1, .ref a_s2, .ref a_wk, .int rn_reached, .int rn_greatestLevel, .int rn_pathSize]))] sz)) 0 0 (va_A [(a_lp, .inr (4, [.ref a_lp_facts, .ref a_lp_turns, .ref a_lp_first, .ref a_lp_src, .ref a_s1, .int lp_choices, .int lp_guesses, .int lp_unaries, .int lp_ranked])), (a_lp_facts, .inl (cI, 4096, .inl lp_facts)), (a_lp_turns, .inl (cI, 24576, .inl lp_turns)), (a_rn, .inr (6, [.ref a_lp, .ref a_rn_levels, .ref a_rn_path, .ref a_s1, .ref a_s2, .ref a_wk, .int rn_reached, .int rn_greatestLevel, .int rn_pathSize]))] sz) := by
  refine Met.ofW (cc := b_Runs_rankFallsFrom) (maxL := 5) (ret := (some .boolean)) (by decide) rfl ?_
  intro p e s m args below meth c s₁ B hml hv
  obtain ⟨rfl, hsz, hP, hK, hD0, hN, hT⟩ := hv
  have hx := B.exec
  have hb := B.bytes
  have hr := B.returns
  have hts := atoms_spec (ws := w_Runs_rankFallsFrom) B.pre
  have hown : s.vm.findClass "LoopInduction$Runs" = some m.cls := findClass_of_methodNamed B.named
  have hlocks := B.notSynchronized
  subst hsz
  have hD := hD0.self (sz := s.heap.size)
  generalize hAe : va_A [(a_lp, .inr (4, [.ref a_lp_facts, .ref a_lp_turns, .ref a_lp_first, .ref a_lp_src, .ref a_s1, .int lp_choices, .int lp_guesses, .int lp_unaries, .int lp_ranked])), (a_lp_facts, .inl (cI, 4096, .inl lp_facts)), (a_lp_turns, .inl (cI, 24576, .inl lp_turns)), (a_rn, .inr (6, [.ref a_lp, .ref a_rn_levels, .ref a_rn_path, .ref a_s1, .ref a_s2, .ref a_wk, .int rn_reached, .int rn_greatestLevel, .int rn_pathSize]))] s.heap.size = A at hD hT ⊢
  have hA : ∀ q : Nat, s.heap.size ≤ q → A q := fun q h => by rw [← hAe]; exact Or.inr h
  have hS : va_S A s.heap s.heap [] := va_S.rf
  generalize hQ : MQ below _ _ s 0 0 _ = QQ
  have hl := lv_entry ([.ref a_rn, .int x1]) (n := 5) (Nat.le_of_ble_eq_true rfl)
  rw [lg_entry_eq]
  generalize (lg_sl ([.ref a_rn, .int x1]) ++ List.replicate (5 - (lg_sl ([.ref a_rn, .int x1])).length) Slot.unset).toArray = ls at hl ⊢
  have hl : lv_has ls 5 [(0, .ref a_rn), (1, .int x1)] := hl
  have fl_28 := (hts _ (List.mem_cons_of_mem _ m_297))
  refine lv_aload_n hx hb d_Runs_rankFallsFrom_0 rfl (lv_at hl 0 rfl) ?_
  refine va_get (D := (dC, dI)) (ci := 6) (v := .ref a_lp) (C := "LoopInduction$Runs") (T := F_Runs) (N := 9) hx hb hts iC_Runs hown hK hP 3 rfl rfl 0 (by decide) fl_28 (fun _ h9 => h9) rfl d_Runs_rankFallsFrom_1 ?_
  refine lv_iload_n hx hb d_Runs_rankFallsFrom_4 rfl (lv_at hl 1 rfl) ?_
  refine jn_i (wr := [(a_lp_turns, .inl (cI, 24576, .inl lp_turns)), (a_rn, .inr (6, [.ref a_lp, .ref a_rn_levels, .ref a_rn_path, .ref a_s1, .ref a_s2, .ref a_wk, .int rn_reached, .int rn_greatestLevel, .int rn_pathSize]))]) (va_runV (As := [.int x1]) (rest := []) ⟨hx, hb, hml, hown, hts⟩ (c_Loop_rankOf l dC dI cI cB cZ adK adV _ a_lp a_lp_facts a_lp_turns a_lp_first a_lp_src a_s1 lp_choices lp_guesses lp_unaries lp_ranked lp_facts x1 _ h) (cwV 1 hts (gv_ m_1023 m_920 m_921 m_92 m_922) rfl rfl rfl pd_Loop_rankOf ⟨Nat.le_of_ble_eq_true rfl, Nat.le_of_ble_eq_true rfl⟩) ⟨pc_blind, va_recv hK hP (ci := 4) (q0 := 0) rfl rfl, pc_of (hP.sub [0, 1] rfl) hK (hD.sub [0, 1] (by decide) rfl) hN hT hS hA⟩ rfl rfl hl.1 rfl (lv_room (Nat.le_of_ble_eq_true rfl)) d_Runs_rankFallsFrom_5 ⟨Nat.zero_le _, Nat.zero_le _⟩) hP hD hS hA [0, 1] [2, 3] rfl rfl (by decide) (by decide) (fun r_1 u_ H locs h hP hD hS => ?_)
  have hP : va_P (dC, dI) vwCl [(a_lp_turns, .inl (cI, 24576, .inl lp_turns)), (a_rn, .inr (6, [.ref a_lp, .ref a_rn_levels, .ref a_rn_path, .ref a_s1, .ref a_s2, .ref a_wk, .int rn_reached, .int rn_greatestLevel, .int rn_pathSize])), (a_lp, .inr (4, [.ref a_lp_facts, .ref a_lp_turns, .ref a_lp_first, .ref a_lp_src, .ref a_s1, .int lp_choices, .int lp_guesses, .int lp_unaries, .int lp_ranked])), (a_lp_facts, .inl (cI, 4096, .inl lp_facts))] H := hP
  have hD : va_D A [(a_lp_turns, .inl (cI, 24576, .inl lp_turns)), (a_rn, .inr (6, [.ref a_lp, .ref a_rn_levels, .ref a_rn_path, .ref a_s1, .ref a_s2, .ref a_wk, .int rn_reached, .int rn_greatestLevel, .int rn_pathSize])), (a_lp, .inr (4, [.ref a_lp_facts, .ref a_lp_turns, .ref a_lp_first, .ref a_lp_src, .ref a_s1, .int lp_choices, .int lp_guesses, .int lp_unaries, .int lp_ranked])), (a_lp_facts, .inl (cI, 4096, .inl lp_facts))] := hD
  refine lv_istore_n (lv' := [(2, .int r_1), (0, .ref a_rn), (1, .int x1)]) hx hb d_Runs_rankFallsFrom_8 rfl hl (by decide) rfl (fun ls hl => ?_)
  refine lv_iconst (v := 0) hx hb d_Runs_rankFallsFrom_9 (by decide) ?_
  refine lv_istore_n (lv' := [(3, .int 0), (2, .int r_1), (0, .ref a_rn), (1, .int x1)]) hx hb d_Runs_rankFallsFrom_10 rfl hl (by decide) rfl (fun ls hl => ?_)
  have L11_q_3 : ∀ (k60 : Prop) (hk60 : k60 → ∀ (H : Heap) (locs : List Loc), va_P (dC, dI) vwCl [(a_lp_turns, .inl (cI, 24576, .inl lp_turns)), (a_rn, .inr (6, [.ref a_lp, .ref a_rn_levels, .ref a_rn_path, .ref a_s1, .ref a_s2, .ref a_wk, .int rn_reached, .int rn_greatestLevel, .int rn_pathSize])), (a_lp, .inr (4, [.ref a_lp_facts, .ref a_lp_turns, .ref a_lp_first, .ref a_lp_src, .ref a_s1, .int lp_choices, .int lp_guesses, .int lp_unaries, .int lp_ranked])), (a_lp_facts, .inl (cI, 4096, .inl lp_facts))] H → va_D A [(a_lp_turns, .inl (cI, 24576, .inl lp_turns)), (a_rn, .inr (6, [.ref a_lp, .ref a_rn_levels, .ref a_rn_path, .ref a_s1, .ref a_s2, .ref a_wk, .int rn_reached, .int rn_greatestLevel, .int rn_pathSize])), (a_lp, .inr (4, [.ref a_lp_facts, .ref a_lp_turns, .ref a_lp_first, .ref a_lp_src, .ref a_s1, .int lp_choices, .int lp_guesses, .int lp_unaries, .int lp_ranked])), (a_lp_facts, .inl (cI, 4096, .inl lp_facts))] → va_S A s.heap H locs → ∀ ls : Array Slot, lv_has ls 5 [] → W p l e (headSpec w_Runs_rankFallsFrom ({ frames := 2, cells := 0, slots := 0, locals := 42 })).room s m (([.ref a_rn, .int x1] : List Value).toArray) below meth c H locs 0 0 QQ (F0 m 60 ls [])) (k52 : Prop) (hk52 : k52 → ∀ (H : Heap) (locs : List Loc), va_P (dC, dI) vwCl [(a_lp_turns, .inl (cI, 24576, .inl lp_turns)), (a_rn, .inr (6, [.ref a_lp, .ref a_rn_levels, .ref a_rn_path, .ref a_s1, .ref a_s2, .ref a_wk, .int rn_reached, .int rn_greatestLevel, .int rn_pathSize])), (a_lp, .inr (4, [.ref a_lp_facts, .ref a_lp_turns, .ref a_lp_first, .ref a_lp_src, .ref a_s1, .int lp_choices, .int lp_guesses, .int lp_unaries, .int lp_ranked])), (a_lp_facts, .inl (cI, 4096, .inl lp_facts))] H → va_D A [(a_lp_turns, .inl (cI, 24576, .inl lp_turns)), (a_rn, .inr (6, [.ref a_lp, .ref a_rn_levels, .ref a_rn_path, .ref a_s1, .ref a_s2, .ref a_wk, .int rn_reached, .int rn_greatestLevel, .int rn_pathSize])), (a_lp, .inr (4, [.ref a_lp_facts, .ref a_lp_turns, .ref a_lp_first, .ref a_lp_src, .ref a_s1, .int lp_choices, .int lp_guesses, .int lp_unaries, .int lp_ranked])), (a_lp_facts, .inl (cI, 4096, .inl lp_facts))] → va_S A s.heap H locs → ∀ ls : Array Slot, lv_has ls 5 [] → W p l e (headSpec w_Runs_rankFallsFrom ({ frames := 2, cells := 0, slots := 0, locals := 42 })).room s m (([.ref a_rn, .int x1] : List Value).toArray) below meth c H locs 0 0 QQ (F0 m 52 ls [])) (n : Nat) (x3_2 : Int32), wp_Runs_rankFallsFrom_L11 x1 r_1 lp_choices lp_facts lp_turns k60 k52 n x3_2 → ∀ (H : Heap) (locs : List Loc), va_P (dC, dI) vwCl [(a_lp_turns, .inl (cI, 24576, .inl lp_turns)), (a_rn, .inr (6, [.ref a_lp, .ref a_rn_levels, .ref a_rn_path, .ref a_s1, .ref a_s2, .ref a_wk, .int rn_reached, .int rn_greatestLevel, .int rn_pathSize])), (a_lp, .inr (4, [.ref a_lp_facts, .ref a_lp_turns, .ref a_lp_first, .ref a_lp_src, .ref a_s1, .int lp_choices, .int lp_guesses, .int lp_unaries, .int lp_ranked])), (a_lp_facts, .inl (cI, 4096, .inl lp_facts))] H → va_D A [(a_lp_turns, .inl (cI, 24576, .inl lp_turns)), (a_rn, .inr (6, [.ref a_lp, .ref a_rn_levels, .ref a_rn_path, .ref a_s1, .ref a_s2, .ref a_wk, .int rn_reached, .int rn_greatestLevel, .int rn_pathSize])), (a_lp, .inr (4, [.ref a_lp_facts, .ref a_lp_turns, .ref a_lp_first, .ref a_lp_src, .ref a_s1, .int lp_choices, .int lp_guesses, .int lp_unaries, .int lp_ranked])), (a_lp_facts, .inl (cI, 4096, .inl lp_facts))] → va_S A s.heap H locs → ∀ ls : Array Slot, lv_has ls 5 [(0, .ref a_rn), (1, .int x1), (2, .int r_1), (3, .int x3_2)] → W p l e (headSpec w_Runs_rankFallsFrom ({ frames := 2, cells := 0, slots := 0, locals := 42 })).room s m (([.ref a_rn, .int x1] : List Value).toArray) below meth c H locs 0 0 QQ (F0 m 11 ls []) := by
    intro k60 hk60 k52 hk52 n
    induction n with
    | zero => intro x3_2 h; exact (show False from h).elim
    | succ n il =>
      intro x3_2 h
      intro H locs hP hD hS ls hl
      refine lv_iload_n hx hb d_Runs_rankFallsFrom_11 rfl (lv_at hl 3 rfl) ?_
      refine lv_aload_n hx hb d_Runs_rankFallsFrom_12 rfl (lv_at hl 0 rfl) ?_
      refine va_get (D := (dC, dI)) (ci := 6) (v := .ref a_lp) (C := "LoopInduction$Runs") (T := F_Runs) (N := 9) hx hb hts iC_Runs hown hK hP 1 rfl rfl 0 (by decide) fl_28 (fun _ h9 => h9) rfl d_Runs_rankFallsFrom_13 ?_
      refine jn_i (wr := [(a_lp_turns, .inl (cI, 24576, .inl lp_turns)), (a_rn, .inr (6, [.ref a_lp, .ref a_rn_levels, .ref a_rn_path, .ref a_s1, .ref a_s2, .ref a_wk, .int rn_reached, .int rn_greatestLevel, .int rn_pathSize])), (a_lp_facts, .inl (cI, 4096, .inl lp_facts))]) (va_runV (As := []) (rest := [.int x3_2]) ⟨hx, hb, hml, hown, hts⟩ (c_Loop_choices l dC dI cI cB cZ adK adV _ a_lp a_lp_facts a_lp_turns a_lp_first a_lp_src a_s1 lp_choices lp_guesses lp_unaries lp_ranked _ h) (cwV 0 hts (gv_ m_809 m_810 m_811 m_92 m_812) rfl rfl rfl pd_Loop_choices ⟨Nat.le_of_ble_eq_true rfl, Nat.le_of_ble_eq_true rfl⟩) ⟨pc_blind, va_recv hK hP (ci := 4) (q0 := 2) rfl rfl, pc_of (hP.sub [2] rfl) hK (hD.sub [2] (by decide) rfl) hN hT hS hA⟩ rfl rfl hl.1 rfl (lv_room (Nat.le_of_ble_eq_true rfl)) d_Runs_rankFallsFrom_16 ⟨Nat.zero_le _, Nat.zero_le _⟩) hP hD hS hA [2] [0, 1, 3] rfl rfl (by decide) (by decide) (fun r_4 u_ H locs h hP hD hS => ?_)
      have hP : va_P (dC, dI) vwCl [(a_lp_turns, .inl (cI, 24576, .inl lp_turns)), (a_rn, .inr (6, [.ref a_lp, .ref a_rn_levels, .ref a_rn_path, .ref a_s1, .ref a_s2, .ref a_wk, .int rn_reached, .int rn_greatestLevel, .int rn_pathSize])), (a_lp_facts, .inl (cI, 4096, .inl lp_facts)), (a_lp, .inr (4, [.ref a_lp_facts, .ref a_lp_turns, .ref a_lp_first, .ref a_lp_src, .ref a_s1, .int lp_choices, .int lp_guesses, .int lp_unaries, .int lp_ranked]))] H := hP
      have hD : va_D A [(a_lp_turns, .inl (cI, 24576, .inl lp_turns)), (a_rn, .inr (6, [.ref a_lp, .ref a_rn_levels, .ref a_rn_path, .ref a_s1, .ref a_s2, .ref a_wk, .int rn_reached, .int rn_greatestLevel, .int rn_pathSize])), (a_lp_facts, .inl (cI, 4096, .inl lp_facts)), (a_lp, .inr (4, [.ref a_lp_facts, .ref a_lp_turns, .ref a_lp_first, .ref a_lp_src, .ref a_s1, .int lp_choices, .int lp_guesses, .int lp_unaries, .int lp_ranked]))] := hD
      refine lv_icmp_ge (tgt := 60) hx hb d_Runs_rankFallsFrom_19 (by decide) (fun c_19 => ?_) (fun c_19 => ?_)
      · have h := And.left h c_19
        exact hk60 h _ _ (hP.sub [0, 1, 3, 2] rfl) (hD.sub [0, 1, 3, 2] (by decide) rfl) hS _ (lv_sub hl [] rfl)
      · have h := And.right h c_19
        refine lv_aload_n hx hb d_Runs_rankFallsFrom_22 rfl (lv_at hl 0 rfl) ?_
        refine va_get (D := (dC, dI)) (ci := 6) (v := .ref a_lp) (C := "LoopInduction$Runs") (T := F_Runs) (N := 9) hx hb hts iC_Runs hown hK hP 1 rfl rfl 0 (by decide) fl_28 (fun _ h9 => h9) rfl d_Runs_rankFallsFrom_23 ?_
        refine lv_iload_n hx hb d_Runs_rankFallsFrom_26 rfl (lv_at hl 1 rfl) ?_
        refine lv_iload_n hx hb d_Runs_rankFallsFrom_27 rfl (lv_at hl 3 rfl) ?_
        refine jn_i (wr := [(a_rn, .inr (6, [.ref a_lp, .ref a_rn_levels, .ref a_rn_path, .ref a_s1, .ref a_s2, .ref a_wk, .int rn_reached, .int rn_greatestLevel, .int rn_pathSize])), (a_lp_facts, .inl (cI, 4096, .inl lp_facts))]) (va_runV (As := [.int x1, .int x3_2]) (rest := []) ⟨hx, hb, hml, hown, hts⟩ (c_Loop_turn l dC dI cI cB cZ adK adV _ a_lp a_lp_facts a_lp_turns a_lp_first a_lp_src a_s1 lp_choices lp_guesses lp_unaries lp_ranked lp_turns x1 x3_2 _ h) (cwV 2 hts (gv_ m_813 m_757 m_758 m_92 m_759) rfl rfl rfl pd_Loop_turn ⟨Nat.le_of_ble_eq_true rfl, Nat.le_of_ble_eq_true rfl⟩) ⟨pc_blind, va_recv hK hP (ci := 4) (q0 := 3) rfl rfl, pc_of (hP.sub [3, 0] rfl) hK (hD.sub [3, 0] (by decide) rfl) hN hT hS hA⟩ rfl rfl hl.1 rfl (lv_room (Nat.le_of_ble_eq_true rfl)) d_Runs_rankFallsFrom_28 ⟨Nat.zero_le _, Nat.zero_le _⟩) hP hD hS hA [3, 0] [1, 2] rfl rfl (by decide) (by decide) (fun r_5 u_ H locs h hP hD hS => ?_)
        have hP : va_P (dC, dI) vwCl [(a_rn, .inr (6, [.ref a_lp, .ref a_rn_levels, .ref a_rn_path, .ref a_s1, .ref a_s2, .ref a_wk, .int rn_reached, .int rn_greatestLevel, .int rn_pathSize])), (a_lp_facts, .inl (cI, 4096, .inl lp_facts)), (a_lp, .inr (4, [.ref a_lp_facts, .ref a_lp_turns, .ref a_lp_first, .ref a_lp_src, .ref a_s1, .int lp_choices, .int lp_guesses, .int lp_unaries, .int lp_ranked])), (a_lp_turns, .inl (cI, 24576, .inl lp_turns))] H := hP
        have hD : va_D A [(a_rn, .inr (6, [.ref a_lp, .ref a_rn_levels, .ref a_rn_path, .ref a_s1, .ref a_s2, .ref a_wk, .int rn_reached, .int rn_greatestLevel, .int rn_pathSize])), (a_lp_facts, .inl (cI, 4096, .inl lp_facts)), (a_lp, .inr (4, [.ref a_lp_facts, .ref a_lp_turns, .ref a_lp_first, .ref a_lp_src, .ref a_s1, .int lp_choices, .int lp_guesses, .int lp_unaries, .int lp_ranked])), (a_lp_turns, .inl (cI, 24576, .inl lp_turns))] := hD
        refine lv_istore (lv' := [(4, .int r_5), (0, .ref a_rn), (1, .int x1), (2, .int r_1), (3, .int x3_2)]) hx hb d_Runs_rankFallsFrom_31 hl (by decide) rfl (fun ls hl => ?_)
        refine lv_iload hx hb d_Runs_rankFallsFrom_33 (lv_at hl 0 rfl) ?_
        refine lv_iconst (v := (-1)) hx hb d_Runs_rankFallsFrom_35 (by decide) ?_
        refine lv_icmp_eq (tgt := 54) hx hb d_Runs_rankFallsFrom_36 (by decide) (fun c_36 => ?_) (fun c_36 => ?_)
        · have h := And.left h c_36
          refine lv_iinc (v := x3_2 + 1) (lv' := [(3, .int (x3_2 + 1)), (4, .int r_5), (0, .ref a_rn), (1, .int x1), (2, .int r_1)]) hx hb d_Runs_rankFallsFrom_54 hl (k := 4) rfl rfl (by decide) rfl (fun ls hl => ?_)
          refine lv_goto (tgt := 11) hx hb d_Runs_rankFallsFrom_57 (by decide) ?_
          exact il _ h _ _ (hP.sub [3, 0, 2, 1] rfl) (hD.sub [3, 0, 2, 1] (by decide) rfl) hS _ (lv_sub hl [2, 3, 4, 0] rfl)
        · have h := And.right h c_36
          refine lv_aload_n hx hb d_Runs_rankFallsFrom_39 rfl (lv_at hl 1 rfl) ?_
          refine va_get (D := (dC, dI)) (ci := 6) (v := .ref a_lp) (C := "LoopInduction$Runs") (T := F_Runs) (N := 9) hx hb hts iC_Runs hown hK hP 0 rfl rfl 0 (by decide) fl_28 (fun _ h9 => h9) rfl d_Runs_rankFallsFrom_40 ?_
          refine lv_iload hx hb d_Runs_rankFallsFrom_43 (lv_at hl 0 rfl) ?_
          refine jn_i (wr := [(a_rn, .inr (6, [.ref a_lp, .ref a_rn_levels, .ref a_rn_path, .ref a_s1, .ref a_s2, .ref a_wk, .int rn_reached, .int rn_greatestLevel, .int rn_pathSize])), (a_lp_turns, .inl (cI, 24576, .inl lp_turns))]) (va_runV (As := [.int r_5]) (rest := []) ⟨hx, hb, hml, hown, hts⟩ (c_Loop_rankOf l dC dI cI cB cZ adK adV _ a_lp a_lp_facts a_lp_turns a_lp_first a_lp_src a_s1 lp_choices lp_guesses lp_unaries lp_ranked lp_facts r_5 _ h) (cwV 1 hts (gv_ m_1023 m_920 m_921 m_92 m_922) rfl rfl rfl pd_Loop_rankOf ⟨Nat.le_of_ble_eq_true rfl, Nat.le_of_ble_eq_true rfl⟩) ⟨pc_blind, va_recv hK hP (ci := 4) (q0 := 2) rfl rfl, pc_of (hP.sub [2, 1] rfl) hK (hD.sub [2, 1] (by decide) rfl) hN hT hS hA⟩ rfl rfl hl.1 rfl (lv_room (Nat.le_of_ble_eq_true rfl)) d_Runs_rankFallsFrom_45 ⟨Nat.zero_le _, Nat.zero_le _⟩) hP hD hS hA [2, 1] [0, 3] rfl rfl (by decide) (by decide) (fun r_6 u_ H locs h hP hD hS => ?_)
          have hP : va_P (dC, dI) vwCl [(a_rn, .inr (6, [.ref a_lp, .ref a_rn_levels, .ref a_rn_path, .ref a_s1, .ref a_s2, .ref a_wk, .int rn_reached, .int rn_greatestLevel, .int rn_pathSize])), (a_lp_turns, .inl (cI, 24576, .inl lp_turns)), (a_lp, .inr (4, [.ref a_lp_facts, .ref a_lp_turns, .ref a_lp_first, .ref a_lp_src, .ref a_s1, .int lp_choices, .int lp_guesses, .int lp_unaries, .int lp_ranked])), (a_lp_facts, .inl (cI, 4096, .inl lp_facts))] H := hP
          have hD : va_D A [(a_rn, .inr (6, [.ref a_lp, .ref a_rn_levels, .ref a_rn_path, .ref a_s1, .ref a_s2, .ref a_wk, .int rn_reached, .int rn_greatestLevel, .int rn_pathSize])), (a_lp_turns, .inl (cI, 24576, .inl lp_turns)), (a_lp, .inr (4, [.ref a_lp_facts, .ref a_lp_turns, .ref a_lp_first, .ref a_lp_src, .ref a_s1, .int lp_choices, .int lp_guesses, .int lp_unaries, .int lp_ranked])), (a_lp_facts, .inl (cI, 4096, .inl lp_facts))] := hD
          refine lv_iload_n hx hb d_Runs_rankFallsFrom_48 rfl (lv_at hl 3 rfl) ?_
          refine lv_icmp_lt (tgt := 54) hx hb d_Runs_rankFallsFrom_49 (by decide) (fun c_49 => ?_) (fun c_49 => ?_)
          · have h := And.left h c_49
            refine lv_iinc (v := x3_2 + 1) (lv' := [(3, .int (x3_2 + 1)), (4, .int r_5), (0, .ref a_rn), (1, .int x1), (2, .int r_1)]) hx hb d_Runs_rankFallsFrom_54 hl (k := 4) rfl rfl (by decide) rfl (fun ls hl => ?_)
            refine lv_goto (tgt := 11) hx hb d_Runs_rankFallsFrom_57 (by decide) ?_
            exact il _ h _ _ (hP.sub [1, 0, 2, 3] rfl) (hD.sub [1, 0, 2, 3] (by decide) rfl) hS _ (lv_sub hl [2, 3, 4, 0] rfl)
          · have h := And.right h c_49
            exact hk52 h _ _ (hP.sub [1, 0, 2, 3] rfl) (hD.sub [1, 0, 2, 3] (by decide) rfl) hS _ (lv_sub hl [] rfl)
  obtain ⟨n_, h⟩ := h
  refine L11_q_3 _ ?_ _ ?_ n_ _ h _ _ hP hD hS _ (lv_sub hl [2, 3, 1, 0] rfl)
  · intro h
    intro H locs hP hD hS ls hl
    refine lv_iconst (v := 1) hx hb d_Runs_rankFallsFrom_60 (by decide) ?_
    rw [← hQ]
    have hP9 := hP.sub (ws' := [(a_lp, .inr (4, [.ref a_lp_facts, .ref a_lp_turns, .ref a_lp_first, .ref a_lp_src, .ref a_s1, .int lp_choices, .int lp_guesses, .int lp_unaries, .int lp_ranked])), (a_lp_facts, .inl (cI, 4096, .inl lp_facts)), (a_lp_turns, .inl (cI, 24576, .inl lp_turns)), (a_rn, .inr (6, [.ref a_lp, .ref a_rn_levels, .ref a_rn_path, .ref a_s1, .ref a_s2, .ref a_wk, .int rn_reached, .int rn_greatestLevel, .int rn_pathSize]))]) [2, 3, 0, 1] rfl
    have hD9 := hD.sub (ws' := [(a_lp, .inr (4, [.ref a_lp_facts, .ref a_lp_turns, .ref a_lp_first, .ref a_lp_src, .ref a_s1, .int lp_choices, .int lp_guesses, .int lp_unaries, .int lp_ranked])), (a_lp_facts, .inl (cI, 4096, .inl lp_facts)), (a_lp_turns, .inl (cI, 24576, .inl lp_turns)), (a_rn, .inr (6, [.ref a_lp, .ref a_rn_levels, .ref a_rn_path, .ref a_s1, .ref a_s2, .ref a_wk, .int rn_reached, .int rn_greatestLevel, .int rn_pathSize]))]) [2, 3, 0, 1] (by decide) rfl
    exact W.zret (v := 1) hx hb hr rfl (fun t ht hW => ⟨⟨1, (), rfl, h, by rw [ht]; exact hP9, va_K.moved hW.alike hK, hD9⟩, hS.F ht⟩) hS.2.2 d_Runs_rankFallsFrom_61
  · intro h
    intro H locs hP hD hS ls hl
    refine lv_iconst (v := 0) hx hb d_Runs_rankFallsFrom_52 (by decide) ?_
    rw [← hQ]
    have hP9 := hP.sub (ws' := [(a_lp, .inr (4, [.ref a_lp_facts, .ref a_lp_turns, .ref a_lp_first, .ref a_lp_src, .ref a_s1, .int lp_choices, .int lp_guesses, .int lp_unaries, .int lp_ranked])), (a_lp_facts, .inl (cI, 4096, .inl lp_facts)), (a_lp_turns, .inl (cI, 24576, .inl lp_turns)), (a_rn, .inr (6, [.ref a_lp, .ref a_rn_levels, .ref a_rn_path, .ref a_s1, .ref a_s2, .ref a_wk, .int rn_reached, .int rn_greatestLevel, .int rn_pathSize]))]) [2, 3, 0, 1] rfl
    have hD9 := hD.sub (ws' := [(a_lp, .inr (4, [.ref a_lp_facts, .ref a_lp_turns, .ref a_lp_first, .ref a_lp_src, .ref a_s1, .int lp_choices, .int lp_guesses, .int lp_unaries, .int lp_ranked])), (a_lp_facts, .inl (cI, 4096, .inl lp_facts)), (a_lp_turns, .inl (cI, 24576, .inl lp_turns)), (a_rn, .inr (6, [.ref a_lp, .ref a_rn_levels, .ref a_rn_path, .ref a_s1, .ref a_s2, .ref a_wk, .int rn_reached, .int rn_greatestLevel, .int rn_pathSize]))]) [2, 3, 0, 1] (by decide) rfl
    exact W.zret (v := 0) hx hb hr rfl (fun t ht hW => ⟨⟨0, (), rfl, h, by rw [ht]; exact hP9, va_K.moved hW.alike hK, hD9⟩, hS.F ht⟩) hS.2.2 d_Runs_rankFallsFrom_53
set_option maxHeartbeats 4000000 in
set_option maxRecDepth 100000 in
theorem c_Runs_rankAlwaysFalls (l : Launch) (dC : Nat → ClassId) (dI : Nat → Nat → Nat) (cI cB cZ : ClassId) (adK adV : Nat → Nat) (sz : Nat) (a_lp a_lp_facts a_lp_turns a_lp_first a_lp_src a_s1 a_rn a_rn_levels a_rn_path a_s2 a_wk : Nat) (lp_choices : Int32) (lp_guesses : Int32) (lp_unaries : Int32) (lp_ranked : Int32) (lp_facts : Nat → Int32) (lp_turns : Nat → Int32) (rn_reached : Int32) (rn_greatestLevel : Int32) (rn_pathSize : Int32) (post : Int32 → Prop) (h : wp_Runs_rankAlwaysFalls lp_choices lp_facts lp_turns post) : Met l y_Runs_rankAlwaysFalls w_Runs_rankAlwaysFalls ({ frames := 3, cells := 0, slots := 0, locals := 66 }) (pc_ (dC, dI) [(cI, .int), (cB, .byte), (cZ, .boolean)] [(a_lp, .inr (4, [.ref a_lp_facts, .ref a_lp_turns, .ref a_lp_first, .ref a_lp_src, .ref a_s1, .int lp_choices, .int lp_guesses, .int lp_unaries, .int lp_ranked])), (a_lp_facts, .inl (cI, 4096, .inl lp_facts)), (a_lp_turns, .inl (cI, 24576, .inl lp_turns)), (a_rn, .inr (6, [.ref a_lp, .ref a_rn_levels, .ref a_rn_path, .ref a_s1, .ref a_s2, .ref a_wk, .int rn_reached, .int rn_greatestLevel, .int rn_pathSize]))] sz adK adV [.ref a_rn]) (va_Qi (fun (r : Int32) (u : Unit) => post r ) (fun (u : Unit) t => bw_ (dC, dI) [(cI, .int), (cB, .byte), (cZ, .boolean)] (va_A [(a_lp, .inr (4, [.ref a_lp_facts, .ref a_lp_turns, .ref a_lp_first, .ref a_lp_src, .ref a_s1, .int lp_choices, .int lp_guesses, .int lp_unaries, .int lp_ranked])), (a_lp_facts, .inl (cI, 4096, .inl lp_facts)), (a_lp_turns, .inl (cI, 24576, .inl lp_turns)), (a_rn, .inr (6, [.ref a_lp, .ref a_rn_levels, .ref a_rn_path, .ref a_s1, .ref a_s2, .ref a_wk, .int rn_reached, .int rn_greatestLevel, .int rn_pathSize]))] sz) [(a_lp, .inr (4, [.ref a_lp_facts, .ref a_lp_turns, .ref a_lp_first, .ref a_lp_src, .ref a_s1, .int lp_choices, .int lp_guesses, .int lp_unaries, .int lp_ranked])), (a_lp_facts, .inl (cI, 4096, .inl lp_facts)), (a_lp_turns, .inl (cI, 24576, .inl lp_turns)), (a_rn, .inr (6, [.ref a_lp, .ref a_rn_levels, .ref a_rn_path, .ref a_s1, .ref a_s2, .ref a_wk, .int rn_reached, .int rn_greatestLevel, .int rn_pathSize]))] t) (va_A [(a_lp, .inr (4, [.ref a_lp_facts, .ref a_lp_turns, .ref a_lp_first, .ref a_lp_src, .ref a_s1, .int lp_choices, .int lp_guesses, .int lp_unaries, .int lp_ranked])), (a_lp_facts, .inl (cI, 4096, .inl lp_facts)), (a_lp_turns, .inl (cI, 24576, .inl lp_turns)), (a_rn, .inr (6, [.ref a_lp, .ref a_rn_levels, .ref a_rn_path, .ref a_s1, .ref a_s2, .ref a_wk, .int rn_reached, .int rn_greatestLevel, .int rn_pathSize]))] sz)) 0 0 (va_A [(a_lp, .inr (4, [.ref a_lp_facts, .ref a_lp_turns, .ref a_lp_first, .ref a_lp_src, .ref a_s1, .int lp_choices, .int lp_guesses, .int lp_unaries, .int lp_ranked])), (a_lp_facts, .inl (cI, 4096, .inl lp_facts)), (a_lp_turns, .inl (cI, 24576, .inl lp_turns)), (a_rn, .inr (6, [.ref a_lp, .ref a_rn_levels, .ref a_rn_path, .ref a_s1, .ref a_s2, .ref a_wk, .int rn_reached, .int rn_greatestLevel, .int rn_pathSize]))] sz) := by
  refine Met.ofW (cc := b_Runs_rankAlwaysFalls) (maxL := 2) (ret := (some .boolean)) (by decide) rfl ?_
  intro p e s m args below meth c s₁ B hml hv
  obtain ⟨rfl, hsz, hP, hK, hD0, hN, hT⟩ := hv
  have hx := B.exec
  have hb := B.bytes
  have hr := B.returns
  have hts := atoms_spec (ws := w_Runs_rankAlwaysFalls) B.pre
  have hown : s.vm.findClass "LoopInduction$Runs" = some m.cls := findClass_of_methodNamed B.named
  have hlocks := B.notSynchronized
  subst hsz
  have hD := hD0.self (sz := s.heap.size)
  generalize hAe : va_A [(a_lp, .inr (4, [.ref a_lp_facts, .ref a_lp_turns, .ref a_lp_first, .ref a_lp_src, .ref a_s1, .int lp_choices, .int lp_guesses, .int lp_unaries, .int lp_ranked])), (a_lp_facts, .inl (cI, 4096, .inl lp_facts)), (a_lp_turns, .inl (cI, 24576, .inl lp_turns)), (a_rn, .inr (6, [.ref a_lp, .ref a_rn_levels, .ref a_rn_path, .ref a_s1, .ref a_s2, .ref a_wk, .int rn_reached, .int rn_greatestLevel, .int rn_pathSize]))] s.heap.size = A at hD hT ⊢
  have hA : ∀ q : Nat, s.heap.size ≤ q → A q := fun q h => by rw [← hAe]; exact Or.inr h
  have hS : va_S A s.heap s.heap [] := va_S.rf
  generalize hQ : MQ below _ _ s 0 0 _ = QQ
  have hl := lv_entry ([.ref a_rn]) (n := 2) (Nat.le_of_ble_eq_true rfl)
  rw [lg_entry_eq]
  generalize (lg_sl ([.ref a_rn]) ++ List.replicate (2 - (lg_sl ([.ref a_rn])).length) Slot.unset).toArray = ls at hl ⊢
  have hl : lv_has ls 2 [(0, .ref a_rn)] := hl
  have fl_28 := (hts _ (List.mem_cons_of_mem _ m_297))
  refine lv_iconst (v := 0) hx hb d_Runs_rankAlwaysFalls_0 (by decide) ?_
  refine lv_istore_n (lv' := [(1, .int 0), (0, .ref a_rn)]) hx hb d_Runs_rankAlwaysFalls_1 rfl hl (by decide) rfl (fun ls hl => ?_)
  have L2_q_2 : ∀ (k37 : Prop) (hk37 : k37 → ∀ (H : Heap) (locs : List Loc), va_P (dC, dI) vwCl [(a_lp, .inr (4, [.ref a_lp_facts, .ref a_lp_turns, .ref a_lp_first, .ref a_lp_src, .ref a_s1, .int lp_choices, .int lp_guesses, .int lp_unaries, .int lp_ranked])), (a_lp_facts, .inl (cI, 4096, .inl lp_facts)), (a_lp_turns, .inl (cI, 24576, .inl lp_turns)), (a_rn, .inr (6, [.ref a_lp, .ref a_rn_levels, .ref a_rn_path, .ref a_s1, .ref a_s2, .ref a_wk, .int rn_reached, .int rn_greatestLevel, .int rn_pathSize]))] H → va_D A [(a_lp, .inr (4, [.ref a_lp_facts, .ref a_lp_turns, .ref a_lp_first, .ref a_lp_src, .ref a_s1, .int lp_choices, .int lp_guesses, .int lp_unaries, .int lp_ranked])), (a_lp_facts, .inl (cI, 4096, .inl lp_facts)), (a_lp_turns, .inl (cI, 24576, .inl lp_turns)), (a_rn, .inr (6, [.ref a_lp, .ref a_rn_levels, .ref a_rn_path, .ref a_s1, .ref a_s2, .ref a_wk, .int rn_reached, .int rn_greatestLevel, .int rn_pathSize]))] → va_S A s.heap H locs → ∀ ls : Array Slot, lv_has ls 2 [] → W p l e (headSpec w_Runs_rankAlwaysFalls ({ frames := 3, cells := 0, slots := 0, locals := 66 })).room s m (([.ref a_rn] : List Value).toArray) below meth c H locs 0 0 QQ (F0 m 37 ls [])) (k29 : Prop) (hk29 : k29 → ∀ (H : Heap) (locs : List Loc), va_P (dC, dI) vwCl [(a_lp, .inr (4, [.ref a_lp_facts, .ref a_lp_turns, .ref a_lp_first, .ref a_lp_src, .ref a_s1, .int lp_choices, .int lp_guesses, .int lp_unaries, .int lp_ranked])), (a_lp_facts, .inl (cI, 4096, .inl lp_facts)), (a_lp_turns, .inl (cI, 24576, .inl lp_turns)), (a_rn, .inr (6, [.ref a_lp, .ref a_rn_levels, .ref a_rn_path, .ref a_s1, .ref a_s2, .ref a_wk, .int rn_reached, .int rn_greatestLevel, .int rn_pathSize]))] H → va_D A [(a_lp, .inr (4, [.ref a_lp_facts, .ref a_lp_turns, .ref a_lp_first, .ref a_lp_src, .ref a_s1, .int lp_choices, .int lp_guesses, .int lp_unaries, .int lp_ranked])), (a_lp_facts, .inl (cI, 4096, .inl lp_facts)), (a_lp_turns, .inl (cI, 24576, .inl lp_turns)), (a_rn, .inr (6, [.ref a_lp, .ref a_rn_levels, .ref a_rn_path, .ref a_s1, .ref a_s2, .ref a_wk, .int rn_reached, .int rn_greatestLevel, .int rn_pathSize]))] → va_S A s.heap H locs → ∀ ls : Array Slot, lv_has ls 2 [] → W p l e (headSpec w_Runs_rankAlwaysFalls ({ frames := 3, cells := 0, slots := 0, locals := 66 })).room s m (([.ref a_rn] : List Value).toArray) below meth c H locs 0 0 QQ (F0 m 29 ls [])) (n : Nat) (x1_1 : Int32), wp_Runs_rankAlwaysFalls_L2 lp_choices lp_facts lp_turns k37 k29 n x1_1 → ∀ (H : Heap) (locs : List Loc), va_P (dC, dI) vwCl [(a_lp, .inr (4, [.ref a_lp_facts, .ref a_lp_turns, .ref a_lp_first, .ref a_lp_src, .ref a_s1, .int lp_choices, .int lp_guesses, .int lp_unaries, .int lp_ranked])), (a_lp_facts, .inl (cI, 4096, .inl lp_facts)), (a_lp_turns, .inl (cI, 24576, .inl lp_turns)), (a_rn, .inr (6, [.ref a_lp, .ref a_rn_levels, .ref a_rn_path, .ref a_s1, .ref a_s2, .ref a_wk, .int rn_reached, .int rn_greatestLevel, .int rn_pathSize]))] H → va_D A [(a_lp, .inr (4, [.ref a_lp_facts, .ref a_lp_turns, .ref a_lp_first, .ref a_lp_src, .ref a_s1, .int lp_choices, .int lp_guesses, .int lp_unaries, .int lp_ranked])), (a_lp_facts, .inl (cI, 4096, .inl lp_facts)), (a_lp_turns, .inl (cI, 24576, .inl lp_turns)), (a_rn, .inr (6, [.ref a_lp, .ref a_rn_levels, .ref a_rn_path, .ref a_s1, .ref a_s2, .ref a_wk, .int rn_reached, .int rn_greatestLevel, .int rn_pathSize]))] → va_S A s.heap H locs → ∀ ls : Array Slot, lv_has ls 2 [(0, .ref a_rn), (1, .int x1_1)] → W p l e (headSpec w_Runs_rankAlwaysFalls ({ frames := 3, cells := 0, slots := 0, locals := 66 })).room s m (([.ref a_rn] : List Value).toArray) below meth c H locs 0 0 QQ (F0 m 2 ls []) := by
    intro k37 hk37 k29 hk29 n
    induction n with
    | zero => intro x1_1 h; exact (show False from h).elim
    | succ n il =>
      intro x1_1 h
      intro H locs hP hD hS ls hl
      refine lv_iload_n hx hb d_Runs_rankAlwaysFalls_2 rfl (lv_at hl 1 rfl) ?_
      refine lv_sipush (v := 4096) hx hb d_Runs_rankAlwaysFalls_3 (by decide) ?_
      refine lv_icmp_ge (tgt := 37) hx hb d_Runs_rankAlwaysFalls_6 (by decide) (fun c_6 => ?_) (fun c_6 => ?_)
      · have h := And.left h c_6
        exact hk37 h _ _ hP hD hS _ (lv_sub hl [] rfl)
      · have h := And.right h c_6
        refine lv_aload_n hx hb d_Runs_rankAlwaysFalls_9 rfl (lv_at hl 0 rfl) ?_
        refine va_get (D := (dC, dI)) (ci := 6) (v := .ref a_lp) (C := "LoopInduction$Runs") (T := F_Runs) (N := 9) hx hb hts iC_Runs hown hK hP 3 rfl rfl 0 (by decide) fl_28 (fun _ h9 => h9) rfl d_Runs_rankAlwaysFalls_10 ?_
        refine lv_iload_n hx hb d_Runs_rankAlwaysFalls_13 rfl (lv_at hl 1 rfl) ?_
        refine lv_iconst (v := 4) hx hb d_Runs_rankAlwaysFalls_14 (by decide) ?_
        refine jn_i (wr := [(a_lp_turns, .inl (cI, 24576, .inl lp_turns)), (a_rn, .inr (6, [.ref a_lp, .ref a_rn_levels, .ref a_rn_path, .ref a_s1, .ref a_s2, .ref a_wk, .int rn_reached, .int rn_greatestLevel, .int rn_pathSize]))]) (va_runV (As := [.int x1_1, .int 4]) (rest := []) ⟨hx, hb, hml, hown, hts⟩ (c_Loop_hasAll l dC dI cI cB cZ adK adV _ a_lp a_lp_facts a_lp_turns a_lp_first a_lp_src a_s1 lp_choices lp_guesses lp_unaries lp_ranked lp_facts x1_1 4 _ h) (cwV 2 hts (gv_ m_784 m_785 m_786 m_92 m_787) rfl rfl rfl pd_Loop_hasAll ⟨Nat.le_of_ble_eq_true rfl, Nat.le_of_ble_eq_true rfl⟩) ⟨pc_blind, va_recv hK hP (ci := 4) (q0 := 0) rfl rfl, pc_of (hP.sub [0, 1] rfl) hK (hD.sub [0, 1] (by decide) rfl) hN hT hS hA⟩ rfl rfl hl.1 rfl (lv_room (Nat.le_of_ble_eq_true rfl)) d_Runs_rankAlwaysFalls_15 ⟨Nat.zero_le _, Nat.zero_le _⟩) hP hD hS hA [0, 1] [2, 3] rfl rfl (by decide) (by decide) (fun r_3 u_ H locs h hP hD hS => ?_)
        have hP : va_P (dC, dI) vwCl [(a_lp_turns, .inl (cI, 24576, .inl lp_turns)), (a_rn, .inr (6, [.ref a_lp, .ref a_rn_levels, .ref a_rn_path, .ref a_s1, .ref a_s2, .ref a_wk, .int rn_reached, .int rn_greatestLevel, .int rn_pathSize])), (a_lp, .inr (4, [.ref a_lp_facts, .ref a_lp_turns, .ref a_lp_first, .ref a_lp_src, .ref a_s1, .int lp_choices, .int lp_guesses, .int lp_unaries, .int lp_ranked])), (a_lp_facts, .inl (cI, 4096, .inl lp_facts))] H := hP
        have hD : va_D A [(a_lp_turns, .inl (cI, 24576, .inl lp_turns)), (a_rn, .inr (6, [.ref a_lp, .ref a_rn_levels, .ref a_rn_path, .ref a_s1, .ref a_s2, .ref a_wk, .int rn_reached, .int rn_greatestLevel, .int rn_pathSize])), (a_lp, .inr (4, [.ref a_lp_facts, .ref a_lp_turns, .ref a_lp_first, .ref a_lp_src, .ref a_s1, .int lp_choices, .int lp_guesses, .int lp_unaries, .int lp_ranked])), (a_lp_facts, .inl (cI, 4096, .inl lp_facts))] := hD
        refine lv_if_eq (tgt := 31) hx hb d_Runs_rankAlwaysFalls_18 (by decide) (fun c_18 => ?_) (fun c_18 => ?_)
        · have h := And.left h c_18
          refine lv_iinc (v := x1_1 + 1) (lv' := [(1, .int (x1_1 + 1)), (0, .ref a_rn)]) hx hb d_Runs_rankAlwaysFalls_31 hl (k := 1) rfl rfl (by decide) rfl (fun ls hl => ?_)
          refine lv_goto (tgt := 2) hx hb d_Runs_rankAlwaysFalls_34 (by decide) ?_
          exact il _ h _ _ (hP.sub [2, 3, 0, 1] rfl) (hD.sub [2, 3, 0, 1] (by decide) rfl) hS _ (lv_sub hl [1, 0] rfl)
        · have h := And.right h c_18
          refine lv_aload_n hx hb d_Runs_rankAlwaysFalls_21 rfl (lv_at hl 0 rfl) ?_
          refine lv_iload_n hx hb d_Runs_rankAlwaysFalls_22 rfl (lv_at hl 1 rfl) ?_
          refine jn_i (wr := []) (va_runV (As := [.int x1_1]) (rest := []) ⟨hx, hb, hml, hown, hts⟩ (c_Runs_rankFallsFrom l dC dI cI cB cZ adK adV _ a_lp a_lp_facts a_lp_turns a_lp_first a_lp_src a_s1 a_rn a_rn_levels a_rn_path a_s2 a_wk lp_choices lp_guesses lp_unaries lp_ranked lp_facts lp_turns rn_reached rn_greatestLevel rn_pathSize x1_1 _ h) (cwV 1 hts (gv_ m_1019 m_1021 m_44 m_93 m_1022) rfl rfl rfl pd_Runs_rankFallsFrom ⟨Nat.le_of_ble_eq_true rfl, Nat.le_of_ble_eq_true rfl⟩) ⟨pc_blind, va_recv hK hP (ci := 6) (q0 := 1) rfl rfl, pc_of (hP.sub [2, 3, 0, 1] rfl) hK (hD.sub [2, 3, 0, 1] (by decide) rfl) hN hT hS hA⟩ rfl rfl hl.1 rfl (lv_room (Nat.le_of_ble_eq_true rfl)) d_Runs_rankAlwaysFalls_23 ⟨Nat.zero_le _, Nat.zero_le _⟩) hP hD hS hA [2, 3, 0, 1] [] rfl rfl (by decide) (by decide) (fun r_4 u_ H locs h hP hD hS => ?_)
          have hP : va_P (dC, dI) vwCl [(a_lp, .inr (4, [.ref a_lp_facts, .ref a_lp_turns, .ref a_lp_first, .ref a_lp_src, .ref a_s1, .int lp_choices, .int lp_guesses, .int lp_unaries, .int lp_ranked])), (a_lp_facts, .inl (cI, 4096, .inl lp_facts)), (a_lp_turns, .inl (cI, 24576, .inl lp_turns)), (a_rn, .inr (6, [.ref a_lp, .ref a_rn_levels, .ref a_rn_path, .ref a_s1, .ref a_s2, .ref a_wk, .int rn_reached, .int rn_greatestLevel, .int rn_pathSize]))] H := hP
          have hD : va_D A [(a_lp, .inr (4, [.ref a_lp_facts, .ref a_lp_turns, .ref a_lp_first, .ref a_lp_src, .ref a_s1, .int lp_choices, .int lp_guesses, .int lp_unaries, .int lp_ranked])), (a_lp_facts, .inl (cI, 4096, .inl lp_facts)), (a_lp_turns, .inl (cI, 24576, .inl lp_turns)), (a_rn, .inr (6, [.ref a_lp, .ref a_rn_levels, .ref a_rn_path, .ref a_s1, .ref a_s2, .ref a_wk, .int rn_reached, .int rn_greatestLevel, .int rn_pathSize]))] := hD
          refine lv_if_ne (tgt := 31) hx hb d_Runs_rankAlwaysFalls_26 (by decide) (fun c_26 => ?_) (fun c_26 => ?_)
          · have h := And.left h c_26
            refine lv_iinc (v := x1_1 + 1) (lv' := [(1, .int (x1_1 + 1)), (0, .ref a_rn)]) hx hb d_Runs_rankAlwaysFalls_31 hl (k := 1) rfl rfl (by decide) rfl (fun ls hl => ?_)
            refine lv_goto (tgt := 2) hx hb d_Runs_rankAlwaysFalls_34 (by decide) ?_
            exact il _ h _ _ hP hD hS _ (lv_sub hl [1, 0] rfl)
          · have h := And.right h c_26
            exact hk29 h _ _ hP hD hS _ (lv_sub hl [] rfl)
  obtain ⟨n_, h⟩ := h
  refine L2_q_2 _ ?_ _ ?_ n_ _ h _ _ hP hD hS _ (lv_sub hl [1, 0] rfl)
  · intro h
    intro H locs hP hD hS ls hl
    refine lv_iconst (v := 1) hx hb d_Runs_rankAlwaysFalls_37 (by decide) ?_
    rw [← hQ]
    have hP9 := hP
    have hD9 := hD
    exact W.zret (v := 1) hx hb hr rfl (fun t ht hW => ⟨⟨1, (), rfl, h, by rw [ht]; exact hP9, va_K.moved hW.alike hK, hD9⟩, hS.F ht⟩) hS.2.2 d_Runs_rankAlwaysFalls_38
  · intro h
    intro H locs hP hD hS ls hl
    refine lv_iconst (v := 0) hx hb d_Runs_rankAlwaysFalls_29 (by decide) ?_
    rw [← hQ]
    have hP9 := hP
    have hD9 := hD
    exact W.zret (v := 0) hx hb hr rfl (fun t ht hW => ⟨⟨0, (), rfl, h, by rw [ht]; exact hP9, va_K.moved hW.alike hK, hD9⟩, hS.F ht⟩) hS.2.2 d_Runs_rankAlwaysFalls_30
set_option maxHeartbeats 4000000 in
set_option maxRecDepth 100000 in
theorem c_Runs_countArrivals (l : Launch) (dC : Nat → ClassId) (dI : Nat → Nat → Nat) (cI cB cZ : ClassId) (adK adV : Nat → Nat) (sz : Nat) (a_lp a_lp_facts a_lp_turns a_lp_first a_lp_src a_s1 a_rn a_rn_levels a_rn_path a_s2 a_wk : Nat) (lp_choices : Int32) (lp_guesses : Int32) (lp_unaries : Int32) (lp_ranked : Int32) (lp_facts : Nat → Int32) (lp_turns : Nat → Int32) (s1 : Nat → Int32) (rn_reached : Int32) (rn_greatestLevel : Int32) (rn_pathSize : Int32) (post : (Nat → Int32) → Prop) (h : wp_Runs_countArrivals lp_choices lp_facts lp_turns s1 post) : Met l y_Runs_countArrivals w_Runs_countArrivals ({ frames := 2, cells := 0, slots := 0, locals := 42 }) (pc_ (dC, dI) [(cI, .int), (cB, .byte), (cZ, .boolean)] [(a_lp, .inr (4, [.ref a_lp_facts, .ref a_lp_turns, .ref a_lp_first, .ref a_lp_src, .ref a_s1, .int lp_choices, .int lp_guesses, .int lp_unaries, .int lp_ranked])), (a_lp_facts, .inl (cI, 4096, .inl lp_facts)), (a_lp_turns, .inl (cI, 24576, .inl lp_turns)), (a_s1, .inl (cI, 4096, .inl s1)), (a_rn, .inr (6, [.ref a_lp, .ref a_rn_levels, .ref a_rn_path, .ref a_s1, .ref a_s2, .ref a_wk, .int rn_reached, .int rn_greatestLevel, .int rn_pathSize]))] sz adK adV [.ref a_rn]) (va_Qv (fun (u : (Nat → Int32)) => post u) (fun (u : (Nat → Int32)) t => bw_ (dC, dI) [(cI, .int), (cB, .byte), (cZ, .boolean)] (va_A [(a_lp, .inr (4, [.ref a_lp_facts, .ref a_lp_turns, .ref a_lp_first, .ref a_lp_src, .ref a_s1, .int lp_choices, .int lp_guesses, .int lp_unaries, .int lp_ranked])), (a_lp_facts, .inl (cI, 4096, .inl lp_facts)), (a_lp_turns, .inl (cI, 24576, .inl lp_turns)), (a_s1, .inl (cI, 4096, .inl s1)), (a_rn, .inr (6, [.ref a_lp, .ref a_rn_levels, .ref a_rn_path, .ref a_s1, .ref a_s2, .ref a_wk, .int rn_reached, .int rn_greatestLevel, .int rn_pathSize]))] sz) [(a_lp, .inr (4, [.ref a_lp_facts, .ref a_lp_turns, .ref a_lp_first, .ref a_lp_src, .ref a_s1, .int lp_choices, .int lp_guesses, .int lp_unaries, .int lp_ranked])), (a_lp_facts, .inl (cI, 4096, .inl lp_facts)), (a_lp_turns, .inl (cI, 24576, .inl lp_turns)), (a_s1, .inl (cI, 4096, .inl u)), (a_rn, .inr (6, [.ref a_lp, .ref a_rn_levels, .ref a_rn_path, .ref a_s1, .ref a_s2, .ref a_wk, .int rn_reached, .int rn_greatestLevel, .int rn_pathSize]))] t) (va_A [(a_lp, .inr (4, [.ref a_lp_facts, .ref a_lp_turns, .ref a_lp_first, .ref a_lp_src, .ref a_s1, .int lp_choices, .int lp_guesses, .int lp_unaries, .int lp_ranked])), (a_lp_facts, .inl (cI, 4096, .inl lp_facts)), (a_lp_turns, .inl (cI, 24576, .inl lp_turns)), (a_s1, .inl (cI, 4096, .inl s1)), (a_rn, .inr (6, [.ref a_lp, .ref a_rn_levels, .ref a_rn_path, .ref a_s1, .ref a_s2, .ref a_wk, .int rn_reached, .int rn_greatestLevel, .int rn_pathSize]))] sz)) 0 0 (va_A [(a_lp, .inr (4, [.ref a_lp_facts, .ref a_lp_turns, .ref a_lp_first, .ref a_lp_src, .ref a_s1, .int lp_choices, .int lp_guesses, .int lp_unaries, .int lp_ranked])), (a_lp_facts, .inl (cI, 4096, .inl lp_facts)), (a_lp_turns, .inl (cI, 24576, .inl lp_turns)), (a_s1, .inl (cI, 4096, .inl s1)), (a_rn, .inr (6, [.ref a_lp, .ref a_rn_levels, .ref a_rn_path, .ref a_s1, .ref a_s2, .ref a_wk, .int rn_reached, .int rn_greatestLevel, .int rn_pathSize]))] sz) := by
  refine Met.ofW (cc := b_Runs_countArrivals) (maxL := 4) (ret := none) (by decide) rfl ?_
  intro p e s m args below meth c s₁ B hml hv
  obtain ⟨rfl, hsz, hP, hK, hD0, hN, hT⟩ := hv
  have hx := B.exec
  have hb := B.bytes
  have hr := B.returns
  have hts := atoms_spec (ws := w_Runs_countArrivals) B.pre
  have hown : s.vm.findClass "LoopInduction$Runs" = some m.cls := findClass_of_methodNamed B.named
  have hlocks := B.notSynchronized
  subst hsz
  have hD := hD0.self (sz := s.heap.size)
  generalize hAe : va_A [(a_lp, .inr (4, [.ref a_lp_facts, .ref a_lp_turns, .ref a_lp_first, .ref a_lp_src, .ref a_s1, .int lp_choices, .int lp_guesses, .int lp_unaries, .int lp_ranked])), (a_lp_facts, .inl (cI, 4096, .inl lp_facts)), (a_lp_turns, .inl (cI, 24576, .inl lp_turns)), (a_s1, .inl (cI, 4096, .inl s1)), (a_rn, .inr (6, [.ref a_lp, .ref a_rn_levels, .ref a_rn_path, .ref a_s1, .ref a_s2, .ref a_wk, .int rn_reached, .int rn_greatestLevel, .int rn_pathSize]))] s.heap.size = A at hD hT ⊢
  have hA : ∀ q : Nat, s.heap.size ≤ q → A q := fun q h => by rw [← hAe]; exact Or.inr h
  have hS : va_S A s.heap s.heap [] := va_S.rf
  generalize hQ : MQ below _ _ s 0 0 _ = QQ
  have hl := lv_entry ([.ref a_rn]) (n := 4) (Nat.le_of_ble_eq_true rfl)
  rw [lg_entry_eq]
  generalize (lg_sl ([.ref a_rn]) ++ List.replicate (4 - (lg_sl ([.ref a_rn])).length) Slot.unset).toArray = ls at hl ⊢
  have hl : lv_has ls 4 [(0, .ref a_rn)] := hl
  have fl_28 := (hts _ (List.mem_cons_of_mem _ m_297))
  have fl_38 := (hts _ (List.mem_cons_of_mem _ m_300))
  refine lv_aload_n hx hb d_Runs_countArrivals_0 rfl (lv_at hl 0 rfl) ?_
  refine va_get (D := (dC, dI)) (ci := 6) (v := .ref a_s1) (C := "LoopInduction$Runs") (T := F_Runs) (N := 9) hx hb hts iC_Runs hown hK hP 4 rfl rfl 3 (by decide) fl_38 (fun _ h9 => h9) rfl d_Runs_countArrivals_1 ?_
  refine lv_iconst (v := 0) hx hb d_Runs_countArrivals_4 (by decide) ?_
  refine jn_v (wr := [(a_lp, .inr (4, [.ref a_lp_facts, .ref a_lp_turns, .ref a_lp_first, .ref a_lp_src, .ref a_s1, .int lp_choices, .int lp_guesses, .int lp_unaries, .int lp_ranked])), (a_lp_facts, .inl (cI, 4096, .inl lp_facts)), (a_lp_turns, .inl (cI, 24576, .inl lp_turns)), (a_rn, .inr (6, [.ref a_lp, .ref a_rn_levels, .ref a_rn_path, .ref a_s1, .ref a_s2, .ref a_wk, .int rn_reached, .int rn_greatestLevel, .int rn_pathSize]))]) (va_runS (As := [.ref a_s1, .int 0]) (rest := []) ⟨hx, hb, hml, hown, hts⟩ (c_fill l dC dI cI cB cZ adK adV _ a_s1 4096 s1 0 (by decide)) ⟨callB_of 2 hts (ga_ m_612) rfl rfl rfl (hts _ (List.mem_cons_of_mem _ m_103)) (hts _ (List.mem_cons_of_mem _ m_779)) pn_fill ⟨Nat.le_of_ble_eq_true rfl, Nat.le_of_ble_eq_true rfl⟩, (hts _ (List.mem_cons_of_mem _ m_611))⟩ ⟨pc_blind, pc_of (hP.sub [3] rfl) hK (hD.sub [3] (by decide) rfl) hN hT hS hA⟩ rfl rfl hl.1 rfl (lv_room (Nat.le_of_ble_eq_true rfl)) d_Runs_countArrivals_5 ⟨Nat.zero_le _, Nat.zero_le _⟩) hP hD hS hA [3] [0, 1, 2, 4] rfl rfl (by decide) (by decide) (fun u_1 H locs eu_1 hP hD hS => ?_)
  subst eu_1
  have hP : va_P (dC, dI) vwCl [(a_lp, .inr (4, [.ref a_lp_facts, .ref a_lp_turns, .ref a_lp_first, .ref a_lp_src, .ref a_s1, .int lp_choices, .int lp_guesses, .int lp_unaries, .int lp_ranked])), (a_lp_facts, .inl (cI, 4096, .inl lp_facts)), (a_lp_turns, .inl (cI, 24576, .inl lp_turns)), (a_rn, .inr (6, [.ref a_lp, .ref a_rn_levels, .ref a_rn_path, .ref a_s1, .ref a_s2, .ref a_wk, .int rn_reached, .int rn_greatestLevel, .int rn_pathSize])), (a_s1, .inl (cI, 4096, .inl (vp_fill s1 4096 0)))] H := hP
  have hD : va_D A [(a_lp, .inr (4, [.ref a_lp_facts, .ref a_lp_turns, .ref a_lp_first, .ref a_lp_src, .ref a_s1, .int lp_choices, .int lp_guesses, .int lp_unaries, .int lp_ranked])), (a_lp_facts, .inl (cI, 4096, .inl lp_facts)), (a_lp_turns, .inl (cI, 24576, .inl lp_turns)), (a_rn, .inr (6, [.ref a_lp, .ref a_rn_levels, .ref a_rn_path, .ref a_s1, .ref a_s2, .ref a_wk, .int rn_reached, .int rn_greatestLevel, .int rn_pathSize])), (a_s1, .inl (cI, 4096, .inl (vp_fill s1 4096 0)))] := hD
  refine lv_iconst (v := 0) hx hb d_Runs_countArrivals_8 (by decide) ?_
  refine lv_istore_n (lv' := [(1, .int 0), (0, .ref a_rn)]) hx hb d_Runs_countArrivals_9 rfl hl (by decide) rfl (fun ls hl => ?_)
  have L10_q_4 : ∀ (k81 : (Nat → Int32) → Prop) (hk81 : ∀ (s1_5 : Nat → Int32), k81 s1_5 → ∀ (H : Heap) (locs : List Loc), va_P (dC, dI) vwCl [(a_lp, .inr (4, [.ref a_lp_facts, .ref a_lp_turns, .ref a_lp_first, .ref a_lp_src, .ref a_s1, .int lp_choices, .int lp_guesses, .int lp_unaries, .int lp_ranked])), (a_lp_facts, .inl (cI, 4096, .inl lp_facts)), (a_lp_turns, .inl (cI, 24576, .inl lp_turns)), (a_rn, .inr (6, [.ref a_lp, .ref a_rn_levels, .ref a_rn_path, .ref a_s1, .ref a_s2, .ref a_wk, .int rn_reached, .int rn_greatestLevel, .int rn_pathSize])), (a_s1, .inl (cI, 4096, .inl s1_5))] H → va_D A [(a_lp, .inr (4, [.ref a_lp_facts, .ref a_lp_turns, .ref a_lp_first, .ref a_lp_src, .ref a_s1, .int lp_choices, .int lp_guesses, .int lp_unaries, .int lp_ranked])), (a_lp_facts, .inl (cI, 4096, .inl lp_facts)), (a_lp_turns, .inl (cI, 24576, .inl lp_turns)), (a_rn, .inr (6, [.ref a_lp, .ref a_rn_levels, .ref a_rn_path, .ref a_s1, .ref a_s2, .ref a_wk, .int rn_reached, .int rn_greatestLevel, .int rn_pathSize])), (a_s1, .inl (cI, 4096, .inl s1_5))] → va_S A s.heap H locs → ∀ ls : Array Slot, lv_has ls 4 [] → W p l e (headSpec w_Runs_countArrivals ({ frames := 2, cells := 0, slots := 0, locals := 42 })).room s m (([.ref a_rn] : List Value).toArray) below meth c H locs 0 0 QQ (F0 m 81 ls [])) (n : Nat) (x1_2 : Int32) (s1_3 : Nat → Int32), wp_Runs_countArrivals_L10 lp_choices lp_facts lp_turns k81 n x1_2 s1_3 → ∀ (H : Heap) (locs : List Loc), va_P (dC, dI) vwCl [(a_lp, .inr (4, [.ref a_lp_facts, .ref a_lp_turns, .ref a_lp_first, .ref a_lp_src, .ref a_s1, .int lp_choices, .int lp_guesses, .int lp_unaries, .int lp_ranked])), (a_lp_facts, .inl (cI, 4096, .inl lp_facts)), (a_lp_turns, .inl (cI, 24576, .inl lp_turns)), (a_rn, .inr (6, [.ref a_lp, .ref a_rn_levels, .ref a_rn_path, .ref a_s1, .ref a_s2, .ref a_wk, .int rn_reached, .int rn_greatestLevel, .int rn_pathSize])), (a_s1, .inl (cI, 4096, .inl s1_3))] H → va_D A [(a_lp, .inr (4, [.ref a_lp_facts, .ref a_lp_turns, .ref a_lp_first, .ref a_lp_src, .ref a_s1, .int lp_choices, .int lp_guesses, .int lp_unaries, .int lp_ranked])), (a_lp_facts, .inl (cI, 4096, .inl lp_facts)), (a_lp_turns, .inl (cI, 24576, .inl lp_turns)), (a_rn, .inr (6, [.ref a_lp, .ref a_rn_levels, .ref a_rn_path, .ref a_s1, .ref a_s2, .ref a_wk, .int rn_reached, .int rn_greatestLevel, .int rn_pathSize])), (a_s1, .inl (cI, 4096, .inl s1_3))] → va_S A s.heap H locs → ∀ ls : Array Slot, lv_has ls 4 [(0, .ref a_rn), (1, .int x1_2)] → W p l e (headSpec w_Runs_countArrivals ({ frames := 2, cells := 0, slots := 0, locals := 42 })).room s m (([.ref a_rn] : List Value).toArray) below meth c H locs 0 0 QQ (F0 m 10 ls []) := by
    intro k81 hk81 n
    induction n with
    | zero => intro x1_2 s1_3 h; exact (show False from h).elim
    | succ n il =>
      intro x1_2 s1_3 h
      intro H locs hP hD hS ls hl
      refine lv_iload_n hx hb d_Runs_countArrivals_10 rfl (lv_at hl 1 rfl) ?_
      refine lv_sipush (v := 4096) hx hb d_Runs_countArrivals_11 (by decide) ?_
      refine lv_icmp_ge (tgt := 81) hx hb d_Runs_countArrivals_14 (by decide) (fun c_14 => ?_) (fun c_14 => ?_)
      · have h := And.left h c_14
        exact hk81 _ h _ _ hP hD hS _ (lv_sub hl [] rfl)
      · have h := And.right h c_14
        refine lv_iconst (v := 0) hx hb d_Runs_countArrivals_17 (by decide) ?_
        refine lv_istore_n (lv' := [(2, .int 0), (0, .ref a_rn), (1, .int x1_2)]) hx hb d_Runs_countArrivals_18 rfl hl (by decide) rfl (fun ls hl => ?_)
        have L19_q_8 : ∀ (k75 : (Nat → Int32) → Prop) (hk75 : ∀ (s1_9 : Nat → Int32), k75 s1_9 → ∀ (H : Heap) (locs : List Loc), va_P (dC, dI) vwCl [(a_lp, .inr (4, [.ref a_lp_facts, .ref a_lp_turns, .ref a_lp_first, .ref a_lp_src, .ref a_s1, .int lp_choices, .int lp_guesses, .int lp_unaries, .int lp_ranked])), (a_lp_facts, .inl (cI, 4096, .inl lp_facts)), (a_lp_turns, .inl (cI, 24576, .inl lp_turns)), (a_rn, .inr (6, [.ref a_lp, .ref a_rn_levels, .ref a_rn_path, .ref a_s1, .ref a_s2, .ref a_wk, .int rn_reached, .int rn_greatestLevel, .int rn_pathSize])), (a_s1, .inl (cI, 4096, .inl s1_9))] H → va_D A [(a_lp, .inr (4, [.ref a_lp_facts, .ref a_lp_turns, .ref a_lp_first, .ref a_lp_src, .ref a_s1, .int lp_choices, .int lp_guesses, .int lp_unaries, .int lp_ranked])), (a_lp_facts, .inl (cI, 4096, .inl lp_facts)), (a_lp_turns, .inl (cI, 24576, .inl lp_turns)), (a_rn, .inr (6, [.ref a_lp, .ref a_rn_levels, .ref a_rn_path, .ref a_s1, .ref a_s2, .ref a_wk, .int rn_reached, .int rn_greatestLevel, .int rn_pathSize])), (a_s1, .inl (cI, 4096, .inl s1_9))] → va_S A s.heap H locs → ∀ ls : Array Slot, lv_has ls 4 [(0, .ref a_rn), (1, .int x1_2)] → W p l e (headSpec w_Runs_countArrivals ({ frames := 2, cells := 0, slots := 0, locals := 42 })).room s m (([.ref a_rn] : List Value).toArray) below meth c H locs 0 0 QQ (F0 m 75 ls [])) (n : Nat) (x2_6 : Int32) (s1_7 : Nat → Int32), wp_Runs_countArrivals_L19 x1_2 lp_choices lp_facts lp_turns k75 n x2_6 s1_7 → ∀ (H : Heap) (locs : List Loc), va_P (dC, dI) vwCl [(a_lp, .inr (4, [.ref a_lp_facts, .ref a_lp_turns, .ref a_lp_first, .ref a_lp_src, .ref a_s1, .int lp_choices, .int lp_guesses, .int lp_unaries, .int lp_ranked])), (a_lp_facts, .inl (cI, 4096, .inl lp_facts)), (a_lp_turns, .inl (cI, 24576, .inl lp_turns)), (a_rn, .inr (6, [.ref a_lp, .ref a_rn_levels, .ref a_rn_path, .ref a_s1, .ref a_s2, .ref a_wk, .int rn_reached, .int rn_greatestLevel, .int rn_pathSize])), (a_s1, .inl (cI, 4096, .inl s1_7))] H → va_D A [(a_lp, .inr (4, [.ref a_lp_facts, .ref a_lp_turns, .ref a_lp_first, .ref a_lp_src, .ref a_s1, .int lp_choices, .int lp_guesses, .int lp_unaries, .int lp_ranked])), (a_lp_facts, .inl (cI, 4096, .inl lp_facts)), (a_lp_turns, .inl (cI, 24576, .inl lp_turns)), (a_rn, .inr (6, [.ref a_lp, .ref a_rn_levels, .ref a_rn_path, .ref a_s1, .ref a_s2, .ref a_wk, .int rn_reached, .int rn_greatestLevel, .int rn_pathSize])), (a_s1, .inl (cI, 4096, .inl s1_7))] → va_S A s.heap H locs → ∀ ls : Array Slot, lv_has ls 4 [(0, .ref a_rn), (1, .int x1_2), (2, .int x2_6)] → W p l e (headSpec w_Runs_countArrivals ({ frames := 2, cells := 0, slots := 0, locals := 42 })).room s m (([.ref a_rn] : List Value).toArray) below meth c H locs 0 0 QQ (F0 m 19 ls []) := by
          intro k75 hk75 n
          induction n with
          | zero => intro x2_6 s1_7 h; exact (show False from h).elim
          | succ n il =>
            intro x2_6 s1_7 h
            intro H locs hP hD hS ls hl
            refine lv_iload_n hx hb d_Runs_countArrivals_19 rfl (lv_at hl 2 rfl) ?_
            refine lv_aload_n hx hb d_Runs_countArrivals_20 rfl (lv_at hl 0 rfl) ?_
            refine va_get (D := (dC, dI)) (ci := 6) (v := .ref a_lp) (C := "LoopInduction$Runs") (T := F_Runs) (N := 9) hx hb hts iC_Runs hown hK hP 3 rfl rfl 0 (by decide) fl_28 (fun _ h9 => h9) rfl d_Runs_countArrivals_21 ?_
            refine jn_i (wr := [(a_lp_facts, .inl (cI, 4096, .inl lp_facts)), (a_lp_turns, .inl (cI, 24576, .inl lp_turns)), (a_rn, .inr (6, [.ref a_lp, .ref a_rn_levels, .ref a_rn_path, .ref a_s1, .ref a_s2, .ref a_wk, .int rn_reached, .int rn_greatestLevel, .int rn_pathSize])), (a_s1, .inl (cI, 4096, .inl s1_7))]) (va_runV (As := []) (rest := [.int x2_6]) ⟨hx, hb, hml, hown, hts⟩ (c_Loop_choices l dC dI cI cB cZ adK adV _ a_lp a_lp_facts a_lp_turns a_lp_first a_lp_src a_s1 lp_choices lp_guesses lp_unaries lp_ranked _ h) (cwV 0 hts (gv_ m_809 m_810 m_811 m_92 m_812) rfl rfl rfl pd_Loop_choices ⟨Nat.le_of_ble_eq_true rfl, Nat.le_of_ble_eq_true rfl⟩) ⟨pc_blind, va_recv hK hP (ci := 4) (q0 := 0) rfl rfl, pc_of (hP.sub [0] rfl) hK (hD.sub [0] (by decide) rfl) hN hT hS hA⟩ rfl rfl hl.1 rfl (lv_room (Nat.le_of_ble_eq_true rfl)) d_Runs_countArrivals_24 ⟨Nat.zero_le _, Nat.zero_le _⟩) hP hD hS hA [0] [1, 2, 3, 4] rfl rfl (by decide) (by decide) (fun r_10 u_ H locs h hP hD hS => ?_)
            have hP : va_P (dC, dI) vwCl [(a_lp_facts, .inl (cI, 4096, .inl lp_facts)), (a_lp_turns, .inl (cI, 24576, .inl lp_turns)), (a_rn, .inr (6, [.ref a_lp, .ref a_rn_levels, .ref a_rn_path, .ref a_s1, .ref a_s2, .ref a_wk, .int rn_reached, .int rn_greatestLevel, .int rn_pathSize])), (a_s1, .inl (cI, 4096, .inl s1_7)), (a_lp, .inr (4, [.ref a_lp_facts, .ref a_lp_turns, .ref a_lp_first, .ref a_lp_src, .ref a_s1, .int lp_choices, .int lp_guesses, .int lp_unaries, .int lp_ranked]))] H := hP
            have hD : va_D A [(a_lp_facts, .inl (cI, 4096, .inl lp_facts)), (a_lp_turns, .inl (cI, 24576, .inl lp_turns)), (a_rn, .inr (6, [.ref a_lp, .ref a_rn_levels, .ref a_rn_path, .ref a_s1, .ref a_s2, .ref a_wk, .int rn_reached, .int rn_greatestLevel, .int rn_pathSize])), (a_s1, .inl (cI, 4096, .inl s1_7)), (a_lp, .inr (4, [.ref a_lp_facts, .ref a_lp_turns, .ref a_lp_first, .ref a_lp_src, .ref a_s1, .int lp_choices, .int lp_guesses, .int lp_unaries, .int lp_ranked]))] := hD
            refine lv_icmp_ge (tgt := 75) hx hb d_Runs_countArrivals_27 (by decide) (fun c_27 => ?_) (fun c_27 => ?_)
            · have h := And.left h c_27
              exact hk75 _ h _ _ (hP.sub [4, 0, 1, 2, 3] rfl) (hD.sub [4, 0, 1, 2, 3] (by decide) rfl) hS _ (lv_sub hl [0, 1] rfl)
            · have h := And.right h c_27
              refine lv_aload_n hx hb d_Runs_countArrivals_30 rfl (lv_at hl 0 rfl) ?_
              refine va_get (D := (dC, dI)) (ci := 6) (v := .ref a_lp) (C := "LoopInduction$Runs") (T := F_Runs) (N := 9) hx hb hts iC_Runs hown hK hP 2 rfl rfl 0 (by decide) fl_28 (fun _ h9 => h9) rfl d_Runs_countArrivals_31 ?_
              refine lv_iload_n hx hb d_Runs_countArrivals_34 rfl (lv_at hl 1 rfl) ?_
              refine lv_iload_n hx hb d_Runs_countArrivals_35 rfl (lv_at hl 2 rfl) ?_
              refine jn_i (wr := [(a_lp_facts, .inl (cI, 4096, .inl lp_facts)), (a_rn, .inr (6, [.ref a_lp, .ref a_rn_levels, .ref a_rn_path, .ref a_s1, .ref a_s2, .ref a_wk, .int rn_reached, .int rn_greatestLevel, .int rn_pathSize])), (a_s1, .inl (cI, 4096, .inl s1_7))]) (va_runV (As := [.int x1_2, .int x2_6]) (rest := []) ⟨hx, hb, hml, hown, hts⟩ (c_Loop_turn l dC dI cI cB cZ adK adV _ a_lp a_lp_facts a_lp_turns a_lp_first a_lp_src a_s1 lp_choices lp_guesses lp_unaries lp_ranked lp_turns x1_2 x2_6 _ h) (cwV 2 hts (gv_ m_813 m_757 m_758 m_92 m_759) rfl rfl rfl pd_Loop_turn ⟨Nat.le_of_ble_eq_true rfl, Nat.le_of_ble_eq_true rfl⟩) ⟨pc_blind, va_recv hK hP (ci := 4) (q0 := 4) rfl rfl, pc_of (hP.sub [4, 1] rfl) hK (hD.sub [4, 1] (by decide) rfl) hN hT hS hA⟩ rfl rfl hl.1 rfl (lv_room (Nat.le_of_ble_eq_true rfl)) d_Runs_countArrivals_36 ⟨Nat.zero_le _, Nat.zero_le _⟩) hP hD hS hA [4, 1] [0, 2, 3] rfl rfl (by decide) (by decide) (fun r_11 u_ H locs h hP hD hS => ?_)
              have hP : va_P (dC, dI) vwCl [(a_lp_facts, .inl (cI, 4096, .inl lp_facts)), (a_rn, .inr (6, [.ref a_lp, .ref a_rn_levels, .ref a_rn_path, .ref a_s1, .ref a_s2, .ref a_wk, .int rn_reached, .int rn_greatestLevel, .int rn_pathSize])), (a_s1, .inl (cI, 4096, .inl s1_7)), (a_lp, .inr (4, [.ref a_lp_facts, .ref a_lp_turns, .ref a_lp_first, .ref a_lp_src, .ref a_s1, .int lp_choices, .int lp_guesses, .int lp_unaries, .int lp_ranked])), (a_lp_turns, .inl (cI, 24576, .inl lp_turns))] H := hP
              have hD : va_D A [(a_lp_facts, .inl (cI, 4096, .inl lp_facts)), (a_rn, .inr (6, [.ref a_lp, .ref a_rn_levels, .ref a_rn_path, .ref a_s1, .ref a_s2, .ref a_wk, .int rn_reached, .int rn_greatestLevel, .int rn_pathSize])), (a_s1, .inl (cI, 4096, .inl s1_7)), (a_lp, .inr (4, [.ref a_lp_facts, .ref a_lp_turns, .ref a_lp_first, .ref a_lp_src, .ref a_s1, .int lp_choices, .int lp_guesses, .int lp_unaries, .int lp_ranked])), (a_lp_turns, .inl (cI, 24576, .inl lp_turns))] := hD
              refine lv_istore_n (lv' := [(3, .int r_11), (0, .ref a_rn), (1, .int x1_2), (2, .int x2_6)]) hx hb d_Runs_countArrivals_39 rfl hl (by decide) rfl (fun ls hl => ?_)
              refine lv_iload_n hx hb d_Runs_countArrivals_40 rfl (lv_at hl 0 rfl) ?_
              refine jn_i (wr := [(a_lp_facts, .inl (cI, 4096, .inl lp_facts)), (a_rn, .inr (6, [.ref a_lp, .ref a_rn_levels, .ref a_rn_path, .ref a_s1, .ref a_s2, .ref a_wk, .int rn_reached, .int rn_greatestLevel, .int rn_pathSize])), (a_s1, .inl (cI, 4096, .inl s1_7)), (a_lp, .inr (4, [.ref a_lp_facts, .ref a_lp_turns, .ref a_lp_first, .ref a_lp_src, .ref a_s1, .int lp_choices, .int lp_guesses, .int lp_unaries, .int lp_ranked])), (a_lp_turns, .inl (cI, 24576, .inl lp_turns))]) (va_runSN (As := [.int r_11]) (rest := []) ⟨hx, hb, hml, hown, hts⟩ (c_LI_isState l dC dI cI cB cZ adK adV _ r_11 _ h) ⟨va_cnB 1 hts (ga_ m_762) rfl rfl rfl (hN _ (List.mem_of_getElem? (i := 5) rfl)) (hts _ (List.mem_cons_of_mem _ m_85)) pn_LI_isState ⟨Nat.le_of_ble_eq_true rfl, Nat.le_of_ble_eq_true rfl⟩, (hts _ (List.mem_cons_of_mem _ m_761)), trivial⟩ ⟨pc_blind, pc_of (hP.sub [] rfl) hK (hD.sub [] (by decide) rfl) hN hT hS hA⟩ rfl rfl hl.1 rfl (lv_room (Nat.le_of_ble_eq_true rfl)) d_Runs_countArrivals_41 ⟨Nat.zero_le _, Nat.zero_le _⟩) hP hD hS hA [] [0, 1, 2, 3, 4] rfl rfl (by decide) (by decide) (fun r_12 u_ H locs h hP hD hS => ?_)
              have hP : va_P (dC, dI) vwCl [(a_lp_facts, .inl (cI, 4096, .inl lp_facts)), (a_rn, .inr (6, [.ref a_lp, .ref a_rn_levels, .ref a_rn_path, .ref a_s1, .ref a_s2, .ref a_wk, .int rn_reached, .int rn_greatestLevel, .int rn_pathSize])), (a_s1, .inl (cI, 4096, .inl s1_7)), (a_lp, .inr (4, [.ref a_lp_facts, .ref a_lp_turns, .ref a_lp_first, .ref a_lp_src, .ref a_s1, .int lp_choices, .int lp_guesses, .int lp_unaries, .int lp_ranked])), (a_lp_turns, .inl (cI, 24576, .inl lp_turns))] H := hP
              have hD : va_D A [(a_lp_facts, .inl (cI, 4096, .inl lp_facts)), (a_rn, .inr (6, [.ref a_lp, .ref a_rn_levels, .ref a_rn_path, .ref a_s1, .ref a_s2, .ref a_wk, .int rn_reached, .int rn_greatestLevel, .int rn_pathSize])), (a_s1, .inl (cI, 4096, .inl s1_7)), (a_lp, .inr (4, [.ref a_lp_facts, .ref a_lp_turns, .ref a_lp_first, .ref a_lp_src, .ref a_s1, .int lp_choices, .int lp_guesses, .int lp_unaries, .int lp_ranked])), (a_lp_turns, .inl (cI, 24576, .inl lp_turns))] := hD
              refine lv_if_eq (tgt := 69) hx hb d_Runs_countArrivals_44 (by decide) (fun c_44 => ?_) (fun c_44 => ?_)
              · have h := And.left h c_44
                refine lv_iinc (v := x2_6 + 1) (lv' := [(2, .int (x2_6 + 1)), (3, .int r_11), (0, .ref a_rn), (1, .int x1_2)]) hx hb d_Runs_countArrivals_69 hl (k := 3) rfl rfl (by decide) rfl (fun ls hl => ?_)
                refine lv_goto (tgt := 19) hx hb d_Runs_countArrivals_72 (by decide) ?_
                exact il _ _ h _ _ (hP.sub [3, 0, 4, 1, 2] rfl) (hD.sub [3, 0, 4, 1, 2] (by decide) rfl) hS _ (lv_sub hl [2, 3, 0] rfl)
              · have h := And.right h c_44
                refine lv_aload_n hx hb d_Runs_countArrivals_47 rfl (lv_at hl 1 rfl) ?_
                refine va_get (D := (dC, dI)) (ci := 6) (v := .ref a_lp) (C := "LoopInduction$Runs") (T := F_Runs) (N := 9) hx hb hts iC_Runs hown hK hP 1 rfl rfl 0 (by decide) fl_28 (fun _ h9 => h9) rfl d_Runs_countArrivals_48 ?_
                refine lv_iload_n hx hb d_Runs_countArrivals_51 rfl (lv_at hl 2 rfl) ?_
                refine lv_iconst (v := 4) hx hb d_Runs_countArrivals_52 (by decide) ?_
                refine jn_i (wr := [(a_rn, .inr (6, [.ref a_lp, .ref a_rn_levels, .ref a_rn_path, .ref a_s1, .ref a_s2, .ref a_wk, .int rn_reached, .int rn_greatestLevel, .int rn_pathSize])), (a_s1, .inl (cI, 4096, .inl s1_7)), (a_lp_turns, .inl (cI, 24576, .inl lp_turns))]) (va_runV (As := [.int x1_2, .int 4]) (rest := []) ⟨hx, hb, hml, hown, hts⟩ (c_Loop_hasAll l dC dI cI cB cZ adK adV _ a_lp a_lp_facts a_lp_turns a_lp_first a_lp_src a_s1 lp_choices lp_guesses lp_unaries lp_ranked lp_facts x1_2 4 _ h) (cwV 2 hts (gv_ m_784 m_785 m_786 m_92 m_787) rfl rfl rfl pd_Loop_hasAll ⟨Nat.le_of_ble_eq_true rfl, Nat.le_of_ble_eq_true rfl⟩) ⟨pc_blind, va_recv hK hP (ci := 4) (q0 := 3) rfl rfl, pc_of (hP.sub [3, 0] rfl) hK (hD.sub [3, 0] (by decide) rfl) hN hT hS hA⟩ rfl rfl hl.1 rfl (lv_room (Nat.le_of_ble_eq_true rfl)) d_Runs_countArrivals_53 ⟨Nat.zero_le _, Nat.zero_le _⟩) hP hD hS hA [3, 0] [1, 2, 4] rfl rfl (by decide) (by decide) (fun r_13 u_ H locs h hP hD hS => ?_)
                have hP : va_P (dC, dI) vwCl [(a_rn, .inr (6, [.ref a_lp, .ref a_rn_levels, .ref a_rn_path, .ref a_s1, .ref a_s2, .ref a_wk, .int rn_reached, .int rn_greatestLevel, .int rn_pathSize])), (a_s1, .inl (cI, 4096, .inl s1_7)), (a_lp_turns, .inl (cI, 24576, .inl lp_turns)), (a_lp, .inr (4, [.ref a_lp_facts, .ref a_lp_turns, .ref a_lp_first, .ref a_lp_src, .ref a_s1, .int lp_choices, .int lp_guesses, .int lp_unaries, .int lp_ranked])), (a_lp_facts, .inl (cI, 4096, .inl lp_facts))] H := hP
                have hD : va_D A [(a_rn, .inr (6, [.ref a_lp, .ref a_rn_levels, .ref a_rn_path, .ref a_s1, .ref a_s2, .ref a_wk, .int rn_reached, .int rn_greatestLevel, .int rn_pathSize])), (a_s1, .inl (cI, 4096, .inl s1_7)), (a_lp_turns, .inl (cI, 24576, .inl lp_turns)), (a_lp, .inr (4, [.ref a_lp_facts, .ref a_lp_turns, .ref a_lp_first, .ref a_lp_src, .ref a_s1, .int lp_choices, .int lp_guesses, .int lp_unaries, .int lp_ranked])), (a_lp_facts, .inl (cI, 4096, .inl lp_facts))] := hD
                refine lv_if_eq (tgt := 69) hx hb d_Runs_countArrivals_56 (by decide) (fun c_56 => ?_) (fun c_56 => ?_)
                · have h := And.left h c_56
                  refine lv_iinc (v := x2_6 + 1) (lv' := [(2, .int (x2_6 + 1)), (3, .int r_11), (0, .ref a_rn), (1, .int x1_2)]) hx hb d_Runs_countArrivals_69 hl (k := 3) rfl rfl (by decide) rfl (fun ls hl => ?_)
                  refine lv_goto (tgt := 19) hx hb d_Runs_countArrivals_72 (by decide) ?_
                  exact il _ _ h _ _ (hP.sub [3, 4, 2, 0, 1] rfl) (hD.sub [3, 4, 2, 0, 1] (by decide) rfl) hS _ (lv_sub hl [2, 3, 0] rfl)
                · have h := And.right h c_56
                  refine lv_aload_n hx hb d_Runs_countArrivals_59 rfl (lv_at hl 1 rfl) ?_
                  refine va_get (D := (dC, dI)) (ci := 6) (v := .ref a_s1) (C := "LoopInduction$Runs") (T := F_Runs) (N := 9) hx hb hts iC_Runs hown hK hP 0 rfl rfl 3 (by decide) fl_38 (fun _ h9 => h9) rfl d_Runs_countArrivals_60 ?_
                  refine lv_iload_n hx hb d_Runs_countArrivals_63 rfl (lv_at hl 0 rfl) ?_
                  refine lv_dup2_11 hx hb d_Runs_countArrivals_64 rfl rfl ?_
                  obtain ⟨hin_65, h⟩ := h
                  refine va_iald hx hb hK hP 1 0 rfl rfl hin_65 d_Runs_countArrivals_65 ?_
                  refine lv_iconst (v := 1) hx hb d_Runs_countArrivals_66 (by decide) ?_
                  refine lv_iadd hx hb d_Runs_countArrivals_67 ?_
                  obtain ⟨hin_68, h⟩ := h
                  refine va_iast hx hb hK hP hD hS 1 0 rfl rfl hin_68 d_Runs_countArrivals_68 (fun H locs hP hD hS => ?_)
                  have hP : va_P (dC, dI) vwCl [(a_rn, .inr (6, [.ref a_lp, .ref a_rn_levels, .ref a_rn_path, .ref a_s1, .ref a_s2, .ref a_wk, .int rn_reached, .int rn_greatestLevel, .int rn_pathSize])), (a_s1, .inl (cI, 4096, .inl (upd s1_7 (r_11 : Int32).toNatClampNeg ((s1_7 (r_11 : Int32).toNatClampNeg) + 1)))), (a_lp_turns, .inl (cI, 24576, .inl lp_turns)), (a_lp, .inr (4, [.ref a_lp_facts, .ref a_lp_turns, .ref a_lp_first, .ref a_lp_src, .ref a_s1, .int lp_choices, .int lp_guesses, .int lp_unaries, .int lp_ranked])), (a_lp_facts, .inl (cI, 4096, .inl lp_facts))] H := hP
                  have hD : va_D A [(a_rn, .inr (6, [.ref a_lp, .ref a_rn_levels, .ref a_rn_path, .ref a_s1, .ref a_s2, .ref a_wk, .int rn_reached, .int rn_greatestLevel, .int rn_pathSize])), (a_s1, .inl (cI, 4096, .inl (upd s1_7 (r_11 : Int32).toNatClampNeg ((s1_7 (r_11 : Int32).toNatClampNeg) + 1)))), (a_lp_turns, .inl (cI, 24576, .inl lp_turns)), (a_lp, .inr (4, [.ref a_lp_facts, .ref a_lp_turns, .ref a_lp_first, .ref a_lp_src, .ref a_s1, .int lp_choices, .int lp_guesses, .int lp_unaries, .int lp_ranked])), (a_lp_facts, .inl (cI, 4096, .inl lp_facts))] := hD
                  refine lv_iinc (v := x2_6 + 1) (lv' := [(2, .int (x2_6 + 1)), (3, .int r_11), (0, .ref a_rn), (1, .int x1_2)]) hx hb d_Runs_countArrivals_69 hl (k := 3) rfl rfl (by decide) rfl (fun ls hl => ?_)
                  refine lv_goto (tgt := 19) hx hb d_Runs_countArrivals_72 (by decide) ?_
                  exact il _ _ h _ _ (hP.sub [3, 4, 2, 0, 1] rfl) (hD.sub [3, 4, 2, 0, 1] (by decide) rfl) hS _ (lv_sub hl [2, 3, 0] rfl)
        obtain ⟨n_, h⟩ := h
        refine L19_q_8 _ ?_ n_ _ _ h _ _ hP hD hS _ (lv_sub hl [1, 2, 0] rfl)
        intro s1_14 h
        intro H locs hP hD hS ls hl
        refine lv_iinc (v := x1_2 + 1) (lv' := [(1, .int (x1_2 + 1)), (0, .ref a_rn)]) hx hb d_Runs_countArrivals_75 hl (k := 1) rfl rfl (by decide) rfl (fun ls hl => ?_)
        refine lv_goto (tgt := 10) hx hb d_Runs_countArrivals_78 (by decide) ?_
        exact il _ _ h _ _ hP hD hS _ (lv_sub hl [1, 0] rfl)
  obtain ⟨n_, h⟩ := h
  refine L10_q_4 _ ?_ n_ _ _ h _ _ hP hD hS _ (lv_sub hl [1, 0] rfl)
  intro s1_15 h
  intro H locs hP hD hS ls hl
  rw [← hQ]
  have hP9 := hP.sub (ws' := [(a_lp, .inr (4, [.ref a_lp_facts, .ref a_lp_turns, .ref a_lp_first, .ref a_lp_src, .ref a_s1, .int lp_choices, .int lp_guesses, .int lp_unaries, .int lp_ranked])), (a_lp_facts, .inl (cI, 4096, .inl lp_facts)), (a_lp_turns, .inl (cI, 24576, .inl lp_turns)), (a_s1, .inl (cI, 4096, .inl s1_15)), (a_rn, .inr (6, [.ref a_lp, .ref a_rn_levels, .ref a_rn_path, .ref a_s1, .ref a_s2, .ref a_wk, .int rn_reached, .int rn_greatestLevel, .int rn_pathSize]))]) [0, 1, 2, 4, 3] rfl
  have hD9 := hD.sub (ws' := [(a_lp, .inr (4, [.ref a_lp_facts, .ref a_lp_turns, .ref a_lp_first, .ref a_lp_src, .ref a_s1, .int lp_choices, .int lp_guesses, .int lp_unaries, .int lp_ranked])), (a_lp_facts, .inl (cI, 4096, .inl lp_facts)), (a_lp_turns, .inl (cI, 24576, .inl lp_turns)), (a_s1, .inl (cI, 4096, .inl s1_15)), (a_rn, .inr (6, [.ref a_lp, .ref a_rn_levels, .ref a_rn_path, .ref a_s1, .ref a_s2, .ref a_wk, .int rn_reached, .int rn_greatestLevel, .int rn_pathSize]))]) [0, 1, 2, 4, 3] (by decide) rfl
  exact W.vret hx hb hr (fun t ht hW => ⟨⟨(s1_15), rfl, h, by rw [ht]; exact hP9, va_K.moved hW.alike hK, hD9⟩, hS.F ht⟩) hS.2.2 d_Runs_countArrivals_81
set_option maxHeartbeats 4000000 in
set_option maxRecDepth 100000 in
theorem c_Runs_leave (l : Launch) (dC : Nat → ClassId) (dI : Nat → Nat → Nat) (cI cB cZ : ClassId) (adK adV : Nat → Nat) (sz : Nat) (a_lp a_lp_facts a_lp_turns a_lp_first a_lp_src a_s1 a_s2 a_wk a_wk_items a_rn a_rn_levels a_rn_path : Nat) (lp_choices : Int32) (lp_guesses : Int32) (lp_unaries : Int32) (lp_ranked : Int32) (lp_turns : Nat → Int32) (s1 : Nat → Int32) (s2 : Nat → Int32) (wk_size : Int32) (wk_items : Nat → Int32) (rn_reached : Int32) (rn_greatestLevel : Int32) (rn_pathSize : Int32) (x1 : Int32) (post : Int32 → (Nat → Int32) → (Nat → Int32) → Int32 → (Nat → Int32) → Prop) (h : wp_Runs_leave x1 lp_choices lp_turns s1 s2 wk_size wk_items post) : Met l y_Runs_leave w_Runs_leave ({ frames := 2, cells := 0, slots := 0, locals := 42 }) (pc_ (dC, dI) [(cI, .int), (cB, .byte), (cZ, .boolean)] [(a_lp, .inr (4, [.ref a_lp_facts, .ref a_lp_turns, .ref a_lp_first, .ref a_lp_src, .ref a_s1, .int lp_choices, .int lp_guesses, .int lp_unaries, .int lp_ranked])), (a_lp_turns, .inl (cI, 24576, .inl lp_turns)), (a_s1, .inl (cI, 4096, .inl s1)), (a_s2, .inl (cI, 4096, .inl s2)), (a_wk, .inr (10, [.ref a_wk_items, .int wk_size])), (a_wk_items, .inl (cI, 4096, .inl wk_items)), (a_rn, .inr (6, [.ref a_lp, .ref a_rn_levels, .ref a_rn_path, .ref a_s1, .ref a_s2, .ref a_wk, .int rn_reached, .int rn_greatestLevel, .int rn_pathSize]))] sz adK adV [.ref a_rn, .int x1]) (va_Qi (fun (r : Int32) (u : (Nat → Int32) × (Nat → Int32) × Int32 × (Nat → Int32)) => post r u.1 u.2.1 u.2.2.1 u.2.2.2) (fun (u : (Nat → Int32) × (Nat → Int32) × Int32 × (Nat → Int32)) t => bw_ (dC, dI) [(cI, .int), (cB, .byte), (cZ, .boolean)] (va_A [(a_lp, .inr (4, [.ref a_lp_facts, .ref a_lp_turns, .ref a_lp_first, .ref a_lp_src, .ref a_s1, .int lp_choices, .int lp_guesses, .int lp_unaries, .int lp_ranked])), (a_lp_turns, .inl (cI, 24576, .inl lp_turns)), (a_s1, .inl (cI, 4096, .inl s1)), (a_s2, .inl (cI, 4096, .inl s2)), (a_wk, .inr (10, [.ref a_wk_items, .int wk_size])), (a_wk_items, .inl (cI, 4096, .inl wk_items)), (a_rn, .inr (6, [.ref a_lp, .ref a_rn_levels, .ref a_rn_path, .ref a_s1, .ref a_s2, .ref a_wk, .int rn_reached, .int rn_greatestLevel, .int rn_pathSize]))] sz) [(a_lp, .inr (4, [.ref a_lp_facts, .ref a_lp_turns, .ref a_lp_first, .ref a_lp_src, .ref a_s1, .int lp_choices, .int lp_guesses, .int lp_unaries, .int lp_ranked])), (a_lp_turns, .inl (cI, 24576, .inl lp_turns)), (a_s1, .inl (cI, 4096, .inl u.1)), (a_s2, .inl (cI, 4096, .inl u.2.1)), (a_wk, .inr (10, [.ref a_wk_items, .int u.2.2.1])), (a_wk_items, .inl (cI, 4096, .inl u.2.2.2)), (a_rn, .inr (6, [.ref a_lp, .ref a_rn_levels, .ref a_rn_path, .ref a_s1, .ref a_s2, .ref a_wk, .int rn_reached, .int rn_greatestLevel, .int rn_pathSize]))] t) (va_A [(a_lp, .inr (4, [.ref a_lp_facts, .ref a_lp_turns, .ref a_lp_first, .ref a_lp_src, .ref a_s1, .int lp_choices, .int lp_guesses, .int lp_unaries, .int lp_ranked])), (a_lp_turns, .inl (cI, 24576, .inl lp_turns)), (a_s1, .inl (cI, 4096, .inl s1)), (a_s2, .inl (cI, 4096, .inl s2)), (a_wk, .inr (10, [.ref a_wk_items, .int wk_size])), (a_wk_items, .inl (cI, 4096, .inl wk_items)), (a_rn, .inr (6, [.ref a_lp, .ref a_rn_levels, .ref a_rn_path, .ref a_s1, .ref a_s2, .ref a_wk, .int rn_reached, .int rn_greatestLevel, .int rn_pathSize]))] sz)) 0 0 (va_A [(a_lp, .inr (4, [.ref a_lp_facts, .ref a_lp_turns, .ref a_lp_first, .ref a_lp_src, .ref a_s1, .int lp_choices, .int lp_guesses, .int lp_unaries, .int lp_ranked])), (a_lp_turns, .inl (cI, 24576, .inl lp_turns)), (a_s1, .inl (cI, 4096, .inl s1)), (a_s2, .inl (cI, 4096, .inl s2)), (a_wk, .inr (10, [.ref a_wk_items, .int wk_size])), (a_wk_items, .inl (cI, 4096, .inl wk_items)), (a_rn, .inr (6, [.ref a_lp, .ref a_rn_levels, .ref a_rn_path, .ref a_s1, .ref a_s2, .ref a_wk, .int rn_reached, .int rn_greatestLevel, .int rn_pathSize]))] sz) := by
  refine Met.ofW (cc := b_Runs_leave) (maxL := 4) (ret := (some .int)) (by decide) rfl ?_
  intro p e s m args below meth c s₁ B hml hv
  obtain ⟨rfl, hsz, hP, hK, hD0, hN, hT⟩ := hv
  have hx := B.exec
  have hb := B.bytes
  have hr := B.returns
  have hts := atoms_spec (ws := w_Runs_leave) B.pre
  have hown : s.vm.findClass "LoopInduction$Runs" = some m.cls := findClass_of_methodNamed B.named
  have hlocks := B.notSynchronized
  subst hsz
  have hD := hD0.self (sz := s.heap.size)
  generalize hAe : va_A [(a_lp, .inr (4, [.ref a_lp_facts, .ref a_lp_turns, .ref a_lp_first, .ref a_lp_src, .ref a_s1, .int lp_choices, .int lp_guesses, .int lp_unaries, .int lp_ranked])), (a_lp_turns, .inl (cI, 24576, .inl lp_turns)), (a_s1, .inl (cI, 4096, .inl s1)), (a_s2, .inl (cI, 4096, .inl s2)), (a_wk, .inr (10, [.ref a_wk_items, .int wk_size])), (a_wk_items, .inl (cI, 4096, .inl wk_items)), (a_rn, .inr (6, [.ref a_lp, .ref a_rn_levels, .ref a_rn_path, .ref a_s1, .ref a_s2, .ref a_wk, .int rn_reached, .int rn_greatestLevel, .int rn_pathSize]))] s.heap.size = A at hD hT ⊢
  have hA : ∀ q : Nat, s.heap.size ≤ q → A q := fun q h => by rw [← hAe]; exact Or.inr h
  have hS : va_S A s.heap s.heap [] := va_S.rf
  generalize hQ : MQ below _ _ s 0 0 _ = QQ
  have hl := lv_entry ([.ref a_rn, .int x1]) (n := 4) (Nat.le_of_ble_eq_true rfl)
  rw [lg_entry_eq]
  generalize (lg_sl ([.ref a_rn, .int x1]) ++ List.replicate (4 - (lg_sl ([.ref a_rn, .int x1])).length) Slot.unset).toArray = ls at hl ⊢
  have hl : lv_has ls 4 [(0, .ref a_rn), (1, .int x1)] := hl
  have fl_28 := (hts _ (List.mem_cons_of_mem _ m_297))
  have fl_38 := (hts _ (List.mem_cons_of_mem _ m_300))
  have fl_43 := (hts _ (List.mem_cons_of_mem _ m_301))
  have fl_49 := (hts _ (List.mem_cons_of_mem _ m_302))
  refine lv_iload_n hx hb d_Runs_leave_0 rfl (lv_at hl 1 rfl) ?_
  refine jn_i (wr := [(a_lp, .inr (4, [.ref a_lp_facts, .ref a_lp_turns, .ref a_lp_first, .ref a_lp_src, .ref a_s1, .int lp_choices, .int lp_guesses, .int lp_unaries, .int lp_ranked])), (a_lp_turns, .inl (cI, 24576, .inl lp_turns)), (a_s1, .inl (cI, 4096, .inl s1)), (a_s2, .inl (cI, 4096, .inl s2)), (a_wk, .inr (10, [.ref a_wk_items, .int wk_size])), (a_wk_items, .inl (cI, 4096, .inl wk_items)), (a_rn, .inr (6, [.ref a_lp, .ref a_rn_levels, .ref a_rn_path, .ref a_s1, .ref a_s2, .ref a_wk, .int rn_reached, .int rn_greatestLevel, .int rn_pathSize]))]) (va_runSN (As := [.int x1]) (rest := []) ⟨hx, hb, hml, hown, hts⟩ (c_LI_isState l dC dI cI cB cZ adK adV _ x1 _ h) ⟨va_cnB 1 hts (ga_ m_762) rfl rfl rfl (hN _ (List.mem_of_getElem? (i := 5) rfl)) (hts _ (List.mem_cons_of_mem _ m_85)) pn_LI_isState ⟨Nat.le_of_ble_eq_true rfl, Nat.le_of_ble_eq_true rfl⟩, (hts _ (List.mem_cons_of_mem _ m_761)), trivial⟩ ⟨pc_blind, pc_of (hP.sub [] rfl) hK (hD.sub [] (by decide) rfl) hN hT hS hA⟩ rfl rfl hl.1 rfl (lv_room (Nat.le_of_ble_eq_true rfl)) d_Runs_leave_1 ⟨Nat.zero_le _, Nat.zero_le _⟩) hP hD hS hA [] [0, 1, 2, 3, 4, 5, 6] rfl rfl (by decide) (by decide) (fun r_1 u_ H locs h hP hD hS => ?_)
  have hP : va_P (dC, dI) vwCl [(a_lp, .inr (4, [.ref a_lp_facts, .ref a_lp_turns, .ref a_lp_first, .ref a_lp_src, .ref a_s1, .int lp_choices, .int lp_guesses, .int lp_unaries, .int lp_ranked])), (a_lp_turns, .inl (cI, 24576, .inl lp_turns)), (a_s1, .inl (cI, 4096, .inl s1)), (a_s2, .inl (cI, 4096, .inl s2)), (a_wk, .inr (10, [.ref a_wk_items, .int wk_size])), (a_wk_items, .inl (cI, 4096, .inl wk_items)), (a_rn, .inr (6, [.ref a_lp, .ref a_rn_levels, .ref a_rn_path, .ref a_s1, .ref a_s2, .ref a_wk, .int rn_reached, .int rn_greatestLevel, .int rn_pathSize]))] H := hP
  have hD : va_D A [(a_lp, .inr (4, [.ref a_lp_facts, .ref a_lp_turns, .ref a_lp_first, .ref a_lp_src, .ref a_s1, .int lp_choices, .int lp_guesses, .int lp_unaries, .int lp_ranked])), (a_lp_turns, .inl (cI, 24576, .inl lp_turns)), (a_s1, .inl (cI, 4096, .inl s1)), (a_s2, .inl (cI, 4096, .inl s2)), (a_wk, .inr (10, [.ref a_wk_items, .int wk_size])), (a_wk_items, .inl (cI, 4096, .inl wk_items)), (a_rn, .inr (6, [.ref a_lp, .ref a_rn_levels, .ref a_rn_path, .ref a_s1, .ref a_s2, .ref a_wk, .int rn_reached, .int rn_greatestLevel, .int rn_pathSize]))] := hD
  refine lv_if_ne (tgt := 9) hx hb d_Runs_leave_4 (by decide) (fun c_4 => ?_) (fun c_4 => ?_)
  · have h := And.left h c_4
    refine lv_iconst (v := 0) hx hb d_Runs_leave_9 (by decide) ?_
    refine lv_istore_n (lv' := [(2, .int 0), (0, .ref a_rn), (1, .int x1)]) hx hb d_Runs_leave_10 rfl hl (by decide) rfl (fun ls hl => ?_)
    have L11_q_7 : ∀ (k95 : (Nat → Int32) → (Nat → Int32) → (Int32) → (Nat → Int32) → Prop) (hk95 : ∀ (s1_8 : Nat → Int32) (s2_9 : Nat → Int32) (wk_size_10 : Int32) (wk_items_11 : Nat → Int32), k95 s1_8 s2_9 wk_size_10 wk_items_11 → ∀ (H : Heap) (locs : List Loc), va_P (dC, dI) vwCl [(a_lp, .inr (4, [.ref a_lp_facts, .ref a_lp_turns, .ref a_lp_first, .ref a_lp_src, .ref a_s1, .int lp_choices, .int lp_guesses, .int lp_unaries, .int lp_ranked])), (a_lp_turns, .inl (cI, 24576, .inl lp_turns)), (a_s1, .inl (cI, 4096, .inl s1_8)), (a_s2, .inl (cI, 4096, .inl s2_9)), (a_wk, .inr (10, [.ref a_wk_items, .int wk_size_10])), (a_wk_items, .inl (cI, 4096, .inl wk_items_11)), (a_rn, .inr (6, [.ref a_lp, .ref a_rn_levels, .ref a_rn_path, .ref a_s1, .ref a_s2, .ref a_wk, .int rn_reached, .int rn_greatestLevel, .int rn_pathSize]))] H → va_D A [(a_lp, .inr (4, [.ref a_lp_facts, .ref a_lp_turns, .ref a_lp_first, .ref a_lp_src, .ref a_s1, .int lp_choices, .int lp_guesses, .int lp_unaries, .int lp_ranked])), (a_lp_turns, .inl (cI, 24576, .inl lp_turns)), (a_s1, .inl (cI, 4096, .inl s1_8)), (a_s2, .inl (cI, 4096, .inl s2_9)), (a_wk, .inr (10, [.ref a_wk_items, .int wk_size_10])), (a_wk_items, .inl (cI, 4096, .inl wk_items_11)), (a_rn, .inr (6, [.ref a_lp, .ref a_rn_levels, .ref a_rn_path, .ref a_s1, .ref a_s2, .ref a_wk, .int rn_reached, .int rn_greatestLevel, .int rn_pathSize]))] → va_S A s.heap H locs → ∀ ls : Array Slot, lv_has ls 4 [(0, .ref a_rn), (1, .int x1)] → W p l e (headSpec w_Runs_leave ({ frames := 2, cells := 0, slots := 0, locals := 42 })).room s m (([.ref a_rn, .int x1] : List Value).toArray) below meth c H locs 0 0 QQ (F0 m 95 ls [])) (n : Nat) (x2_2 : Int32) (s1_3 : Nat → Int32) (s2_4 : Nat → Int32) (wk_size_5 : Int32) (wk_items_6 : Nat → Int32), wp_Runs_leave_L11 x1 lp_choices lp_turns k95 n x2_2 s1_3 s2_4 wk_size_5 wk_items_6 → ∀ (H : Heap) (locs : List Loc), va_P (dC, dI) vwCl [(a_lp, .inr (4, [.ref a_lp_facts, .ref a_lp_turns, .ref a_lp_first, .ref a_lp_src, .ref a_s1, .int lp_choices, .int lp_guesses, .int lp_unaries, .int lp_ranked])), (a_lp_turns, .inl (cI, 24576, .inl lp_turns)), (a_s1, .inl (cI, 4096, .inl s1_3)), (a_s2, .inl (cI, 4096, .inl s2_4)), (a_wk, .inr (10, [.ref a_wk_items, .int wk_size_5])), (a_wk_items, .inl (cI, 4096, .inl wk_items_6)), (a_rn, .inr (6, [.ref a_lp, .ref a_rn_levels, .ref a_rn_path, .ref a_s1, .ref a_s2, .ref a_wk, .int rn_reached, .int rn_greatestLevel, .int rn_pathSize]))] H → va_D A [(a_lp, .inr (4, [.ref a_lp_facts, .ref a_lp_turns, .ref a_lp_first, .ref a_lp_src, .ref a_s1, .int lp_choices, .int lp_guesses, .int lp_unaries, .int lp_ranked])), (a_lp_turns, .inl (cI, 24576, .inl lp_turns)), (a_s1, .inl (cI, 4096, .inl s1_3)), (a_s2, .inl (cI, 4096, .inl s2_4)), (a_wk, .inr (10, [.ref a_wk_items, .int wk_size_5])), (a_wk_items, .inl (cI, 4096, .inl wk_items_6)), (a_rn, .inr (6, [.ref a_lp, .ref a_rn_levels, .ref a_rn_path, .ref a_s1, .ref a_s2, .ref a_wk, .int rn_reached, .int rn_greatestLevel, .int rn_pathSize]))] → va_S A s.heap H locs → ∀ ls : Array Slot, lv_has ls 4 [(0, .ref a_rn), (1, .int x1), (2, .int x2_2)] → W p l e (headSpec w_Runs_leave ({ frames := 2, cells := 0, slots := 0, locals := 42 })).room s m (([.ref a_rn, .int x1] : List Value).toArray) below meth c H locs 0 0 QQ (F0 m 11 ls []) := by
      intro k95 hk95 n
      induction n with
      | zero => intro x2_2 s1_3 s2_4 wk_size_5 wk_items_6 h; exact (show False from h).elim
      | succ n il =>
        intro x2_2 s1_3 s2_4 wk_size_5 wk_items_6 h
        intro H locs hP hD hS ls hl
        refine lv_iload_n hx hb d_Runs_leave_11 rfl (lv_at hl 2 rfl) ?_
        refine lv_aload_n hx hb d_Runs_leave_12 rfl (lv_at hl 0 rfl) ?_
        refine va_get (D := (dC, dI)) (ci := 6) (v := .ref a_lp) (C := "LoopInduction$Runs") (T := F_Runs) (N := 9) hx hb hts iC_Runs hown hK hP 6 rfl rfl 0 (by decide) fl_28 (fun _ h9 => h9) rfl d_Runs_leave_13 ?_
        refine jn_i (wr := [(a_lp_turns, .inl (cI, 24576, .inl lp_turns)), (a_s1, .inl (cI, 4096, .inl s1_3)), (a_s2, .inl (cI, 4096, .inl s2_4)), (a_wk, .inr (10, [.ref a_wk_items, .int wk_size_5])), (a_wk_items, .inl (cI, 4096, .inl wk_items_6)), (a_rn, .inr (6, [.ref a_lp, .ref a_rn_levels, .ref a_rn_path, .ref a_s1, .ref a_s2, .ref a_wk, .int rn_reached, .int rn_greatestLevel, .int rn_pathSize]))]) (va_runV (As := []) (rest := [.int x2_2]) ⟨hx, hb, hml, hown, hts⟩ (c_Loop_choices l dC dI cI cB cZ adK adV _ a_lp a_lp_facts a_lp_turns a_lp_first a_lp_src a_s1 lp_choices lp_guesses lp_unaries lp_ranked _ h) (cwV 0 hts (gv_ m_809 m_810 m_811 m_92 m_812) rfl rfl rfl pd_Loop_choices ⟨Nat.le_of_ble_eq_true rfl, Nat.le_of_ble_eq_true rfl⟩) ⟨pc_blind, va_recv hK hP (ci := 4) (q0 := 0) rfl rfl, pc_of (hP.sub [0] rfl) hK (hD.sub [0] (by decide) rfl) hN hT hS hA⟩ rfl rfl hl.1 rfl (lv_room (Nat.le_of_ble_eq_true rfl)) d_Runs_leave_16 ⟨Nat.zero_le _, Nat.zero_le _⟩) hP hD hS hA [0] [1, 2, 3, 4, 5, 6] rfl rfl (by decide) (by decide) (fun r_12 u_ H locs h hP hD hS => ?_)
        have hP : va_P (dC, dI) vwCl [(a_lp_turns, .inl (cI, 24576, .inl lp_turns)), (a_s1, .inl (cI, 4096, .inl s1_3)), (a_s2, .inl (cI, 4096, .inl s2_4)), (a_wk, .inr (10, [.ref a_wk_items, .int wk_size_5])), (a_wk_items, .inl (cI, 4096, .inl wk_items_6)), (a_rn, .inr (6, [.ref a_lp, .ref a_rn_levels, .ref a_rn_path, .ref a_s1, .ref a_s2, .ref a_wk, .int rn_reached, .int rn_greatestLevel, .int rn_pathSize])), (a_lp, .inr (4, [.ref a_lp_facts, .ref a_lp_turns, .ref a_lp_first, .ref a_lp_src, .ref a_s1, .int lp_choices, .int lp_guesses, .int lp_unaries, .int lp_ranked]))] H := hP
        have hD : va_D A [(a_lp_turns, .inl (cI, 24576, .inl lp_turns)), (a_s1, .inl (cI, 4096, .inl s1_3)), (a_s2, .inl (cI, 4096, .inl s2_4)), (a_wk, .inr (10, [.ref a_wk_items, .int wk_size_5])), (a_wk_items, .inl (cI, 4096, .inl wk_items_6)), (a_rn, .inr (6, [.ref a_lp, .ref a_rn_levels, .ref a_rn_path, .ref a_s1, .ref a_s2, .ref a_wk, .int rn_reached, .int rn_greatestLevel, .int rn_pathSize])), (a_lp, .inr (4, [.ref a_lp_facts, .ref a_lp_turns, .ref a_lp_first, .ref a_lp_src, .ref a_s1, .int lp_choices, .int lp_guesses, .int lp_unaries, .int lp_ranked]))] := hD
        refine lv_icmp_ge (tgt := 95) hx hb d_Runs_leave_19 (by decide) (fun c_19 => ?_) (fun c_19 => ?_)
        · have h := And.left h c_19
          exact hk95 _ _ _ _ h _ _ (hP.sub [6, 0, 1, 2, 3, 4, 5] rfl) (hD.sub [6, 0, 1, 2, 3, 4, 5] (by decide) rfl) hS _ (lv_sub hl [0, 1] rfl)
        · have h := And.right h c_19
          refine lv_aload_n hx hb d_Runs_leave_22 rfl (lv_at hl 0 rfl) ?_
          refine va_get (D := (dC, dI)) (ci := 6) (v := .ref a_lp) (C := "LoopInduction$Runs") (T := F_Runs) (N := 9) hx hb hts iC_Runs hown hK hP 5 rfl rfl 0 (by decide) fl_28 (fun _ h9 => h9) rfl d_Runs_leave_23 ?_
          refine lv_iload_n hx hb d_Runs_leave_26 rfl (lv_at hl 1 rfl) ?_
          refine lv_iload_n hx hb d_Runs_leave_27 rfl (lv_at hl 2 rfl) ?_
          refine jn_i (wr := [(a_s1, .inl (cI, 4096, .inl s1_3)), (a_s2, .inl (cI, 4096, .inl s2_4)), (a_wk, .inr (10, [.ref a_wk_items, .int wk_size_5])), (a_wk_items, .inl (cI, 4096, .inl wk_items_6)), (a_rn, .inr (6, [.ref a_lp, .ref a_rn_levels, .ref a_rn_path, .ref a_s1, .ref a_s2, .ref a_wk, .int rn_reached, .int rn_greatestLevel, .int rn_pathSize]))]) (va_runV (As := [.int x1, .int x2_2]) (rest := []) ⟨hx, hb, hml, hown, hts⟩ (c_Loop_turn l dC dI cI cB cZ adK adV _ a_lp a_lp_facts a_lp_turns a_lp_first a_lp_src a_s1 lp_choices lp_guesses lp_unaries lp_ranked lp_turns x1 x2_2 _ h) (cwV 2 hts (gv_ m_813 m_757 m_758 m_92 m_759) rfl rfl rfl pd_Loop_turn ⟨Nat.le_of_ble_eq_true rfl, Nat.le_of_ble_eq_true rfl⟩) ⟨pc_blind, va_recv hK hP (ci := 4) (q0 := 6) rfl rfl, pc_of (hP.sub [6, 0] rfl) hK (hD.sub [6, 0] (by decide) rfl) hN hT hS hA⟩ rfl rfl hl.1 rfl (lv_room (Nat.le_of_ble_eq_true rfl)) d_Runs_leave_28 ⟨Nat.zero_le _, Nat.zero_le _⟩) hP hD hS hA [6, 0] [1, 2, 3, 4, 5] rfl rfl (by decide) (by decide) (fun r_13 u_ H locs h hP hD hS => ?_)
          have hP : va_P (dC, dI) vwCl [(a_s1, .inl (cI, 4096, .inl s1_3)), (a_s2, .inl (cI, 4096, .inl s2_4)), (a_wk, .inr (10, [.ref a_wk_items, .int wk_size_5])), (a_wk_items, .inl (cI, 4096, .inl wk_items_6)), (a_rn, .inr (6, [.ref a_lp, .ref a_rn_levels, .ref a_rn_path, .ref a_s1, .ref a_s2, .ref a_wk, .int rn_reached, .int rn_greatestLevel, .int rn_pathSize])), (a_lp, .inr (4, [.ref a_lp_facts, .ref a_lp_turns, .ref a_lp_first, .ref a_lp_src, .ref a_s1, .int lp_choices, .int lp_guesses, .int lp_unaries, .int lp_ranked])), (a_lp_turns, .inl (cI, 24576, .inl lp_turns))] H := hP
          have hD : va_D A [(a_s1, .inl (cI, 4096, .inl s1_3)), (a_s2, .inl (cI, 4096, .inl s2_4)), (a_wk, .inr (10, [.ref a_wk_items, .int wk_size_5])), (a_wk_items, .inl (cI, 4096, .inl wk_items_6)), (a_rn, .inr (6, [.ref a_lp, .ref a_rn_levels, .ref a_rn_path, .ref a_s1, .ref a_s2, .ref a_wk, .int rn_reached, .int rn_greatestLevel, .int rn_pathSize])), (a_lp, .inr (4, [.ref a_lp_facts, .ref a_lp_turns, .ref a_lp_first, .ref a_lp_src, .ref a_s1, .int lp_choices, .int lp_guesses, .int lp_unaries, .int lp_ranked])), (a_lp_turns, .inl (cI, 24576, .inl lp_turns))] := hD
          refine lv_istore_n (lv' := [(3, .int r_13), (0, .ref a_rn), (1, .int x1), (2, .int x2_2)]) hx hb d_Runs_leave_31 rfl hl (by decide) rfl (fun ls hl => ?_)
          refine lv_iload_n hx hb d_Runs_leave_32 rfl (lv_at hl 0 rfl) ?_
          refine jn_i (wr := [(a_s1, .inl (cI, 4096, .inl s1_3)), (a_s2, .inl (cI, 4096, .inl s2_4)), (a_wk, .inr (10, [.ref a_wk_items, .int wk_size_5])), (a_wk_items, .inl (cI, 4096, .inl wk_items_6)), (a_rn, .inr (6, [.ref a_lp, .ref a_rn_levels, .ref a_rn_path, .ref a_s1, .ref a_s2, .ref a_wk, .int rn_reached, .int rn_greatestLevel, .int rn_pathSize])), (a_lp, .inr (4, [.ref a_lp_facts, .ref a_lp_turns, .ref a_lp_first, .ref a_lp_src, .ref a_s1, .int lp_choices, .int lp_guesses, .int lp_unaries, .int lp_ranked])), (a_lp_turns, .inl (cI, 24576, .inl lp_turns))]) (va_runSN (As := [.int r_13]) (rest := []) ⟨hx, hb, hml, hown, hts⟩ (c_LI_isState l dC dI cI cB cZ adK adV _ r_13 _ h) ⟨va_cnB 1 hts (ga_ m_762) rfl rfl rfl (hN _ (List.mem_of_getElem? (i := 5) rfl)) (hts _ (List.mem_cons_of_mem _ m_85)) pn_LI_isState ⟨Nat.le_of_ble_eq_true rfl, Nat.le_of_ble_eq_true rfl⟩, (hts _ (List.mem_cons_of_mem _ m_761)), trivial⟩ ⟨pc_blind, pc_of (hP.sub [] rfl) hK (hD.sub [] (by decide) rfl) hN hT hS hA⟩ rfl rfl hl.1 rfl (lv_room (Nat.le_of_ble_eq_true rfl)) d_Runs_leave_33 ⟨Nat.zero_le _, Nat.zero_le _⟩) hP hD hS hA [] [0, 1, 2, 3, 4, 5, 6] rfl rfl (by decide) (by decide) (fun r_14 u_ H locs h hP hD hS => ?_)
          have hP : va_P (dC, dI) vwCl [(a_s1, .inl (cI, 4096, .inl s1_3)), (a_s2, .inl (cI, 4096, .inl s2_4)), (a_wk, .inr (10, [.ref a_wk_items, .int wk_size_5])), (a_wk_items, .inl (cI, 4096, .inl wk_items_6)), (a_rn, .inr (6, [.ref a_lp, .ref a_rn_levels, .ref a_rn_path, .ref a_s1, .ref a_s2, .ref a_wk, .int rn_reached, .int rn_greatestLevel, .int rn_pathSize])), (a_lp, .inr (4, [.ref a_lp_facts, .ref a_lp_turns, .ref a_lp_first, .ref a_lp_src, .ref a_s1, .int lp_choices, .int lp_guesses, .int lp_unaries, .int lp_ranked])), (a_lp_turns, .inl (cI, 24576, .inl lp_turns))] H := hP
          have hD : va_D A [(a_s1, .inl (cI, 4096, .inl s1_3)), (a_s2, .inl (cI, 4096, .inl s2_4)), (a_wk, .inr (10, [.ref a_wk_items, .int wk_size_5])), (a_wk_items, .inl (cI, 4096, .inl wk_items_6)), (a_rn, .inr (6, [.ref a_lp, .ref a_rn_levels, .ref a_rn_path, .ref a_s1, .ref a_s2, .ref a_wk, .int rn_reached, .int rn_greatestLevel, .int rn_pathSize])), (a_lp, .inr (4, [.ref a_lp_facts, .ref a_lp_turns, .ref a_lp_first, .ref a_lp_src, .ref a_s1, .int lp_choices, .int lp_guesses, .int lp_unaries, .int lp_ranked])), (a_lp_turns, .inl (cI, 24576, .inl lp_turns))] := hD
          refine lv_if_eq (tgt := 89) hx hb d_Runs_leave_36 (by decide) (fun c_36 => ?_) (fun c_36 => ?_)
          · have h := And.left h c_36
            refine lv_iinc (v := x2_2 + 1) (lv' := [(2, .int (x2_2 + 1)), (3, .int r_13), (0, .ref a_rn), (1, .int x1)]) hx hb d_Runs_leave_89 hl (k := 3) rfl rfl (by decide) rfl (fun ls hl => ?_)
            refine lv_goto (tgt := 11) hx hb d_Runs_leave_92 (by decide) ?_
            exact il _ _ _ _ _ h _ _ (hP.sub [5, 6, 0, 1, 2, 3, 4] rfl) (hD.sub [5, 6, 0, 1, 2, 3, 4] (by decide) rfl) hS _ (lv_sub hl [2, 3, 0] rfl)
          · have h := And.right h c_36
            refine lv_aload_n hx hb d_Runs_leave_39 rfl (lv_at hl 1 rfl) ?_
            refine va_get (D := (dC, dI)) (ci := 6) (v := .ref a_s2) (C := "LoopInduction$Runs") (T := F_Runs) (N := 9) hx hb hts iC_Runs hown hK hP 4 rfl rfl 4 (by decide) fl_43 (fun _ h9 => h9) rfl d_Runs_leave_40 ?_
            refine lv_iload_n hx hb d_Runs_leave_43 rfl (lv_at hl 0 rfl) ?_
            refine lv_aload_n hx hb d_Runs_leave_44 rfl (lv_at hl 1 rfl) ?_
            refine va_get (D := (dC, dI)) (ci := 6) (v := .ref a_s2) (C := "LoopInduction$Runs") (T := F_Runs) (N := 9) hx hb hts iC_Runs hown hK hP 4 rfl rfl 4 (by decide) fl_43 (fun _ h9 => h9) rfl d_Runs_leave_45 ?_
            refine lv_iload_n hx hb d_Runs_leave_48 rfl (lv_at hl 0 rfl) ?_
            obtain ⟨hin_49, h⟩ := h
            refine va_iald hx hb hK hP 1 0 rfl rfl hin_49 d_Runs_leave_49 ?_
            refine lv_aload_n hx hb d_Runs_leave_50 rfl (lv_at hl 1 rfl) ?_
            refine va_get (D := (dC, dI)) (ci := 6) (v := .ref a_s2) (C := "LoopInduction$Runs") (T := F_Runs) (N := 9) hx hb hts iC_Runs hown hK hP 4 rfl rfl 4 (by decide) fl_43 (fun _ h9 => h9) rfl d_Runs_leave_51 ?_
            refine lv_iload_n hx hb d_Runs_leave_54 rfl (lv_at hl 2 rfl) ?_
            obtain ⟨hin_55, h⟩ := h
            refine va_iald hx hb hK hP 1 0 rfl rfl hin_55 d_Runs_leave_55 ?_
            refine lv_iconst (v := 1) hx hb d_Runs_leave_56 (by decide) ?_
            refine lv_iadd hx hb d_Runs_leave_57 ?_
            refine va_mmax hx hb (by rw [hml]; exact hl.1.symm) hown (hts _ (List.mem_cons_of_mem _ m_1040)) (hts _ (List.mem_cons_of_mem _ m_553)) (hts _ (List.mem_cons_of_mem _ m_101)) (hts _ (List.mem_cons_of_mem _ m_554)) (Nat.le_of_ble_eq_true rfl) (Nat.le_of_ble_eq_true rfl) (Nat.zero_le _) (Nat.zero_le _) d_Runs_leave_58 ?_
            obtain ⟨hin_61, h⟩ := h
            refine va_iast hx hb hK hP hD hS 1 0 rfl rfl hin_61 d_Runs_leave_61 (fun H locs hP hD hS => ?_)
            have hP : va_P (dC, dI) vwCl [(a_s1, .inl (cI, 4096, .inl s1_3)), (a_s2, .inl (cI, 4096, .inl (upd s2_4 (r_13 : Int32).toNatClampNeg (if (s2_4 (r_13 : Int32).toNatClampNeg : Int32) < ((s2_4 (x1 : Int32).toNatClampNeg) + 1) then ((s2_4 (x1 : Int32).toNatClampNeg) + 1) else (s2_4 (r_13 : Int32).toNatClampNeg))))), (a_wk, .inr (10, [.ref a_wk_items, .int wk_size_5])), (a_wk_items, .inl (cI, 4096, .inl wk_items_6)), (a_rn, .inr (6, [.ref a_lp, .ref a_rn_levels, .ref a_rn_path, .ref a_s1, .ref a_s2, .ref a_wk, .int rn_reached, .int rn_greatestLevel, .int rn_pathSize])), (a_lp, .inr (4, [.ref a_lp_facts, .ref a_lp_turns, .ref a_lp_first, .ref a_lp_src, .ref a_s1, .int lp_choices, .int lp_guesses, .int lp_unaries, .int lp_ranked])), (a_lp_turns, .inl (cI, 24576, .inl lp_turns))] H := hP
            have hD : va_D A [(a_s1, .inl (cI, 4096, .inl s1_3)), (a_s2, .inl (cI, 4096, .inl (upd s2_4 (r_13 : Int32).toNatClampNeg (if (s2_4 (r_13 : Int32).toNatClampNeg : Int32) < ((s2_4 (x1 : Int32).toNatClampNeg) + 1) then ((s2_4 (x1 : Int32).toNatClampNeg) + 1) else (s2_4 (r_13 : Int32).toNatClampNeg))))), (a_wk, .inr (10, [.ref a_wk_items, .int wk_size_5])), (a_wk_items, .inl (cI, 4096, .inl wk_items_6)), (a_rn, .inr (6, [.ref a_lp, .ref a_rn_levels, .ref a_rn_path, .ref a_s1, .ref a_s2, .ref a_wk, .int rn_reached, .int rn_greatestLevel, .int rn_pathSize])), (a_lp, .inr (4, [.ref a_lp_facts, .ref a_lp_turns, .ref a_lp_first, .ref a_lp_src, .ref a_s1, .int lp_choices, .int lp_guesses, .int lp_unaries, .int lp_ranked])), (a_lp_turns, .inl (cI, 24576, .inl lp_turns))] := hD
            refine lv_aload_n hx hb d_Runs_leave_62 rfl (lv_at hl 1 rfl) ?_
            refine va_get (D := (dC, dI)) (ci := 6) (v := .ref a_s1) (C := "LoopInduction$Runs") (T := F_Runs) (N := 9) hx hb hts iC_Runs hown hK hP 4 rfl rfl 3 (by decide) fl_38 (fun _ h9 => h9) rfl d_Runs_leave_63 ?_
            refine lv_iload_n hx hb d_Runs_leave_66 rfl (lv_at hl 0 rfl) ?_
            refine lv_dup2_11 hx hb d_Runs_leave_67 rfl rfl ?_
            obtain ⟨hin_68, h⟩ := h
            refine va_iald hx hb hK hP 0 0 rfl rfl hin_68 d_Runs_leave_68 ?_
            refine lv_iconst (v := 1) hx hb d_Runs_leave_69 (by decide) ?_
            refine lv_isub hx hb d_Runs_leave_70 ?_
            obtain ⟨hin_71, h⟩ := h
            refine va_iast hx hb hK hP hD hS 0 0 rfl rfl hin_71 d_Runs_leave_71 (fun H locs hP hD hS => ?_)
            have hP : va_P (dC, dI) vwCl [(a_s1, .inl (cI, 4096, .inl (upd s1_3 (r_13 : Int32).toNatClampNeg ((s1_3 (r_13 : Int32).toNatClampNeg) - 1)))), (a_s2, .inl (cI, 4096, .inl (upd s2_4 (r_13 : Int32).toNatClampNeg (if (s2_4 (r_13 : Int32).toNatClampNeg : Int32) < ((s2_4 (x1 : Int32).toNatClampNeg) + 1) then ((s2_4 (x1 : Int32).toNatClampNeg) + 1) else (s2_4 (r_13 : Int32).toNatClampNeg))))), (a_wk, .inr (10, [.ref a_wk_items, .int wk_size_5])), (a_wk_items, .inl (cI, 4096, .inl wk_items_6)), (a_rn, .inr (6, [.ref a_lp, .ref a_rn_levels, .ref a_rn_path, .ref a_s1, .ref a_s2, .ref a_wk, .int rn_reached, .int rn_greatestLevel, .int rn_pathSize])), (a_lp, .inr (4, [.ref a_lp_facts, .ref a_lp_turns, .ref a_lp_first, .ref a_lp_src, .ref a_s1, .int lp_choices, .int lp_guesses, .int lp_unaries, .int lp_ranked])), (a_lp_turns, .inl (cI, 24576, .inl lp_turns))] H := hP
            have hD : va_D A [(a_s1, .inl (cI, 4096, .inl (upd s1_3 (r_13 : Int32).toNatClampNeg ((s1_3 (r_13 : Int32).toNatClampNeg) - 1)))), (a_s2, .inl (cI, 4096, .inl (upd s2_4 (r_13 : Int32).toNatClampNeg (if (s2_4 (r_13 : Int32).toNatClampNeg : Int32) < ((s2_4 (x1 : Int32).toNatClampNeg) + 1) then ((s2_4 (x1 : Int32).toNatClampNeg) + 1) else (s2_4 (r_13 : Int32).toNatClampNeg))))), (a_wk, .inr (10, [.ref a_wk_items, .int wk_size_5])), (a_wk_items, .inl (cI, 4096, .inl wk_items_6)), (a_rn, .inr (6, [.ref a_lp, .ref a_rn_levels, .ref a_rn_path, .ref a_s1, .ref a_s2, .ref a_wk, .int rn_reached, .int rn_greatestLevel, .int rn_pathSize])), (a_lp, .inr (4, [.ref a_lp_facts, .ref a_lp_turns, .ref a_lp_first, .ref a_lp_src, .ref a_s1, .int lp_choices, .int lp_guesses, .int lp_unaries, .int lp_ranked])), (a_lp_turns, .inl (cI, 24576, .inl lp_turns))] := hD
            refine lv_aload_n hx hb d_Runs_leave_72 rfl (lv_at hl 1 rfl) ?_
            refine va_get (D := (dC, dI)) (ci := 6) (v := .ref a_s1) (C := "LoopInduction$Runs") (T := F_Runs) (N := 9) hx hb hts iC_Runs hown hK hP 4 rfl rfl 3 (by decide) fl_38 (fun _ h9 => h9) rfl d_Runs_leave_73 ?_
            refine lv_iload_n hx hb d_Runs_leave_76 rfl (lv_at hl 0 rfl) ?_
            obtain ⟨hin_77, h⟩ := h
            refine va_iald hx hb hK hP 0 0 rfl rfl hin_77 d_Runs_leave_77 ?_
            refine lv_if_ne (tgt := 89) hx hb d_Runs_leave_78 (by decide) (fun c_78 => ?_) (fun c_78 => ?_)
            · have h := And.left h c_78
              refine lv_iinc (v := x2_2 + 1) (lv' := [(2, .int (x2_2 + 1)), (3, .int r_13), (0, .ref a_rn), (1, .int x1)]) hx hb d_Runs_leave_89 hl (k := 3) rfl rfl (by decide) rfl (fun ls hl => ?_)
              refine lv_goto (tgt := 11) hx hb d_Runs_leave_92 (by decide) ?_
              exact il _ _ _ _ _ h _ _ (hP.sub [5, 6, 0, 1, 2, 3, 4] rfl) (hD.sub [5, 6, 0, 1, 2, 3, 4] (by decide) rfl) hS _ (lv_sub hl [2, 3, 0] rfl)
            · have h := And.right h c_78
              refine lv_aload_n hx hb d_Runs_leave_81 rfl (lv_at hl 1 rfl) ?_
              refine va_get (D := (dC, dI)) (ci := 6) (v := .ref a_wk) (C := "LoopInduction$Runs") (T := F_Runs) (N := 9) hx hb hts iC_Runs hown hK hP 4 rfl rfl 5 (by decide) fl_49 (fun _ h9 => h9) rfl d_Runs_leave_82 ?_
              refine lv_iload_n hx hb d_Runs_leave_85 rfl (lv_at hl 0 rfl) ?_
              refine jn_v (wr := [(a_s1, .inl (cI, 4096, .inl (upd s1_3 (r_13 : Int32).toNatClampNeg ((s1_3 (r_13 : Int32).toNatClampNeg) - 1)))), (a_s2, .inl (cI, 4096, .inl (upd s2_4 (r_13 : Int32).toNatClampNeg (if (s2_4 (r_13 : Int32).toNatClampNeg : Int32) < ((s2_4 (x1 : Int32).toNatClampNeg) + 1) then ((s2_4 (x1 : Int32).toNatClampNeg) + 1) else (s2_4 (r_13 : Int32).toNatClampNeg))))), (a_rn, .inr (6, [.ref a_lp, .ref a_rn_levels, .ref a_rn_path, .ref a_s1, .ref a_s2, .ref a_wk, .int rn_reached, .int rn_greatestLevel, .int rn_pathSize])), (a_lp, .inr (4, [.ref a_lp_facts, .ref a_lp_turns, .ref a_lp_first, .ref a_lp_src, .ref a_s1, .int lp_choices, .int lp_guesses, .int lp_unaries, .int lp_ranked])), (a_lp_turns, .inl (cI, 24576, .inl lp_turns))]) (va_runV (As := [.int r_13]) (rest := []) ⟨hx, hb, hml, hown, hts⟩ (c_Work_put l dC dI cI cB cZ adK adV _ a_wk a_wk_items wk_size_5 wk_items_6 r_13 _ h) (cwV 1 hts (gv_ m_797 m_798 m_799 m_91 m_800) rfl rfl rfl pd_Work_put ⟨Nat.le_of_ble_eq_true rfl, Nat.le_of_ble_eq_true rfl⟩) ⟨pc_blind, va_recv hK hP (ci := 10) (q0 := 2) rfl rfl, pc_of (hP.sub [2, 3] rfl) hK (hD.sub [2, 3] (by decide) rfl) hN hT hS hA⟩ rfl rfl hl.1 rfl (lv_room (Nat.le_of_ble_eq_true rfl)) d_Runs_leave_86 ⟨Nat.zero_le _, Nat.zero_le _⟩) hP hD hS hA [2, 3] [0, 1, 4, 5, 6] rfl rfl (by decide) (by decide) (fun u_ H locs h hP hD hS => ?_)
              obtain ⟨wk_size_15, wk_items_16⟩ := u_
              have hP : va_P (dC, dI) vwCl [(a_s1, .inl (cI, 4096, .inl (upd s1_3 (r_13 : Int32).toNatClampNeg ((s1_3 (r_13 : Int32).toNatClampNeg) - 1)))), (a_s2, .inl (cI, 4096, .inl (upd s2_4 (r_13 : Int32).toNatClampNeg (if (s2_4 (r_13 : Int32).toNatClampNeg : Int32) < ((s2_4 (x1 : Int32).toNatClampNeg) + 1) then ((s2_4 (x1 : Int32).toNatClampNeg) + 1) else (s2_4 (r_13 : Int32).toNatClampNeg))))), (a_rn, .inr (6, [.ref a_lp, .ref a_rn_levels, .ref a_rn_path, .ref a_s1, .ref a_s2, .ref a_wk, .int rn_reached, .int rn_greatestLevel, .int rn_pathSize])), (a_lp, .inr (4, [.ref a_lp_facts, .ref a_lp_turns, .ref a_lp_first, .ref a_lp_src, .ref a_s1, .int lp_choices, .int lp_guesses, .int lp_unaries, .int lp_ranked])), (a_lp_turns, .inl (cI, 24576, .inl lp_turns)), (a_wk, .inr (10, [.ref a_wk_items, .int wk_size_15])), (a_wk_items, .inl (cI, 4096, .inl wk_items_16))] H := hP
              have hD : va_D A [(a_s1, .inl (cI, 4096, .inl (upd s1_3 (r_13 : Int32).toNatClampNeg ((s1_3 (r_13 : Int32).toNatClampNeg) - 1)))), (a_s2, .inl (cI, 4096, .inl (upd s2_4 (r_13 : Int32).toNatClampNeg (if (s2_4 (r_13 : Int32).toNatClampNeg : Int32) < ((s2_4 (x1 : Int32).toNatClampNeg) + 1) then ((s2_4 (x1 : Int32).toNatClampNeg) + 1) else (s2_4 (r_13 : Int32).toNatClampNeg))))), (a_rn, .inr (6, [.ref a_lp, .ref a_rn_levels, .ref a_rn_path, .ref a_s1, .ref a_s2, .ref a_wk, .int rn_reached, .int rn_greatestLevel, .int rn_pathSize])), (a_lp, .inr (4, [.ref a_lp_facts, .ref a_lp_turns, .ref a_lp_first, .ref a_lp_src, .ref a_s1, .int lp_choices, .int lp_guesses, .int lp_unaries, .int lp_ranked])), (a_lp_turns, .inl (cI, 24576, .inl lp_turns)), (a_wk, .inr (10, [.ref a_wk_items, .int wk_size_15])), (a_wk_items, .inl (cI, 4096, .inl wk_items_16))] := hD
              refine lv_iinc (v := x2_2 + 1) (lv' := [(2, .int (x2_2 + 1)), (3, .int r_13), (0, .ref a_rn), (1, .int x1)]) hx hb d_Runs_leave_89 hl (k := 3) rfl rfl (by decide) rfl (fun ls hl => ?_)
              refine lv_goto (tgt := 11) hx hb d_Runs_leave_92 (by decide) ?_
              exact il _ _ _ _ _ h _ _ (hP.sub [3, 4, 0, 1, 5, 6, 2] rfl) (hD.sub [3, 4, 0, 1, 5, 6, 2] (by decide) rfl) hS _ (lv_sub hl [2, 3, 0] rfl)
    obtain ⟨n_, h⟩ := h
    refine L11_q_7 _ ?_ n_ _ _ _ _ _ h _ _ hP hD hS _ (lv_sub hl [1, 2, 0] rfl)
    intro s1_17 s2_18 wk_size_19 wk_items_20 h
    intro H locs hP hD hS ls hl
    refine lv_aload_n hx hb d_Runs_leave_95 rfl (lv_at hl 0 rfl) ?_
    refine va_get (D := (dC, dI)) (ci := 6) (v := .ref a_s2) (C := "LoopInduction$Runs") (T := F_Runs) (N := 9) hx hb hts iC_Runs hown hK hP 6 rfl rfl 4 (by decide) fl_43 (fun _ h9 => h9) rfl d_Runs_leave_96 ?_
    refine lv_iload_n hx hb d_Runs_leave_99 rfl (lv_at hl 1 rfl) ?_
    obtain ⟨hin_100, h⟩ := h
    refine va_iald hx hb hK hP 3 0 rfl rfl hin_100 d_Runs_leave_100 ?_
    rw [← hQ]
    have hP9 := hP
    have hD9 := hD
    exact W.iret (v := s2_18 (x1 : Int32).toNatClampNeg) hx hb hr (fun t ht hW => ⟨⟨(s2_18 (x1 : Int32).toNatClampNeg), (s1_17, s2_18, wk_size_19, wk_items_20), rfl, h, by rw [ht]; exact hP9, va_K.moved hW.alike hK, hD9⟩, hS.F ht⟩) hS.2.2 d_Runs_leave_101
  · have h := And.right h c_4
    refine lv_iconst (v := 0) hx hb d_Runs_leave_7 (by decide) ?_
    rw [← hQ]
    have hP9 := hP
    have hD9 := hD
    exact W.iret (v := 0) hx hb hr (fun t ht hW => ⟨⟨0, (s1, s2, wk_size, wk_items), rfl, h, by rw [ht]; exact hP9, va_K.moved hW.alike hK, hD9⟩, hS.F ht⟩) hS.2.2 d_Runs_leave_8
set_option maxHeartbeats 4000000 in
set_option maxRecDepth 100000 in
theorem c_Runs_longestTurns (l : Launch) (dC : Nat → ClassId) (dI : Nat → Nat → Nat) (cI cB cZ : ClassId) (adK adV : Nat → Nat) (sz : Nat) (a_lp a_lp_facts a_lp_turns a_lp_first a_lp_src a_s1 a_s2 a_wk a_wk_items a_rn a_rn_levels a_rn_path : Nat) (lp_choices : Int32) (lp_guesses : Int32) (lp_unaries : Int32) (lp_ranked : Int32) (lp_facts : Nat → Int32) (lp_turns : Nat → Int32) (s1 : Nat → Int32) (s2 : Nat → Int32) (wk_size : Int32) (wk_items : Nat → Int32) (rn_reached : Int32) (rn_greatestLevel : Int32) (rn_pathSize : Int32) (post : Int32 → (Nat → Int32) → (Nat → Int32) → Int32 → (Nat → Int32) → Prop) (h : wp_Runs_longestTurns lp_choices lp_facts lp_turns s1 s2 wk_size wk_items rn_reached post) : Met l y_Runs_longestTurns w_Runs_longestTurns ({ frames := 3, cells := 0, slots := 0, locals := 65 }) (pc_ (dC, dI) [(cI, .int), (cB, .byte), (cZ, .boolean)] [(a_lp, .inr (4, [.ref a_lp_facts, .ref a_lp_turns, .ref a_lp_first, .ref a_lp_src, .ref a_s1, .int lp_choices, .int lp_guesses, .int lp_unaries, .int lp_ranked])), (a_lp_facts, .inl (cI, 4096, .inl lp_facts)), (a_lp_turns, .inl (cI, 24576, .inl lp_turns)), (a_s1, .inl (cI, 4096, .inl s1)), (a_s2, .inl (cI, 4096, .inl s2)), (a_wk, .inr (10, [.ref a_wk_items, .int wk_size])), (a_wk_items, .inl (cI, 4096, .inl wk_items)), (a_rn, .inr (6, [.ref a_lp, .ref a_rn_levels, .ref a_rn_path, .ref a_s1, .ref a_s2, .ref a_wk, .int rn_reached, .int rn_greatestLevel, .int rn_pathSize]))] sz adK adV [.ref a_rn]) (va_Qi (fun (r : Int32) (u : (Nat → Int32) × (Nat → Int32) × Int32 × (Nat → Int32)) => post r u.1 u.2.1 u.2.2.1 u.2.2.2) (fun (u : (Nat → Int32) × (Nat → Int32) × Int32 × (Nat → Int32)) t => bw_ (dC, dI) [(cI, .int), (cB, .byte), (cZ, .boolean)] (va_A [(a_lp, .inr (4, [.ref a_lp_facts, .ref a_lp_turns, .ref a_lp_first, .ref a_lp_src, .ref a_s1, .int lp_choices, .int lp_guesses, .int lp_unaries, .int lp_ranked])), (a_lp_facts, .inl (cI, 4096, .inl lp_facts)), (a_lp_turns, .inl (cI, 24576, .inl lp_turns)), (a_s1, .inl (cI, 4096, .inl s1)), (a_s2, .inl (cI, 4096, .inl s2)), (a_wk, .inr (10, [.ref a_wk_items, .int wk_size])), (a_wk_items, .inl (cI, 4096, .inl wk_items)), (a_rn, .inr (6, [.ref a_lp, .ref a_rn_levels, .ref a_rn_path, .ref a_s1, .ref a_s2, .ref a_wk, .int rn_reached, .int rn_greatestLevel, .int rn_pathSize]))] sz) [(a_lp, .inr (4, [.ref a_lp_facts, .ref a_lp_turns, .ref a_lp_first, .ref a_lp_src, .ref a_s1, .int lp_choices, .int lp_guesses, .int lp_unaries, .int lp_ranked])), (a_lp_facts, .inl (cI, 4096, .inl lp_facts)), (a_lp_turns, .inl (cI, 24576, .inl lp_turns)), (a_s1, .inl (cI, 4096, .inl u.1)), (a_s2, .inl (cI, 4096, .inl u.2.1)), (a_wk, .inr (10, [.ref a_wk_items, .int u.2.2.1])), (a_wk_items, .inl (cI, 4096, .inl u.2.2.2)), (a_rn, .inr (6, [.ref a_lp, .ref a_rn_levels, .ref a_rn_path, .ref a_s1, .ref a_s2, .ref a_wk, .int rn_reached, .int rn_greatestLevel, .int rn_pathSize]))] t) (va_A [(a_lp, .inr (4, [.ref a_lp_facts, .ref a_lp_turns, .ref a_lp_first, .ref a_lp_src, .ref a_s1, .int lp_choices, .int lp_guesses, .int lp_unaries, .int lp_ranked])), (a_lp_facts, .inl (cI, 4096, .inl lp_facts)), (a_lp_turns, .inl (cI, 24576, .inl lp_turns)), (a_s1, .inl (cI, 4096, .inl s1)), (a_s2, .inl (cI, 4096, .inl s2)), (a_wk, .inr (10, [.ref a_wk_items, .int wk_size])), (a_wk_items, .inl (cI, 4096, .inl wk_items)), (a_rn, .inr (6, [.ref a_lp, .ref a_rn_levels, .ref a_rn_path, .ref a_s1, .ref a_s2, .ref a_wk, .int rn_reached, .int rn_greatestLevel, .int rn_pathSize]))] sz)) 0 0 (va_A [(a_lp, .inr (4, [.ref a_lp_facts, .ref a_lp_turns, .ref a_lp_first, .ref a_lp_src, .ref a_s1, .int lp_choices, .int lp_guesses, .int lp_unaries, .int lp_ranked])), (a_lp_facts, .inl (cI, 4096, .inl lp_facts)), (a_lp_turns, .inl (cI, 24576, .inl lp_turns)), (a_s1, .inl (cI, 4096, .inl s1)), (a_s2, .inl (cI, 4096, .inl s2)), (a_wk, .inr (10, [.ref a_wk_items, .int wk_size])), (a_wk_items, .inl (cI, 4096, .inl wk_items)), (a_rn, .inr (6, [.ref a_lp, .ref a_rn_levels, .ref a_rn_path, .ref a_s1, .ref a_s2, .ref a_wk, .int rn_reached, .int rn_greatestLevel, .int rn_pathSize]))] sz) := by
  refine Met.ofW (cc := b_Runs_longestTurns) (maxL := 3) (ret := (some .int)) (by decide) rfl ?_
  intro p e s m args below meth c s₁ B hml hv
  obtain ⟨rfl, hsz, hP, hK, hD0, hN, hT⟩ := hv
  have hx := B.exec
  have hb := B.bytes
  have hr := B.returns
  have hts := atoms_spec (ws := w_Runs_longestTurns) B.pre
  have hown : s.vm.findClass "LoopInduction$Runs" = some m.cls := findClass_of_methodNamed B.named
  have hlocks := B.notSynchronized
  subst hsz
  have hD := hD0.self (sz := s.heap.size)
  generalize hAe : va_A [(a_lp, .inr (4, [.ref a_lp_facts, .ref a_lp_turns, .ref a_lp_first, .ref a_lp_src, .ref a_s1, .int lp_choices, .int lp_guesses, .int lp_unaries, .int lp_ranked])), (a_lp_facts, .inl (cI, 4096, .inl lp_facts)), (a_lp_turns, .inl (cI, 24576, .inl lp_turns)), (a_s1, .inl (cI, 4096, .inl s1)), (a_s2, .inl (cI, 4096, .inl s2)), (a_wk, .inr (10, [.ref a_wk_items, .int wk_size])), (a_wk_items, .inl (cI, 4096, .inl wk_items)), (a_rn, .inr (6, [.ref a_lp, .ref a_rn_levels, .ref a_rn_path, .ref a_s1, .ref a_s2, .ref a_wk, .int rn_reached, .int rn_greatestLevel, .int rn_pathSize]))] s.heap.size = A at hD hT ⊢
  have hA : ∀ q : Nat, s.heap.size ≤ q → A q := fun q h => by rw [← hAe]; exact Or.inr h
  have hS : va_S A s.heap s.heap [] := va_S.rf
  generalize hQ : MQ below _ _ s 0 0 _ = QQ
  have hl := lv_entry ([.ref a_rn]) (n := 3) (Nat.le_of_ble_eq_true rfl)
  rw [lg_entry_eq]
  generalize (lg_sl ([.ref a_rn]) ++ List.replicate (3 - (lg_sl ([.ref a_rn])).length) Slot.unset).toArray = ls at hl ⊢
  have hl : lv_has ls 3 [(0, .ref a_rn)] := hl
  have fl_18 := (hts _ (List.mem_cons_of_mem _ m_303))
  have fl_28 := (hts _ (List.mem_cons_of_mem _ m_297))
  have fl_38 := (hts _ (List.mem_cons_of_mem _ m_300))
  have fl_43 := (hts _ (List.mem_cons_of_mem _ m_301))
  have fl_49 := (hts _ (List.mem_cons_of_mem _ m_302))
  refine lv_aload_n hx hb d_Runs_longestTurns_0 rfl (lv_at hl 0 rfl) ?_
  refine va_get (D := (dC, dI)) (ci := 6) (v := .int rn_reached) (C := "LoopInduction$Runs") (T := F_Runs) (N := 9) hx hb hts iC_Runs hown hK hP 7 rfl rfl 6 (by decide) fl_18 (fun _ h9 => h9) rfl d_Runs_longestTurns_1 ?_
  refine lv_if_ne (tgt := 9) hx hb d_Runs_longestTurns_4 (by decide) (fun c_4 => ?_) (fun c_4 => ?_)
  · have h := And.left h c_4
    refine lv_aload_n hx hb d_Runs_longestTurns_9 rfl (lv_at hl 0 rfl) ?_
    refine jn_v (wr := [(a_s2, .inl (cI, 4096, .inl s2)), (a_wk, .inr (10, [.ref a_wk_items, .int wk_size])), (a_wk_items, .inl (cI, 4096, .inl wk_items))]) (va_runV (As := []) (rest := []) ⟨hx, hb, hml, hown, hts⟩ (c_Runs_countArrivals l dC dI cI cB cZ adK adV _ a_lp a_lp_facts a_lp_turns a_lp_first a_lp_src a_s1 a_rn a_rn_levels a_rn_path a_s2 a_wk lp_choices lp_guesses lp_unaries lp_ranked lp_facts lp_turns s1 rn_reached rn_greatestLevel rn_pathSize _ h) (cwV 0 hts (gv_ m_1032 m_1034 m_45 m_93 m_1035) rfl rfl rfl pd_Runs_countArrivals ⟨Nat.le_of_ble_eq_true rfl, Nat.le_of_ble_eq_true rfl⟩) ⟨pc_blind, va_recv hK hP (ci := 6) (q0 := 7) rfl rfl, pc_of (hP.sub [0, 1, 2, 3, 7] rfl) hK (hD.sub [0, 1, 2, 3, 7] (by decide) rfl) hN hT hS hA⟩ rfl rfl hl.1 rfl (lv_room (Nat.le_of_ble_eq_true rfl)) d_Runs_longestTurns_10 ⟨Nat.zero_le _, Nat.zero_le _⟩) hP hD hS hA [0, 1, 2, 3, 7] [4, 5, 6] rfl rfl (by decide) (by decide) (fun s1_1 H locs h hP hD hS => ?_)
    have hP : va_P (dC, dI) vwCl [(a_s2, .inl (cI, 4096, .inl s2)), (a_wk, .inr (10, [.ref a_wk_items, .int wk_size])), (a_wk_items, .inl (cI, 4096, .inl wk_items)), (a_lp, .inr (4, [.ref a_lp_facts, .ref a_lp_turns, .ref a_lp_first, .ref a_lp_src, .ref a_s1, .int lp_choices, .int lp_guesses, .int lp_unaries, .int lp_ranked])), (a_lp_facts, .inl (cI, 4096, .inl lp_facts)), (a_lp_turns, .inl (cI, 24576, .inl lp_turns)), (a_s1, .inl (cI, 4096, .inl s1_1)), (a_rn, .inr (6, [.ref a_lp, .ref a_rn_levels, .ref a_rn_path, .ref a_s1, .ref a_s2, .ref a_wk, .int rn_reached, .int rn_greatestLevel, .int rn_pathSize]))] H := hP
    have hD : va_D A [(a_s2, .inl (cI, 4096, .inl s2)), (a_wk, .inr (10, [.ref a_wk_items, .int wk_size])), (a_wk_items, .inl (cI, 4096, .inl wk_items)), (a_lp, .inr (4, [.ref a_lp_facts, .ref a_lp_turns, .ref a_lp_first, .ref a_lp_src, .ref a_s1, .int lp_choices, .int lp_guesses, .int lp_unaries, .int lp_ranked])), (a_lp_facts, .inl (cI, 4096, .inl lp_facts)), (a_lp_turns, .inl (cI, 24576, .inl lp_turns)), (a_s1, .inl (cI, 4096, .inl s1_1)), (a_rn, .inr (6, [.ref a_lp, .ref a_rn_levels, .ref a_rn_path, .ref a_s1, .ref a_s2, .ref a_wk, .int rn_reached, .int rn_greatestLevel, .int rn_pathSize]))] := hD
    refine lv_aload_n hx hb d_Runs_longestTurns_13 rfl (lv_at hl 0 rfl) ?_
    refine va_get (D := (dC, dI)) (ci := 6) (v := .ref a_s2) (C := "LoopInduction$Runs") (T := F_Runs) (N := 9) hx hb hts iC_Runs hown hK hP 7 rfl rfl 4 (by decide) fl_43 (fun _ h9 => h9) rfl d_Runs_longestTurns_14 ?_
    refine lv_iconst (v := 0) hx hb d_Runs_longestTurns_17 (by decide) ?_
    refine jn_v (wr := [(a_wk, .inr (10, [.ref a_wk_items, .int wk_size])), (a_wk_items, .inl (cI, 4096, .inl wk_items)), (a_lp, .inr (4, [.ref a_lp_facts, .ref a_lp_turns, .ref a_lp_first, .ref a_lp_src, .ref a_s1, .int lp_choices, .int lp_guesses, .int lp_unaries, .int lp_ranked])), (a_lp_facts, .inl (cI, 4096, .inl lp_facts)), (a_lp_turns, .inl (cI, 24576, .inl lp_turns)), (a_s1, .inl (cI, 4096, .inl s1_1)), (a_rn, .inr (6, [.ref a_lp, .ref a_rn_levels, .ref a_rn_path, .ref a_s1, .ref a_s2, .ref a_wk, .int rn_reached, .int rn_greatestLevel, .int rn_pathSize]))]) (va_runS (As := [.ref a_s2, .int 0]) (rest := []) ⟨hx, hb, hml, hown, hts⟩ (c_fill l dC dI cI cB cZ adK adV _ a_s2 4096 s2 0 (by decide)) ⟨callB_of 2 hts (ga_ m_612) rfl rfl rfl (hts _ (List.mem_cons_of_mem _ m_103)) (hts _ (List.mem_cons_of_mem _ m_779)) pn_fill ⟨Nat.le_of_ble_eq_true rfl, Nat.le_of_ble_eq_true rfl⟩, (hts _ (List.mem_cons_of_mem _ m_611))⟩ ⟨pc_blind, pc_of (hP.sub [0] rfl) hK (hD.sub [0] (by decide) rfl) hN hT hS hA⟩ rfl rfl hl.1 rfl (lv_room (Nat.le_of_ble_eq_true rfl)) d_Runs_longestTurns_18 ⟨Nat.zero_le _, Nat.zero_le _⟩) hP hD hS hA [0] [1, 2, 3, 4, 5, 6, 7] rfl rfl (by decide) (by decide) (fun u_2 H locs eu_2 hP hD hS => ?_)
    subst eu_2
    have hP : va_P (dC, dI) vwCl [(a_wk, .inr (10, [.ref a_wk_items, .int wk_size])), (a_wk_items, .inl (cI, 4096, .inl wk_items)), (a_lp, .inr (4, [.ref a_lp_facts, .ref a_lp_turns, .ref a_lp_first, .ref a_lp_src, .ref a_s1, .int lp_choices, .int lp_guesses, .int lp_unaries, .int lp_ranked])), (a_lp_facts, .inl (cI, 4096, .inl lp_facts)), (a_lp_turns, .inl (cI, 24576, .inl lp_turns)), (a_s1, .inl (cI, 4096, .inl s1_1)), (a_rn, .inr (6, [.ref a_lp, .ref a_rn_levels, .ref a_rn_path, .ref a_s1, .ref a_s2, .ref a_wk, .int rn_reached, .int rn_greatestLevel, .int rn_pathSize])), (a_s2, .inl (cI, 4096, .inl (vp_fill s2 4096 0)))] H := hP
    have hD : va_D A [(a_wk, .inr (10, [.ref a_wk_items, .int wk_size])), (a_wk_items, .inl (cI, 4096, .inl wk_items)), (a_lp, .inr (4, [.ref a_lp_facts, .ref a_lp_turns, .ref a_lp_first, .ref a_lp_src, .ref a_s1, .int lp_choices, .int lp_guesses, .int lp_unaries, .int lp_ranked])), (a_lp_facts, .inl (cI, 4096, .inl lp_facts)), (a_lp_turns, .inl (cI, 24576, .inl lp_turns)), (a_s1, .inl (cI, 4096, .inl s1_1)), (a_rn, .inr (6, [.ref a_lp, .ref a_rn_levels, .ref a_rn_path, .ref a_s1, .ref a_s2, .ref a_wk, .int rn_reached, .int rn_greatestLevel, .int rn_pathSize])), (a_s2, .inl (cI, 4096, .inl (vp_fill s2 4096 0)))] := hD
    refine lv_aload_n hx hb d_Runs_longestTurns_21 rfl (lv_at hl 0 rfl) ?_
    refine va_get (D := (dC, dI)) (ci := 6) (v := .ref a_wk) (C := "LoopInduction$Runs") (T := F_Runs) (N := 9) hx hb hts iC_Runs hown hK hP 6 rfl rfl 5 (by decide) fl_49 (fun _ h9 => h9) rfl d_Runs_longestTurns_22 ?_
    refine jn_v (wr := [(a_wk_items, .inl (cI, 4096, .inl wk_items)), (a_lp, .inr (4, [.ref a_lp_facts, .ref a_lp_turns, .ref a_lp_first, .ref a_lp_src, .ref a_s1, .int lp_choices, .int lp_guesses, .int lp_unaries, .int lp_ranked])), (a_lp_facts, .inl (cI, 4096, .inl lp_facts)), (a_lp_turns, .inl (cI, 24576, .inl lp_turns)), (a_s1, .inl (cI, 4096, .inl s1_1)), (a_rn, .inr (6, [.ref a_lp, .ref a_rn_levels, .ref a_rn_path, .ref a_s1, .ref a_s2, .ref a_wk, .int rn_reached, .int rn_greatestLevel, .int rn_pathSize])), (a_s2, .inl (cI, 4096, .inl (vp_fill s2 4096 0)))]) (va_runV (As := []) (rest := []) ⟨hx, hb, hml, hown, hts⟩ (c_Work_clear l dC dI cI cB cZ adK adV _ a_wk a_wk_items wk_size _ h) (cwV 0 hts (gv_ m_780 m_781 m_782 m_91 m_783) rfl rfl rfl pd_Work_clear ⟨Nat.le_of_ble_eq_true rfl, Nat.le_of_ble_eq_true rfl⟩) ⟨pc_blind, va_recv hK hP (ci := 10) (q0 := 0) rfl rfl, pc_of (hP.sub [0] rfl) hK (hD.sub [0] (by decide) rfl) hN hT hS hA⟩ rfl rfl hl.1 rfl (lv_room (Nat.le_of_ble_eq_true rfl)) d_Runs_longestTurns_25 ⟨Nat.zero_le _, Nat.zero_le _⟩) hP hD hS hA [0] [1, 2, 3, 4, 5, 6, 7] rfl rfl (by decide) (by decide) (fun wk_size_3 H locs h hP hD hS => ?_)
    have hP : va_P (dC, dI) vwCl [(a_wk_items, .inl (cI, 4096, .inl wk_items)), (a_lp, .inr (4, [.ref a_lp_facts, .ref a_lp_turns, .ref a_lp_first, .ref a_lp_src, .ref a_s1, .int lp_choices, .int lp_guesses, .int lp_unaries, .int lp_ranked])), (a_lp_facts, .inl (cI, 4096, .inl lp_facts)), (a_lp_turns, .inl (cI, 24576, .inl lp_turns)), (a_s1, .inl (cI, 4096, .inl s1_1)), (a_rn, .inr (6, [.ref a_lp, .ref a_rn_levels, .ref a_rn_path, .ref a_s1, .ref a_s2, .ref a_wk, .int rn_reached, .int rn_greatestLevel, .int rn_pathSize])), (a_s2, .inl (cI, 4096, .inl (vp_fill s2 4096 0))), (a_wk, .inr (10, [.ref a_wk_items, .int wk_size_3]))] H := hP
    have hD : va_D A [(a_wk_items, .inl (cI, 4096, .inl wk_items)), (a_lp, .inr (4, [.ref a_lp_facts, .ref a_lp_turns, .ref a_lp_first, .ref a_lp_src, .ref a_s1, .int lp_choices, .int lp_guesses, .int lp_unaries, .int lp_ranked])), (a_lp_facts, .inl (cI, 4096, .inl lp_facts)), (a_lp_turns, .inl (cI, 24576, .inl lp_turns)), (a_s1, .inl (cI, 4096, .inl s1_1)), (a_rn, .inr (6, [.ref a_lp, .ref a_rn_levels, .ref a_rn_path, .ref a_s1, .ref a_s2, .ref a_wk, .int rn_reached, .int rn_greatestLevel, .int rn_pathSize])), (a_s2, .inl (cI, 4096, .inl (vp_fill s2 4096 0))), (a_wk, .inr (10, [.ref a_wk_items, .int wk_size_3]))] := hD
    refine lv_iconst (v := 0) hx hb d_Runs_longestTurns_28 (by decide) ?_
    refine lv_istore_n (lv' := [(1, .int 0), (0, .ref a_rn)]) hx hb d_Runs_longestTurns_29 rfl hl (by decide) rfl (fun ls hl => ?_)
    have L30_q_7 : ∀ (k72 : (Int32) → (Nat → Int32) → Prop) (hk72 : ∀ (wk_size_8 : Int32) (wk_items_9 : Nat → Int32), k72 wk_size_8 wk_items_9 → ∀ (H : Heap) (locs : List Loc), va_P (dC, dI) vwCl [(a_wk_items, .inl (cI, 4096, .inl wk_items_9)), (a_lp, .inr (4, [.ref a_lp_facts, .ref a_lp_turns, .ref a_lp_first, .ref a_lp_src, .ref a_s1, .int lp_choices, .int lp_guesses, .int lp_unaries, .int lp_ranked])), (a_lp_facts, .inl (cI, 4096, .inl lp_facts)), (a_lp_turns, .inl (cI, 24576, .inl lp_turns)), (a_s1, .inl (cI, 4096, .inl s1_1)), (a_rn, .inr (6, [.ref a_lp, .ref a_rn_levels, .ref a_rn_path, .ref a_s1, .ref a_s2, .ref a_wk, .int rn_reached, .int rn_greatestLevel, .int rn_pathSize])), (a_s2, .inl (cI, 4096, .inl (vp_fill s2 4096 0))), (a_wk, .inr (10, [.ref a_wk_items, .int wk_size_8]))] H → va_D A [(a_wk_items, .inl (cI, 4096, .inl wk_items_9)), (a_lp, .inr (4, [.ref a_lp_facts, .ref a_lp_turns, .ref a_lp_first, .ref a_lp_src, .ref a_s1, .int lp_choices, .int lp_guesses, .int lp_unaries, .int lp_ranked])), (a_lp_facts, .inl (cI, 4096, .inl lp_facts)), (a_lp_turns, .inl (cI, 24576, .inl lp_turns)), (a_s1, .inl (cI, 4096, .inl s1_1)), (a_rn, .inr (6, [.ref a_lp, .ref a_rn_levels, .ref a_rn_path, .ref a_s1, .ref a_s2, .ref a_wk, .int rn_reached, .int rn_greatestLevel, .int rn_pathSize])), (a_s2, .inl (cI, 4096, .inl (vp_fill s2 4096 0))), (a_wk, .inr (10, [.ref a_wk_items, .int wk_size_8]))] → va_S A s.heap H locs → ∀ ls : Array Slot, lv_has ls 3 [(0, .ref a_rn)] → W p l e (headSpec w_Runs_longestTurns ({ frames := 3, cells := 0, slots := 0, locals := 65 })).room s m (([.ref a_rn] : List Value).toArray) below meth c H locs 0 0 QQ (F0 m 72 ls [])) (n : Nat) (x1_4 : Int32) (wk_size_5 : Int32) (wk_items_6 : Nat → Int32), wp_Runs_longestTurns_L30 lp_facts s1_1 k72 n x1_4 wk_size_5 wk_items_6 → ∀ (H : Heap) (locs : List Loc), va_P (dC, dI) vwCl [(a_wk_items, .inl (cI, 4096, .inl wk_items_6)), (a_lp, .inr (4, [.ref a_lp_facts, .ref a_lp_turns, .ref a_lp_first, .ref a_lp_src, .ref a_s1, .int lp_choices, .int lp_guesses, .int lp_unaries, .int lp_ranked])), (a_lp_facts, .inl (cI, 4096, .inl lp_facts)), (a_lp_turns, .inl (cI, 24576, .inl lp_turns)), (a_s1, .inl (cI, 4096, .inl s1_1)), (a_rn, .inr (6, [.ref a_lp, .ref a_rn_levels, .ref a_rn_path, .ref a_s1, .ref a_s2, .ref a_wk, .int rn_reached, .int rn_greatestLevel, .int rn_pathSize])), (a_s2, .inl (cI, 4096, .inl (vp_fill s2 4096 0))), (a_wk, .inr (10, [.ref a_wk_items, .int wk_size_5]))] H → va_D A [(a_wk_items, .inl (cI, 4096, .inl wk_items_6)), (a_lp, .inr (4, [.ref a_lp_facts, .ref a_lp_turns, .ref a_lp_first, .ref a_lp_src, .ref a_s1, .int lp_choices, .int lp_guesses, .int lp_unaries, .int lp_ranked])), (a_lp_facts, .inl (cI, 4096, .inl lp_facts)), (a_lp_turns, .inl (cI, 24576, .inl lp_turns)), (a_s1, .inl (cI, 4096, .inl s1_1)), (a_rn, .inr (6, [.ref a_lp, .ref a_rn_levels, .ref a_rn_path, .ref a_s1, .ref a_s2, .ref a_wk, .int rn_reached, .int rn_greatestLevel, .int rn_pathSize])), (a_s2, .inl (cI, 4096, .inl (vp_fill s2 4096 0))), (a_wk, .inr (10, [.ref a_wk_items, .int wk_size_5]))] → va_S A s.heap H locs → ∀ ls : Array Slot, lv_has ls 3 [(0, .ref a_rn), (1, .int x1_4)] → W p l e (headSpec w_Runs_longestTurns ({ frames := 3, cells := 0, slots := 0, locals := 65 })).room s m (([.ref a_rn] : List Value).toArray) below meth c H locs 0 0 QQ (F0 m 30 ls []) := by
      intro k72 hk72 n
      induction n with
      | zero => intro x1_4 wk_size_5 wk_items_6 h; exact (show False from h).elim
      | succ n il =>
        intro x1_4 wk_size_5 wk_items_6 h
        intro H locs hP hD hS ls hl
        refine lv_iload_n hx hb d_Runs_longestTurns_30 rfl (lv_at hl 1 rfl) ?_
        refine lv_sipush (v := 4096) hx hb d_Runs_longestTurns_31 (by decide) ?_
        refine lv_icmp_ge (tgt := 72) hx hb d_Runs_longestTurns_34 (by decide) (fun c_34 => ?_) (fun c_34 => ?_)
        · have h := And.left h c_34
          exact hk72 _ _ h _ _ hP hD hS _ (lv_sub hl [0] rfl)
        · have h := And.right h c_34
          refine lv_aload_n hx hb d_Runs_longestTurns_37 rfl (lv_at hl 0 rfl) ?_
          refine va_get (D := (dC, dI)) (ci := 6) (v := .ref a_lp) (C := "LoopInduction$Runs") (T := F_Runs) (N := 9) hx hb hts iC_Runs hown hK hP 5 rfl rfl 0 (by decide) fl_28 (fun _ h9 => h9) rfl d_Runs_longestTurns_38 ?_
          refine lv_iload_n hx hb d_Runs_longestTurns_41 rfl (lv_at hl 1 rfl) ?_
          refine lv_iconst (v := 4) hx hb d_Runs_longestTurns_42 (by decide) ?_
          refine jn_i (wr := [(a_wk_items, .inl (cI, 4096, .inl wk_items_6)), (a_lp_turns, .inl (cI, 24576, .inl lp_turns)), (a_s1, .inl (cI, 4096, .inl s1_1)), (a_rn, .inr (6, [.ref a_lp, .ref a_rn_levels, .ref a_rn_path, .ref a_s1, .ref a_s2, .ref a_wk, .int rn_reached, .int rn_greatestLevel, .int rn_pathSize])), (a_s2, .inl (cI, 4096, .inl (vp_fill s2 4096 0))), (a_wk, .inr (10, [.ref a_wk_items, .int wk_size_5]))]) (va_runV (As := [.int x1_4, .int 4]) (rest := []) ⟨hx, hb, hml, hown, hts⟩ (c_Loop_hasAll l dC dI cI cB cZ adK adV _ a_lp a_lp_facts a_lp_turns a_lp_first a_lp_src a_s1 lp_choices lp_guesses lp_unaries lp_ranked lp_facts x1_4 4 _ h) (cwV 2 hts (gv_ m_784 m_785 m_786 m_92 m_787) rfl rfl rfl pd_Loop_hasAll ⟨Nat.le_of_ble_eq_true rfl, Nat.le_of_ble_eq_true rfl⟩) ⟨pc_blind, va_recv hK hP (ci := 4) (q0 := 1) rfl rfl, pc_of (hP.sub [1, 2] rfl) hK (hD.sub [1, 2] (by decide) rfl) hN hT hS hA⟩ rfl rfl hl.1 rfl (lv_room (Nat.le_of_ble_eq_true rfl)) d_Runs_longestTurns_43 ⟨Nat.zero_le _, Nat.zero_le _⟩) hP hD hS hA [1, 2] [0, 3, 4, 5, 6, 7] rfl rfl (by decide) (by decide) (fun r_10 u_ H locs h hP hD hS => ?_)
          have hP : va_P (dC, dI) vwCl [(a_wk_items, .inl (cI, 4096, .inl wk_items_6)), (a_lp_turns, .inl (cI, 24576, .inl lp_turns)), (a_s1, .inl (cI, 4096, .inl s1_1)), (a_rn, .inr (6, [.ref a_lp, .ref a_rn_levels, .ref a_rn_path, .ref a_s1, .ref a_s2, .ref a_wk, .int rn_reached, .int rn_greatestLevel, .int rn_pathSize])), (a_s2, .inl (cI, 4096, .inl (vp_fill s2 4096 0))), (a_wk, .inr (10, [.ref a_wk_items, .int wk_size_5])), (a_lp, .inr (4, [.ref a_lp_facts, .ref a_lp_turns, .ref a_lp_first, .ref a_lp_src, .ref a_s1, .int lp_choices, .int lp_guesses, .int lp_unaries, .int lp_ranked])), (a_lp_facts, .inl (cI, 4096, .inl lp_facts))] H := hP
          have hD : va_D A [(a_wk_items, .inl (cI, 4096, .inl wk_items_6)), (a_lp_turns, .inl (cI, 24576, .inl lp_turns)), (a_s1, .inl (cI, 4096, .inl s1_1)), (a_rn, .inr (6, [.ref a_lp, .ref a_rn_levels, .ref a_rn_path, .ref a_s1, .ref a_s2, .ref a_wk, .int rn_reached, .int rn_greatestLevel, .int rn_pathSize])), (a_s2, .inl (cI, 4096, .inl (vp_fill s2 4096 0))), (a_wk, .inr (10, [.ref a_wk_items, .int wk_size_5])), (a_lp, .inr (4, [.ref a_lp_facts, .ref a_lp_turns, .ref a_lp_first, .ref a_lp_src, .ref a_s1, .int lp_choices, .int lp_guesses, .int lp_unaries, .int lp_ranked])), (a_lp_facts, .inl (cI, 4096, .inl lp_facts))] := hD
          refine lv_if_eq (tgt := 66) hx hb d_Runs_longestTurns_46 (by decide) (fun c_46 => ?_) (fun c_46 => ?_)
          · have h := And.left h c_46
            refine lv_iinc (v := x1_4 + 1) (lv' := [(1, .int (x1_4 + 1)), (0, .ref a_rn)]) hx hb d_Runs_longestTurns_66 hl (k := 1) rfl rfl (by decide) rfl (fun ls hl => ?_)
            refine lv_goto (tgt := 30) hx hb d_Runs_longestTurns_69 (by decide) ?_
            exact il _ _ _ h _ _ (hP.sub [0, 6, 7, 1, 2, 3, 4, 5] rfl) (hD.sub [0, 6, 7, 1, 2, 3, 4, 5] (by decide) rfl) hS _ (lv_sub hl [1, 0] rfl)
          · have h := And.right h c_46
            refine lv_aload_n hx hb d_Runs_longestTurns_49 rfl (lv_at hl 0 rfl) ?_
            refine va_get (D := (dC, dI)) (ci := 6) (v := .ref a_s1) (C := "LoopInduction$Runs") (T := F_Runs) (N := 9) hx hb hts iC_Runs hown hK hP 3 rfl rfl 3 (by decide) fl_38 (fun _ h9 => h9) rfl d_Runs_longestTurns_50 ?_
            refine lv_iload_n hx hb d_Runs_longestTurns_53 rfl (lv_at hl 1 rfl) ?_
            obtain ⟨hin_54, h⟩ := h
            refine va_iald hx hb hK hP 2 0 rfl rfl hin_54 d_Runs_longestTurns_54 ?_
            refine lv_if_ne (tgt := 66) hx hb d_Runs_longestTurns_55 (by decide) (fun c_55 => ?_) (fun c_55 => ?_)
            · have h := And.left h c_55
              refine lv_iinc (v := x1_4 + 1) (lv' := [(1, .int (x1_4 + 1)), (0, .ref a_rn)]) hx hb d_Runs_longestTurns_66 hl (k := 1) rfl rfl (by decide) rfl (fun ls hl => ?_)
              refine lv_goto (tgt := 30) hx hb d_Runs_longestTurns_69 (by decide) ?_
              exact il _ _ _ h _ _ (hP.sub [0, 6, 7, 1, 2, 3, 4, 5] rfl) (hD.sub [0, 6, 7, 1, 2, 3, 4, 5] (by decide) rfl) hS _ (lv_sub hl [1, 0] rfl)
            · have h := And.right h c_55
              refine lv_aload_n hx hb d_Runs_longestTurns_58 rfl (lv_at hl 0 rfl) ?_
              refine va_get (D := (dC, dI)) (ci := 6) (v := .ref a_wk) (C := "LoopInduction$Runs") (T := F_Runs) (N := 9) hx hb hts iC_Runs hown hK hP 3 rfl rfl 5 (by decide) fl_49 (fun _ h9 => h9) rfl d_Runs_longestTurns_59 ?_
              refine lv_iload_n hx hb d_Runs_longestTurns_62 rfl (lv_at hl 1 rfl) ?_
              refine jn_v (wr := [(a_lp_turns, .inl (cI, 24576, .inl lp_turns)), (a_s1, .inl (cI, 4096, .inl s1_1)), (a_rn, .inr (6, [.ref a_lp, .ref a_rn_levels, .ref a_rn_path, .ref a_s1, .ref a_s2, .ref a_wk, .int rn_reached, .int rn_greatestLevel, .int rn_pathSize])), (a_s2, .inl (cI, 4096, .inl (vp_fill s2 4096 0))), (a_lp, .inr (4, [.ref a_lp_facts, .ref a_lp_turns, .ref a_lp_first, .ref a_lp_src, .ref a_s1, .int lp_choices, .int lp_guesses, .int lp_unaries, .int lp_ranked])), (a_lp_facts, .inl (cI, 4096, .inl lp_facts))]) (va_runV (As := [.int x1_4]) (rest := []) ⟨hx, hb, hml, hown, hts⟩ (c_Work_put l dC dI cI cB cZ adK adV _ a_wk a_wk_items wk_size_5 wk_items_6 x1_4 _ h) (cwV 1 hts (gv_ m_797 m_798 m_799 m_91 m_800) rfl rfl rfl pd_Work_put ⟨Nat.le_of_ble_eq_true rfl, Nat.le_of_ble_eq_true rfl⟩) ⟨pc_blind, va_recv hK hP (ci := 10) (q0 := 5) rfl rfl, pc_of (hP.sub [5, 0] rfl) hK (hD.sub [5, 0] (by decide) rfl) hN hT hS hA⟩ rfl rfl hl.1 rfl (lv_room (Nat.le_of_ble_eq_true rfl)) d_Runs_longestTurns_63 ⟨Nat.zero_le _, Nat.zero_le _⟩) hP hD hS hA [5, 0] [1, 2, 3, 4, 6, 7] rfl rfl (by decide) (by decide) (fun u_ H locs h hP hD hS => ?_)
              obtain ⟨wk_size_11, wk_items_12⟩ := u_
              have hP : va_P (dC, dI) vwCl [(a_lp_turns, .inl (cI, 24576, .inl lp_turns)), (a_s1, .inl (cI, 4096, .inl s1_1)), (a_rn, .inr (6, [.ref a_lp, .ref a_rn_levels, .ref a_rn_path, .ref a_s1, .ref a_s2, .ref a_wk, .int rn_reached, .int rn_greatestLevel, .int rn_pathSize])), (a_s2, .inl (cI, 4096, .inl (vp_fill s2 4096 0))), (a_lp, .inr (4, [.ref a_lp_facts, .ref a_lp_turns, .ref a_lp_first, .ref a_lp_src, .ref a_s1, .int lp_choices, .int lp_guesses, .int lp_unaries, .int lp_ranked])), (a_lp_facts, .inl (cI, 4096, .inl lp_facts)), (a_wk, .inr (10, [.ref a_wk_items, .int wk_size_11])), (a_wk_items, .inl (cI, 4096, .inl wk_items_12))] H := hP
              have hD : va_D A [(a_lp_turns, .inl (cI, 24576, .inl lp_turns)), (a_s1, .inl (cI, 4096, .inl s1_1)), (a_rn, .inr (6, [.ref a_lp, .ref a_rn_levels, .ref a_rn_path, .ref a_s1, .ref a_s2, .ref a_wk, .int rn_reached, .int rn_greatestLevel, .int rn_pathSize])), (a_s2, .inl (cI, 4096, .inl (vp_fill s2 4096 0))), (a_lp, .inr (4, [.ref a_lp_facts, .ref a_lp_turns, .ref a_lp_first, .ref a_lp_src, .ref a_s1, .int lp_choices, .int lp_guesses, .int lp_unaries, .int lp_ranked])), (a_lp_facts, .inl (cI, 4096, .inl lp_facts)), (a_wk, .inr (10, [.ref a_wk_items, .int wk_size_11])), (a_wk_items, .inl (cI, 4096, .inl wk_items_12))] := hD
              refine lv_iinc (v := x1_4 + 1) (lv' := [(1, .int (x1_4 + 1)), (0, .ref a_rn)]) hx hb d_Runs_longestTurns_66 hl (k := 1) rfl rfl (by decide) rfl (fun ls hl => ?_)
              refine lv_goto (tgt := 30) hx hb d_Runs_longestTurns_69 (by decide) ?_
              exact il _ _ _ h _ _ (hP.sub [7, 4, 5, 0, 1, 2, 3, 6] rfl) (hD.sub [7, 4, 5, 0, 1, 2, 3, 6] (by decide) rfl) hS _ (lv_sub hl [1, 0] rfl)
    obtain ⟨n_, h⟩ := h
    refine L30_q_7 _ ?_ n_ _ _ _ h _ _ hP hD hS _ (lv_sub hl [1, 0] rfl)
    intro wk_size_13 wk_items_14 h
    intro H locs hP hD hS ls hl
    refine lv_iconst (v := 0) hx hb d_Runs_longestTurns_72 (by decide) ?_
    refine lv_istore_n (lv' := [(1, .int 0), (0, .ref a_rn)]) hx hb d_Runs_longestTurns_73 rfl hl (by decide) rfl (fun ls hl => ?_)
    refine lv_iconst (v := 0) hx hb d_Runs_longestTurns_74 (by decide) ?_
    refine lv_istore_n (lv' := [(2, .int 0), (1, .int 0), (0, .ref a_rn)]) hx hb d_Runs_longestTurns_75 rfl hl (by decide) rfl (fun ls hl => ?_)
    have L76_q_21 : ∀ (k117 : Int32 → (Nat → Int32) → (Nat → Int32) → (Int32) → (Nat → Int32) → Prop) (hk117 : ∀ (x1_22 : Int32) (s1_23 : Nat → Int32) (s2_24 : Nat → Int32) (wk_size_25 : Int32) (wk_items_26 : Nat → Int32), k117 x1_22 s1_23 s2_24 wk_size_25 wk_items_26 → ∀ (H : Heap) (locs : List Loc), va_P (dC, dI) vwCl [(a_wk_items, .inl (cI, 4096, .inl wk_items_26)), (a_lp, .inr (4, [.ref a_lp_facts, .ref a_lp_turns, .ref a_lp_first, .ref a_lp_src, .ref a_s1, .int lp_choices, .int lp_guesses, .int lp_unaries, .int lp_ranked])), (a_lp_facts, .inl (cI, 4096, .inl lp_facts)), (a_lp_turns, .inl (cI, 24576, .inl lp_turns)), (a_s1, .inl (cI, 4096, .inl s1_23)), (a_rn, .inr (6, [.ref a_lp, .ref a_rn_levels, .ref a_rn_path, .ref a_s1, .ref a_s2, .ref a_wk, .int rn_reached, .int rn_greatestLevel, .int rn_pathSize])), (a_s2, .inl (cI, 4096, .inl s2_24)), (a_wk, .inr (10, [.ref a_wk_items, .int wk_size_25]))] H → va_D A [(a_wk_items, .inl (cI, 4096, .inl wk_items_26)), (a_lp, .inr (4, [.ref a_lp_facts, .ref a_lp_turns, .ref a_lp_first, .ref a_lp_src, .ref a_s1, .int lp_choices, .int lp_guesses, .int lp_unaries, .int lp_ranked])), (a_lp_facts, .inl (cI, 4096, .inl lp_facts)), (a_lp_turns, .inl (cI, 24576, .inl lp_turns)), (a_s1, .inl (cI, 4096, .inl s1_23)), (a_rn, .inr (6, [.ref a_lp, .ref a_rn_levels, .ref a_rn_path, .ref a_s1, .ref a_s2, .ref a_wk, .int rn_reached, .int rn_greatestLevel, .int rn_pathSize])), (a_s2, .inl (cI, 4096, .inl s2_24)), (a_wk, .inr (10, [.ref a_wk_items, .int wk_size_25]))] → va_S A s.heap H locs → ∀ ls : Array Slot, lv_has ls 3 [(0, .ref a_rn), (1, .int x1_22)] → W p l e (headSpec w_Runs_longestTurns ({ frames := 3, cells := 0, slots := 0, locals := 65 })).room s m (([.ref a_rn] : List Value).toArray) below meth c H locs 0 0 QQ (F0 m 117 ls [])) (n : Nat) (x1_15 : Int32) (x2_16 : Int32) (s1_17 : Nat → Int32) (s2_18 : Nat → Int32) (wk_size_19 : Int32) (wk_items_20 : Nat → Int32), wp_Runs_longestTurns_L76 lp_choices lp_turns k117 n x1_15 x2_16 s1_17 s2_18 wk_size_19 wk_items_20 → ∀ (H : Heap) (locs : List Loc), va_P (dC, dI) vwCl [(a_wk_items, .inl (cI, 4096, .inl wk_items_20)), (a_lp, .inr (4, [.ref a_lp_facts, .ref a_lp_turns, .ref a_lp_first, .ref a_lp_src, .ref a_s1, .int lp_choices, .int lp_guesses, .int lp_unaries, .int lp_ranked])), (a_lp_facts, .inl (cI, 4096, .inl lp_facts)), (a_lp_turns, .inl (cI, 24576, .inl lp_turns)), (a_s1, .inl (cI, 4096, .inl s1_17)), (a_rn, .inr (6, [.ref a_lp, .ref a_rn_levels, .ref a_rn_path, .ref a_s1, .ref a_s2, .ref a_wk, .int rn_reached, .int rn_greatestLevel, .int rn_pathSize])), (a_s2, .inl (cI, 4096, .inl s2_18)), (a_wk, .inr (10, [.ref a_wk_items, .int wk_size_19]))] H → va_D A [(a_wk_items, .inl (cI, 4096, .inl wk_items_20)), (a_lp, .inr (4, [.ref a_lp_facts, .ref a_lp_turns, .ref a_lp_first, .ref a_lp_src, .ref a_s1, .int lp_choices, .int lp_guesses, .int lp_unaries, .int lp_ranked])), (a_lp_facts, .inl (cI, 4096, .inl lp_facts)), (a_lp_turns, .inl (cI, 24576, .inl lp_turns)), (a_s1, .inl (cI, 4096, .inl s1_17)), (a_rn, .inr (6, [.ref a_lp, .ref a_rn_levels, .ref a_rn_path, .ref a_s1, .ref a_s2, .ref a_wk, .int rn_reached, .int rn_greatestLevel, .int rn_pathSize])), (a_s2, .inl (cI, 4096, .inl s2_18)), (a_wk, .inr (10, [.ref a_wk_items, .int wk_size_19]))] → va_S A s.heap H locs → ∀ ls : Array Slot, lv_has ls 3 [(0, .ref a_rn), (1, .int x1_15), (2, .int x2_16)] → W p l e (headSpec w_Runs_longestTurns ({ frames := 3, cells := 0, slots := 0, locals := 65 })).room s m (([.ref a_rn] : List Value).toArray) below meth c H locs 0 0 QQ (F0 m 76 ls []) := by
      intro k117 hk117 n
      induction n with
      | zero => intro x1_15 x2_16 s1_17 s2_18 wk_size_19 wk_items_20 h; exact (show False from h).elim
      | succ n il =>
        intro x1_15 x2_16 s1_17 s2_18 wk_size_19 wk_items_20 h
        intro H locs hP hD hS ls hl
        refine lv_iload_n hx hb d_Runs_longestTurns_76 rfl (lv_at hl 2 rfl) ?_
        refine lv_sipush (v := 4096) hx hb d_Runs_longestTurns_77 (by decide) ?_
        refine lv_icmp_ge (tgt := 117) hx hb d_Runs_longestTurns_80 (by decide) (fun c_80 => ?_) (fun c_80 => ?_)
        · have h := And.left h c_80
          exact hk117 _ _ _ _ _ h _ _ hP hD hS _ (lv_sub hl [0, 1] rfl)
        · have h := And.right h c_80
          refine lv_iload_n hx hb d_Runs_longestTurns_83 rfl (lv_at hl 2 rfl) ?_
          refine lv_aload_n hx hb d_Runs_longestTurns_84 rfl (lv_at hl 0 rfl) ?_
          refine va_get (D := (dC, dI)) (ci := 6) (v := .ref a_wk) (C := "LoopInduction$Runs") (T := F_Runs) (N := 9) hx hb hts iC_Runs hown hK hP 5 rfl rfl 5 (by decide) fl_49 (fun _ h9 => h9) rfl d_Runs_longestTurns_85 ?_
          refine jn_i (wr := [(a_wk_items, .inl (cI, 4096, .inl wk_items_20)), (a_lp, .inr (4, [.ref a_lp_facts, .ref a_lp_turns, .ref a_lp_first, .ref a_lp_src, .ref a_s1, .int lp_choices, .int lp_guesses, .int lp_unaries, .int lp_ranked])), (a_lp_facts, .inl (cI, 4096, .inl lp_facts)), (a_lp_turns, .inl (cI, 24576, .inl lp_turns)), (a_s1, .inl (cI, 4096, .inl s1_17)), (a_rn, .inr (6, [.ref a_lp, .ref a_rn_levels, .ref a_rn_path, .ref a_s1, .ref a_s2, .ref a_wk, .int rn_reached, .int rn_greatestLevel, .int rn_pathSize])), (a_s2, .inl (cI, 4096, .inl s2_18))]) (va_runV (As := []) (rest := [.int x2_16]) ⟨hx, hb, hml, hown, hts⟩ (c_Work_size l dC dI cI cB cZ adK adV _ a_wk a_wk_items wk_size_19 _ h) (cwV 0 hts (gv_ m_801 m_802 m_803 m_91 m_804) rfl rfl rfl pd_Work_size ⟨Nat.le_of_ble_eq_true rfl, Nat.le_of_ble_eq_true rfl⟩) ⟨pc_blind, va_recv hK hP (ci := 10) (q0 := 7) rfl rfl, pc_of (hP.sub [7] rfl) hK (hD.sub [7] (by decide) rfl) hN hT hS hA⟩ rfl rfl hl.1 rfl (lv_room (Nat.le_of_ble_eq_true rfl)) d_Runs_longestTurns_88 ⟨Nat.zero_le _, Nat.zero_le _⟩) hP hD hS hA [7] [0, 1, 2, 3, 4, 5, 6] rfl rfl (by decide) (by decide) (fun r_27 u_ H locs h hP hD hS => ?_)
          have hP : va_P (dC, dI) vwCl [(a_wk_items, .inl (cI, 4096, .inl wk_items_20)), (a_lp, .inr (4, [.ref a_lp_facts, .ref a_lp_turns, .ref a_lp_first, .ref a_lp_src, .ref a_s1, .int lp_choices, .int lp_guesses, .int lp_unaries, .int lp_ranked])), (a_lp_facts, .inl (cI, 4096, .inl lp_facts)), (a_lp_turns, .inl (cI, 24576, .inl lp_turns)), (a_s1, .inl (cI, 4096, .inl s1_17)), (a_rn, .inr (6, [.ref a_lp, .ref a_rn_levels, .ref a_rn_path, .ref a_s1, .ref a_s2, .ref a_wk, .int rn_reached, .int rn_greatestLevel, .int rn_pathSize])), (a_s2, .inl (cI, 4096, .inl s2_18)), (a_wk, .inr (10, [.ref a_wk_items, .int wk_size_19]))] H := hP
          have hD : va_D A [(a_wk_items, .inl (cI, 4096, .inl wk_items_20)), (a_lp, .inr (4, [.ref a_lp_facts, .ref a_lp_turns, .ref a_lp_first, .ref a_lp_src, .ref a_s1, .int lp_choices, .int lp_guesses, .int lp_unaries, .int lp_ranked])), (a_lp_facts, .inl (cI, 4096, .inl lp_facts)), (a_lp_turns, .inl (cI, 24576, .inl lp_turns)), (a_s1, .inl (cI, 4096, .inl s1_17)), (a_rn, .inr (6, [.ref a_lp, .ref a_rn_levels, .ref a_rn_path, .ref a_s1, .ref a_s2, .ref a_wk, .int rn_reached, .int rn_greatestLevel, .int rn_pathSize])), (a_s2, .inl (cI, 4096, .inl s2_18)), (a_wk, .inr (10, [.ref a_wk_items, .int wk_size_19]))] := hD
          refine lv_icmp_ge (tgt := 117) hx hb d_Runs_longestTurns_91 (by decide) (fun c_91 => ?_) (fun c_91 => ?_)
          · have h := And.left h c_91
            exact hk117 _ _ _ _ _ h _ _ hP hD hS _ (lv_sub hl [0, 1] rfl)
          · have h := And.right h c_91
            refine lv_iload_n hx hb d_Runs_longestTurns_94 rfl (lv_at hl 1 rfl) ?_
            refine lv_aload_n hx hb d_Runs_longestTurns_95 rfl (lv_at hl 0 rfl) ?_
            refine lv_aload_n hx hb d_Runs_longestTurns_96 rfl (lv_at hl 0 rfl) ?_
            refine va_get (D := (dC, dI)) (ci := 6) (v := .ref a_wk) (C := "LoopInduction$Runs") (T := F_Runs) (N := 9) hx hb hts iC_Runs hown hK hP 5 rfl rfl 5 (by decide) fl_49 (fun _ h9 => h9) rfl d_Runs_longestTurns_97 ?_
            refine lv_iload_n hx hb d_Runs_longestTurns_100 rfl (lv_at hl 2 rfl) ?_
            refine jn_i (wr := [(a_lp, .inr (4, [.ref a_lp_facts, .ref a_lp_turns, .ref a_lp_first, .ref a_lp_src, .ref a_s1, .int lp_choices, .int lp_guesses, .int lp_unaries, .int lp_ranked])), (a_lp_facts, .inl (cI, 4096, .inl lp_facts)), (a_lp_turns, .inl (cI, 24576, .inl lp_turns)), (a_s1, .inl (cI, 4096, .inl s1_17)), (a_rn, .inr (6, [.ref a_lp, .ref a_rn_levels, .ref a_rn_path, .ref a_s1, .ref a_s2, .ref a_wk, .int rn_reached, .int rn_greatestLevel, .int rn_pathSize])), (a_s2, .inl (cI, 4096, .inl s2_18))]) (va_runV (As := [.int x2_16]) (rest := [.ref a_rn, .int x1_15]) ⟨hx, hb, hml, hown, hts⟩ (c_Work_item l dC dI cI cB cZ adK adV _ a_wk a_wk_items wk_size_19 wk_items_20 x2_16 _ h) (cwV 1 hts (gv_ m_805 m_806 m_807 m_91 m_808) rfl rfl rfl pd_Work_item ⟨Nat.le_of_ble_eq_true rfl, Nat.le_of_ble_eq_true rfl⟩) ⟨pc_blind, va_recv hK hP (ci := 10) (q0 := 7) rfl rfl, pc_of (hP.sub [7, 0] rfl) hK (hD.sub [7, 0] (by decide) rfl) hN hT hS hA⟩ rfl rfl hl.1 rfl (lv_room (Nat.le_of_ble_eq_true rfl)) d_Runs_longestTurns_101 ⟨Nat.zero_le _, Nat.zero_le _⟩) hP hD hS hA [7, 0] [1, 2, 3, 4, 5, 6] rfl rfl (by decide) (by decide) (fun r_28 u_ H locs h hP hD hS => ?_)
            have hP : va_P (dC, dI) vwCl [(a_lp, .inr (4, [.ref a_lp_facts, .ref a_lp_turns, .ref a_lp_first, .ref a_lp_src, .ref a_s1, .int lp_choices, .int lp_guesses, .int lp_unaries, .int lp_ranked])), (a_lp_facts, .inl (cI, 4096, .inl lp_facts)), (a_lp_turns, .inl (cI, 24576, .inl lp_turns)), (a_s1, .inl (cI, 4096, .inl s1_17)), (a_rn, .inr (6, [.ref a_lp, .ref a_rn_levels, .ref a_rn_path, .ref a_s1, .ref a_s2, .ref a_wk, .int rn_reached, .int rn_greatestLevel, .int rn_pathSize])), (a_s2, .inl (cI, 4096, .inl s2_18)), (a_wk, .inr (10, [.ref a_wk_items, .int wk_size_19])), (a_wk_items, .inl (cI, 4096, .inl wk_items_20))] H := hP
            have hD : va_D A [(a_lp, .inr (4, [.ref a_lp_facts, .ref a_lp_turns, .ref a_lp_first, .ref a_lp_src, .ref a_s1, .int lp_choices, .int lp_guesses, .int lp_unaries, .int lp_ranked])), (a_lp_facts, .inl (cI, 4096, .inl lp_facts)), (a_lp_turns, .inl (cI, 24576, .inl lp_turns)), (a_s1, .inl (cI, 4096, .inl s1_17)), (a_rn, .inr (6, [.ref a_lp, .ref a_rn_levels, .ref a_rn_path, .ref a_s1, .ref a_s2, .ref a_wk, .int rn_reached, .int rn_greatestLevel, .int rn_pathSize])), (a_s2, .inl (cI, 4096, .inl s2_18)), (a_wk, .inr (10, [.ref a_wk_items, .int wk_size_19])), (a_wk_items, .inl (cI, 4096, .inl wk_items_20))] := hD
            refine jn_i (wr := [(a_lp_facts, .inl (cI, 4096, .inl lp_facts))]) (va_runV (As := [.int r_28]) (rest := [.int x1_15]) ⟨hx, hb, hml, hown, hts⟩ (c_Runs_leave l dC dI cI cB cZ adK adV _ a_lp a_lp_facts a_lp_turns a_lp_first a_lp_src a_s1 a_s2 a_wk a_wk_items a_rn a_rn_levels a_rn_path lp_choices lp_guesses lp_unaries lp_ranked lp_turns s1_17 s2_18 wk_size_19 wk_items_20 rn_reached rn_greatestLevel rn_pathSize r_28 _ h) (cwV 1 hts (gv_ m_1036 m_1038 m_46 m_93 m_1039) rfl rfl rfl pd_Runs_leave ⟨Nat.le_of_ble_eq_true rfl, Nat.le_of_ble_eq_true rfl⟩) ⟨pc_blind, va_recv hK hP (ci := 6) (q0 := 4) rfl rfl, pc_of (hP.sub [0, 2, 3, 5, 6, 7, 4] rfl) hK (hD.sub [0, 2, 3, 5, 6, 7, 4] (by decide) rfl) hN hT hS hA⟩ rfl rfl hl.1 rfl (lv_room (Nat.le_of_ble_eq_true rfl)) d_Runs_longestTurns_104 ⟨Nat.zero_le _, Nat.zero_le _⟩) hP hD hS hA [0, 2, 3, 5, 6, 7, 4] [1] rfl rfl (by decide) (by decide) (fun r_29 u_ H locs h hP hD hS => ?_)
            obtain ⟨s1_30, s2_31, wk_size_32, wk_items_33⟩ := u_
            have hP : va_P (dC, dI) vwCl [(a_lp_facts, .inl (cI, 4096, .inl lp_facts)), (a_lp, .inr (4, [.ref a_lp_facts, .ref a_lp_turns, .ref a_lp_first, .ref a_lp_src, .ref a_s1, .int lp_choices, .int lp_guesses, .int lp_unaries, .int lp_ranked])), (a_lp_turns, .inl (cI, 24576, .inl lp_turns)), (a_s1, .inl (cI, 4096, .inl s1_30)), (a_s2, .inl (cI, 4096, .inl s2_31)), (a_wk, .inr (10, [.ref a_wk_items, .int wk_size_32])), (a_wk_items, .inl (cI, 4096, .inl wk_items_33)), (a_rn, .inr (6, [.ref a_lp, .ref a_rn_levels, .ref a_rn_path, .ref a_s1, .ref a_s2, .ref a_wk, .int rn_reached, .int rn_greatestLevel, .int rn_pathSize]))] H := hP
            have hD : va_D A [(a_lp_facts, .inl (cI, 4096, .inl lp_facts)), (a_lp, .inr (4, [.ref a_lp_facts, .ref a_lp_turns, .ref a_lp_first, .ref a_lp_src, .ref a_s1, .int lp_choices, .int lp_guesses, .int lp_unaries, .int lp_ranked])), (a_lp_turns, .inl (cI, 24576, .inl lp_turns)), (a_s1, .inl (cI, 4096, .inl s1_30)), (a_s2, .inl (cI, 4096, .inl s2_31)), (a_wk, .inr (10, [.ref a_wk_items, .int wk_size_32])), (a_wk_items, .inl (cI, 4096, .inl wk_items_33)), (a_rn, .inr (6, [.ref a_lp, .ref a_rn_levels, .ref a_rn_path, .ref a_s1, .ref a_s2, .ref a_wk, .int rn_reached, .int rn_greatestLevel, .int rn_pathSize]))] := hD
            refine va_mmax hx hb (by rw [hml]; exact hl.1.symm) hown (hts _ (List.mem_cons_of_mem _ m_1040)) (hts _ (List.mem_cons_of_mem _ m_553)) (hts _ (List.mem_cons_of_mem _ m_101)) (hts _ (List.mem_cons_of_mem _ m_554)) (Nat.le_of_ble_eq_true rfl) (Nat.le_of_ble_eq_true rfl) (Nat.zero_le _) (Nat.zero_le _) d_Runs_longestTurns_107 ?_
            refine lv_topi (fun x1_34 ex1_34 => ?_)
            have h := h x1_34 ex1_34
            refine lv_istore_n (lv' := [(1, .int x1_34), (0, .ref a_rn), (2, .int x2_16)]) hx hb d_Runs_longestTurns_110 rfl hl (by decide) rfl (fun ls hl => ?_)
            refine lv_iinc (v := x2_16 + 1) (lv' := [(2, .int (x2_16 + 1)), (1, .int x1_34), (0, .ref a_rn)]) hx hb d_Runs_longestTurns_111 hl (k := 2) rfl rfl (by decide) rfl (fun ls hl => ?_)
            refine lv_goto (tgt := 76) hx hb d_Runs_longestTurns_114 (by decide) ?_
            exact il _ _ _ _ _ _ h _ _ (hP.sub [6, 1, 0, 2, 3, 7, 4, 5] rfl) (hD.sub [6, 1, 0, 2, 3, 7, 4, 5] (by decide) rfl) hS _ (lv_sub hl [2, 1, 0] rfl)
    obtain ⟨n_, h⟩ := h
    refine L76_q_21 _ ?_ n_ _ _ _ _ _ _ h _ _ hP hD hS _ (lv_sub hl [2, 1, 0] rfl)
    intro x1_35 s1_36 s2_37 wk_size_38 wk_items_39 h
    intro H locs hP hD hS ls hl
    refine lv_aload_n hx hb d_Runs_longestTurns_117 rfl (lv_at hl 0 rfl) ?_
    refine va_get (D := (dC, dI)) (ci := 6) (v := .ref a_wk) (C := "LoopInduction$Runs") (T := F_Runs) (N := 9) hx hb hts iC_Runs hown hK hP 5 rfl rfl 5 (by decide) fl_49 (fun _ h9 => h9) rfl d_Runs_longestTurns_118 ?_
    refine jn_i (wr := [(a_wk_items, .inl (cI, 4096, .inl wk_items_39)), (a_lp, .inr (4, [.ref a_lp_facts, .ref a_lp_turns, .ref a_lp_first, .ref a_lp_src, .ref a_s1, .int lp_choices, .int lp_guesses, .int lp_unaries, .int lp_ranked])), (a_lp_facts, .inl (cI, 4096, .inl lp_facts)), (a_lp_turns, .inl (cI, 24576, .inl lp_turns)), (a_s1, .inl (cI, 4096, .inl s1_36)), (a_rn, .inr (6, [.ref a_lp, .ref a_rn_levels, .ref a_rn_path, .ref a_s1, .ref a_s2, .ref a_wk, .int rn_reached, .int rn_greatestLevel, .int rn_pathSize])), (a_s2, .inl (cI, 4096, .inl s2_37))]) (va_runV (As := []) (rest := []) ⟨hx, hb, hml, hown, hts⟩ (c_Work_size l dC dI cI cB cZ adK adV _ a_wk a_wk_items wk_size_38 _ h) (cwV 0 hts (gv_ m_801 m_802 m_803 m_91 m_804) rfl rfl rfl pd_Work_size ⟨Nat.le_of_ble_eq_true rfl, Nat.le_of_ble_eq_true rfl⟩) ⟨pc_blind, va_recv hK hP (ci := 10) (q0 := 7) rfl rfl, pc_of (hP.sub [7] rfl) hK (hD.sub [7] (by decide) rfl) hN hT hS hA⟩ rfl rfl hl.1 rfl (lv_room (Nat.le_of_ble_eq_true rfl)) d_Runs_longestTurns_121 ⟨Nat.zero_le _, Nat.zero_le _⟩) hP hD hS hA [7] [0, 1, 2, 3, 4, 5, 6] rfl rfl (by decide) (by decide) (fun r_40 u_ H locs h hP hD hS => ?_)
    have hP : va_P (dC, dI) vwCl [(a_wk_items, .inl (cI, 4096, .inl wk_items_39)), (a_lp, .inr (4, [.ref a_lp_facts, .ref a_lp_turns, .ref a_lp_first, .ref a_lp_src, .ref a_s1, .int lp_choices, .int lp_guesses, .int lp_unaries, .int lp_ranked])), (a_lp_facts, .inl (cI, 4096, .inl lp_facts)), (a_lp_turns, .inl (cI, 24576, .inl lp_turns)), (a_s1, .inl (cI, 4096, .inl s1_36)), (a_rn, .inr (6, [.ref a_lp, .ref a_rn_levels, .ref a_rn_path, .ref a_s1, .ref a_s2, .ref a_wk, .int rn_reached, .int rn_greatestLevel, .int rn_pathSize])), (a_s2, .inl (cI, 4096, .inl s2_37)), (a_wk, .inr (10, [.ref a_wk_items, .int wk_size_38]))] H := hP
    have hD : va_D A [(a_wk_items, .inl (cI, 4096, .inl wk_items_39)), (a_lp, .inr (4, [.ref a_lp_facts, .ref a_lp_turns, .ref a_lp_first, .ref a_lp_src, .ref a_s1, .int lp_choices, .int lp_guesses, .int lp_unaries, .int lp_ranked])), (a_lp_facts, .inl (cI, 4096, .inl lp_facts)), (a_lp_turns, .inl (cI, 24576, .inl lp_turns)), (a_s1, .inl (cI, 4096, .inl s1_36)), (a_rn, .inr (6, [.ref a_lp, .ref a_rn_levels, .ref a_rn_path, .ref a_s1, .ref a_s2, .ref a_wk, .int rn_reached, .int rn_greatestLevel, .int rn_pathSize])), (a_s2, .inl (cI, 4096, .inl s2_37)), (a_wk, .inr (10, [.ref a_wk_items, .int wk_size_38]))] := hD
    refine lv_aload_n hx hb d_Runs_longestTurns_124 rfl (lv_at hl 0 rfl) ?_
    refine va_get (D := (dC, dI)) (ci := 6) (v := .int rn_reached) (C := "LoopInduction$Runs") (T := F_Runs) (N := 9) hx hb hts iC_Runs hown hK hP 5 rfl rfl 6 (by decide) fl_18 (fun _ h9 => h9) rfl d_Runs_longestTurns_125 ?_
    refine lv_icmp_ge (tgt := 137) hx hb d_Runs_longestTurns_128 (by decide) (fun c_128 => ?_) (fun c_128 => ?_)
    · have h := And.left h c_128
      refine lv_iload_n hx hb d_Runs_longestTurns_137 rfl (lv_at hl 1 rfl) ?_
      rw [← hQ]
      have hP9 := hP.sub (ws' := [(a_lp, .inr (4, [.ref a_lp_facts, .ref a_lp_turns, .ref a_lp_first, .ref a_lp_src, .ref a_s1, .int lp_choices, .int lp_guesses, .int lp_unaries, .int lp_ranked])), (a_lp_facts, .inl (cI, 4096, .inl lp_facts)), (a_lp_turns, .inl (cI, 24576, .inl lp_turns)), (a_s1, .inl (cI, 4096, .inl s1_36)), (a_s2, .inl (cI, 4096, .inl s2_37)), (a_wk, .inr (10, [.ref a_wk_items, .int wk_size_38])), (a_wk_items, .inl (cI, 4096, .inl wk_items_39)), (a_rn, .inr (6, [.ref a_lp, .ref a_rn_levels, .ref a_rn_path, .ref a_s1, .ref a_s2, .ref a_wk, .int rn_reached, .int rn_greatestLevel, .int rn_pathSize]))]) [1, 2, 3, 4, 6, 7, 0, 5] rfl
      have hD9 := hD.sub (ws' := [(a_lp, .inr (4, [.ref a_lp_facts, .ref a_lp_turns, .ref a_lp_first, .ref a_lp_src, .ref a_s1, .int lp_choices, .int lp_guesses, .int lp_unaries, .int lp_ranked])), (a_lp_facts, .inl (cI, 4096, .inl lp_facts)), (a_lp_turns, .inl (cI, 24576, .inl lp_turns)), (a_s1, .inl (cI, 4096, .inl s1_36)), (a_s2, .inl (cI, 4096, .inl s2_37)), (a_wk, .inr (10, [.ref a_wk_items, .int wk_size_38])), (a_wk_items, .inl (cI, 4096, .inl wk_items_39)), (a_rn, .inr (6, [.ref a_lp, .ref a_rn_levels, .ref a_rn_path, .ref a_s1, .ref a_s2, .ref a_wk, .int rn_reached, .int rn_greatestLevel, .int rn_pathSize]))]) [1, 2, 3, 4, 6, 7, 0, 5] (by decide) rfl
      exact W.iret (v := x1_35) hx hb hr (fun t ht hW => ⟨⟨x1_35, (s1_36, s2_37, wk_size_38, wk_items_39), rfl, h, by rw [ht]; exact hP9, va_K.moved hW.alike hK, hD9⟩, hS.F ht⟩) hS.2.2 d_Runs_longestTurns_138
    · have h := And.right h c_128
      refine lv_sipush (v := 5000) hx hb d_Runs_longestTurns_131 (by decide) ?_
      refine lv_goto (tgt := 138) hx hb d_Runs_longestTurns_134 (by decide) ?_
      rw [← hQ]
      have hP9 := hP.sub (ws' := [(a_lp, .inr (4, [.ref a_lp_facts, .ref a_lp_turns, .ref a_lp_first, .ref a_lp_src, .ref a_s1, .int lp_choices, .int lp_guesses, .int lp_unaries, .int lp_ranked])), (a_lp_facts, .inl (cI, 4096, .inl lp_facts)), (a_lp_turns, .inl (cI, 24576, .inl lp_turns)), (a_s1, .inl (cI, 4096, .inl s1_36)), (a_s2, .inl (cI, 4096, .inl s2_37)), (a_wk, .inr (10, [.ref a_wk_items, .int wk_size_38])), (a_wk_items, .inl (cI, 4096, .inl wk_items_39)), (a_rn, .inr (6, [.ref a_lp, .ref a_rn_levels, .ref a_rn_path, .ref a_s1, .ref a_s2, .ref a_wk, .int rn_reached, .int rn_greatestLevel, .int rn_pathSize]))]) [1, 2, 3, 4, 6, 7, 0, 5] rfl
      have hD9 := hD.sub (ws' := [(a_lp, .inr (4, [.ref a_lp_facts, .ref a_lp_turns, .ref a_lp_first, .ref a_lp_src, .ref a_s1, .int lp_choices, .int lp_guesses, .int lp_unaries, .int lp_ranked])), (a_lp_facts, .inl (cI, 4096, .inl lp_facts)), (a_lp_turns, .inl (cI, 24576, .inl lp_turns)), (a_s1, .inl (cI, 4096, .inl s1_36)), (a_s2, .inl (cI, 4096, .inl s2_37)), (a_wk, .inr (10, [.ref a_wk_items, .int wk_size_38])), (a_wk_items, .inl (cI, 4096, .inl wk_items_39)), (a_rn, .inr (6, [.ref a_lp, .ref a_rn_levels, .ref a_rn_path, .ref a_s1, .ref a_s2, .ref a_wk, .int rn_reached, .int rn_greatestLevel, .int rn_pathSize]))]) [1, 2, 3, 4, 6, 7, 0, 5] (by decide) rfl
      exact W.iret (v := 5000) hx hb hr (fun t ht hW => ⟨⟨5000, (s1_36, s2_37, wk_size_38, wk_items_39), rfl, h, by rw [ht]; exact hP9, va_K.moved hW.alike hK, hD9⟩, hS.F ht⟩) hS.2.2 d_Runs_longestTurns_138
  · have h := And.right h c_4
    refine lv_iconst (v := (-1)) hx hb d_Runs_longestTurns_7 (by decide) ?_
    rw [← hQ]
    have hP9 := hP
    have hD9 := hD
    exact W.iret (v := (-1)) hx hb hr (fun t ht hW => ⟨⟨(-1), (s1, s2, wk_size, wk_items), rfl, h, by rw [ht]; exact hP9, va_K.moved hW.alike hK, hD9⟩, hS.F ht⟩) hS.2.2 d_Runs_longestTurns_8
