abbrev b_LI_feed : ByteArray := prog_1_method_2_code
abbrev y_LI_feed : MethodName := ⟨"LoopInduction", "feed", "(IIIII)I"⟩
abbrev w_LI_feed : List Cond := .code y_LI_feed b_LI_feed 6 (some .int) :: allW
theorem pn_LI_feed : y_LI_feed.cls ≠ "java/lang/invoke/MethodHandle" ∧ y_LI_feed.cls ≠ "java/lang/invoke/VarHandle" ∧ (parseMethodDescriptor y_LI_feed.desc).map (fun d => d.parameters.length) = some 5 := by decide +kernel
theorem pd_LI_feed : y_LI_feed.cls = "LoopInduction" ∧ y_LI_feed.cls ≠ "java/lang/invoke/MethodHandle" ∧ y_LI_feed.cls ≠ "java/lang/invoke/VarHandle" ∧ (parseMethodDescriptor y_LI_feed.desc).map (fun d => d.parameters.length) = some 5 := by decide +kernel
abbrev b_LI_end : ByteArray := prog_1_method_3_code
abbrev y_LI_end : MethodName := ⟨"LoopInduction", "end", "(I)I"⟩
abbrev w_LI_end : List Cond := .code y_LI_end b_LI_end 2 (some .int) :: allW
theorem pn_LI_end : y_LI_end.cls ≠ "java/lang/invoke/MethodHandle" ∧ y_LI_end.cls ≠ "java/lang/invoke/VarHandle" ∧ (parseMethodDescriptor y_LI_end.desc).map (fun d => d.parameters.length) = some 1 := by decide +kernel
theorem pd_LI_end : y_LI_end.cls = "LoopInduction" ∧ y_LI_end.cls ≠ "java/lang/invoke/MethodHandle" ∧ y_LI_end.cls ≠ "java/lang/invoke/VarHandle" ∧ (parseMethodDescriptor y_LI_end.desc).map (fun d => d.parameters.length) = some 1 := by decide +kernel
abbrev b_LI_place : ByteArray := prog_1_method_5_code
abbrev y_LI_place : MethodName := ⟨"LoopInduction", "place", "()I"⟩
abbrev w_LI_place : List Cond := .code y_LI_place b_LI_place 1 (some .int) :: allW
theorem pn_LI_place : y_LI_place.cls ≠ "java/lang/invoke/MethodHandle" ∧ y_LI_place.cls ≠ "java/lang/invoke/VarHandle" ∧ (parseMethodDescriptor y_LI_place.desc).map (fun d => d.parameters.length) = some 0 := by decide +kernel
theorem pd_LI_place : y_LI_place.cls = "LoopInduction" ∧ y_LI_place.cls ≠ "java/lang/invoke/MethodHandle" ∧ y_LI_place.cls ≠ "java/lang/invoke/VarHandle" ∧ (parseMethodDescriptor y_LI_place.desc).map (fun d => d.parameters.length) = some 0 := by decide +kernel
abbrev b_LI_told : ByteArray := prog_1_method_6_code
abbrev y_LI_told : MethodName := ⟨"LoopInduction", "told", "(I)I"⟩
abbrev w_LI_told : List Cond := .code y_LI_told b_LI_told 2 (some .int) :: allW
theorem pn_LI_told : y_LI_told.cls ≠ "java/lang/invoke/MethodHandle" ∧ y_LI_told.cls ≠ "java/lang/invoke/VarHandle" ∧ (parseMethodDescriptor y_LI_told.desc).map (fun d => d.parameters.length) = some 1 := by decide +kernel
theorem pd_LI_told : y_LI_told.cls = "LoopInduction" ∧ y_LI_told.cls ≠ "java/lang/invoke/MethodHandle" ∧ y_LI_told.cls ≠ "java/lang/invoke/VarHandle" ∧ (parseMethodDescriptor y_LI_told.desc).map (fun d => d.parameters.length) = some 1 := by decide +kernel
abbrev b_LI_has : ByteArray := prog_1_method_7_code
abbrev y_LI_has : MethodName := ⟨"LoopInduction", "has", "(II)I"⟩
abbrev w_LI_has : List Cond := .code y_LI_has b_LI_has 3 (some .int) :: allW
theorem pn_LI_has : y_LI_has.cls ≠ "java/lang/invoke/MethodHandle" ∧ y_LI_has.cls ≠ "java/lang/invoke/VarHandle" ∧ (parseMethodDescriptor y_LI_has.desc).map (fun d => d.parameters.length) = some 2 := by decide +kernel
theorem pd_LI_has : y_LI_has.cls = "LoopInduction" ∧ y_LI_has.cls ≠ "java/lang/invoke/MethodHandle" ∧ y_LI_has.cls ≠ "java/lang/invoke/VarHandle" ∧ (parseMethodDescriptor y_LI_has.desc).map (fun d => d.parameters.length) = some 2 := by decide +kernel
abbrev b_LI_next : ByteArray := prog_1_method_8_code
abbrev y_LI_next : MethodName := ⟨"LoopInduction", "next", "(II)I"⟩
abbrev w_LI_next : List Cond := .code y_LI_next b_LI_next 3 (some .int) :: allW
theorem pn_LI_next : y_LI_next.cls ≠ "java/lang/invoke/MethodHandle" ∧ y_LI_next.cls ≠ "java/lang/invoke/VarHandle" ∧ (parseMethodDescriptor y_LI_next.desc).map (fun d => d.parameters.length) = some 2 := by decide +kernel
theorem pd_LI_next : y_LI_next.cls = "LoopInduction" ∧ y_LI_next.cls ≠ "java/lang/invoke/MethodHandle" ∧ y_LI_next.cls ≠ "java/lang/invoke/VarHandle" ∧ (parseMethodDescriptor y_LI_next.desc).map (fun d => d.parameters.length) = some 2 := by decide +kernel
abbrev b_LI_rank : ByteArray := prog_1_method_9_code
abbrev y_LI_rank : MethodName := ⟨"LoopInduction", "rank", "(I)I"⟩
abbrev w_LI_rank : List Cond := .code y_LI_rank b_LI_rank 2 (some .int) :: allW
theorem pn_LI_rank : y_LI_rank.cls ≠ "java/lang/invoke/MethodHandle" ∧ y_LI_rank.cls ≠ "java/lang/invoke/VarHandle" ∧ (parseMethodDescriptor y_LI_rank.desc).map (fun d => d.parameters.length) = some 1 := by decide +kernel
theorem pd_LI_rank : y_LI_rank.cls = "LoopInduction" ∧ y_LI_rank.cls ≠ "java/lang/invoke/MethodHandle" ∧ y_LI_rank.cls ≠ "java/lang/invoke/VarHandle" ∧ (parseMethodDescriptor y_LI_rank.desc).map (fun d => d.parameters.length) = some 1 := by decide +kernel
abbrev b_LI_many : ByteArray := prog_1_method_10_code
abbrev y_LI_many : MethodName := ⟨"LoopInduction", "many", "(I)I"⟩
abbrev w_LI_many : List Cond := .code y_LI_many b_LI_many 2 (some .int) :: allW
theorem pn_LI_many : y_LI_many.cls ≠ "java/lang/invoke/MethodHandle" ∧ y_LI_many.cls ≠ "java/lang/invoke/VarHandle" ∧ (parseMethodDescriptor y_LI_many.desc).map (fun d => d.parameters.length) = some 1 := by decide +kernel
theorem pd_LI_many : y_LI_many.cls = "LoopInduction" ∧ y_LI_many.cls ≠ "java/lang/invoke/MethodHandle" ∧ y_LI_many.cls ≠ "java/lang/invoke/VarHandle" ∧ (parseMethodDescriptor y_LI_many.desc).map (fun d => d.parameters.length) = some 1 := by decide +kernel
abbrev b_LI_level : ByteArray := prog_1_method_11_code
abbrev y_LI_level : MethodName := ⟨"LoopInduction", "level", "(I)I"⟩
abbrev w_LI_level : List Cond := .code y_LI_level b_LI_level 2 (some .int) :: allW
theorem pn_LI_level : y_LI_level.cls ≠ "java/lang/invoke/MethodHandle" ∧ y_LI_level.cls ≠ "java/lang/invoke/VarHandle" ∧ (parseMethodDescriptor y_LI_level.desc).map (fun d => d.parameters.length) = some 1 := by decide +kernel
theorem pd_LI_level : y_LI_level.cls = "LoopInduction" ∧ y_LI_level.cls ≠ "java/lang/invoke/MethodHandle" ∧ y_LI_level.cls ≠ "java/lang/invoke/VarHandle" ∧ (parseMethodDescriptor y_LI_level.desc).map (fun d => d.parameters.length) = some 1 := by decide +kernel
abbrev b_LI_counter : ByteArray := prog_1_method_12_code
abbrev y_LI_counter : MethodName := ⟨"LoopInduction", "counter", "(I)I"⟩
abbrev w_LI_counter : List Cond := .code y_LI_counter b_LI_counter 2 (some .int) :: allW
theorem pn_LI_counter : y_LI_counter.cls ≠ "java/lang/invoke/MethodHandle" ∧ y_LI_counter.cls ≠ "java/lang/invoke/VarHandle" ∧ (parseMethodDescriptor y_LI_counter.desc).map (fun d => d.parameters.length) = some 1 := by decide +kernel
theorem pd_LI_counter : y_LI_counter.cls = "LoopInduction" ∧ y_LI_counter.cls ≠ "java/lang/invoke/MethodHandle" ∧ y_LI_counter.cls ≠ "java/lang/invoke/VarHandle" ∧ (parseMethodDescriptor y_LI_counter.desc).map (fun d => d.parameters.length) = some 1 := by decide +kernel
abbrev b_LI_induction : ByteArray := prog_1_method_13_code
abbrev y_LI_induction : MethodName := ⟨"LoopInduction", "induction", "(I)I"⟩
abbrev w_LI_induction : List Cond := .code y_LI_induction b_LI_induction 2 (some .int) :: allW
theorem pn_LI_induction : y_LI_induction.cls ≠ "java/lang/invoke/MethodHandle" ∧ y_LI_induction.cls ≠ "java/lang/invoke/VarHandle" ∧ (parseMethodDescriptor y_LI_induction.desc).map (fun d => d.parameters.length) = some 1 := by decide +kernel
theorem pd_LI_induction : y_LI_induction.cls = "LoopInduction" ∧ y_LI_induction.cls ≠ "java/lang/invoke/MethodHandle" ∧ y_LI_induction.cls ≠ "java/lang/invoke/VarHandle" ∧ (parseMethodDescriptor y_LI_induction.desc).map (fun d => d.parameters.length) = some 1 := by decide +kernel
abbrev b_LI_kept : ByteArray := prog_1_method_14_code
abbrev y_LI_kept : MethodName := ⟨"LoopInduction", "kept", "()I"⟩
abbrev w_LI_kept : List Cond := .code y_LI_kept b_LI_kept 1 (some .int) :: allW
theorem pn_LI_kept : y_LI_kept.cls ≠ "java/lang/invoke/MethodHandle" ∧ y_LI_kept.cls ≠ "java/lang/invoke/VarHandle" ∧ (parseMethodDescriptor y_LI_kept.desc).map (fun d => d.parameters.length) = some 0 := by decide +kernel
theorem pd_LI_kept : y_LI_kept.cls = "LoopInduction" ∧ y_LI_kept.cls ≠ "java/lang/invoke/MethodHandle" ∧ y_LI_kept.cls ≠ "java/lang/invoke/VarHandle" ∧ (parseMethodDescriptor y_LI_kept.desc).map (fun d => d.parameters.length) = some 0 := by decide +kernel
abbrev b_LI_gone : ByteArray := prog_1_method_15_code
abbrev y_LI_gone : MethodName := ⟨"LoopInduction", "gone", "(I)I"⟩
abbrev w_LI_gone : List Cond := .code y_LI_gone b_LI_gone 2 (some .int) :: allW
theorem pn_LI_gone : y_LI_gone.cls ≠ "java/lang/invoke/MethodHandle" ∧ y_LI_gone.cls ≠ "java/lang/invoke/VarHandle" ∧ (parseMethodDescriptor y_LI_gone.desc).map (fun d => d.parameters.length) = some 1 := by decide +kernel
theorem pd_LI_gone : y_LI_gone.cls = "LoopInduction" ∧ y_LI_gone.cls ≠ "java/lang/invoke/MethodHandle" ∧ y_LI_gone.cls ≠ "java/lang/invoke/VarHandle" ∧ (parseMethodDescriptor y_LI_gone.desc).map (fun d => d.parameters.length) = some 1 := by decide +kernel
abbrev b_LI_follows : ByteArray := prog_1_method_16_code
abbrev y_LI_follows : MethodName := ⟨"LoopInduction", "follows", "()I"⟩
abbrev w_LI_follows : List Cond := .code y_LI_follows b_LI_follows 1 (some .int) :: allW
theorem pn_LI_follows : y_LI_follows.cls ≠ "java/lang/invoke/MethodHandle" ∧ y_LI_follows.cls ≠ "java/lang/invoke/VarHandle" ∧ (parseMethodDescriptor y_LI_follows.desc).map (fun d => d.parameters.length) = some 0 := by decide +kernel
theorem pd_LI_follows : y_LI_follows.cls = "LoopInduction" ∧ y_LI_follows.cls ≠ "java/lang/invoke/MethodHandle" ∧ y_LI_follows.cls ≠ "java/lang/invoke/VarHandle" ∧ (parseMethodDescriptor y_LI_follows.desc).map (fun d => d.parameters.length) = some 0 := by decide +kernel
abbrev b_LI_falls : ByteArray := prog_1_method_17_code
abbrev y_LI_falls : MethodName := ⟨"LoopInduction", "falls", "()I"⟩
abbrev w_LI_falls : List Cond := .code y_LI_falls b_LI_falls 1 (some .int) :: allW
theorem pn_LI_falls : y_LI_falls.cls ≠ "java/lang/invoke/MethodHandle" ∧ y_LI_falls.cls ≠ "java/lang/invoke/VarHandle" ∧ (parseMethodDescriptor y_LI_falls.desc).map (fun d => d.parameters.length) = some 0 := by decide +kernel
theorem pd_LI_falls : y_LI_falls.cls = "LoopInduction" ∧ y_LI_falls.cls ≠ "java/lang/invoke/MethodHandle" ∧ y_LI_falls.cls ≠ "java/lang/invoke/VarHandle" ∧ (parseMethodDescriptor y_LI_falls.desc).map (fun d => d.parameters.length) = some 0 := by decide +kernel
abbrev b_LI_longest : ByteArray := prog_1_method_18_code
abbrev y_LI_longest : MethodName := ⟨"LoopInduction", "longest", "()I"⟩
abbrev w_LI_longest : List Cond := .code y_LI_longest b_LI_longest 1 (some .int) :: allW
theorem pn_LI_longest : y_LI_longest.cls ≠ "java/lang/invoke/MethodHandle" ∧ y_LI_longest.cls ≠ "java/lang/invoke/VarHandle" ∧ (parseMethodDescriptor y_LI_longest.desc).map (fun d => d.parameters.length) = some 0 := by decide +kernel
theorem pd_LI_longest : y_LI_longest.cls = "LoopInduction" ∧ y_LI_longest.cls ≠ "java/lang/invoke/MethodHandle" ∧ y_LI_longest.cls ≠ "java/lang/invoke/VarHandle" ∧ (parseMethodDescriptor y_LI_longest.desc).map (fun d => d.parameters.length) = some 0 := by decide +kernel
theorem d_LI_feed_0 : decode b_LI_feed 0 = .ok (.aload_n 0, 1) := by decide +kernel
theorem d_LI_feed_1 : decode b_LI_feed 1 = .ok (.getfield 10, 3) := by decide +kernel
theorem d_LI_feed_4 : decode b_LI_feed 4 = .ok (.invokevirtual 84, 3) := by decide +kernel
theorem d_LI_feed_7 : decode b_LI_feed 7 = .ok (.ifCond .ne 5, 3) := by decide +kernel
theorem d_LI_feed_10 : decode b_LI_feed 10 = .ok (.iconst (-1), 1) := by decide +kernel
theorem d_LI_feed_11 : decode b_LI_feed 11 = .ok (.ireturn, 1) := by decide +kernel
theorem d_LI_feed_12 : decode b_LI_feed 12 = .ok (.aload_n 0, 1) := by decide +kernel
theorem d_LI_feed_13 : decode b_LI_feed 13 = .ok (.getfield 10, 3) := by decide +kernel
theorem d_LI_feed_16 : decode b_LI_feed 16 = .ok (.iload_n 1, 1) := by decide +kernel
theorem d_LI_feed_17 : decode b_LI_feed 17 = .ok (.invokevirtual 88, 3) := by decide +kernel
theorem d_LI_feed_20 : decode b_LI_feed 20 = .ok (.aload_n 0, 1) := by decide +kernel
theorem d_LI_feed_21 : decode b_LI_feed 21 = .ok (.getfield 10, 3) := by decide +kernel
theorem d_LI_feed_24 : decode b_LI_feed 24 = .ok (.iload_n 2, 1) := by decide +kernel
theorem d_LI_feed_25 : decode b_LI_feed 25 = .ok (.invokevirtual 88, 3) := by decide +kernel
theorem d_LI_feed_28 : decode b_LI_feed 28 = .ok (.aload_n 0, 1) := by decide +kernel
theorem d_LI_feed_29 : decode b_LI_feed 29 = .ok (.getfield 10, 3) := by decide +kernel
theorem d_LI_feed_32 : decode b_LI_feed 32 = .ok (.iload_n 3, 1) := by decide +kernel
theorem d_LI_feed_33 : decode b_LI_feed 33 = .ok (.invokevirtual 88, 3) := by decide +kernel
theorem d_LI_feed_36 : decode b_LI_feed 36 = .ok (.aload_n 0, 1) := by decide +kernel
theorem d_LI_feed_37 : decode b_LI_feed 37 = .ok (.getfield 10, 3) := by decide +kernel
theorem d_LI_feed_40 : decode b_LI_feed 40 = .ok (.iload 4, 2) := by decide +kernel
theorem d_LI_feed_42 : decode b_LI_feed 42 = .ok (.invokevirtual 88, 3) := by decide +kernel
theorem d_LI_feed_45 : decode b_LI_feed 45 = .ok (.aload_n 0, 1) := by decide +kernel
theorem d_LI_feed_46 : decode b_LI_feed 46 = .ok (.getfield 10, 3) := by decide +kernel
theorem d_LI_feed_49 : decode b_LI_feed 49 = .ok (.iload 5, 2) := by decide +kernel
theorem d_LI_feed_51 : decode b_LI_feed 51 = .ok (.invokevirtual 88, 3) := by decide +kernel
theorem d_LI_feed_54 : decode b_LI_feed 54 = .ok (.aload_n 0, 1) := by decide +kernel
theorem d_LI_feed_55 : decode b_LI_feed 55 = .ok (.getfield 10, 3) := by decide +kernel
theorem d_LI_feed_58 : decode b_LI_feed 58 = .ok (.invokevirtual 92, 3) := by decide +kernel
theorem d_LI_feed_61 : decode b_LI_feed 61 = .ok (.ireturn, 1) := by decide +kernel
theorem d_LI_end_0 : decode b_LI_end 0 = .ok (.aload_n 0, 1) := by decide +kernel
theorem d_LI_end_1 : decode b_LI_end 1 = .ok (.getfield 10, 3) := by decide +kernel
theorem d_LI_end_4 : decode b_LI_end 4 = .ok (.iload_n 1, 1) := by decide +kernel
theorem d_LI_end_5 : decode b_LI_end 5 = .ok (.invokevirtual 96, 3) := by decide +kernel
theorem d_LI_end_8 : decode b_LI_end 8 = .ok (.ifCond .eq 13, 3) := by decide +kernel
theorem d_LI_end_11 : decode b_LI_end 11 = .ok (.aload_n 0, 1) := by decide +kernel
theorem d_LI_end_12 : decode b_LI_end 12 = .ok (.getfield 10, 3) := by decide +kernel
theorem d_LI_end_15 : decode b_LI_end 15 = .ok (.invokevirtual 92, 3) := by decide +kernel
theorem d_LI_end_18 : decode b_LI_end 18 = .ok (.goto 4, 3) := by decide +kernel
theorem d_LI_end_21 : decode b_LI_end 21 = .ok (.iconst (-1), 1) := by decide +kernel
theorem d_LI_end_22 : decode b_LI_end 22 = .ok (.ireturn, 1) := by decide +kernel
theorem d_LI_place_0 : decode b_LI_place 0 = .ok (.aload_n 0, 1) := by decide +kernel
theorem d_LI_place_1 : decode b_LI_place 1 = .ok (.getfield 80, 3) := by decide +kernel
theorem d_LI_place_4 : decode b_LI_place 4 = .ok (.ireturn, 1) := by decide +kernel
theorem d_LI_told_0 : decode b_LI_told 0 = .ok (.aload_n 0, 1) := by decide +kernel
theorem d_LI_told_1 : decode b_LI_told 1 = .ok (.getfield 76, 3) := by decide +kernel
theorem d_LI_told_4 : decode b_LI_told 4 = .ok (.ifCond .ne 5, 3) := by decide +kernel
theorem d_LI_told_7 : decode b_LI_told 7 = .ok (.iconst (-1), 1) := by decide +kernel
theorem d_LI_told_8 : decode b_LI_told 8 = .ok (.ireturn, 1) := by decide +kernel
theorem d_LI_told_9 : decode b_LI_told 9 = .ok (.iload_n 1, 1) := by decide +kernel
theorem d_LI_told_10 : decode b_LI_told 10 = .ok (.tableswitch 70 0 3 #[30, 38, 46, 54], 30) := by decide +kernel
theorem d_LI_told_40 : decode b_LI_told 40 = .ok (.aload_n 0, 1) := by decide +kernel
theorem d_LI_told_41 : decode b_LI_told 41 = .ok (.getfield 49, 3) := by decide +kernel
theorem d_LI_told_44 : decode b_LI_told 44 = .ok (.invokevirtual 122, 3) := by decide +kernel
theorem d_LI_told_47 : decode b_LI_told 47 = .ok (.ireturn, 1) := by decide +kernel
theorem d_LI_told_48 : decode b_LI_told 48 = .ok (.aload_n 0, 1) := by decide +kernel
theorem d_LI_told_49 : decode b_LI_told 49 = .ok (.getfield 49, 3) := by decide +kernel
theorem d_LI_told_52 : decode b_LI_told 52 = .ok (.invokevirtual 125, 3) := by decide +kernel
theorem d_LI_told_55 : decode b_LI_told 55 = .ok (.ireturn, 1) := by decide +kernel
theorem d_LI_told_56 : decode b_LI_told 56 = .ok (.aload_n 0, 1) := by decide +kernel
theorem d_LI_told_57 : decode b_LI_told 57 = .ok (.getfield 49, 3) := by decide +kernel
theorem d_LI_told_60 : decode b_LI_told 60 = .ok (.invokevirtual 127, 3) := by decide +kernel
theorem d_LI_told_63 : decode b_LI_told 63 = .ok (.ireturn, 1) := by decide +kernel
theorem d_LI_told_64 : decode b_LI_told 64 = .ok (.aload_n 0, 1) := by decide +kernel
theorem d_LI_told_65 : decode b_LI_told 65 = .ok (.getfield 49, 3) := by decide +kernel
theorem d_LI_told_68 : decode b_LI_told 68 = .ok (.invokevirtual 130, 3) := by decide +kernel
theorem d_LI_told_71 : decode b_LI_told 71 = .ok (.ifCond .eq 7, 3) := by decide +kernel
theorem d_LI_told_74 : decode b_LI_told 74 = .ok (.iconst 1, 1) := by decide +kernel
theorem d_LI_told_75 : decode b_LI_told 75 = .ok (.goto 4, 3) := by decide +kernel
theorem d_LI_told_78 : decode b_LI_told 78 = .ok (.iconst 0, 1) := by decide +kernel
theorem d_LI_told_79 : decode b_LI_told 79 = .ok (.ireturn, 1) := by decide +kernel
theorem d_LI_told_80 : decode b_LI_told 80 = .ok (.iconst (-1), 1) := by decide +kernel
theorem d_LI_told_81 : decode b_LI_told 81 = .ok (.ireturn, 1) := by decide +kernel
theorem d_LI_has_0 : decode b_LI_has 0 = .ok (.aload_n 0, 1) := by decide +kernel
theorem d_LI_has_1 : decode b_LI_has 1 = .ok (.getfield 76, 3) := by decide +kernel
theorem d_LI_has_4 : decode b_LI_has 4 = .ok (.ifCond .eq 27, 3) := by decide +kernel
theorem d_LI_has_7 : decode b_LI_has 7 = .ok (.iload_n 1, 1) := by decide +kernel
theorem d_LI_has_8 : decode b_LI_has 8 = .ok (.invokestatic 133, 3) := by decide +kernel
theorem d_LI_has_11 : decode b_LI_has 11 = .ok (.ifCond .eq 20, 3) := by decide +kernel
theorem d_LI_has_14 : decode b_LI_has 14 = .ok (.iload_n 2, 1) := by decide +kernel
theorem d_LI_has_15 : decode b_LI_has 15 = .ok (.ifCond .lt 16, 3) := by decide +kernel
theorem d_LI_has_18 : decode b_LI_has 18 = .ok (.iload_n 2, 1) := by decide +kernel
theorem d_LI_has_19 : decode b_LI_has 19 = .ok (.iconst 4, 1) := by decide +kernel
theorem d_LI_has_20 : decode b_LI_has 20 = .ok (.aload_n 0, 1) := by decide +kernel
theorem d_LI_has_21 : decode b_LI_has 21 = .ok (.getfield 49, 3) := by decide +kernel
theorem d_LI_has_24 : decode b_LI_has 24 = .ok (.invokevirtual 125, 3) := by decide +kernel
theorem d_LI_has_27 : decode b_LI_has 27 = .ok (.iadd, 1) := by decide +kernel
theorem d_LI_has_28 : decode b_LI_has 28 = .ok (.if_icmp .lt 5, 3) := by decide +kernel
theorem d_LI_has_31 : decode b_LI_has 31 = .ok (.iconst (-1), 1) := by decide +kernel
theorem d_LI_has_32 : decode b_LI_has 32 = .ok (.ireturn, 1) := by decide +kernel
theorem d_LI_has_33 : decode b_LI_has 33 = .ok (.aload_n 0, 1) := by decide +kernel
theorem d_LI_has_34 : decode b_LI_has 34 = .ok (.getfield 49, 3) := by decide +kernel
theorem d_LI_has_37 : decode b_LI_has 37 = .ok (.iload_n 1, 1) := by decide +kernel
theorem d_LI_has_38 : decode b_LI_has 38 = .ok (.iconst 1, 1) := by decide +kernel
theorem d_LI_has_39 : decode b_LI_has 39 = .ok (.iload_n 2, 1) := by decide +kernel
theorem d_LI_has_40 : decode b_LI_has 40 = .ok (.ishl, 1) := by decide +kernel
theorem d_LI_has_41 : decode b_LI_has 41 = .ok (.invokevirtual 136, 3) := by decide +kernel
theorem d_LI_has_44 : decode b_LI_has 44 = .ok (.ifCond .eq 7, 3) := by decide +kernel
theorem d_LI_has_47 : decode b_LI_has 47 = .ok (.iconst 1, 1) := by decide +kernel
theorem d_LI_has_48 : decode b_LI_has 48 = .ok (.goto 4, 3) := by decide +kernel
theorem d_LI_has_51 : decode b_LI_has 51 = .ok (.iconst 0, 1) := by decide +kernel
theorem d_LI_has_52 : decode b_LI_has 52 = .ok (.ireturn, 1) := by decide +kernel
theorem d_LI_next_0 : decode b_LI_next 0 = .ok (.aload_n 0, 1) := by decide +kernel
theorem d_LI_next_1 : decode b_LI_next 1 = .ok (.getfield 76, 3) := by decide +kernel
theorem d_LI_next_4 : decode b_LI_next 4 = .ok (.ifCond .eq 15, 3) := by decide +kernel
theorem d_LI_next_7 : decode b_LI_next 7 = .ok (.aload_n 0, 1) := by decide +kernel
theorem d_LI_next_8 : decode b_LI_next 8 = .ok (.getfield 49, 3) := by decide +kernel
theorem d_LI_next_11 : decode b_LI_next 11 = .ok (.iload_n 1, 1) := by decide +kernel
theorem d_LI_next_12 : decode b_LI_next 12 = .ok (.iload_n 2, 1) := by decide +kernel
theorem d_LI_next_13 : decode b_LI_next 13 = .ok (.invokevirtual 140, 3) := by decide +kernel
theorem d_LI_next_16 : decode b_LI_next 16 = .ok (.goto 4, 3) := by decide +kernel
theorem d_LI_next_19 : decode b_LI_next 19 = .ok (.iconst (-1), 1) := by decide +kernel
theorem d_LI_next_20 : decode b_LI_next 20 = .ok (.ireturn, 1) := by decide +kernel
theorem d_LI_rank_0 : decode b_LI_rank 0 = .ok (.aload_n 0, 1) := by decide +kernel
theorem d_LI_rank_1 : decode b_LI_rank 1 = .ok (.getfield 76, 3) := by decide +kernel
theorem d_LI_rank_4 : decode b_LI_rank 4 = .ok (.ifCond .eq 20, 3) := by decide +kernel
theorem d_LI_rank_7 : decode b_LI_rank 7 = .ok (.aload_n 0, 1) := by decide +kernel
theorem d_LI_rank_8 : decode b_LI_rank 8 = .ok (.getfield 49, 3) := by decide +kernel
theorem d_LI_rank_11 : decode b_LI_rank 11 = .ok (.invokevirtual 130, 3) := by decide +kernel
theorem d_LI_rank_14 : decode b_LI_rank 14 = .ok (.ifCond .eq 10, 3) := by decide +kernel
theorem d_LI_rank_17 : decode b_LI_rank 17 = .ok (.iload_n 1, 1) := by decide +kernel
theorem d_LI_rank_18 : decode b_LI_rank 18 = .ok (.invokestatic 133, 3) := by decide +kernel
theorem d_LI_rank_21 : decode b_LI_rank 21 = .ok (.ifCond .ne 5, 3) := by decide +kernel
theorem d_LI_rank_24 : decode b_LI_rank 24 = .ok (.iconst (-1), 1) := by decide +kernel
theorem d_LI_rank_25 : decode b_LI_rank 25 = .ok (.ireturn, 1) := by decide +kernel
theorem d_LI_rank_26 : decode b_LI_rank 26 = .ok (.aload_n 0, 1) := by decide +kernel
theorem d_LI_rank_27 : decode b_LI_rank 27 = .ok (.getfield 49, 3) := by decide +kernel
theorem d_LI_rank_30 : decode b_LI_rank 30 = .ok (.iload_n 1, 1) := by decide +kernel
theorem d_LI_rank_31 : decode b_LI_rank 31 = .ok (.invokevirtual 144, 3) := by decide +kernel
theorem d_LI_rank_34 : decode b_LI_rank 34 = .ok (.ireturn, 1) := by decide +kernel
theorem d_LI_many_0 : decode b_LI_many 0 = .ok (.aload_n 0, 1) := by decide +kernel
theorem d_LI_many_1 : decode b_LI_many 1 = .ok (.getfield 76, 3) := by decide +kernel
theorem d_LI_many_4 : decode b_LI_many 4 = .ok (.ifCond .ne 5, 3) := by decide +kernel
theorem d_LI_many_7 : decode b_LI_many 7 = .ok (.iconst (-1), 1) := by decide +kernel
theorem d_LI_many_8 : decode b_LI_many 8 = .ok (.ireturn, 1) := by decide +kernel
theorem d_LI_many_9 : decode b_LI_many 9 = .ok (.iload_n 1, 1) := by decide +kernel
theorem d_LI_many_10 : decode b_LI_many 10 = .ok (.tableswitch 110 0 6 #[42, 51, 60, 69, 79, 87, 95], 42) := by decide +kernel
theorem d_LI_many_52 : decode b_LI_many 52 = .ok (.aload_n 0, 1) := by decide +kernel
theorem d_LI_many_53 : decode b_LI_many 53 = .ok (.getfield 49, 3) := by decide +kernel
theorem d_LI_many_56 : decode b_LI_many 56 = .ok (.iconst 1, 1) := by decide +kernel
theorem d_LI_many_57 : decode b_LI_many 57 = .ok (.invokevirtual 148, 3) := by decide +kernel
theorem d_LI_many_60 : decode b_LI_many 60 = .ok (.ireturn, 1) := by decide +kernel
theorem d_LI_many_61 : decode b_LI_many 61 = .ok (.aload_n 0, 1) := by decide +kernel
theorem d_LI_many_62 : decode b_LI_many 62 = .ok (.getfield 49, 3) := by decide +kernel
theorem d_LI_many_65 : decode b_LI_many 65 = .ok (.iconst 2, 1) := by decide +kernel
theorem d_LI_many_66 : decode b_LI_many 66 = .ok (.invokevirtual 148, 3) := by decide +kernel
theorem d_LI_many_69 : decode b_LI_many 69 = .ok (.ireturn, 1) := by decide +kernel
theorem d_LI_many_70 : decode b_LI_many 70 = .ok (.aload_n 0, 1) := by decide +kernel
theorem d_LI_many_71 : decode b_LI_many 71 = .ok (.getfield 49, 3) := by decide +kernel
theorem d_LI_many_74 : decode b_LI_many 74 = .ok (.iconst 4, 1) := by decide +kernel
theorem d_LI_many_75 : decode b_LI_many 75 = .ok (.invokevirtual 148, 3) := by decide +kernel
theorem d_LI_many_78 : decode b_LI_many 78 = .ok (.ireturn, 1) := by decide +kernel
theorem d_LI_many_79 : decode b_LI_many 79 = .ok (.aload_n 0, 1) := by decide +kernel
theorem d_LI_many_80 : decode b_LI_many 80 = .ok (.getfield 49, 3) := by decide +kernel
theorem d_LI_many_83 : decode b_LI_many 83 = .ok (.bipush 12, 2) := by decide +kernel
theorem d_LI_many_85 : decode b_LI_many 85 = .ok (.invokevirtual 148, 3) := by decide +kernel
theorem d_LI_many_88 : decode b_LI_many 88 = .ok (.ireturn, 1) := by decide +kernel
theorem d_LI_many_89 : decode b_LI_many 89 = .ok (.aload_n 0, 1) := by decide +kernel
theorem d_LI_many_90 : decode b_LI_many 90 = .ok (.getfield 58, 3) := by decide +kernel
theorem d_LI_many_93 : decode b_LI_many 93 = .ok (.invokevirtual 151, 3) := by decide +kernel
theorem d_LI_many_96 : decode b_LI_many 96 = .ok (.ireturn, 1) := by decide +kernel
theorem d_LI_many_97 : decode b_LI_many 97 = .ok (.aload_n 0, 1) := by decide +kernel
theorem d_LI_many_98 : decode b_LI_many 98 = .ok (.getfield 58, 3) := by decide +kernel
theorem d_LI_many_101 : decode b_LI_many 101 = .ok (.invokevirtual 154, 3) := by decide +kernel
theorem d_LI_many_104 : decode b_LI_many 104 = .ok (.ireturn, 1) := by decide +kernel
theorem d_LI_many_105 : decode b_LI_many 105 = .ok (.aload_n 0, 1) := by decide +kernel
theorem d_LI_many_106 : decode b_LI_many 106 = .ok (.getfield 49, 3) := by decide +kernel
theorem d_LI_many_109 : decode b_LI_many 109 = .ok (.aload_n 0, 1) := by decide +kernel
theorem d_LI_many_110 : decode b_LI_many 110 = .ok (.getfield 65, 3) := by decide +kernel
theorem d_LI_many_113 : decode b_LI_many 113 = .ok (.invokevirtual 157, 3) := by decide +kernel
theorem d_LI_many_116 : decode b_LI_many 116 = .ok (.invokevirtual 148, 3) := by decide +kernel
theorem d_LI_many_119 : decode b_LI_many 119 = .ok (.ireturn, 1) := by decide +kernel
theorem d_LI_many_120 : decode b_LI_many 120 = .ok (.iconst (-1), 1) := by decide +kernel
theorem d_LI_many_121 : decode b_LI_many 121 = .ok (.ireturn, 1) := by decide +kernel
theorem d_LI_level_0 : decode b_LI_level 0 = .ok (.aload_n 0, 1) := by decide +kernel
theorem d_LI_level_1 : decode b_LI_level 1 = .ok (.getfield 76, 3) := by decide +kernel
theorem d_LI_level_4 : decode b_LI_level 4 = .ok (.ifCond .eq 14, 3) := by decide +kernel
theorem d_LI_level_7 : decode b_LI_level 7 = .ok (.aload_n 0, 1) := by decide +kernel
theorem d_LI_level_8 : decode b_LI_level 8 = .ok (.getfield 58, 3) := by decide +kernel
theorem d_LI_level_11 : decode b_LI_level 11 = .ok (.iload_n 1, 1) := by decide +kernel
theorem d_LI_level_12 : decode b_LI_level 12 = .ok (.invokevirtual 160, 3) := by decide +kernel
theorem d_LI_level_15 : decode b_LI_level 15 = .ok (.goto 4, 3) := by decide +kernel
theorem d_LI_level_18 : decode b_LI_level 18 = .ok (.iconst (-1), 1) := by decide +kernel
theorem d_LI_level_19 : decode b_LI_level 19 = .ok (.ireturn, 1) := by decide +kernel
theorem d_LI_counter_0 : decode b_LI_counter 0 = .ok (.aload_n 0, 1) := by decide +kernel
theorem d_LI_counter_1 : decode b_LI_counter 1 = .ok (.getfield 76, 3) := by decide +kernel
theorem d_LI_counter_4 : decode b_LI_counter 4 = .ok (.ifCond .eq 14, 3) := by decide +kernel
theorem d_LI_counter_7 : decode b_LI_counter 7 = .ok (.aload_n 0, 1) := by decide +kernel
theorem d_LI_counter_8 : decode b_LI_counter 8 = .ok (.getfield 58, 3) := by decide +kernel
theorem d_LI_counter_11 : decode b_LI_counter 11 = .ok (.iload_n 1, 1) := by decide +kernel
theorem d_LI_counter_12 : decode b_LI_counter 12 = .ok (.invokevirtual 163, 3) := by decide +kernel
theorem d_LI_counter_15 : decode b_LI_counter 15 = .ok (.goto 4, 3) := by decide +kernel
theorem d_LI_counter_18 : decode b_LI_counter 18 = .ok (.iconst (-1), 1) := by decide +kernel
theorem d_LI_counter_19 : decode b_LI_counter 19 = .ok (.ireturn, 1) := by decide +kernel
theorem d_LI_induction_0 : decode b_LI_induction 0 = .ok (.aload_n 0, 1) := by decide +kernel
theorem d_LI_induction_1 : decode b_LI_induction 1 = .ok (.getfield 76, 3) := by decide +kernel
theorem d_LI_induction_4 : decode b_LI_induction 4 = .ok (.ifCond .eq 12, 3) := by decide +kernel
theorem d_LI_induction_7 : decode b_LI_induction 7 = .ok (.iload_n 1, 1) := by decide +kernel
theorem d_LI_induction_8 : decode b_LI_induction 8 = .ok (.ifCond .lt 8, 3) := by decide +kernel
theorem d_LI_induction_11 : decode b_LI_induction 11 = .ok (.iload_n 1, 1) := by decide +kernel
theorem d_LI_induction_12 : decode b_LI_induction 12 = .ok (.iconst 1, 1) := by decide +kernel
theorem d_LI_induction_13 : decode b_LI_induction 13 = .ok (.if_icmp .le 5, 3) := by decide +kernel
theorem d_LI_induction_16 : decode b_LI_induction 16 = .ok (.iconst (-1), 1) := by decide +kernel
theorem d_LI_induction_17 : decode b_LI_induction 17 = .ok (.ireturn, 1) := by decide +kernel
theorem d_LI_induction_18 : decode b_LI_induction 18 = .ok (.aload_n 0, 1) := by decide +kernel
theorem d_LI_induction_19 : decode b_LI_induction 19 = .ok (.getfield 65, 3) := by decide +kernel
theorem d_LI_induction_22 : decode b_LI_induction 22 = .ok (.iload_n 1, 1) := by decide +kernel
theorem d_LI_induction_23 : decode b_LI_induction 23 = .ok (.iconst 1, 1) := by decide +kernel
theorem d_LI_induction_24 : decode b_LI_induction 24 = .ok (.if_icmp .ne 7, 3) := by decide +kernel
theorem d_LI_induction_27 : decode b_LI_induction 27 = .ok (.iconst 1, 1) := by decide +kernel
theorem d_LI_induction_28 : decode b_LI_induction 28 = .ok (.goto 4, 3) := by decide +kernel
theorem d_LI_induction_31 : decode b_LI_induction 31 = .ok (.iconst 0, 1) := by decide +kernel
theorem d_LI_induction_32 : decode b_LI_induction 32 = .ok (.aload_n 0, 1) := by decide +kernel
theorem d_LI_induction_33 : decode b_LI_induction 33 = .ok (.getfield 58, 3) := by decide +kernel
theorem d_LI_induction_36 : decode b_LI_induction 36 = .ok (.invokevirtual 166, 3) := by decide +kernel
theorem d_LI_induction_39 : decode b_LI_induction 39 = .ok (.invokevirtual 169, 3) := by decide +kernel
theorem d_LI_induction_42 : decode b_LI_induction 42 = .ok (.ireturn, 1) := by decide +kernel
theorem d_LI_kept_0 : decode b_LI_kept 0 = .ok (.aload_n 0, 1) := by decide +kernel
theorem d_LI_kept_1 : decode b_LI_kept 1 = .ok (.getfield 76, 3) := by decide +kernel
theorem d_LI_kept_4 : decode b_LI_kept 4 = .ok (.ifCond .eq 13, 3) := by decide +kernel
theorem d_LI_kept_7 : decode b_LI_kept 7 = .ok (.aload_n 0, 1) := by decide +kernel
theorem d_LI_kept_8 : decode b_LI_kept 8 = .ok (.getfield 65, 3) := by decide +kernel
theorem d_LI_kept_11 : decode b_LI_kept 11 = .ok (.invokevirtual 173, 3) := by decide +kernel
theorem d_LI_kept_14 : decode b_LI_kept 14 = .ok (.goto 4, 3) := by decide +kernel
theorem d_LI_kept_17 : decode b_LI_kept 17 = .ok (.iconst (-1), 1) := by decide +kernel
theorem d_LI_kept_18 : decode b_LI_kept 18 = .ok (.ireturn, 1) := by decide +kernel
theorem d_LI_gone_0 : decode b_LI_gone 0 = .ok (.aload_n 0, 1) := by decide +kernel
theorem d_LI_gone_1 : decode b_LI_gone 1 = .ok (.getfield 76, 3) := by decide +kernel
theorem d_LI_gone_4 : decode b_LI_gone 4 = .ok (.ifCond .eq 14, 3) := by decide +kernel
theorem d_LI_gone_7 : decode b_LI_gone 7 = .ok (.aload_n 0, 1) := by decide +kernel
theorem d_LI_gone_8 : decode b_LI_gone 8 = .ok (.getfield 65, 3) := by decide +kernel
theorem d_LI_gone_11 : decode b_LI_gone 11 = .ok (.iload_n 1, 1) := by decide +kernel
theorem d_LI_gone_12 : decode b_LI_gone 12 = .ok (.invokevirtual 176, 3) := by decide +kernel
theorem d_LI_gone_15 : decode b_LI_gone 15 = .ok (.goto 4, 3) := by decide +kernel
theorem d_LI_gone_18 : decode b_LI_gone 18 = .ok (.iconst (-1), 1) := by decide +kernel
theorem d_LI_gone_19 : decode b_LI_gone 19 = .ok (.ireturn, 1) := by decide +kernel
theorem d_LI_follows_0 : decode b_LI_follows 0 = .ok (.aload_n 0, 1) := by decide +kernel
theorem d_LI_follows_1 : decode b_LI_follows 1 = .ok (.getfield 76, 3) := by decide +kernel
theorem d_LI_follows_4 : decode b_LI_follows 4 = .ok (.ifCond .ne 5, 3) := by decide +kernel
theorem d_LI_follows_7 : decode b_LI_follows 7 = .ok (.iconst (-1), 1) := by decide +kernel
theorem d_LI_follows_8 : decode b_LI_follows 8 = .ok (.ireturn, 1) := by decide +kernel
theorem d_LI_follows_9 : decode b_LI_follows 9 = .ok (.aload_n 0, 1) := by decide +kernel
theorem d_LI_follows_10 : decode b_LI_follows 10 = .ok (.getfield 65, 3) := by decide +kernel
theorem d_LI_follows_13 : decode b_LI_follows 13 = .ok (.invokevirtual 179, 3) := by decide +kernel
theorem d_LI_follows_16 : decode b_LI_follows 16 = .ok (.ifCond .eq 7, 3) := by decide +kernel
theorem d_LI_follows_19 : decode b_LI_follows 19 = .ok (.iconst 1, 1) := by decide +kernel
theorem d_LI_follows_20 : decode b_LI_follows 20 = .ok (.goto 4, 3) := by decide +kernel
theorem d_LI_follows_23 : decode b_LI_follows 23 = .ok (.iconst 0, 1) := by decide +kernel
theorem d_LI_follows_24 : decode b_LI_follows 24 = .ok (.ireturn, 1) := by decide +kernel
theorem d_LI_falls_0 : decode b_LI_falls 0 = .ok (.aload_n 0, 1) := by decide +kernel
theorem d_LI_falls_1 : decode b_LI_falls 1 = .ok (.getfield 76, 3) := by decide +kernel
theorem d_LI_falls_4 : decode b_LI_falls 4 = .ok (.ifCond .eq 13, 3) := by decide +kernel
theorem d_LI_falls_7 : decode b_LI_falls 7 = .ok (.aload_n 0, 1) := by decide +kernel
theorem d_LI_falls_8 : decode b_LI_falls 8 = .ok (.getfield 49, 3) := by decide +kernel
theorem d_LI_falls_11 : decode b_LI_falls 11 = .ok (.invokevirtual 130, 3) := by decide +kernel
theorem d_LI_falls_14 : decode b_LI_falls 14 = .ok (.ifCond .ne 5, 3) := by decide +kernel
theorem d_LI_falls_17 : decode b_LI_falls 17 = .ok (.iconst (-1), 1) := by decide +kernel
theorem d_LI_falls_18 : decode b_LI_falls 18 = .ok (.ireturn, 1) := by decide +kernel
theorem d_LI_falls_19 : decode b_LI_falls 19 = .ok (.aload_n 0, 1) := by decide +kernel
theorem d_LI_falls_20 : decode b_LI_falls 20 = .ok (.getfield 58, 3) := by decide +kernel
theorem d_LI_falls_23 : decode b_LI_falls 23 = .ok (.invokevirtual 182, 3) := by decide +kernel
theorem d_LI_falls_26 : decode b_LI_falls 26 = .ok (.ifCond .eq 7, 3) := by decide +kernel
theorem d_LI_falls_29 : decode b_LI_falls 29 = .ok (.iconst 1, 1) := by decide +kernel
theorem d_LI_falls_30 : decode b_LI_falls 30 = .ok (.goto 4, 3) := by decide +kernel
theorem d_LI_falls_33 : decode b_LI_falls 33 = .ok (.iconst 0, 1) := by decide +kernel
theorem d_LI_falls_34 : decode b_LI_falls 34 = .ok (.ireturn, 1) := by decide +kernel
theorem d_LI_longest_0 : decode b_LI_longest 0 = .ok (.aload_n 0, 1) := by decide +kernel
theorem d_LI_longest_1 : decode b_LI_longest 1 = .ok (.getfield 76, 3) := by decide +kernel
theorem d_LI_longest_4 : decode b_LI_longest 4 = .ok (.ifCond .eq 13, 3) := by decide +kernel
theorem d_LI_longest_7 : decode b_LI_longest 7 = .ok (.aload_n 0, 1) := by decide +kernel
theorem d_LI_longest_8 : decode b_LI_longest 8 = .ok (.getfield 58, 3) := by decide +kernel
theorem d_LI_longest_11 : decode b_LI_longest 11 = .ok (.invokevirtual 185, 3) := by decide +kernel
theorem d_LI_longest_14 : decode b_LI_longest 14 = .ok (.goto 4, 3) := by decide +kernel
theorem d_LI_longest_17 : decode b_LI_longest 17 = .ok (.iconst (-1), 1) := by decide +kernel
theorem d_LI_longest_18 : decode b_LI_longest 18 = .ok (.ireturn, 1) := by decide +kernel
def wp_LI_feed (x1 : Int32) (x2 : Int32) (x3 : Int32) (x4 : Int32) (x5 : Int32) (tp_size : Int32) (tp_bytes : Nat → Int32) (post : Int32 → Int32 → (Nat → Int32) → Prop) : Prop :=
  wp_Tape_hasRoom tp_size (fun r_1 => ((¬ (r_1 : Int32) = 0 → wp_Tape_add x1 tp_size tp_bytes (fun tp_size_2 tp_bytes_3 => wp_Tape_add x2 tp_size_2 tp_bytes_3 (fun tp_size_4 tp_bytes_5 => wp_Tape_add x3 tp_size_4 tp_bytes_5 (fun tp_size_6 tp_bytes_7 => wp_Tape_add x4 tp_size_6 tp_bytes_7 (fun tp_size_8 tp_bytes_9 => wp_Tape_add x5 tp_size_8 tp_bytes_9 (fun tp_size_10 tp_bytes_11 => wp_Tape_size tp_size_10 (fun r_12 => post r_12 tp_size_10 tp_bytes_11))))))) ∧ ((r_1 : Int32) = 0 → post (-1) tp_size tp_bytes)))
set_option maxHeartbeats 4000000 in
set_option maxRecDepth 100000 in
theorem c_LI_feed (l : Launch) (dC : Nat → ClassId) (dI : Nat → Nat → Nat) (cI cB cZ : ClassId) (adK adV : Nat → Nat) (sz : Nat) (a_li a_tp a_tk a_cd a_ps a_lp a_rn a_gu a_fu a_tp_bytes : Nat) (li_loopGiven : Int32) (li_faultPlace : Int32) (tp_size : Int32) (tp_bytes : Nat → Int32) (x1 : Int32) (x2 : Int32) (x3 : Int32) (x4 : Int32) (x5 : Int32) (post : Int32 → Int32 → (Nat → Int32) → Prop) (h : wp_LI_feed x1 x2 x3 x4 x5 tp_size tp_bytes post) : Met l y_LI_feed w_LI_feed ({ frames := 1, cells := 0, slots := 0, locals := 22 }) (pc_ (dC, dI) [(cI, .int), (cB, .byte), (cZ, .boolean)] [(a_li, .inr (0, [.ref a_tp, .ref a_tk, .ref a_cd, .ref a_ps, .ref a_lp, .ref a_rn, .ref a_gu, .ref a_fu, .int li_loopGiven, .int li_faultPlace])), (a_tp, .inr (8, [.ref a_tp_bytes, .int tp_size])), (a_tp_bytes, .inl (cB, 1200, .inl tp_bytes))] sz adK adV [.ref a_li, .int x1, .int x2, .int x3, .int x4, .int x5]) (va_Qi (fun (r : Int32) (u : Int32 × (Nat → Int32)) => post r u.1 u.2) (fun (u : Int32 × (Nat → Int32)) t => bw_ (dC, dI) [(cI, .int), (cB, .byte), (cZ, .boolean)] (va_A [(a_li, .inr (0, [.ref a_tp, .ref a_tk, .ref a_cd, .ref a_ps, .ref a_lp, .ref a_rn, .ref a_gu, .ref a_fu, .int li_loopGiven, .int li_faultPlace])), (a_tp, .inr (8, [.ref a_tp_bytes, .int tp_size])), (a_tp_bytes, .inl (cB, 1200, .inl tp_bytes))] sz) [(a_li, .inr (0, [.ref a_tp, .ref a_tk, .ref a_cd, .ref a_ps, .ref a_lp, .ref a_rn, .ref a_gu, .ref a_fu, .int li_loopGiven, .int li_faultPlace])), (a_tp, .inr (8, [.ref a_tp_bytes, .int u.1])), (a_tp_bytes, .inl (cB, 1200, .inl u.2))] t) (va_A [(a_li, .inr (0, [.ref a_tp, .ref a_tk, .ref a_cd, .ref a_ps, .ref a_lp, .ref a_rn, .ref a_gu, .ref a_fu, .int li_loopGiven, .int li_faultPlace])), (a_tp, .inr (8, [.ref a_tp_bytes, .int tp_size])), (a_tp_bytes, .inl (cB, 1200, .inl tp_bytes))] sz)) 0 0 (va_A [(a_li, .inr (0, [.ref a_tp, .ref a_tk, .ref a_cd, .ref a_ps, .ref a_lp, .ref a_rn, .ref a_gu, .ref a_fu, .int li_loopGiven, .int li_faultPlace])), (a_tp, .inr (8, [.ref a_tp_bytes, .int tp_size])), (a_tp_bytes, .inl (cB, 1200, .inl tp_bytes))] sz) := by
  refine Met.ofW (cc := b_LI_feed) (maxL := 6) (ret := (some .int)) (by decide) rfl ?_
  intro p e s m args below meth c s₁ B hml hv
  obtain ⟨rfl, hsz, hP, hK, hD0, hN, hT⟩ := hv
  have hx := B.exec
  have hb := B.bytes
  have hr := B.returns
  have hts := atoms_spec (ws := w_LI_feed) B.pre
  have hown : s.vm.findClass "LoopInduction" = some m.cls := findClass_of_methodNamed B.named
  have hlocks := B.notSynchronized
  subst hsz
  have hD := hD0.self (sz := s.heap.size)
  generalize hAe : va_A [(a_li, .inr (0, [.ref a_tp, .ref a_tk, .ref a_cd, .ref a_ps, .ref a_lp, .ref a_rn, .ref a_gu, .ref a_fu, .int li_loopGiven, .int li_faultPlace])), (a_tp, .inr (8, [.ref a_tp_bytes, .int tp_size])), (a_tp_bytes, .inl (cB, 1200, .inl tp_bytes))] s.heap.size = A at hD hT ⊢
  have hA : ∀ q : Nat, s.heap.size ≤ q → A q := fun q h => by rw [← hAe]; exact Or.inr h
  have hS : va_S A s.heap s.heap [] := va_S.rf
  generalize hQ : MQ below _ _ s 0 0 _ = QQ
  have hl := lv_entry ([.ref a_li, .int x1, .int x2, .int x3, .int x4, .int x5]) (n := 6) (Nat.le_of_ble_eq_true rfl)
  rw [lg_entry_eq]
  generalize (lg_sl ([.ref a_li, .int x1, .int x2, .int x3, .int x4, .int x5]) ++ List.replicate (6 - (lg_sl ([.ref a_li, .int x1, .int x2, .int x3, .int x4, .int x5])).length) Slot.unset).toArray = ls at hl ⊢
  have hl : lv_has ls 6 [(0, .ref a_li), (1, .int x1), (2, .int x2), (3, .int x3), (4, .int x4), (5, .int x5)] := hl
  have fl_10 := (hts _ (List.mem_cons_of_mem _ m_371))
  refine lv_aload_n hx hb d_LI_feed_0 rfl (lv_at hl 0 rfl) ?_
  refine va_get (D := (dC, dI)) (ci := 0) (v := .ref a_tp) (C := "LoopInduction") (T := F_LI) (N := 10) hx hb hts iC_LI hown hK hP 0 rfl rfl 0 (by decide) fl_10 (fun _ h9 => h9) rfl d_LI_feed_1 ?_
  refine jn_i (wr := [(a_li, .inr (0, [.ref a_tp, .ref a_tk, .ref a_cd, .ref a_ps, .ref a_lp, .ref a_rn, .ref a_gu, .ref a_fu, .int li_loopGiven, .int li_faultPlace])), (a_tp_bytes, .inl (cB, 1200, .inl tp_bytes))]) (va_runV (As := []) (rest := []) ⟨hx, hb, hml, hown, hts⟩ (c_Tape_hasRoom l dC dI cI cB cZ adK adV _ a_tp a_tp_bytes tp_size _ h) (cwV 0 hts (gv_ m_406 m_407 m_408 m_86 m_409) rfl rfl rfl pd_Tape_hasRoom ⟨Nat.le_of_ble_eq_true rfl, Nat.le_of_ble_eq_true rfl⟩) ⟨pc_blind, va_recv hK hP (ci := 8) (q0 := 1) rfl rfl, pc_of (hP.sub [1] rfl) hK (hD.sub [1] (by decide) rfl) hN hT hS hA⟩ rfl rfl hl.1 rfl (lv_room (Nat.le_of_ble_eq_true rfl)) d_LI_feed_4 ⟨Nat.zero_le _, Nat.zero_le _⟩) hP hD hS hA [1] [0, 2] rfl rfl (by decide) (by decide) (fun r_1 u_ H locs h hP hD hS => ?_)
  have hP : va_P (dC, dI) vwCl [(a_li, .inr (0, [.ref a_tp, .ref a_tk, .ref a_cd, .ref a_ps, .ref a_lp, .ref a_rn, .ref a_gu, .ref a_fu, .int li_loopGiven, .int li_faultPlace])), (a_tp_bytes, .inl (cB, 1200, .inl tp_bytes)), (a_tp, .inr (8, [.ref a_tp_bytes, .int tp_size]))] H := hP
  have hD : va_D A [(a_li, .inr (0, [.ref a_tp, .ref a_tk, .ref a_cd, .ref a_ps, .ref a_lp, .ref a_rn, .ref a_gu, .ref a_fu, .int li_loopGiven, .int li_faultPlace])), (a_tp_bytes, .inl (cB, 1200, .inl tp_bytes)), (a_tp, .inr (8, [.ref a_tp_bytes, .int tp_size]))] := hD
  refine lv_if_ne (tgt := 12) hx hb d_LI_feed_7 (by decide) (fun c_7 => ?_) (fun c_7 => ?_)
  · have h := And.left h c_7
    refine lv_aload_n hx hb d_LI_feed_12 rfl (lv_at hl 0 rfl) ?_
    refine va_get (D := (dC, dI)) (ci := 0) (v := .ref a_tp) (C := "LoopInduction") (T := F_LI) (N := 10) hx hb hts iC_LI hown hK hP 0 rfl rfl 0 (by decide) fl_10 (fun _ h9 => h9) rfl d_LI_feed_13 ?_
    refine lv_iload_n hx hb d_LI_feed_16 rfl (lv_at hl 1 rfl) ?_
    refine jn_v (wr := [(a_li, .inr (0, [.ref a_tp, .ref a_tk, .ref a_cd, .ref a_ps, .ref a_lp, .ref a_rn, .ref a_gu, .ref a_fu, .int li_loopGiven, .int li_faultPlace]))]) (va_runV (As := [.int x1]) (rest := []) ⟨hx, hb, hml, hown, hts⟩ (c_Tape_add l dC dI cI cB cZ adK adV _ a_tp a_tp_bytes tp_size tp_bytes x1 _ h) (cwV 1 hts (gv_ m_410 m_411 m_412 m_86 m_413) rfl rfl rfl pd_Tape_add ⟨Nat.le_of_ble_eq_true rfl, Nat.le_of_ble_eq_true rfl⟩) ⟨pc_blind, va_recv hK hP (ci := 8) (q0 := 2) rfl rfl, pc_of (hP.sub [2, 1] rfl) hK (hD.sub [2, 1] (by decide) rfl) hN hT hS hA⟩ rfl rfl hl.1 rfl (lv_room (Nat.le_of_ble_eq_true rfl)) d_LI_feed_17 ⟨Nat.zero_le _, Nat.zero_le _⟩) hP hD hS hA [2, 1] [0] rfl rfl (by decide) (by decide) (fun u_ H locs h hP hD hS => ?_)
    obtain ⟨tp_size_2, tp_bytes_3⟩ := u_
    have hP : va_P (dC, dI) vwCl [(a_li, .inr (0, [.ref a_tp, .ref a_tk, .ref a_cd, .ref a_ps, .ref a_lp, .ref a_rn, .ref a_gu, .ref a_fu, .int li_loopGiven, .int li_faultPlace])), (a_tp, .inr (8, [.ref a_tp_bytes, .int tp_size_2])), (a_tp_bytes, .inl (cB, 1200, .inl tp_bytes_3))] H := hP
    have hD : va_D A [(a_li, .inr (0, [.ref a_tp, .ref a_tk, .ref a_cd, .ref a_ps, .ref a_lp, .ref a_rn, .ref a_gu, .ref a_fu, .int li_loopGiven, .int li_faultPlace])), (a_tp, .inr (8, [.ref a_tp_bytes, .int tp_size_2])), (a_tp_bytes, .inl (cB, 1200, .inl tp_bytes_3))] := hD
    refine lv_aload_n hx hb d_LI_feed_20 rfl (lv_at hl 0 rfl) ?_
    refine va_get (D := (dC, dI)) (ci := 0) (v := .ref a_tp) (C := "LoopInduction") (T := F_LI) (N := 10) hx hb hts iC_LI hown hK hP 0 rfl rfl 0 (by decide) fl_10 (fun _ h9 => h9) rfl d_LI_feed_21 ?_
    refine lv_iload_n hx hb d_LI_feed_24 rfl (lv_at hl 2 rfl) ?_
    refine jn_v (wr := [(a_li, .inr (0, [.ref a_tp, .ref a_tk, .ref a_cd, .ref a_ps, .ref a_lp, .ref a_rn, .ref a_gu, .ref a_fu, .int li_loopGiven, .int li_faultPlace]))]) (va_runV (As := [.int x2]) (rest := []) ⟨hx, hb, hml, hown, hts⟩ (c_Tape_add l dC dI cI cB cZ adK adV _ a_tp a_tp_bytes tp_size_2 tp_bytes_3 x2 _ h) (cwV 1 hts (gv_ m_410 m_411 m_412 m_86 m_413) rfl rfl rfl pd_Tape_add ⟨Nat.le_of_ble_eq_true rfl, Nat.le_of_ble_eq_true rfl⟩) ⟨pc_blind, va_recv hK hP (ci := 8) (q0 := 1) rfl rfl, pc_of (hP.sub [1, 2] rfl) hK (hD.sub [1, 2] (by decide) rfl) hN hT hS hA⟩ rfl rfl hl.1 rfl (lv_room (Nat.le_of_ble_eq_true rfl)) d_LI_feed_25 ⟨Nat.zero_le _, Nat.zero_le _⟩) hP hD hS hA [1, 2] [0] rfl rfl (by decide) (by decide) (fun u_ H locs h hP hD hS => ?_)
    obtain ⟨tp_size_4, tp_bytes_5⟩ := u_
    have hP : va_P (dC, dI) vwCl [(a_li, .inr (0, [.ref a_tp, .ref a_tk, .ref a_cd, .ref a_ps, .ref a_lp, .ref a_rn, .ref a_gu, .ref a_fu, .int li_loopGiven, .int li_faultPlace])), (a_tp, .inr (8, [.ref a_tp_bytes, .int tp_size_4])), (a_tp_bytes, .inl (cB, 1200, .inl tp_bytes_5))] H := hP
    have hD : va_D A [(a_li, .inr (0, [.ref a_tp, .ref a_tk, .ref a_cd, .ref a_ps, .ref a_lp, .ref a_rn, .ref a_gu, .ref a_fu, .int li_loopGiven, .int li_faultPlace])), (a_tp, .inr (8, [.ref a_tp_bytes, .int tp_size_4])), (a_tp_bytes, .inl (cB, 1200, .inl tp_bytes_5))] := hD
    refine lv_aload_n hx hb d_LI_feed_28 rfl (lv_at hl 0 rfl) ?_
    refine va_get (D := (dC, dI)) (ci := 0) (v := .ref a_tp) (C := "LoopInduction") (T := F_LI) (N := 10) hx hb hts iC_LI hown hK hP 0 rfl rfl 0 (by decide) fl_10 (fun _ h9 => h9) rfl d_LI_feed_29 ?_
    refine lv_iload_n hx hb d_LI_feed_32 rfl (lv_at hl 3 rfl) ?_
    refine jn_v (wr := [(a_li, .inr (0, [.ref a_tp, .ref a_tk, .ref a_cd, .ref a_ps, .ref a_lp, .ref a_rn, .ref a_gu, .ref a_fu, .int li_loopGiven, .int li_faultPlace]))]) (va_runV (As := [.int x3]) (rest := []) ⟨hx, hb, hml, hown, hts⟩ (c_Tape_add l dC dI cI cB cZ adK adV _ a_tp a_tp_bytes tp_size_4 tp_bytes_5 x3 _ h) (cwV 1 hts (gv_ m_410 m_411 m_412 m_86 m_413) rfl rfl rfl pd_Tape_add ⟨Nat.le_of_ble_eq_true rfl, Nat.le_of_ble_eq_true rfl⟩) ⟨pc_blind, va_recv hK hP (ci := 8) (q0 := 1) rfl rfl, pc_of (hP.sub [1, 2] rfl) hK (hD.sub [1, 2] (by decide) rfl) hN hT hS hA⟩ rfl rfl hl.1 rfl (lv_room (Nat.le_of_ble_eq_true rfl)) d_LI_feed_33 ⟨Nat.zero_le _, Nat.zero_le _⟩) hP hD hS hA [1, 2] [0] rfl rfl (by decide) (by decide) (fun u_ H locs h hP hD hS => ?_)
    obtain ⟨tp_size_6, tp_bytes_7⟩ := u_
    have hP : va_P (dC, dI) vwCl [(a_li, .inr (0, [.ref a_tp, .ref a_tk, .ref a_cd, .ref a_ps, .ref a_lp, .ref a_rn, .ref a_gu, .ref a_fu, .int li_loopGiven, .int li_faultPlace])), (a_tp, .inr (8, [.ref a_tp_bytes, .int tp_size_6])), (a_tp_bytes, .inl (cB, 1200, .inl tp_bytes_7))] H := hP
    have hD : va_D A [(a_li, .inr (0, [.ref a_tp, .ref a_tk, .ref a_cd, .ref a_ps, .ref a_lp, .ref a_rn, .ref a_gu, .ref a_fu, .int li_loopGiven, .int li_faultPlace])), (a_tp, .inr (8, [.ref a_tp_bytes, .int tp_size_6])), (a_tp_bytes, .inl (cB, 1200, .inl tp_bytes_7))] := hD
    refine lv_aload_n hx hb d_LI_feed_36 rfl (lv_at hl 0 rfl) ?_
    refine va_get (D := (dC, dI)) (ci := 0) (v := .ref a_tp) (C := "LoopInduction") (T := F_LI) (N := 10) hx hb hts iC_LI hown hK hP 0 rfl rfl 0 (by decide) fl_10 (fun _ h9 => h9) rfl d_LI_feed_37 ?_
    refine lv_iload hx hb d_LI_feed_40 (lv_at hl 4 rfl) ?_
    refine jn_v (wr := [(a_li, .inr (0, [.ref a_tp, .ref a_tk, .ref a_cd, .ref a_ps, .ref a_lp, .ref a_rn, .ref a_gu, .ref a_fu, .int li_loopGiven, .int li_faultPlace]))]) (va_runV (As := [.int x4]) (rest := []) ⟨hx, hb, hml, hown, hts⟩ (c_Tape_add l dC dI cI cB cZ adK adV _ a_tp a_tp_bytes tp_size_6 tp_bytes_7 x4 _ h) (cwV 1 hts (gv_ m_410 m_411 m_412 m_86 m_413) rfl rfl rfl pd_Tape_add ⟨Nat.le_of_ble_eq_true rfl, Nat.le_of_ble_eq_true rfl⟩) ⟨pc_blind, va_recv hK hP (ci := 8) (q0 := 1) rfl rfl, pc_of (hP.sub [1, 2] rfl) hK (hD.sub [1, 2] (by decide) rfl) hN hT hS hA⟩ rfl rfl hl.1 rfl (lv_room (Nat.le_of_ble_eq_true rfl)) d_LI_feed_42 ⟨Nat.zero_le _, Nat.zero_le _⟩) hP hD hS hA [1, 2] [0] rfl rfl (by decide) (by decide) (fun u_ H locs h hP hD hS => ?_)
    obtain ⟨tp_size_8, tp_bytes_9⟩ := u_
    have hP : va_P (dC, dI) vwCl [(a_li, .inr (0, [.ref a_tp, .ref a_tk, .ref a_cd, .ref a_ps, .ref a_lp, .ref a_rn, .ref a_gu, .ref a_fu, .int li_loopGiven, .int li_faultPlace])), (a_tp, .inr (8, [.ref a_tp_bytes, .int tp_size_8])), (a_tp_bytes, .inl (cB, 1200, .inl tp_bytes_9))] H := hP
    have hD : va_D A [(a_li, .inr (0, [.ref a_tp, .ref a_tk, .ref a_cd, .ref a_ps, .ref a_lp, .ref a_rn, .ref a_gu, .ref a_fu, .int li_loopGiven, .int li_faultPlace])), (a_tp, .inr (8, [.ref a_tp_bytes, .int tp_size_8])), (a_tp_bytes, .inl (cB, 1200, .inl tp_bytes_9))] := hD
    refine lv_aload_n hx hb d_LI_feed_45 rfl (lv_at hl 0 rfl) ?_
    refine va_get (D := (dC, dI)) (ci := 0) (v := .ref a_tp) (C := "LoopInduction") (T := F_LI) (N := 10) hx hb hts iC_LI hown hK hP 0 rfl rfl 0 (by decide) fl_10 (fun _ h9 => h9) rfl d_LI_feed_46 ?_
    refine lv_iload hx hb d_LI_feed_49 (lv_at hl 5 rfl) ?_
    refine jn_v (wr := [(a_li, .inr (0, [.ref a_tp, .ref a_tk, .ref a_cd, .ref a_ps, .ref a_lp, .ref a_rn, .ref a_gu, .ref a_fu, .int li_loopGiven, .int li_faultPlace]))]) (va_runV (As := [.int x5]) (rest := []) ⟨hx, hb, hml, hown, hts⟩ (c_Tape_add l dC dI cI cB cZ adK adV _ a_tp a_tp_bytes tp_size_8 tp_bytes_9 x5 _ h) (cwV 1 hts (gv_ m_410 m_411 m_412 m_86 m_413) rfl rfl rfl pd_Tape_add ⟨Nat.le_of_ble_eq_true rfl, Nat.le_of_ble_eq_true rfl⟩) ⟨pc_blind, va_recv hK hP (ci := 8) (q0 := 1) rfl rfl, pc_of (hP.sub [1, 2] rfl) hK (hD.sub [1, 2] (by decide) rfl) hN hT hS hA⟩ rfl rfl hl.1 rfl (lv_room (Nat.le_of_ble_eq_true rfl)) d_LI_feed_51 ⟨Nat.zero_le _, Nat.zero_le _⟩) hP hD hS hA [1, 2] [0] rfl rfl (by decide) (by decide) (fun u_ H locs h hP hD hS => ?_)
    obtain ⟨tp_size_10, tp_bytes_11⟩ := u_
    have hP : va_P (dC, dI) vwCl [(a_li, .inr (0, [.ref a_tp, .ref a_tk, .ref a_cd, .ref a_ps, .ref a_lp, .ref a_rn, .ref a_gu, .ref a_fu, .int li_loopGiven, .int li_faultPlace])), (a_tp, .inr (8, [.ref a_tp_bytes, .int tp_size_10])), (a_tp_bytes, .inl (cB, 1200, .inl tp_bytes_11))] H := hP
    have hD : va_D A [(a_li, .inr (0, [.ref a_tp, .ref a_tk, .ref a_cd, .ref a_ps, .ref a_lp, .ref a_rn, .ref a_gu, .ref a_fu, .int li_loopGiven, .int li_faultPlace])), (a_tp, .inr (8, [.ref a_tp_bytes, .int tp_size_10])), (a_tp_bytes, .inl (cB, 1200, .inl tp_bytes_11))] := hD
    refine lv_aload_n hx hb d_LI_feed_54 rfl (lv_at hl 0 rfl) ?_
    refine va_get (D := (dC, dI)) (ci := 0) (v := .ref a_tp) (C := "LoopInduction") (T := F_LI) (N := 10) hx hb hts iC_LI hown hK hP 0 rfl rfl 0 (by decide) fl_10 (fun _ h9 => h9) rfl d_LI_feed_55 ?_
    refine jn_i (wr := [(a_li, .inr (0, [.ref a_tp, .ref a_tk, .ref a_cd, .ref a_ps, .ref a_lp, .ref a_rn, .ref a_gu, .ref a_fu, .int li_loopGiven, .int li_faultPlace])), (a_tp_bytes, .inl (cB, 1200, .inl tp_bytes_11))]) (va_runV (As := []) (rest := []) ⟨hx, hb, hml, hown, hts⟩ (c_Tape_size l dC dI cI cB cZ adK adV _ a_tp a_tp_bytes tp_size_10 _ h) (cwV 0 hts (gv_ m_414 m_415 m_416 m_86 m_417) rfl rfl rfl pd_Tape_size ⟨Nat.le_of_ble_eq_true rfl, Nat.le_of_ble_eq_true rfl⟩) ⟨pc_blind, va_recv hK hP (ci := 8) (q0 := 1) rfl rfl, pc_of (hP.sub [1] rfl) hK (hD.sub [1] (by decide) rfl) hN hT hS hA⟩ rfl rfl hl.1 rfl (lv_room (Nat.le_of_ble_eq_true rfl)) d_LI_feed_58 ⟨Nat.zero_le _, Nat.zero_le _⟩) hP hD hS hA [1] [0, 2] rfl rfl (by decide) (by decide) (fun r_12 u_ H locs h hP hD hS => ?_)
    have hP : va_P (dC, dI) vwCl [(a_li, .inr (0, [.ref a_tp, .ref a_tk, .ref a_cd, .ref a_ps, .ref a_lp, .ref a_rn, .ref a_gu, .ref a_fu, .int li_loopGiven, .int li_faultPlace])), (a_tp_bytes, .inl (cB, 1200, .inl tp_bytes_11)), (a_tp, .inr (8, [.ref a_tp_bytes, .int tp_size_10]))] H := hP
    have hD : va_D A [(a_li, .inr (0, [.ref a_tp, .ref a_tk, .ref a_cd, .ref a_ps, .ref a_lp, .ref a_rn, .ref a_gu, .ref a_fu, .int li_loopGiven, .int li_faultPlace])), (a_tp_bytes, .inl (cB, 1200, .inl tp_bytes_11)), (a_tp, .inr (8, [.ref a_tp_bytes, .int tp_size_10]))] := hD
    subst hQ
    have hP9 := hP.sub (ws' := [(a_li, .inr (0, [.ref a_tp, .ref a_tk, .ref a_cd, .ref a_ps, .ref a_lp, .ref a_rn, .ref a_gu, .ref a_fu, .int li_loopGiven, .int li_faultPlace])), (a_tp, .inr (8, [.ref a_tp_bytes, .int tp_size_10])), (a_tp_bytes, .inl (cB, 1200, .inl tp_bytes_11))]) [0, 2, 1] rfl
    have hD9 := hD.sub (ws' := [(a_li, .inr (0, [.ref a_tp, .ref a_tk, .ref a_cd, .ref a_ps, .ref a_lp, .ref a_rn, .ref a_gu, .ref a_fu, .int li_loopGiven, .int li_faultPlace])), (a_tp, .inr (8, [.ref a_tp_bytes, .int tp_size_10])), (a_tp_bytes, .inl (cB, 1200, .inl tp_bytes_11))]) [0, 2, 1] (by decide) rfl
    exact W.iret (v := r_12) hx hb hr (fun t ht hW => ⟨⟨r_12, (tp_size_10, tp_bytes_11), rfl, h, by rw [ht]; exact hP9, va_K.moved hW.alike hK, hD9⟩, hS.F ht⟩) hS.2.2 d_LI_feed_61
  · have h := And.right h c_7
    refine lv_iconst (v := (-1)) hx hb d_LI_feed_10 (by decide) ?_
    subst hQ
    have hP9 := hP.sub (ws' := [(a_li, .inr (0, [.ref a_tp, .ref a_tk, .ref a_cd, .ref a_ps, .ref a_lp, .ref a_rn, .ref a_gu, .ref a_fu, .int li_loopGiven, .int li_faultPlace])), (a_tp, .inr (8, [.ref a_tp_bytes, .int tp_size])), (a_tp_bytes, .inl (cB, 1200, .inl tp_bytes))]) [0, 2, 1] rfl
    have hD9 := hD.sub (ws' := [(a_li, .inr (0, [.ref a_tp, .ref a_tk, .ref a_cd, .ref a_ps, .ref a_lp, .ref a_rn, .ref a_gu, .ref a_fu, .int li_loopGiven, .int li_faultPlace])), (a_tp, .inr (8, [.ref a_tp_bytes, .int tp_size])), (a_tp_bytes, .inl (cB, 1200, .inl tp_bytes))]) [0, 2, 1] (by decide) rfl
    exact W.iret (v := (-1)) hx hb hr (fun t ht hW => ⟨⟨(-1), (tp_size, tp_bytes), rfl, h, by rw [ht]; exact hP9, va_K.moved hW.alike hK, hD9⟩, hS.F ht⟩) hS.2.2 d_LI_feed_11
def wp_LI_end (x1 : Int32) (tp_size : Int32) (post : Int32 → Int32 → Prop) : Prop :=
  wp_Tape_cut x1 tp_size (fun r_1 tp_size_2 => (((r_1 : Int32) = 0 → post (-1) tp_size_2) ∧ (¬ (r_1 : Int32) = 0 → wp_Tape_size tp_size_2 (fun r_3 => post r_3 tp_size_2))))
set_option maxHeartbeats 4000000 in
set_option maxRecDepth 100000 in
theorem c_LI_end (l : Launch) (dC : Nat → ClassId) (dI : Nat → Nat → Nat) (cI cB cZ : ClassId) (adK adV : Nat → Nat) (sz : Nat) (a_li a_tp a_tk a_cd a_ps a_lp a_rn a_gu a_fu a_tp_bytes : Nat) (li_loopGiven : Int32) (li_faultPlace : Int32) (tp_size : Int32) (x1 : Int32) (post : Int32 → Int32 → Prop) (h : wp_LI_end x1 tp_size post) : Met l y_LI_end w_LI_end ({ frames := 1, cells := 0, slots := 0, locals := 21 }) (pc_ (dC, dI) [(cI, .int), (cB, .byte), (cZ, .boolean)] [(a_li, .inr (0, [.ref a_tp, .ref a_tk, .ref a_cd, .ref a_ps, .ref a_lp, .ref a_rn, .ref a_gu, .ref a_fu, .int li_loopGiven, .int li_faultPlace])), (a_tp, .inr (8, [.ref a_tp_bytes, .int tp_size]))] sz adK adV [.ref a_li, .int x1]) (va_Qi (fun (r : Int32) (u : Int32) => post r u) (fun (u : Int32) t => bw_ (dC, dI) [(cI, .int), (cB, .byte), (cZ, .boolean)] (va_A [(a_li, .inr (0, [.ref a_tp, .ref a_tk, .ref a_cd, .ref a_ps, .ref a_lp, .ref a_rn, .ref a_gu, .ref a_fu, .int li_loopGiven, .int li_faultPlace])), (a_tp, .inr (8, [.ref a_tp_bytes, .int tp_size]))] sz) [(a_li, .inr (0, [.ref a_tp, .ref a_tk, .ref a_cd, .ref a_ps, .ref a_lp, .ref a_rn, .ref a_gu, .ref a_fu, .int li_loopGiven, .int li_faultPlace])), (a_tp, .inr (8, [.ref a_tp_bytes, .int u]))] t) (va_A [(a_li, .inr (0, [.ref a_tp, .ref a_tk, .ref a_cd, .ref a_ps, .ref a_lp, .ref a_rn, .ref a_gu, .ref a_fu, .int li_loopGiven, .int li_faultPlace])), (a_tp, .inr (8, [.ref a_tp_bytes, .int tp_size]))] sz)) 0 0 (va_A [(a_li, .inr (0, [.ref a_tp, .ref a_tk, .ref a_cd, .ref a_ps, .ref a_lp, .ref a_rn, .ref a_gu, .ref a_fu, .int li_loopGiven, .int li_faultPlace])), (a_tp, .inr (8, [.ref a_tp_bytes, .int tp_size]))] sz) := by
  refine Met.ofW (cc := b_LI_end) (maxL := 2) (ret := (some .int)) (by decide) rfl ?_
  intro p e s m args below meth c s₁ B hml hv
  obtain ⟨rfl, hsz, hP, hK, hD0, hN, hT⟩ := hv
  have hx := B.exec
  have hb := B.bytes
  have hr := B.returns
  have hts := atoms_spec (ws := w_LI_end) B.pre
  have hown : s.vm.findClass "LoopInduction" = some m.cls := findClass_of_methodNamed B.named
  have hlocks := B.notSynchronized
  subst hsz
  have hD := hD0.self (sz := s.heap.size)
  generalize hAe : va_A [(a_li, .inr (0, [.ref a_tp, .ref a_tk, .ref a_cd, .ref a_ps, .ref a_lp, .ref a_rn, .ref a_gu, .ref a_fu, .int li_loopGiven, .int li_faultPlace])), (a_tp, .inr (8, [.ref a_tp_bytes, .int tp_size]))] s.heap.size = A at hD hT ⊢
  have hA : ∀ q : Nat, s.heap.size ≤ q → A q := fun q h => by rw [← hAe]; exact Or.inr h
  have hS : va_S A s.heap s.heap [] := va_S.rf
  generalize hQ : MQ below _ _ s 0 0 _ = QQ
  have hl := lv_entry ([.ref a_li, .int x1]) (n := 2) (Nat.le_of_ble_eq_true rfl)
  rw [lg_entry_eq]
  generalize (lg_sl ([.ref a_li, .int x1]) ++ List.replicate (2 - (lg_sl ([.ref a_li, .int x1])).length) Slot.unset).toArray = ls at hl ⊢
  have hl : lv_has ls 2 [(0, .ref a_li), (1, .int x1)] := hl
  have fl_10 := (hts _ (List.mem_cons_of_mem _ m_371))
  refine lv_aload_n hx hb d_LI_end_0 rfl (lv_at hl 0 rfl) ?_
  refine va_get (D := (dC, dI)) (ci := 0) (v := .ref a_tp) (C := "LoopInduction") (T := F_LI) (N := 10) hx hb hts iC_LI hown hK hP 0 rfl rfl 0 (by decide) fl_10 (fun _ h9 => h9) rfl d_LI_end_1 ?_
  refine lv_iload_n hx hb d_LI_end_4 rfl (lv_at hl 1 rfl) ?_
  refine jn_i (wr := [(a_li, .inr (0, [.ref a_tp, .ref a_tk, .ref a_cd, .ref a_ps, .ref a_lp, .ref a_rn, .ref a_gu, .ref a_fu, .int li_loopGiven, .int li_faultPlace]))]) (va_runV (As := [.int x1]) (rest := []) ⟨hx, hb, hml, hown, hts⟩ (c_Tape_cut l dC dI cI cB cZ adK adV _ a_tp a_tp_bytes tp_size x1 _ h) (cwV 1 hts (gv_ m_422 m_423 m_424 m_86 m_425) rfl rfl rfl pd_Tape_cut ⟨Nat.le_of_ble_eq_true rfl, Nat.le_of_ble_eq_true rfl⟩) ⟨pc_blind, va_recv hK hP (ci := 8) (q0 := 1) rfl rfl, pc_of (hP.sub [1] rfl) hK (hD.sub [1] (by decide) rfl) hN hT hS hA⟩ rfl rfl hl.1 rfl (lv_room (Nat.le_of_ble_eq_true rfl)) d_LI_end_5 ⟨Nat.zero_le _, Nat.zero_le _⟩) hP hD hS hA [1] [0] rfl rfl (by decide) (by decide) (fun r_1 tp_size_2 H locs h hP hD hS => ?_)
  have hP : va_P (dC, dI) vwCl [(a_li, .inr (0, [.ref a_tp, .ref a_tk, .ref a_cd, .ref a_ps, .ref a_lp, .ref a_rn, .ref a_gu, .ref a_fu, .int li_loopGiven, .int li_faultPlace])), (a_tp, .inr (8, [.ref a_tp_bytes, .int tp_size_2]))] H := hP
  have hD : va_D A [(a_li, .inr (0, [.ref a_tp, .ref a_tk, .ref a_cd, .ref a_ps, .ref a_lp, .ref a_rn, .ref a_gu, .ref a_fu, .int li_loopGiven, .int li_faultPlace])), (a_tp, .inr (8, [.ref a_tp_bytes, .int tp_size_2]))] := hD
  refine lv_if_eq (tgt := 21) hx hb d_LI_end_8 (by decide) (fun c_8 => ?_) (fun c_8 => ?_)
  · have h := And.left h c_8
    refine lv_iconst (v := (-1)) hx hb d_LI_end_21 (by decide) ?_
    subst hQ
    have hP9 := hP
    have hD9 := hD
    exact W.iret (v := (-1)) hx hb hr (fun t ht hW => ⟨⟨(-1), (tp_size_2), rfl, h, by rw [ht]; exact hP9, va_K.moved hW.alike hK, hD9⟩, hS.F ht⟩) hS.2.2 d_LI_end_22
  · have h := And.right h c_8
    refine lv_aload_n hx hb d_LI_end_11 rfl (lv_at hl 0 rfl) ?_
    refine va_get (D := (dC, dI)) (ci := 0) (v := .ref a_tp) (C := "LoopInduction") (T := F_LI) (N := 10) hx hb hts iC_LI hown hK hP 0 rfl rfl 0 (by decide) fl_10 (fun _ h9 => h9) rfl d_LI_end_12 ?_
    refine jn_i (wr := [(a_li, .inr (0, [.ref a_tp, .ref a_tk, .ref a_cd, .ref a_ps, .ref a_lp, .ref a_rn, .ref a_gu, .ref a_fu, .int li_loopGiven, .int li_faultPlace]))]) (va_runV (As := []) (rest := []) ⟨hx, hb, hml, hown, hts⟩ (c_Tape_size l dC dI cI cB cZ adK adV _ a_tp a_tp_bytes tp_size_2 _ h) (cwV 0 hts (gv_ m_414 m_415 m_416 m_86 m_417) rfl rfl rfl pd_Tape_size ⟨Nat.le_of_ble_eq_true rfl, Nat.le_of_ble_eq_true rfl⟩) ⟨pc_blind, va_recv hK hP (ci := 8) (q0 := 1) rfl rfl, pc_of (hP.sub [1] rfl) hK (hD.sub [1] (by decide) rfl) hN hT hS hA⟩ rfl rfl hl.1 rfl (lv_room (Nat.le_of_ble_eq_true rfl)) d_LI_end_15 ⟨Nat.zero_le _, Nat.zero_le _⟩) hP hD hS hA [1] [0] rfl rfl (by decide) (by decide) (fun r_3 u_ H locs h hP hD hS => ?_)
    have hP : va_P (dC, dI) vwCl [(a_li, .inr (0, [.ref a_tp, .ref a_tk, .ref a_cd, .ref a_ps, .ref a_lp, .ref a_rn, .ref a_gu, .ref a_fu, .int li_loopGiven, .int li_faultPlace])), (a_tp, .inr (8, [.ref a_tp_bytes, .int tp_size_2]))] H := hP
    have hD : va_D A [(a_li, .inr (0, [.ref a_tp, .ref a_tk, .ref a_cd, .ref a_ps, .ref a_lp, .ref a_rn, .ref a_gu, .ref a_fu, .int li_loopGiven, .int li_faultPlace])), (a_tp, .inr (8, [.ref a_tp_bytes, .int tp_size_2]))] := hD
    refine lv_goto (tgt := 22) hx hb d_LI_end_18 (by decide) ?_
    subst hQ
    have hP9 := hP
    have hD9 := hD
    exact W.iret (v := r_3) hx hb hr (fun t ht hW => ⟨⟨r_3, (tp_size_2), rfl, h, by rw [ht]; exact hP9, va_K.moved hW.alike hK, hD9⟩, hS.F ht⟩) hS.2.2 d_LI_end_22
def wp_LI_place (li_faultPlace : Int32) (post : Int32 → Prop) : Prop :=
  post li_faultPlace
set_option maxHeartbeats 4000000 in
set_option maxRecDepth 100000 in
theorem c_LI_place (l : Launch) (dC : Nat → ClassId) (dI : Nat → Nat → Nat) (cI cB cZ : ClassId) (adK adV : Nat → Nat) (sz : Nat) (a_li a_tp a_tk a_cd a_ps a_lp a_rn a_gu a_fu : Nat) (li_loopGiven : Int32) (li_faultPlace : Int32) (post : Int32 → Prop) (h : wp_LI_place li_faultPlace post) : Met l y_LI_place w_LI_place ({ frames := 0, cells := 0, slots := 0, locals := 0 }) (pc_ (dC, dI) [(cI, .int), (cB, .byte), (cZ, .boolean)] [(a_li, .inr (0, [.ref a_tp, .ref a_tk, .ref a_cd, .ref a_ps, .ref a_lp, .ref a_rn, .ref a_gu, .ref a_fu, .int li_loopGiven, .int li_faultPlace]))] sz adK adV [.ref a_li]) (va_Qi (fun (r : Int32) (u : Unit) => post r ) (fun (u : Unit) t => bw_ (dC, dI) [(cI, .int), (cB, .byte), (cZ, .boolean)] (va_A [(a_li, .inr (0, [.ref a_tp, .ref a_tk, .ref a_cd, .ref a_ps, .ref a_lp, .ref a_rn, .ref a_gu, .ref a_fu, .int li_loopGiven, .int li_faultPlace]))] sz) [(a_li, .inr (0, [.ref a_tp, .ref a_tk, .ref a_cd, .ref a_ps, .ref a_lp, .ref a_rn, .ref a_gu, .ref a_fu, .int li_loopGiven, .int li_faultPlace]))] t) (va_A [(a_li, .inr (0, [.ref a_tp, .ref a_tk, .ref a_cd, .ref a_ps, .ref a_lp, .ref a_rn, .ref a_gu, .ref a_fu, .int li_loopGiven, .int li_faultPlace]))] sz)) 0 0 (va_A [(a_li, .inr (0, [.ref a_tp, .ref a_tk, .ref a_cd, .ref a_ps, .ref a_lp, .ref a_rn, .ref a_gu, .ref a_fu, .int li_loopGiven, .int li_faultPlace]))] sz) := by
  refine Met.ofW (cc := b_LI_place) (maxL := 1) (ret := (some .int)) (by decide) rfl ?_
  intro p e s m args below meth c s₁ B hml hv
  obtain ⟨rfl, hsz, hP, hK, hD0, hN, hT⟩ := hv
  have hx := B.exec
  have hb := B.bytes
  have hr := B.returns
  have hts := atoms_spec (ws := w_LI_place) B.pre
  have hown : s.vm.findClass "LoopInduction" = some m.cls := findClass_of_methodNamed B.named
  have hlocks := B.notSynchronized
  subst hsz
  have hD := hD0.self (sz := s.heap.size)
  generalize hAe : va_A [(a_li, .inr (0, [.ref a_tp, .ref a_tk, .ref a_cd, .ref a_ps, .ref a_lp, .ref a_rn, .ref a_gu, .ref a_fu, .int li_loopGiven, .int li_faultPlace]))] s.heap.size = A at hD hT ⊢
  have hA : ∀ q : Nat, s.heap.size ≤ q → A q := fun q h => by rw [← hAe]; exact Or.inr h
  have hS : va_S A s.heap s.heap [] := va_S.rf
  generalize hQ : MQ below _ _ s 0 0 _ = QQ
  have hl := lv_entry ([.ref a_li]) (n := 1) (Nat.le_of_ble_eq_true rfl)
  rw [lg_entry_eq]
  generalize (lg_sl ([.ref a_li]) ++ List.replicate (1 - (lg_sl ([.ref a_li])).length) Slot.unset).toArray = ls at hl ⊢
  have hl : lv_has ls 1 [(0, .ref a_li)] := hl
  have fl_80 := (hts _ (List.mem_cons_of_mem _ m_380))
  refine lv_aload_n hx hb d_LI_place_0 rfl (lv_at hl 0 rfl) ?_
  refine va_get (D := (dC, dI)) (ci := 0) (v := .int li_faultPlace) (C := "LoopInduction") (T := F_LI) (N := 10) hx hb hts iC_LI hown hK hP 0 rfl rfl 9 (by decide) fl_80 (fun _ h9 => h9) rfl d_LI_place_1 ?_
  subst hQ
  have hP9 := hP
  have hD9 := hD
  exact W.iret (v := li_faultPlace) hx hb hr (fun t ht hW => ⟨⟨li_faultPlace, (), rfl, h, by rw [ht]; exact hP9, va_K.moved hW.alike hK, hD9⟩, hS.F ht⟩) hS.2.2 d_LI_place_4
def wp_LI_told (x1 : Int32) (li_loopGiven : Int32) (lp_choices : Int32) (lp_guesses : Int32) (lp_unaries : Int32) (lp_ranked : Int32) (post : Int32 → Prop) : Prop :=
  ((¬ (li_loopGiven : Int32) = 0 → (((x1 : Int32) = 0 → wp_Loop_choices lp_choices (fun r_1 => post r_1)) ∧ ((x1 : Int32) = 1 → wp_Loop_guesses lp_guesses (fun r_2 => post r_2)) ∧ ((x1 : Int32) = 2 → wp_Loop_unaries lp_unaries (fun r_3 => post r_3)) ∧ ((x1 : Int32) = 3 → wp_Loop_isRanked lp_ranked (fun r_4 => (((r_4 : Int32) = 0 → post 0) ∧ (¬ (r_4 : Int32) = 0 → post 1)))) ∧ (¬ (x1 : Int32) = 0 → ¬ (x1 : Int32) = 1 → ¬ (x1 : Int32) = 2 → ¬ (x1 : Int32) = 3 → post (-1)))) ∧ ((li_loopGiven : Int32) = 0 → post (-1)))
set_option maxHeartbeats 4000000 in
set_option maxRecDepth 100000 in
theorem c_LI_told (l : Launch) (dC : Nat → ClassId) (dI : Nat → Nat → Nat) (cI cB cZ : ClassId) (adK adV : Nat → Nat) (sz : Nat) (a_li a_tp a_tk a_cd a_ps a_lp a_rn a_gu a_fu a_lp_facts a_lp_turns a_lp_first a_lp_src a_s1 : Nat) (li_loopGiven : Int32) (li_faultPlace : Int32) (lp_choices : Int32) (lp_guesses : Int32) (lp_unaries : Int32) (lp_ranked : Int32) (x1 : Int32) (post : Int32 → Prop) (h : wp_LI_told x1 li_loopGiven lp_choices lp_guesses lp_unaries lp_ranked post) : Met l y_LI_told w_LI_told ({ frames := 1, cells := 0, slots := 0, locals := 20 }) (pc_ (dC, dI) [(cI, .int), (cB, .byte), (cZ, .boolean)] [(a_li, .inr (0, [.ref a_tp, .ref a_tk, .ref a_cd, .ref a_ps, .ref a_lp, .ref a_rn, .ref a_gu, .ref a_fu, .int li_loopGiven, .int li_faultPlace])), (a_lp, .inr (4, [.ref a_lp_facts, .ref a_lp_turns, .ref a_lp_first, .ref a_lp_src, .ref a_s1, .int lp_choices, .int lp_guesses, .int lp_unaries, .int lp_ranked]))] sz adK adV [.ref a_li, .int x1]) (va_Qi (fun (r : Int32) (u : Unit) => post r ) (fun (u : Unit) t => bw_ (dC, dI) [(cI, .int), (cB, .byte), (cZ, .boolean)] (va_A [(a_li, .inr (0, [.ref a_tp, .ref a_tk, .ref a_cd, .ref a_ps, .ref a_lp, .ref a_rn, .ref a_gu, .ref a_fu, .int li_loopGiven, .int li_faultPlace])), (a_lp, .inr (4, [.ref a_lp_facts, .ref a_lp_turns, .ref a_lp_first, .ref a_lp_src, .ref a_s1, .int lp_choices, .int lp_guesses, .int lp_unaries, .int lp_ranked]))] sz) [(a_li, .inr (0, [.ref a_tp, .ref a_tk, .ref a_cd, .ref a_ps, .ref a_lp, .ref a_rn, .ref a_gu, .ref a_fu, .int li_loopGiven, .int li_faultPlace])), (a_lp, .inr (4, [.ref a_lp_facts, .ref a_lp_turns, .ref a_lp_first, .ref a_lp_src, .ref a_s1, .int lp_choices, .int lp_guesses, .int lp_unaries, .int lp_ranked]))] t) (va_A [(a_li, .inr (0, [.ref a_tp, .ref a_tk, .ref a_cd, .ref a_ps, .ref a_lp, .ref a_rn, .ref a_gu, .ref a_fu, .int li_loopGiven, .int li_faultPlace])), (a_lp, .inr (4, [.ref a_lp_facts, .ref a_lp_turns, .ref a_lp_first, .ref a_lp_src, .ref a_s1, .int lp_choices, .int lp_guesses, .int lp_unaries, .int lp_ranked]))] sz)) 0 0 (va_A [(a_li, .inr (0, [.ref a_tp, .ref a_tk, .ref a_cd, .ref a_ps, .ref a_lp, .ref a_rn, .ref a_gu, .ref a_fu, .int li_loopGiven, .int li_faultPlace])), (a_lp, .inr (4, [.ref a_lp_facts, .ref a_lp_turns, .ref a_lp_first, .ref a_lp_src, .ref a_s1, .int lp_choices, .int lp_guesses, .int lp_unaries, .int lp_ranked]))] sz) := by
  refine Met.ofW (cc := b_LI_told) (maxL := 2) (ret := (some .int)) (by decide) rfl ?_
  intro p e s m args below meth c s₁ B hml hv
  obtain ⟨rfl, hsz, hP, hK, hD0, hN, hT⟩ := hv
  have hx := B.exec
  have hb := B.bytes
  have hr := B.returns
  have hts := atoms_spec (ws := w_LI_told) B.pre
  have hown : s.vm.findClass "LoopInduction" = some m.cls := findClass_of_methodNamed B.named
  have hlocks := B.notSynchronized
  subst hsz
  have hD := hD0.self (sz := s.heap.size)
  generalize hAe : va_A [(a_li, .inr (0, [.ref a_tp, .ref a_tk, .ref a_cd, .ref a_ps, .ref a_lp, .ref a_rn, .ref a_gu, .ref a_fu, .int li_loopGiven, .int li_faultPlace])), (a_lp, .inr (4, [.ref a_lp_facts, .ref a_lp_turns, .ref a_lp_first, .ref a_lp_src, .ref a_s1, .int lp_choices, .int lp_guesses, .int lp_unaries, .int lp_ranked]))] s.heap.size = A at hD hT ⊢
  have hA : ∀ q : Nat, s.heap.size ≤ q → A q := fun q h => by rw [← hAe]; exact Or.inr h
  have hS : va_S A s.heap s.heap [] := va_S.rf
  generalize hQ : MQ below _ _ s 0 0 _ = QQ
  have hl := lv_entry ([.ref a_li, .int x1]) (n := 2) (Nat.le_of_ble_eq_true rfl)
  rw [lg_entry_eq]
  generalize (lg_sl ([.ref a_li, .int x1]) ++ List.replicate (2 - (lg_sl ([.ref a_li, .int x1])).length) Slot.unset).toArray = ls at hl ⊢
  have hl : lv_has ls 2 [(0, .ref a_li), (1, .int x1)] := hl
  have fl_49 := (hts _ (List.mem_cons_of_mem _ m_375))
  have fl_76 := (hts _ (List.mem_cons_of_mem _ m_379))
  refine lv_aload_n hx hb d_LI_told_0 rfl (lv_at hl 0 rfl) ?_
  refine va_get (D := (dC, dI)) (ci := 0) (v := .int li_loopGiven) (C := "LoopInduction") (T := F_LI) (N := 10) hx hb hts iC_LI hown hK hP 0 rfl rfl 8 (by decide) fl_76 (fun _ h9 => h9) rfl d_LI_told_1 ?_
  refine lv_if_ne (tgt := 9) hx hb d_LI_told_4 (by decide) (fun c_4 => ?_) (fun c_4 => ?_)
  · have h := And.left h c_4
    refine lv_iload_n hx hb d_LI_told_9 rfl (lv_at hl 1 rfl) ?_
    rcases Classical.em ((x1 : Int32) = 0) with e_10_0 | e_10_0
    · have h := h.1 e_10_0
      refine lv_tableIn (off := 30) (tgt := 40) hx hb d_LI_told_10 (by rw [e_10_0]; decide) (by rw [e_10_0]; decide) (by rw [e_10_0]; rfl) (by decide) ?_
      refine lv_aload_n hx hb d_LI_told_40 rfl (lv_at hl 0 rfl) ?_
      refine va_get (D := (dC, dI)) (ci := 0) (v := .ref a_lp) (C := "LoopInduction") (T := F_LI) (N := 10) hx hb hts iC_LI hown hK hP 0 rfl rfl 4 (by decide) fl_49 (fun _ h9 => h9) rfl d_LI_told_41 ?_
      refine jn_i (wr := [(a_li, .inr (0, [.ref a_tp, .ref a_tk, .ref a_cd, .ref a_ps, .ref a_lp, .ref a_rn, .ref a_gu, .ref a_fu, .int li_loopGiven, .int li_faultPlace]))]) (va_runV (As := []) (rest := []) ⟨hx, hb, hml, hown, hts⟩ (c_Loop_choices l dC dI cI cB cZ adK adV _ a_lp a_lp_facts a_lp_turns a_lp_first a_lp_src a_s1 lp_choices lp_guesses lp_unaries lp_ranked _ h) (cwV 0 hts (gv_ m_894 m_810 m_811 m_92 m_812) rfl rfl rfl pd_Loop_choices ⟨Nat.le_of_ble_eq_true rfl, Nat.le_of_ble_eq_true rfl⟩) ⟨pc_blind, va_recv hK hP (ci := 4) (q0 := 1) rfl rfl, pc_of (hP.sub [1] rfl) hK (hD.sub [1] (by decide) rfl) hN hT hS hA⟩ rfl rfl hl.1 rfl (lv_room (Nat.le_of_ble_eq_true rfl)) d_LI_told_44 ⟨Nat.zero_le _, Nat.zero_le _⟩) hP hD hS hA [1] [0] rfl rfl (by decide) (by decide) (fun r_1 u_ H locs h hP hD hS => ?_)
      have hP : va_P (dC, dI) vwCl [(a_li, .inr (0, [.ref a_tp, .ref a_tk, .ref a_cd, .ref a_ps, .ref a_lp, .ref a_rn, .ref a_gu, .ref a_fu, .int li_loopGiven, .int li_faultPlace])), (a_lp, .inr (4, [.ref a_lp_facts, .ref a_lp_turns, .ref a_lp_first, .ref a_lp_src, .ref a_s1, .int lp_choices, .int lp_guesses, .int lp_unaries, .int lp_ranked]))] H := hP
      have hD : va_D A [(a_li, .inr (0, [.ref a_tp, .ref a_tk, .ref a_cd, .ref a_ps, .ref a_lp, .ref a_rn, .ref a_gu, .ref a_fu, .int li_loopGiven, .int li_faultPlace])), (a_lp, .inr (4, [.ref a_lp_facts, .ref a_lp_turns, .ref a_lp_first, .ref a_lp_src, .ref a_s1, .int lp_choices, .int lp_guesses, .int lp_unaries, .int lp_ranked]))] := hD
      subst hQ
      have hP9 := hP
      have hD9 := hD
      exact W.iret (v := r_1) hx hb hr (fun t ht hW => ⟨⟨r_1, (), rfl, h, by rw [ht]; exact hP9, va_K.moved hW.alike hK, hD9⟩, hS.F ht⟩) hS.2.2 d_LI_told_47
    rcases Classical.em ((x1 : Int32) = 1) with e_10_1 | e_10_1
    · have h := h.2.1 e_10_1
      refine lv_tableIn (off := 38) (tgt := 48) hx hb d_LI_told_10 (by rw [e_10_1]; decide) (by rw [e_10_1]; decide) (by rw [e_10_1]; rfl) (by decide) ?_
      refine lv_aload_n hx hb d_LI_told_48 rfl (lv_at hl 0 rfl) ?_
      refine va_get (D := (dC, dI)) (ci := 0) (v := .ref a_lp) (C := "LoopInduction") (T := F_LI) (N := 10) hx hb hts iC_LI hown hK hP 0 rfl rfl 4 (by decide) fl_49 (fun _ h9 => h9) rfl d_LI_told_49 ?_
      refine jn_i (wr := [(a_li, .inr (0, [.ref a_tp, .ref a_tk, .ref a_cd, .ref a_ps, .ref a_lp, .ref a_rn, .ref a_gu, .ref a_fu, .int li_loopGiven, .int li_faultPlace]))]) (va_runV (As := []) (rest := []) ⟨hx, hb, hml, hown, hts⟩ (c_Loop_guesses l dC dI cI cB cZ adK adV _ a_lp a_lp_facts a_lp_turns a_lp_first a_lp_src a_s1 lp_choices lp_guesses lp_unaries lp_ranked _ h) (cwV 0 hts (gv_ m_895 m_856 m_857 m_92 m_858) rfl rfl rfl pd_Loop_guesses ⟨Nat.le_of_ble_eq_true rfl, Nat.le_of_ble_eq_true rfl⟩) ⟨pc_blind, va_recv hK hP (ci := 4) (q0 := 1) rfl rfl, pc_of (hP.sub [1] rfl) hK (hD.sub [1] (by decide) rfl) hN hT hS hA⟩ rfl rfl hl.1 rfl (lv_room (Nat.le_of_ble_eq_true rfl)) d_LI_told_52 ⟨Nat.zero_le _, Nat.zero_le _⟩) hP hD hS hA [1] [0] rfl rfl (by decide) (by decide) (fun r_2 u_ H locs h hP hD hS => ?_)
      have hP : va_P (dC, dI) vwCl [(a_li, .inr (0, [.ref a_tp, .ref a_tk, .ref a_cd, .ref a_ps, .ref a_lp, .ref a_rn, .ref a_gu, .ref a_fu, .int li_loopGiven, .int li_faultPlace])), (a_lp, .inr (4, [.ref a_lp_facts, .ref a_lp_turns, .ref a_lp_first, .ref a_lp_src, .ref a_s1, .int lp_choices, .int lp_guesses, .int lp_unaries, .int lp_ranked]))] H := hP
      have hD : va_D A [(a_li, .inr (0, [.ref a_tp, .ref a_tk, .ref a_cd, .ref a_ps, .ref a_lp, .ref a_rn, .ref a_gu, .ref a_fu, .int li_loopGiven, .int li_faultPlace])), (a_lp, .inr (4, [.ref a_lp_facts, .ref a_lp_turns, .ref a_lp_first, .ref a_lp_src, .ref a_s1, .int lp_choices, .int lp_guesses, .int lp_unaries, .int lp_ranked]))] := hD
      subst hQ
      have hP9 := hP
      have hD9 := hD
      exact W.iret (v := r_2) hx hb hr (fun t ht hW => ⟨⟨r_2, (), rfl, h, by rw [ht]; exact hP9, va_K.moved hW.alike hK, hD9⟩, hS.F ht⟩) hS.2.2 d_LI_told_55
    rcases Classical.em ((x1 : Int32) = 2) with e_10_2 | e_10_2
    · have h := h.2.2.1 e_10_2
      refine lv_tableIn (off := 46) (tgt := 56) hx hb d_LI_told_10 (by rw [e_10_2]; decide) (by rw [e_10_2]; decide) (by rw [e_10_2]; rfl) (by decide) ?_
      refine lv_aload_n hx hb d_LI_told_56 rfl (lv_at hl 0 rfl) ?_
      refine va_get (D := (dC, dI)) (ci := 0) (v := .ref a_lp) (C := "LoopInduction") (T := F_LI) (N := 10) hx hb hts iC_LI hown hK hP 0 rfl rfl 4 (by decide) fl_49 (fun _ h9 => h9) rfl d_LI_told_57 ?_
      refine jn_i (wr := [(a_li, .inr (0, [.ref a_tp, .ref a_tk, .ref a_cd, .ref a_ps, .ref a_lp, .ref a_rn, .ref a_gu, .ref a_fu, .int li_loopGiven, .int li_faultPlace]))]) (va_runV (As := []) (rest := []) ⟨hx, hb, hml, hown, hts⟩ (c_Loop_unaries l dC dI cI cB cZ adK adV _ a_lp a_lp_facts a_lp_turns a_lp_first a_lp_src a_s1 lp_choices lp_guesses lp_unaries lp_ranked _ h) (cwV 0 hts (gv_ m_896 m_897 m_898 m_92 m_899) rfl rfl rfl pd_Loop_unaries ⟨Nat.le_of_ble_eq_true rfl, Nat.le_of_ble_eq_true rfl⟩) ⟨pc_blind, va_recv hK hP (ci := 4) (q0 := 1) rfl rfl, pc_of (hP.sub [1] rfl) hK (hD.sub [1] (by decide) rfl) hN hT hS hA⟩ rfl rfl hl.1 rfl (lv_room (Nat.le_of_ble_eq_true rfl)) d_LI_told_60 ⟨Nat.zero_le _, Nat.zero_le _⟩) hP hD hS hA [1] [0] rfl rfl (by decide) (by decide) (fun r_3 u_ H locs h hP hD hS => ?_)
      have hP : va_P (dC, dI) vwCl [(a_li, .inr (0, [.ref a_tp, .ref a_tk, .ref a_cd, .ref a_ps, .ref a_lp, .ref a_rn, .ref a_gu, .ref a_fu, .int li_loopGiven, .int li_faultPlace])), (a_lp, .inr (4, [.ref a_lp_facts, .ref a_lp_turns, .ref a_lp_first, .ref a_lp_src, .ref a_s1, .int lp_choices, .int lp_guesses, .int lp_unaries, .int lp_ranked]))] H := hP
      have hD : va_D A [(a_li, .inr (0, [.ref a_tp, .ref a_tk, .ref a_cd, .ref a_ps, .ref a_lp, .ref a_rn, .ref a_gu, .ref a_fu, .int li_loopGiven, .int li_faultPlace])), (a_lp, .inr (4, [.ref a_lp_facts, .ref a_lp_turns, .ref a_lp_first, .ref a_lp_src, .ref a_s1, .int lp_choices, .int lp_guesses, .int lp_unaries, .int lp_ranked]))] := hD
      subst hQ
      have hP9 := hP
      have hD9 := hD
      exact W.iret (v := r_3) hx hb hr (fun t ht hW => ⟨⟨r_3, (), rfl, h, by rw [ht]; exact hP9, va_K.moved hW.alike hK, hD9⟩, hS.F ht⟩) hS.2.2 d_LI_told_63
    rcases Classical.em ((x1 : Int32) = 3) with e_10_3 | e_10_3
    · have h := h.2.2.2.1 e_10_3
      refine lv_tableIn (off := 54) (tgt := 64) hx hb d_LI_told_10 (by rw [e_10_3]; decide) (by rw [e_10_3]; decide) (by rw [e_10_3]; rfl) (by decide) ?_
      refine lv_aload_n hx hb d_LI_told_64 rfl (lv_at hl 0 rfl) ?_
      refine va_get (D := (dC, dI)) (ci := 0) (v := .ref a_lp) (C := "LoopInduction") (T := F_LI) (N := 10) hx hb hts iC_LI hown hK hP 0 rfl rfl 4 (by decide) fl_49 (fun _ h9 => h9) rfl d_LI_told_65 ?_
      refine jn_i (wr := [(a_li, .inr (0, [.ref a_tp, .ref a_tk, .ref a_cd, .ref a_ps, .ref a_lp, .ref a_rn, .ref a_gu, .ref a_fu, .int li_loopGiven, .int li_faultPlace]))]) (va_runV (As := []) (rest := []) ⟨hx, hb, hml, hown, hts⟩ (c_Loop_isRanked l dC dI cI cB cZ adK adV _ a_lp a_lp_facts a_lp_turns a_lp_first a_lp_src a_s1 lp_choices lp_guesses lp_unaries lp_ranked _ h) (cwV 0 hts (gv_ m_900 m_901 m_902 m_92 m_903) rfl rfl rfl pd_Loop_isRanked ⟨Nat.le_of_ble_eq_true rfl, Nat.le_of_ble_eq_true rfl⟩) ⟨pc_blind, va_recv hK hP (ci := 4) (q0 := 1) rfl rfl, pc_of (hP.sub [1] rfl) hK (hD.sub [1] (by decide) rfl) hN hT hS hA⟩ rfl rfl hl.1 rfl (lv_room (Nat.le_of_ble_eq_true rfl)) d_LI_told_68 ⟨Nat.zero_le _, Nat.zero_le _⟩) hP hD hS hA [1] [0] rfl rfl (by decide) (by decide) (fun r_4 u_ H locs h hP hD hS => ?_)
      have hP : va_P (dC, dI) vwCl [(a_li, .inr (0, [.ref a_tp, .ref a_tk, .ref a_cd, .ref a_ps, .ref a_lp, .ref a_rn, .ref a_gu, .ref a_fu, .int li_loopGiven, .int li_faultPlace])), (a_lp, .inr (4, [.ref a_lp_facts, .ref a_lp_turns, .ref a_lp_first, .ref a_lp_src, .ref a_s1, .int lp_choices, .int lp_guesses, .int lp_unaries, .int lp_ranked]))] H := hP
      have hD : va_D A [(a_li, .inr (0, [.ref a_tp, .ref a_tk, .ref a_cd, .ref a_ps, .ref a_lp, .ref a_rn, .ref a_gu, .ref a_fu, .int li_loopGiven, .int li_faultPlace])), (a_lp, .inr (4, [.ref a_lp_facts, .ref a_lp_turns, .ref a_lp_first, .ref a_lp_src, .ref a_s1, .int lp_choices, .int lp_guesses, .int lp_unaries, .int lp_ranked]))] := hD
      refine lv_if_eq (tgt := 78) hx hb d_LI_told_71 (by decide) (fun c_71 => ?_) (fun c_71 => ?_)
      · have h := And.left h c_71
        refine lv_iconst (v := 0) hx hb d_LI_told_78 (by decide) ?_
        subst hQ
        have hP9 := hP
        have hD9 := hD
        exact W.iret (v := 0) hx hb hr (fun t ht hW => ⟨⟨0, (), rfl, h, by rw [ht]; exact hP9, va_K.moved hW.alike hK, hD9⟩, hS.F ht⟩) hS.2.2 d_LI_told_79
      · have h := And.right h c_71
        refine lv_iconst (v := 1) hx hb d_LI_told_74 (by decide) ?_
        refine lv_goto (tgt := 79) hx hb d_LI_told_75 (by decide) ?_
        subst hQ
        have hP9 := hP
        have hD9 := hD
        exact W.iret (v := 1) hx hb hr (fun t ht hW => ⟨⟨1, (), rfl, h, by rw [ht]; exact hP9, va_K.moved hW.alike hK, hD9⟩, hS.F ht⟩) hS.2.2 d_LI_told_79
    have h := h.2.2.2.2 e_10_0 e_10_1 e_10_2 e_10_3
    refine lv_tableOut (tgt := 80) hx hb d_LI_told_10 (by have := lv_neT e_10_0 (a := 0) (by decide); have := lv_neT e_10_1 (a := 1) (by decide); have := lv_neT e_10_2 (a := 2) (by decide); have := lv_neT e_10_3 (a := 3) (by decide); omega) (by decide) ?_
    refine lv_iconst (v := (-1)) hx hb d_LI_told_80 (by decide) ?_
    subst hQ
    have hP9 := hP
    have hD9 := hD
    exact W.iret (v := (-1)) hx hb hr (fun t ht hW => ⟨⟨(-1), (), rfl, h, by rw [ht]; exact hP9, va_K.moved hW.alike hK, hD9⟩, hS.F ht⟩) hS.2.2 d_LI_told_81
  · have h := And.right h c_4
    refine lv_iconst (v := (-1)) hx hb d_LI_told_7 (by decide) ?_
    subst hQ
    have hP9 := hP
    have hD9 := hD
    exact W.iret (v := (-1)) hx hb hr (fun t ht hW => ⟨⟨(-1), (), rfl, h, by rw [ht]; exact hP9, va_K.moved hW.alike hK, hD9⟩, hS.F ht⟩) hS.2.2 d_LI_told_8
def wp_LI_has (x1 : Int32) (x2 : Int32) (li_loopGiven : Int32) (lp_guesses : Int32) (lp_facts : Nat → Int32) (post : Int32 → Prop) : Prop :=
  (((li_loopGiven : Int32) = 0 → post (-1)) ∧ (¬ (li_loopGiven : Int32) = 0 → wp_LI_isState x1 (fun r_1 => (((r_1 : Int32) = 0 → post (-1)) ∧ (¬ (r_1 : Int32) = 0 → (((x2 : Int32) < 0 → post (-1)) ∧ (¬ (x2 : Int32) < 0 → wp_Loop_guesses lp_guesses (fun r_2 => (((x2 : Int32) < (4 + r_2 : Int32) → wp_Loop_hasAll x1 (1 <<< (x2 &&& 31)) lp_facts (fun r_3 => (((r_3 : Int32) = 0 → post 0) ∧ (¬ (r_3 : Int32) = 0 → post 1)))) ∧ (¬ (x2 : Int32) < (4 + r_2 : Int32) → post (-1)))))))))))
set_option maxHeartbeats 4000000 in
set_option maxRecDepth 100000 in
theorem c_LI_has (l : Launch) (dC : Nat → ClassId) (dI : Nat → Nat → Nat) (cI cB cZ : ClassId) (adK adV : Nat → Nat) (sz : Nat) (a_li a_tp a_tk a_cd a_ps a_lp a_rn a_gu a_fu a_lp_facts a_lp_turns a_lp_first a_lp_src a_s1 : Nat) (li_loopGiven : Int32) (li_faultPlace : Int32) (lp_choices : Int32) (lp_guesses : Int32) (lp_unaries : Int32) (lp_ranked : Int32) (lp_facts : Nat → Int32) (x1 : Int32) (x2 : Int32) (post : Int32 → Prop) (h : wp_LI_has x1 x2 li_loopGiven lp_guesses lp_facts post) : Met l y_LI_has w_LI_has ({ frames := 2, cells := 0, slots := 0, locals := 42 }) (pc_ (dC, dI) [(cI, .int), (cB, .byte), (cZ, .boolean)] [(a_li, .inr (0, [.ref a_tp, .ref a_tk, .ref a_cd, .ref a_ps, .ref a_lp, .ref a_rn, .ref a_gu, .ref a_fu, .int li_loopGiven, .int li_faultPlace])), (a_lp, .inr (4, [.ref a_lp_facts, .ref a_lp_turns, .ref a_lp_first, .ref a_lp_src, .ref a_s1, .int lp_choices, .int lp_guesses, .int lp_unaries, .int lp_ranked])), (a_lp_facts, .inl (cI, 4096, .inl lp_facts))] sz adK adV [.ref a_li, .int x1, .int x2]) (va_Qi (fun (r : Int32) (u : Unit) => post r ) (fun (u : Unit) t => bw_ (dC, dI) [(cI, .int), (cB, .byte), (cZ, .boolean)] (va_A [(a_li, .inr (0, [.ref a_tp, .ref a_tk, .ref a_cd, .ref a_ps, .ref a_lp, .ref a_rn, .ref a_gu, .ref a_fu, .int li_loopGiven, .int li_faultPlace])), (a_lp, .inr (4, [.ref a_lp_facts, .ref a_lp_turns, .ref a_lp_first, .ref a_lp_src, .ref a_s1, .int lp_choices, .int lp_guesses, .int lp_unaries, .int lp_ranked])), (a_lp_facts, .inl (cI, 4096, .inl lp_facts))] sz) [(a_li, .inr (0, [.ref a_tp, .ref a_tk, .ref a_cd, .ref a_ps, .ref a_lp, .ref a_rn, .ref a_gu, .ref a_fu, .int li_loopGiven, .int li_faultPlace])), (a_lp, .inr (4, [.ref a_lp_facts, .ref a_lp_turns, .ref a_lp_first, .ref a_lp_src, .ref a_s1, .int lp_choices, .int lp_guesses, .int lp_unaries, .int lp_ranked])), (a_lp_facts, .inl (cI, 4096, .inl lp_facts))] t) (va_A [(a_li, .inr (0, [.ref a_tp, .ref a_tk, .ref a_cd, .ref a_ps, .ref a_lp, .ref a_rn, .ref a_gu, .ref a_fu, .int li_loopGiven, .int li_faultPlace])), (a_lp, .inr (4, [.ref a_lp_facts, .ref a_lp_turns, .ref a_lp_first, .ref a_lp_src, .ref a_s1, .int lp_choices, .int lp_guesses, .int lp_unaries, .int lp_ranked])), (a_lp_facts, .inl (cI, 4096, .inl lp_facts))] sz)) 0 0 (va_A [(a_li, .inr (0, [.ref a_tp, .ref a_tk, .ref a_cd, .ref a_ps, .ref a_lp, .ref a_rn, .ref a_gu, .ref a_fu, .int li_loopGiven, .int li_faultPlace])), (a_lp, .inr (4, [.ref a_lp_facts, .ref a_lp_turns, .ref a_lp_first, .ref a_lp_src, .ref a_s1, .int lp_choices, .int lp_guesses, .int lp_unaries, .int lp_ranked])), (a_lp_facts, .inl (cI, 4096, .inl lp_facts))] sz) := by
  refine Met.ofW (cc := b_LI_has) (maxL := 3) (ret := (some .int)) (by decide) rfl ?_
  intro p e s m args below meth c s₁ B hml hv
  obtain ⟨rfl, hsz, hP, hK, hD0, hN, hT⟩ := hv
  have hx := B.exec
  have hb := B.bytes
  have hr := B.returns
  have hts := atoms_spec (ws := w_LI_has) B.pre
  have hown : s.vm.findClass "LoopInduction" = some m.cls := findClass_of_methodNamed B.named
  have hlocks := B.notSynchronized
  subst hsz
  have hD := hD0.self (sz := s.heap.size)
  generalize hAe : va_A [(a_li, .inr (0, [.ref a_tp, .ref a_tk, .ref a_cd, .ref a_ps, .ref a_lp, .ref a_rn, .ref a_gu, .ref a_fu, .int li_loopGiven, .int li_faultPlace])), (a_lp, .inr (4, [.ref a_lp_facts, .ref a_lp_turns, .ref a_lp_first, .ref a_lp_src, .ref a_s1, .int lp_choices, .int lp_guesses, .int lp_unaries, .int lp_ranked])), (a_lp_facts, .inl (cI, 4096, .inl lp_facts))] s.heap.size = A at hD hT ⊢
  have hA : ∀ q : Nat, s.heap.size ≤ q → A q := fun q h => by rw [← hAe]; exact Or.inr h
  have hS : va_S A s.heap s.heap [] := va_S.rf
  generalize hQ : MQ below _ _ s 0 0 _ = QQ
  have hl := lv_entry ([.ref a_li, .int x1, .int x2]) (n := 3) (Nat.le_of_ble_eq_true rfl)
  rw [lg_entry_eq]
  generalize (lg_sl ([.ref a_li, .int x1, .int x2]) ++ List.replicate (3 - (lg_sl ([.ref a_li, .int x1, .int x2])).length) Slot.unset).toArray = ls at hl ⊢
  have hl : lv_has ls 3 [(0, .ref a_li), (1, .int x1), (2, .int x2)] := hl
  have fl_49 := (hts _ (List.mem_cons_of_mem _ m_375))
  have fl_76 := (hts _ (List.mem_cons_of_mem _ m_379))
  refine lv_aload_n hx hb d_LI_has_0 rfl (lv_at hl 0 rfl) ?_
  refine va_get (D := (dC, dI)) (ci := 0) (v := .int li_loopGiven) (C := "LoopInduction") (T := F_LI) (N := 10) hx hb hts iC_LI hown hK hP 0 rfl rfl 8 (by decide) fl_76 (fun _ h9 => h9) rfl d_LI_has_1 ?_
  refine lv_if_eq (tgt := 31) hx hb d_LI_has_4 (by decide) (fun c_4 => ?_) (fun c_4 => ?_)
  · have h := And.left h c_4
    refine lv_iconst (v := (-1)) hx hb d_LI_has_31 (by decide) ?_
    subst hQ
    have hP9 := hP
    have hD9 := hD
    exact W.iret (v := (-1)) hx hb hr (fun t ht hW => ⟨⟨(-1), (), rfl, h, by rw [ht]; exact hP9, va_K.moved hW.alike hK, hD9⟩, hS.F ht⟩) hS.2.2 d_LI_has_32
  · have h := And.right h c_4
    refine lv_iload_n hx hb d_LI_has_7 rfl (lv_at hl 1 rfl) ?_
    refine jn_i (wr := [(a_li, .inr (0, [.ref a_tp, .ref a_tk, .ref a_cd, .ref a_ps, .ref a_lp, .ref a_rn, .ref a_gu, .ref a_fu, .int li_loopGiven, .int li_faultPlace])), (a_lp, .inr (4, [.ref a_lp_facts, .ref a_lp_turns, .ref a_lp_first, .ref a_lp_src, .ref a_s1, .int lp_choices, .int lp_guesses, .int lp_unaries, .int lp_ranked])), (a_lp_facts, .inl (cI, 4096, .inl lp_facts))]) (va_runS (As := [.int x1]) (rest := []) ⟨hx, hb, hml, hown, hts⟩ (c_LI_isState l dC dI cI cB cZ adK adV _ x1 _ h) (cwS 1 hts (gs_ m_908 m_761 m_85 m_762) rfl rfl rfl pd_LI_isState ⟨Nat.le_of_ble_eq_true rfl, Nat.le_of_ble_eq_true rfl⟩) ⟨pc_blind, pc_of (hP.sub [] rfl) hK (hD.sub [] (by decide) rfl) hN hT hS hA⟩ rfl rfl hl.1 rfl (lv_room (Nat.le_of_ble_eq_true rfl)) d_LI_has_8 ⟨Nat.zero_le _, Nat.zero_le _⟩) hP hD hS hA [] [0, 1, 2] rfl rfl (by decide) (by decide) (fun r_1 u_ H locs h hP hD hS => ?_)
    have hP : va_P (dC, dI) vwCl [(a_li, .inr (0, [.ref a_tp, .ref a_tk, .ref a_cd, .ref a_ps, .ref a_lp, .ref a_rn, .ref a_gu, .ref a_fu, .int li_loopGiven, .int li_faultPlace])), (a_lp, .inr (4, [.ref a_lp_facts, .ref a_lp_turns, .ref a_lp_first, .ref a_lp_src, .ref a_s1, .int lp_choices, .int lp_guesses, .int lp_unaries, .int lp_ranked])), (a_lp_facts, .inl (cI, 4096, .inl lp_facts))] H := hP
    have hD : va_D A [(a_li, .inr (0, [.ref a_tp, .ref a_tk, .ref a_cd, .ref a_ps, .ref a_lp, .ref a_rn, .ref a_gu, .ref a_fu, .int li_loopGiven, .int li_faultPlace])), (a_lp, .inr (4, [.ref a_lp_facts, .ref a_lp_turns, .ref a_lp_first, .ref a_lp_src, .ref a_s1, .int lp_choices, .int lp_guesses, .int lp_unaries, .int lp_ranked])), (a_lp_facts, .inl (cI, 4096, .inl lp_facts))] := hD
    refine lv_if_eq (tgt := 31) hx hb d_LI_has_11 (by decide) (fun c_11 => ?_) (fun c_11 => ?_)
    · have h := And.left h c_11
      refine lv_iconst (v := (-1)) hx hb d_LI_has_31 (by decide) ?_
      subst hQ
      have hP9 := hP
      have hD9 := hD
      exact W.iret (v := (-1)) hx hb hr (fun t ht hW => ⟨⟨(-1), (), rfl, h, by rw [ht]; exact hP9, va_K.moved hW.alike hK, hD9⟩, hS.F ht⟩) hS.2.2 d_LI_has_32
    · have h := And.right h c_11
      refine lv_iload_n hx hb d_LI_has_14 rfl (lv_at hl 2 rfl) ?_
      refine lv_if_lt (tgt := 31) hx hb d_LI_has_15 (by decide) (fun c_15 => ?_) (fun c_15 => ?_)
      · have h := And.left h c_15
        refine lv_iconst (v := (-1)) hx hb d_LI_has_31 (by decide) ?_
        subst hQ
        have hP9 := hP
        have hD9 := hD
        exact W.iret (v := (-1)) hx hb hr (fun t ht hW => ⟨⟨(-1), (), rfl, h, by rw [ht]; exact hP9, va_K.moved hW.alike hK, hD9⟩, hS.F ht⟩) hS.2.2 d_LI_has_32
      · have h := And.right h c_15
        refine lv_iload_n hx hb d_LI_has_18 rfl (lv_at hl 2 rfl) ?_
        refine lv_iconst (v := 4) hx hb d_LI_has_19 (by decide) ?_
        refine lv_aload_n hx hb d_LI_has_20 rfl (lv_at hl 0 rfl) ?_
        refine va_get (D := (dC, dI)) (ci := 0) (v := .ref a_lp) (C := "LoopInduction") (T := F_LI) (N := 10) hx hb hts iC_LI hown hK hP 0 rfl rfl 4 (by decide) fl_49 (fun _ h9 => h9) rfl d_LI_has_21 ?_
        refine jn_i (wr := [(a_li, .inr (0, [.ref a_tp, .ref a_tk, .ref a_cd, .ref a_ps, .ref a_lp, .ref a_rn, .ref a_gu, .ref a_fu, .int li_loopGiven, .int li_faultPlace])), (a_lp_facts, .inl (cI, 4096, .inl lp_facts))]) (va_runV (As := []) (rest := [.int 4, .int x2]) ⟨hx, hb, hml, hown, hts⟩ (c_Loop_guesses l dC dI cI cB cZ adK adV _ a_lp a_lp_facts a_lp_turns a_lp_first a_lp_src a_s1 lp_choices lp_guesses lp_unaries lp_ranked _ h) (cwV 0 hts (gv_ m_895 m_856 m_857 m_92 m_858) rfl rfl rfl pd_Loop_guesses ⟨Nat.le_of_ble_eq_true rfl, Nat.le_of_ble_eq_true rfl⟩) ⟨pc_blind, va_recv hK hP (ci := 4) (q0 := 1) rfl rfl, pc_of (hP.sub [1] rfl) hK (hD.sub [1] (by decide) rfl) hN hT hS hA⟩ rfl rfl hl.1 rfl (lv_room (Nat.le_of_ble_eq_true rfl)) d_LI_has_24 ⟨Nat.zero_le _, Nat.zero_le _⟩) hP hD hS hA [1] [0, 2] rfl rfl (by decide) (by decide) (fun r_2 u_ H locs h hP hD hS => ?_)
        have hP : va_P (dC, dI) vwCl [(a_li, .inr (0, [.ref a_tp, .ref a_tk, .ref a_cd, .ref a_ps, .ref a_lp, .ref a_rn, .ref a_gu, .ref a_fu, .int li_loopGiven, .int li_faultPlace])), (a_lp_facts, .inl (cI, 4096, .inl lp_facts)), (a_lp, .inr (4, [.ref a_lp_facts, .ref a_lp_turns, .ref a_lp_first, .ref a_lp_src, .ref a_s1, .int lp_choices, .int lp_guesses, .int lp_unaries, .int lp_ranked]))] H := hP
        have hD : va_D A [(a_li, .inr (0, [.ref a_tp, .ref a_tk, .ref a_cd, .ref a_ps, .ref a_lp, .ref a_rn, .ref a_gu, .ref a_fu, .int li_loopGiven, .int li_faultPlace])), (a_lp_facts, .inl (cI, 4096, .inl lp_facts)), (a_lp, .inr (4, [.ref a_lp_facts, .ref a_lp_turns, .ref a_lp_first, .ref a_lp_src, .ref a_s1, .int lp_choices, .int lp_guesses, .int lp_unaries, .int lp_ranked]))] := hD
        refine lv_iadd hx hb d_LI_has_27 ?_
        refine lv_icmp_lt (tgt := 33) hx hb d_LI_has_28 (by decide) (fun c_28 => ?_) (fun c_28 => ?_)
        · have h := And.left h c_28
          refine lv_aload_n hx hb d_LI_has_33 rfl (lv_at hl 0 rfl) ?_
          refine va_get (D := (dC, dI)) (ci := 0) (v := .ref a_lp) (C := "LoopInduction") (T := F_LI) (N := 10) hx hb hts iC_LI hown hK hP 0 rfl rfl 4 (by decide) fl_49 (fun _ h9 => h9) rfl d_LI_has_34 ?_
          refine lv_iload_n hx hb d_LI_has_37 rfl (lv_at hl 1 rfl) ?_
          refine lv_iconst (v := 1) hx hb d_LI_has_38 (by decide) ?_
          refine lv_iload_n hx hb d_LI_has_39 rfl (lv_at hl 2 rfl) ?_
          refine lv_ishl hx hb d_LI_has_40 ?_
          refine jn_i (wr := [(a_li, .inr (0, [.ref a_tp, .ref a_tk, .ref a_cd, .ref a_ps, .ref a_lp, .ref a_rn, .ref a_gu, .ref a_fu, .int li_loopGiven, .int li_faultPlace]))]) (va_runV (As := [.int x1, .int (1 <<< (x2 &&& 31))]) (rest := []) ⟨hx, hb, hml, hown, hts⟩ (c_Loop_hasAll l dC dI cI cB cZ adK adV _ a_lp a_lp_facts a_lp_turns a_lp_first a_lp_src a_s1 lp_choices lp_guesses lp_unaries lp_ranked lp_facts x1 (1 <<< (x2 &&& 31)) _ h) (cwV 2 hts (gv_ m_909 m_785 m_786 m_92 m_787) rfl rfl rfl pd_Loop_hasAll ⟨Nat.le_of_ble_eq_true rfl, Nat.le_of_ble_eq_true rfl⟩) ⟨pc_blind, va_recv hK hP (ci := 4) (q0 := 2) rfl rfl, pc_of (hP.sub [2, 1] rfl) hK (hD.sub [2, 1] (by decide) rfl) hN hT hS hA⟩ rfl rfl hl.1 rfl (lv_room (Nat.le_of_ble_eq_true rfl)) d_LI_has_41 ⟨Nat.zero_le _, Nat.zero_le _⟩) hP hD hS hA [2, 1] [0] rfl rfl (by decide) (by decide) (fun r_3 u_ H locs h hP hD hS => ?_)
          have hP : va_P (dC, dI) vwCl [(a_li, .inr (0, [.ref a_tp, .ref a_tk, .ref a_cd, .ref a_ps, .ref a_lp, .ref a_rn, .ref a_gu, .ref a_fu, .int li_loopGiven, .int li_faultPlace])), (a_lp, .inr (4, [.ref a_lp_facts, .ref a_lp_turns, .ref a_lp_first, .ref a_lp_src, .ref a_s1, .int lp_choices, .int lp_guesses, .int lp_unaries, .int lp_ranked])), (a_lp_facts, .inl (cI, 4096, .inl lp_facts))] H := hP
          have hD : va_D A [(a_li, .inr (0, [.ref a_tp, .ref a_tk, .ref a_cd, .ref a_ps, .ref a_lp, .ref a_rn, .ref a_gu, .ref a_fu, .int li_loopGiven, .int li_faultPlace])), (a_lp, .inr (4, [.ref a_lp_facts, .ref a_lp_turns, .ref a_lp_first, .ref a_lp_src, .ref a_s1, .int lp_choices, .int lp_guesses, .int lp_unaries, .int lp_ranked])), (a_lp_facts, .inl (cI, 4096, .inl lp_facts))] := hD
          refine lv_if_eq (tgt := 51) hx hb d_LI_has_44 (by decide) (fun c_44 => ?_) (fun c_44 => ?_)
          · have h := And.left h c_44
            refine lv_iconst (v := 0) hx hb d_LI_has_51 (by decide) ?_
            subst hQ
            have hP9 := hP
            have hD9 := hD
            exact W.iret (v := 0) hx hb hr (fun t ht hW => ⟨⟨0, (), rfl, h, by rw [ht]; exact hP9, va_K.moved hW.alike hK, hD9⟩, hS.F ht⟩) hS.2.2 d_LI_has_52
          · have h := And.right h c_44
            refine lv_iconst (v := 1) hx hb d_LI_has_47 (by decide) ?_
            refine lv_goto (tgt := 52) hx hb d_LI_has_48 (by decide) ?_
            subst hQ
            have hP9 := hP
            have hD9 := hD
            exact W.iret (v := 1) hx hb hr (fun t ht hW => ⟨⟨1, (), rfl, h, by rw [ht]; exact hP9, va_K.moved hW.alike hK, hD9⟩, hS.F ht⟩) hS.2.2 d_LI_has_52
        · have h := And.right h c_28
          refine lv_iconst (v := (-1)) hx hb d_LI_has_31 (by decide) ?_
          subst hQ
          have hP9 := hP.sub (ws' := [(a_li, .inr (0, [.ref a_tp, .ref a_tk, .ref a_cd, .ref a_ps, .ref a_lp, .ref a_rn, .ref a_gu, .ref a_fu, .int li_loopGiven, .int li_faultPlace])), (a_lp, .inr (4, [.ref a_lp_facts, .ref a_lp_turns, .ref a_lp_first, .ref a_lp_src, .ref a_s1, .int lp_choices, .int lp_guesses, .int lp_unaries, .int lp_ranked])), (a_lp_facts, .inl (cI, 4096, .inl lp_facts))]) [0, 2, 1] rfl
          have hD9 := hD.sub (ws' := [(a_li, .inr (0, [.ref a_tp, .ref a_tk, .ref a_cd, .ref a_ps, .ref a_lp, .ref a_rn, .ref a_gu, .ref a_fu, .int li_loopGiven, .int li_faultPlace])), (a_lp, .inr (4, [.ref a_lp_facts, .ref a_lp_turns, .ref a_lp_first, .ref a_lp_src, .ref a_s1, .int lp_choices, .int lp_guesses, .int lp_unaries, .int lp_ranked])), (a_lp_facts, .inl (cI, 4096, .inl lp_facts))]) [0, 2, 1] (by decide) rfl
          exact W.iret (v := (-1)) hx hb hr (fun t ht hW => ⟨⟨(-1), (), rfl, h, by rw [ht]; exact hP9, va_K.moved hW.alike hK, hD9⟩, hS.F ht⟩) hS.2.2 d_LI_has_32
def wp_LI_next (x1 : Int32) (x2 : Int32) (li_loopGiven : Int32) (lp_choices : Int32) (lp_turns : Nat → Int32) (post : Int32 → Prop) : Prop :=
  (((li_loopGiven : Int32) = 0 → post (-1)) ∧ (¬ (li_loopGiven : Int32) = 0 → wp_Loop_turn x1 x2 lp_choices lp_turns (fun r_1 => post r_1)))
set_option maxHeartbeats 4000000 in
set_option maxRecDepth 100000 in
theorem c_LI_next (l : Launch) (dC : Nat → ClassId) (dI : Nat → Nat → Nat) (cI cB cZ : ClassId) (adK adV : Nat → Nat) (sz : Nat) (a_li a_tp a_tk a_cd a_ps a_lp a_rn a_gu a_fu a_lp_facts a_lp_turns a_lp_first a_lp_src a_s1 : Nat) (li_loopGiven : Int32) (li_faultPlace : Int32) (lp_choices : Int32) (lp_guesses : Int32) (lp_unaries : Int32) (lp_ranked : Int32) (lp_turns : Nat → Int32) (x1 : Int32) (x2 : Int32) (post : Int32 → Prop) (h : wp_LI_next x1 x2 li_loopGiven lp_choices lp_turns post) : Met l y_LI_next w_LI_next ({ frames := 2, cells := 0, slots := 0, locals := 42 }) (pc_ (dC, dI) [(cI, .int), (cB, .byte), (cZ, .boolean)] [(a_li, .inr (0, [.ref a_tp, .ref a_tk, .ref a_cd, .ref a_ps, .ref a_lp, .ref a_rn, .ref a_gu, .ref a_fu, .int li_loopGiven, .int li_faultPlace])), (a_lp, .inr (4, [.ref a_lp_facts, .ref a_lp_turns, .ref a_lp_first, .ref a_lp_src, .ref a_s1, .int lp_choices, .int lp_guesses, .int lp_unaries, .int lp_ranked])), (a_lp_turns, .inl (cI, 24576, .inl lp_turns))] sz adK adV [.ref a_li, .int x1, .int x2]) (va_Qi (fun (r : Int32) (u : Unit) => post r ) (fun (u : Unit) t => bw_ (dC, dI) [(cI, .int), (cB, .byte), (cZ, .boolean)] (va_A [(a_li, .inr (0, [.ref a_tp, .ref a_tk, .ref a_cd, .ref a_ps, .ref a_lp, .ref a_rn, .ref a_gu, .ref a_fu, .int li_loopGiven, .int li_faultPlace])), (a_lp, .inr (4, [.ref a_lp_facts, .ref a_lp_turns, .ref a_lp_first, .ref a_lp_src, .ref a_s1, .int lp_choices, .int lp_guesses, .int lp_unaries, .int lp_ranked])), (a_lp_turns, .inl (cI, 24576, .inl lp_turns))] sz) [(a_li, .inr (0, [.ref a_tp, .ref a_tk, .ref a_cd, .ref a_ps, .ref a_lp, .ref a_rn, .ref a_gu, .ref a_fu, .int li_loopGiven, .int li_faultPlace])), (a_lp, .inr (4, [.ref a_lp_facts, .ref a_lp_turns, .ref a_lp_first, .ref a_lp_src, .ref a_s1, .int lp_choices, .int lp_guesses, .int lp_unaries, .int lp_ranked])), (a_lp_turns, .inl (cI, 24576, .inl lp_turns))] t) (va_A [(a_li, .inr (0, [.ref a_tp, .ref a_tk, .ref a_cd, .ref a_ps, .ref a_lp, .ref a_rn, .ref a_gu, .ref a_fu, .int li_loopGiven, .int li_faultPlace])), (a_lp, .inr (4, [.ref a_lp_facts, .ref a_lp_turns, .ref a_lp_first, .ref a_lp_src, .ref a_s1, .int lp_choices, .int lp_guesses, .int lp_unaries, .int lp_ranked])), (a_lp_turns, .inl (cI, 24576, .inl lp_turns))] sz)) 0 0 (va_A [(a_li, .inr (0, [.ref a_tp, .ref a_tk, .ref a_cd, .ref a_ps, .ref a_lp, .ref a_rn, .ref a_gu, .ref a_fu, .int li_loopGiven, .int li_faultPlace])), (a_lp, .inr (4, [.ref a_lp_facts, .ref a_lp_turns, .ref a_lp_first, .ref a_lp_src, .ref a_s1, .int lp_choices, .int lp_guesses, .int lp_unaries, .int lp_ranked])), (a_lp_turns, .inl (cI, 24576, .inl lp_turns))] sz) := by
  refine Met.ofW (cc := b_LI_next) (maxL := 3) (ret := (some .int)) (by decide) rfl ?_
  intro p e s m args below meth c s₁ B hml hv
  obtain ⟨rfl, hsz, hP, hK, hD0, hN, hT⟩ := hv
  have hx := B.exec
  have hb := B.bytes
  have hr := B.returns
  have hts := atoms_spec (ws := w_LI_next) B.pre
  have hown : s.vm.findClass "LoopInduction" = some m.cls := findClass_of_methodNamed B.named
  have hlocks := B.notSynchronized
  subst hsz
  have hD := hD0.self (sz := s.heap.size)
  generalize hAe : va_A [(a_li, .inr (0, [.ref a_tp, .ref a_tk, .ref a_cd, .ref a_ps, .ref a_lp, .ref a_rn, .ref a_gu, .ref a_fu, .int li_loopGiven, .int li_faultPlace])), (a_lp, .inr (4, [.ref a_lp_facts, .ref a_lp_turns, .ref a_lp_first, .ref a_lp_src, .ref a_s1, .int lp_choices, .int lp_guesses, .int lp_unaries, .int lp_ranked])), (a_lp_turns, .inl (cI, 24576, .inl lp_turns))] s.heap.size = A at hD hT ⊢
  have hA : ∀ q : Nat, s.heap.size ≤ q → A q := fun q h => by rw [← hAe]; exact Or.inr h
  have hS : va_S A s.heap s.heap [] := va_S.rf
  generalize hQ : MQ below _ _ s 0 0 _ = QQ
  have hl := lv_entry ([.ref a_li, .int x1, .int x2]) (n := 3) (Nat.le_of_ble_eq_true rfl)
  rw [lg_entry_eq]
  generalize (lg_sl ([.ref a_li, .int x1, .int x2]) ++ List.replicate (3 - (lg_sl ([.ref a_li, .int x1, .int x2])).length) Slot.unset).toArray = ls at hl ⊢
  have hl : lv_has ls 3 [(0, .ref a_li), (1, .int x1), (2, .int x2)] := hl
  have fl_49 := (hts _ (List.mem_cons_of_mem _ m_375))
  have fl_76 := (hts _ (List.mem_cons_of_mem _ m_379))
  refine lv_aload_n hx hb d_LI_next_0 rfl (lv_at hl 0 rfl) ?_
  refine va_get (D := (dC, dI)) (ci := 0) (v := .int li_loopGiven) (C := "LoopInduction") (T := F_LI) (N := 10) hx hb hts iC_LI hown hK hP 0 rfl rfl 8 (by decide) fl_76 (fun _ h9 => h9) rfl d_LI_next_1 ?_
  refine lv_if_eq (tgt := 19) hx hb d_LI_next_4 (by decide) (fun c_4 => ?_) (fun c_4 => ?_)
  · have h := And.left h c_4
    refine lv_iconst (v := (-1)) hx hb d_LI_next_19 (by decide) ?_
    subst hQ
    have hP9 := hP
    have hD9 := hD
    exact W.iret (v := (-1)) hx hb hr (fun t ht hW => ⟨⟨(-1), (), rfl, h, by rw [ht]; exact hP9, va_K.moved hW.alike hK, hD9⟩, hS.F ht⟩) hS.2.2 d_LI_next_20
  · have h := And.right h c_4
    refine lv_aload_n hx hb d_LI_next_7 rfl (lv_at hl 0 rfl) ?_
    refine va_get (D := (dC, dI)) (ci := 0) (v := .ref a_lp) (C := "LoopInduction") (T := F_LI) (N := 10) hx hb hts iC_LI hown hK hP 0 rfl rfl 4 (by decide) fl_49 (fun _ h9 => h9) rfl d_LI_next_8 ?_
    refine lv_iload_n hx hb d_LI_next_11 rfl (lv_at hl 1 rfl) ?_
    refine lv_iload_n hx hb d_LI_next_12 rfl (lv_at hl 2 rfl) ?_
    refine jn_i (wr := [(a_li, .inr (0, [.ref a_tp, .ref a_tk, .ref a_cd, .ref a_ps, .ref a_lp, .ref a_rn, .ref a_gu, .ref a_fu, .int li_loopGiven, .int li_faultPlace]))]) (va_runV (As := [.int x1, .int x2]) (rest := []) ⟨hx, hb, hml, hown, hts⟩ (c_Loop_turn l dC dI cI cB cZ adK adV _ a_lp a_lp_facts a_lp_turns a_lp_first a_lp_src a_s1 lp_choices lp_guesses lp_unaries lp_ranked lp_turns x1 x2 _ h) (cwV 2 hts (gv_ m_914 m_757 m_758 m_92 m_759) rfl rfl rfl pd_Loop_turn ⟨Nat.le_of_ble_eq_true rfl, Nat.le_of_ble_eq_true rfl⟩) ⟨pc_blind, va_recv hK hP (ci := 4) (q0 := 1) rfl rfl, pc_of (hP.sub [1, 2] rfl) hK (hD.sub [1, 2] (by decide) rfl) hN hT hS hA⟩ rfl rfl hl.1 rfl (lv_room (Nat.le_of_ble_eq_true rfl)) d_LI_next_13 ⟨Nat.zero_le _, Nat.zero_le _⟩) hP hD hS hA [1, 2] [0] rfl rfl (by decide) (by decide) (fun r_1 u_ H locs h hP hD hS => ?_)
    have hP : va_P (dC, dI) vwCl [(a_li, .inr (0, [.ref a_tp, .ref a_tk, .ref a_cd, .ref a_ps, .ref a_lp, .ref a_rn, .ref a_gu, .ref a_fu, .int li_loopGiven, .int li_faultPlace])), (a_lp, .inr (4, [.ref a_lp_facts, .ref a_lp_turns, .ref a_lp_first, .ref a_lp_src, .ref a_s1, .int lp_choices, .int lp_guesses, .int lp_unaries, .int lp_ranked])), (a_lp_turns, .inl (cI, 24576, .inl lp_turns))] H := hP
    have hD : va_D A [(a_li, .inr (0, [.ref a_tp, .ref a_tk, .ref a_cd, .ref a_ps, .ref a_lp, .ref a_rn, .ref a_gu, .ref a_fu, .int li_loopGiven, .int li_faultPlace])), (a_lp, .inr (4, [.ref a_lp_facts, .ref a_lp_turns, .ref a_lp_first, .ref a_lp_src, .ref a_s1, .int lp_choices, .int lp_guesses, .int lp_unaries, .int lp_ranked])), (a_lp_turns, .inl (cI, 24576, .inl lp_turns))] := hD
    refine lv_goto (tgt := 20) hx hb d_LI_next_16 (by decide) ?_
    subst hQ
    have hP9 := hP
    have hD9 := hD
    exact W.iret (v := r_1) hx hb hr (fun t ht hW => ⟨⟨r_1, (), rfl, h, by rw [ht]; exact hP9, va_K.moved hW.alike hK, hD9⟩, hS.F ht⟩) hS.2.2 d_LI_next_20
def wp_LI_rank (x1 : Int32) (li_loopGiven : Int32) (lp_ranked : Int32) (lp_facts : Nat → Int32) (post : Int32 → Prop) : Prop :=
  (((li_loopGiven : Int32) = 0 → post (-1)) ∧ (¬ (li_loopGiven : Int32) = 0 → wp_Loop_isRanked lp_ranked (fun r_1 => (((r_1 : Int32) = 0 → post (-1)) ∧ (¬ (r_1 : Int32) = 0 → wp_LI_isState x1 (fun r_2 => ((¬ (r_2 : Int32) = 0 → wp_Loop_rankOf x1 lp_facts (fun r_3 => post r_3)) ∧ ((r_2 : Int32) = 0 → post (-1)))))))))
set_option maxHeartbeats 4000000 in
set_option maxRecDepth 100000 in
theorem c_LI_rank (l : Launch) (dC : Nat → ClassId) (dI : Nat → Nat → Nat) (cI cB cZ : ClassId) (adK adV : Nat → Nat) (sz : Nat) (a_li a_tp a_tk a_cd a_ps a_lp a_rn a_gu a_fu a_lp_facts a_lp_turns a_lp_first a_lp_src a_s1 : Nat) (li_loopGiven : Int32) (li_faultPlace : Int32) (lp_choices : Int32) (lp_guesses : Int32) (lp_unaries : Int32) (lp_ranked : Int32) (lp_facts : Nat → Int32) (x1 : Int32) (post : Int32 → Prop) (h : wp_LI_rank x1 li_loopGiven lp_ranked lp_facts post) : Met l y_LI_rank w_LI_rank ({ frames := 2, cells := 0, slots := 0, locals := 41 }) (pc_ (dC, dI) [(cI, .int), (cB, .byte), (cZ, .boolean)] [(a_li, .inr (0, [.ref a_tp, .ref a_tk, .ref a_cd, .ref a_ps, .ref a_lp, .ref a_rn, .ref a_gu, .ref a_fu, .int li_loopGiven, .int li_faultPlace])), (a_lp, .inr (4, [.ref a_lp_facts, .ref a_lp_turns, .ref a_lp_first, .ref a_lp_src, .ref a_s1, .int lp_choices, .int lp_guesses, .int lp_unaries, .int lp_ranked])), (a_lp_facts, .inl (cI, 4096, .inl lp_facts))] sz adK adV [.ref a_li, .int x1]) (va_Qi (fun (r : Int32) (u : Unit) => post r ) (fun (u : Unit) t => bw_ (dC, dI) [(cI, .int), (cB, .byte), (cZ, .boolean)] (va_A [(a_li, .inr (0, [.ref a_tp, .ref a_tk, .ref a_cd, .ref a_ps, .ref a_lp, .ref a_rn, .ref a_gu, .ref a_fu, .int li_loopGiven, .int li_faultPlace])), (a_lp, .inr (4, [.ref a_lp_facts, .ref a_lp_turns, .ref a_lp_first, .ref a_lp_src, .ref a_s1, .int lp_choices, .int lp_guesses, .int lp_unaries, .int lp_ranked])), (a_lp_facts, .inl (cI, 4096, .inl lp_facts))] sz) [(a_li, .inr (0, [.ref a_tp, .ref a_tk, .ref a_cd, .ref a_ps, .ref a_lp, .ref a_rn, .ref a_gu, .ref a_fu, .int li_loopGiven, .int li_faultPlace])), (a_lp, .inr (4, [.ref a_lp_facts, .ref a_lp_turns, .ref a_lp_first, .ref a_lp_src, .ref a_s1, .int lp_choices, .int lp_guesses, .int lp_unaries, .int lp_ranked])), (a_lp_facts, .inl (cI, 4096, .inl lp_facts))] t) (va_A [(a_li, .inr (0, [.ref a_tp, .ref a_tk, .ref a_cd, .ref a_ps, .ref a_lp, .ref a_rn, .ref a_gu, .ref a_fu, .int li_loopGiven, .int li_faultPlace])), (a_lp, .inr (4, [.ref a_lp_facts, .ref a_lp_turns, .ref a_lp_first, .ref a_lp_src, .ref a_s1, .int lp_choices, .int lp_guesses, .int lp_unaries, .int lp_ranked])), (a_lp_facts, .inl (cI, 4096, .inl lp_facts))] sz)) 0 0 (va_A [(a_li, .inr (0, [.ref a_tp, .ref a_tk, .ref a_cd, .ref a_ps, .ref a_lp, .ref a_rn, .ref a_gu, .ref a_fu, .int li_loopGiven, .int li_faultPlace])), (a_lp, .inr (4, [.ref a_lp_facts, .ref a_lp_turns, .ref a_lp_first, .ref a_lp_src, .ref a_s1, .int lp_choices, .int lp_guesses, .int lp_unaries, .int lp_ranked])), (a_lp_facts, .inl (cI, 4096, .inl lp_facts))] sz) := by
  refine Met.ofW (cc := b_LI_rank) (maxL := 2) (ret := (some .int)) (by decide) rfl ?_
  intro p e s m args below meth c s₁ B hml hv
  obtain ⟨rfl, hsz, hP, hK, hD0, hN, hT⟩ := hv
  have hx := B.exec
  have hb := B.bytes
  have hr := B.returns
  have hts := atoms_spec (ws := w_LI_rank) B.pre
  have hown : s.vm.findClass "LoopInduction" = some m.cls := findClass_of_methodNamed B.named
  have hlocks := B.notSynchronized
  subst hsz
  have hD := hD0.self (sz := s.heap.size)
  generalize hAe : va_A [(a_li, .inr (0, [.ref a_tp, .ref a_tk, .ref a_cd, .ref a_ps, .ref a_lp, .ref a_rn, .ref a_gu, .ref a_fu, .int li_loopGiven, .int li_faultPlace])), (a_lp, .inr (4, [.ref a_lp_facts, .ref a_lp_turns, .ref a_lp_first, .ref a_lp_src, .ref a_s1, .int lp_choices, .int lp_guesses, .int lp_unaries, .int lp_ranked])), (a_lp_facts, .inl (cI, 4096, .inl lp_facts))] s.heap.size = A at hD hT ⊢
  have hA : ∀ q : Nat, s.heap.size ≤ q → A q := fun q h => by rw [← hAe]; exact Or.inr h
  have hS : va_S A s.heap s.heap [] := va_S.rf
  generalize hQ : MQ below _ _ s 0 0 _ = QQ
  have hl := lv_entry ([.ref a_li, .int x1]) (n := 2) (Nat.le_of_ble_eq_true rfl)
  rw [lg_entry_eq]
  generalize (lg_sl ([.ref a_li, .int x1]) ++ List.replicate (2 - (lg_sl ([.ref a_li, .int x1])).length) Slot.unset).toArray = ls at hl ⊢
  have hl : lv_has ls 2 [(0, .ref a_li), (1, .int x1)] := hl
  have fl_49 := (hts _ (List.mem_cons_of_mem _ m_375))
  have fl_76 := (hts _ (List.mem_cons_of_mem _ m_379))
  refine lv_aload_n hx hb d_LI_rank_0 rfl (lv_at hl 0 rfl) ?_
  refine va_get (D := (dC, dI)) (ci := 0) (v := .int li_loopGiven) (C := "LoopInduction") (T := F_LI) (N := 10) hx hb hts iC_LI hown hK hP 0 rfl rfl 8 (by decide) fl_76 (fun _ h9 => h9) rfl d_LI_rank_1 ?_
  refine lv_if_eq (tgt := 24) hx hb d_LI_rank_4 (by decide) (fun c_4 => ?_) (fun c_4 => ?_)
  · have h := And.left h c_4
    refine lv_iconst (v := (-1)) hx hb d_LI_rank_24 (by decide) ?_
    subst hQ
    have hP9 := hP
    have hD9 := hD
    exact W.iret (v := (-1)) hx hb hr (fun t ht hW => ⟨⟨(-1), (), rfl, h, by rw [ht]; exact hP9, va_K.moved hW.alike hK, hD9⟩, hS.F ht⟩) hS.2.2 d_LI_rank_25
  · have h := And.right h c_4
    refine lv_aload_n hx hb d_LI_rank_7 rfl (lv_at hl 0 rfl) ?_
    refine va_get (D := (dC, dI)) (ci := 0) (v := .ref a_lp) (C := "LoopInduction") (T := F_LI) (N := 10) hx hb hts iC_LI hown hK hP 0 rfl rfl 4 (by decide) fl_49 (fun _ h9 => h9) rfl d_LI_rank_8 ?_
    refine jn_i (wr := [(a_li, .inr (0, [.ref a_tp, .ref a_tk, .ref a_cd, .ref a_ps, .ref a_lp, .ref a_rn, .ref a_gu, .ref a_fu, .int li_loopGiven, .int li_faultPlace])), (a_lp_facts, .inl (cI, 4096, .inl lp_facts))]) (va_runV (As := []) (rest := []) ⟨hx, hb, hml, hown, hts⟩ (c_Loop_isRanked l dC dI cI cB cZ adK adV _ a_lp a_lp_facts a_lp_turns a_lp_first a_lp_src a_s1 lp_choices lp_guesses lp_unaries lp_ranked _ h) (cwV 0 hts (gv_ m_900 m_901 m_902 m_92 m_903) rfl rfl rfl pd_Loop_isRanked ⟨Nat.le_of_ble_eq_true rfl, Nat.le_of_ble_eq_true rfl⟩) ⟨pc_blind, va_recv hK hP (ci := 4) (q0 := 1) rfl rfl, pc_of (hP.sub [1] rfl) hK (hD.sub [1] (by decide) rfl) hN hT hS hA⟩ rfl rfl hl.1 rfl (lv_room (Nat.le_of_ble_eq_true rfl)) d_LI_rank_11 ⟨Nat.zero_le _, Nat.zero_le _⟩) hP hD hS hA [1] [0, 2] rfl rfl (by decide) (by decide) (fun r_1 u_ H locs h hP hD hS => ?_)
    have hP : va_P (dC, dI) vwCl [(a_li, .inr (0, [.ref a_tp, .ref a_tk, .ref a_cd, .ref a_ps, .ref a_lp, .ref a_rn, .ref a_gu, .ref a_fu, .int li_loopGiven, .int li_faultPlace])), (a_lp_facts, .inl (cI, 4096, .inl lp_facts)), (a_lp, .inr (4, [.ref a_lp_facts, .ref a_lp_turns, .ref a_lp_first, .ref a_lp_src, .ref a_s1, .int lp_choices, .int lp_guesses, .int lp_unaries, .int lp_ranked]))] H := hP
    have hD : va_D A [(a_li, .inr (0, [.ref a_tp, .ref a_tk, .ref a_cd, .ref a_ps, .ref a_lp, .ref a_rn, .ref a_gu, .ref a_fu, .int li_loopGiven, .int li_faultPlace])), (a_lp_facts, .inl (cI, 4096, .inl lp_facts)), (a_lp, .inr (4, [.ref a_lp_facts, .ref a_lp_turns, .ref a_lp_first, .ref a_lp_src, .ref a_s1, .int lp_choices, .int lp_guesses, .int lp_unaries, .int lp_ranked]))] := hD
    refine lv_if_eq (tgt := 24) hx hb d_LI_rank_14 (by decide) (fun c_14 => ?_) (fun c_14 => ?_)
    · have h := And.left h c_14
      refine lv_iconst (v := (-1)) hx hb d_LI_rank_24 (by decide) ?_
      subst hQ
      have hP9 := hP.sub (ws' := [(a_li, .inr (0, [.ref a_tp, .ref a_tk, .ref a_cd, .ref a_ps, .ref a_lp, .ref a_rn, .ref a_gu, .ref a_fu, .int li_loopGiven, .int li_faultPlace])), (a_lp, .inr (4, [.ref a_lp_facts, .ref a_lp_turns, .ref a_lp_first, .ref a_lp_src, .ref a_s1, .int lp_choices, .int lp_guesses, .int lp_unaries, .int lp_ranked])), (a_lp_facts, .inl (cI, 4096, .inl lp_facts))]) [0, 2, 1] rfl
      have hD9 := hD.sub (ws' := [(a_li, .inr (0, [.ref a_tp, .ref a_tk, .ref a_cd, .ref a_ps, .ref a_lp, .ref a_rn, .ref a_gu, .ref a_fu, .int li_loopGiven, .int li_faultPlace])), (a_lp, .inr (4, [.ref a_lp_facts, .ref a_lp_turns, .ref a_lp_first, .ref a_lp_src, .ref a_s1, .int lp_choices, .int lp_guesses, .int lp_unaries, .int lp_ranked])), (a_lp_facts, .inl (cI, 4096, .inl lp_facts))]) [0, 2, 1] (by decide) rfl
      exact W.iret (v := (-1)) hx hb hr (fun t ht hW => ⟨⟨(-1), (), rfl, h, by rw [ht]; exact hP9, va_K.moved hW.alike hK, hD9⟩, hS.F ht⟩) hS.2.2 d_LI_rank_25
    · have h := And.right h c_14
      refine lv_iload_n hx hb d_LI_rank_17 rfl (lv_at hl 1 rfl) ?_
      refine jn_i (wr := [(a_li, .inr (0, [.ref a_tp, .ref a_tk, .ref a_cd, .ref a_ps, .ref a_lp, .ref a_rn, .ref a_gu, .ref a_fu, .int li_loopGiven, .int li_faultPlace])), (a_lp_facts, .inl (cI, 4096, .inl lp_facts)), (a_lp, .inr (4, [.ref a_lp_facts, .ref a_lp_turns, .ref a_lp_first, .ref a_lp_src, .ref a_s1, .int lp_choices, .int lp_guesses, .int lp_unaries, .int lp_ranked]))]) (va_runS (As := [.int x1]) (rest := []) ⟨hx, hb, hml, hown, hts⟩ (c_LI_isState l dC dI cI cB cZ adK adV _ x1 _ h) (cwS 1 hts (gs_ m_908 m_761 m_85 m_762) rfl rfl rfl pd_LI_isState ⟨Nat.le_of_ble_eq_true rfl, Nat.le_of_ble_eq_true rfl⟩) ⟨pc_blind, pc_of (hP.sub [] rfl) hK (hD.sub [] (by decide) rfl) hN hT hS hA⟩ rfl rfl hl.1 rfl (lv_room (Nat.le_of_ble_eq_true rfl)) d_LI_rank_18 ⟨Nat.zero_le _, Nat.zero_le _⟩) hP hD hS hA [] [0, 1, 2] rfl rfl (by decide) (by decide) (fun r_2 u_ H locs h hP hD hS => ?_)
      have hP : va_P (dC, dI) vwCl [(a_li, .inr (0, [.ref a_tp, .ref a_tk, .ref a_cd, .ref a_ps, .ref a_lp, .ref a_rn, .ref a_gu, .ref a_fu, .int li_loopGiven, .int li_faultPlace])), (a_lp_facts, .inl (cI, 4096, .inl lp_facts)), (a_lp, .inr (4, [.ref a_lp_facts, .ref a_lp_turns, .ref a_lp_first, .ref a_lp_src, .ref a_s1, .int lp_choices, .int lp_guesses, .int lp_unaries, .int lp_ranked]))] H := hP
      have hD : va_D A [(a_li, .inr (0, [.ref a_tp, .ref a_tk, .ref a_cd, .ref a_ps, .ref a_lp, .ref a_rn, .ref a_gu, .ref a_fu, .int li_loopGiven, .int li_faultPlace])), (a_lp_facts, .inl (cI, 4096, .inl lp_facts)), (a_lp, .inr (4, [.ref a_lp_facts, .ref a_lp_turns, .ref a_lp_first, .ref a_lp_src, .ref a_s1, .int lp_choices, .int lp_guesses, .int lp_unaries, .int lp_ranked]))] := hD
      refine lv_if_ne (tgt := 26) hx hb d_LI_rank_21 (by decide) (fun c_21 => ?_) (fun c_21 => ?_)
      · have h := And.left h c_21
        refine lv_aload_n hx hb d_LI_rank_26 rfl (lv_at hl 0 rfl) ?_
        refine va_get (D := (dC, dI)) (ci := 0) (v := .ref a_lp) (C := "LoopInduction") (T := F_LI) (N := 10) hx hb hts iC_LI hown hK hP 0 rfl rfl 4 (by decide) fl_49 (fun _ h9 => h9) rfl d_LI_rank_27 ?_
        refine lv_iload_n hx hb d_LI_rank_30 rfl (lv_at hl 1 rfl) ?_
        refine jn_i (wr := [(a_li, .inr (0, [.ref a_tp, .ref a_tk, .ref a_cd, .ref a_ps, .ref a_lp, .ref a_rn, .ref a_gu, .ref a_fu, .int li_loopGiven, .int li_faultPlace]))]) (va_runV (As := [.int x1]) (rest := []) ⟨hx, hb, hml, hown, hts⟩ (c_Loop_rankOf l dC dI cI cB cZ adK adV _ a_lp a_lp_facts a_lp_turns a_lp_first a_lp_src a_s1 lp_choices lp_guesses lp_unaries lp_ranked lp_facts x1 _ h) (cwV 1 hts (gv_ m_919 m_920 m_921 m_92 m_922) rfl rfl rfl pd_Loop_rankOf ⟨Nat.le_of_ble_eq_true rfl, Nat.le_of_ble_eq_true rfl⟩) ⟨pc_blind, va_recv hK hP (ci := 4) (q0 := 2) rfl rfl, pc_of (hP.sub [2, 1] rfl) hK (hD.sub [2, 1] (by decide) rfl) hN hT hS hA⟩ rfl rfl hl.1 rfl (lv_room (Nat.le_of_ble_eq_true rfl)) d_LI_rank_31 ⟨Nat.zero_le _, Nat.zero_le _⟩) hP hD hS hA [2, 1] [0] rfl rfl (by decide) (by decide) (fun r_3 u_ H locs h hP hD hS => ?_)
        have hP : va_P (dC, dI) vwCl [(a_li, .inr (0, [.ref a_tp, .ref a_tk, .ref a_cd, .ref a_ps, .ref a_lp, .ref a_rn, .ref a_gu, .ref a_fu, .int li_loopGiven, .int li_faultPlace])), (a_lp, .inr (4, [.ref a_lp_facts, .ref a_lp_turns, .ref a_lp_first, .ref a_lp_src, .ref a_s1, .int lp_choices, .int lp_guesses, .int lp_unaries, .int lp_ranked])), (a_lp_facts, .inl (cI, 4096, .inl lp_facts))] H := hP
        have hD : va_D A [(a_li, .inr (0, [.ref a_tp, .ref a_tk, .ref a_cd, .ref a_ps, .ref a_lp, .ref a_rn, .ref a_gu, .ref a_fu, .int li_loopGiven, .int li_faultPlace])), (a_lp, .inr (4, [.ref a_lp_facts, .ref a_lp_turns, .ref a_lp_first, .ref a_lp_src, .ref a_s1, .int lp_choices, .int lp_guesses, .int lp_unaries, .int lp_ranked])), (a_lp_facts, .inl (cI, 4096, .inl lp_facts))] := hD
        subst hQ
        have hP9 := hP
        have hD9 := hD
        exact W.iret (v := r_3) hx hb hr (fun t ht hW => ⟨⟨r_3, (), rfl, h, by rw [ht]; exact hP9, va_K.moved hW.alike hK, hD9⟩, hS.F ht⟩) hS.2.2 d_LI_rank_34
      · have h := And.right h c_21
        refine lv_iconst (v := (-1)) hx hb d_LI_rank_24 (by decide) ?_
        subst hQ
        have hP9 := hP.sub (ws' := [(a_li, .inr (0, [.ref a_tp, .ref a_tk, .ref a_cd, .ref a_ps, .ref a_lp, .ref a_rn, .ref a_gu, .ref a_fu, .int li_loopGiven, .int li_faultPlace])), (a_lp, .inr (4, [.ref a_lp_facts, .ref a_lp_turns, .ref a_lp_first, .ref a_lp_src, .ref a_s1, .int lp_choices, .int lp_guesses, .int lp_unaries, .int lp_ranked])), (a_lp_facts, .inl (cI, 4096, .inl lp_facts))]) [0, 2, 1] rfl
        have hD9 := hD.sub (ws' := [(a_li, .inr (0, [.ref a_tp, .ref a_tk, .ref a_cd, .ref a_ps, .ref a_lp, .ref a_rn, .ref a_gu, .ref a_fu, .int li_loopGiven, .int li_faultPlace])), (a_lp, .inr (4, [.ref a_lp_facts, .ref a_lp_turns, .ref a_lp_first, .ref a_lp_src, .ref a_s1, .int lp_choices, .int lp_guesses, .int lp_unaries, .int lp_ranked])), (a_lp_facts, .inl (cI, 4096, .inl lp_facts))]) [0, 2, 1] (by decide) rfl
        exact W.iret (v := (-1)) hx hb hr (fun t ht hW => ⟨⟨(-1), (), rfl, h, by rw [ht]; exact hP9, va_K.moved hW.alike hK, hD9⟩, hS.F ht⟩) hS.2.2 d_LI_rank_25
def wp_LI_many (x1 : Int32) (li_loopGiven : Int32) (lp_choices : Int32) (lp_facts : Nat → Int32) (lp_turns : Nat → Int32) (rn_greatestLevel : Int32) (gu_left : Int32) (post : Int32 → Prop) : Prop :=
  ((¬ (li_loopGiven : Int32) = 0 → (((x1 : Int32) = 0 → wp_Loop_countWith 1 lp_facts (fun r_1 => post r_1)) ∧ ((x1 : Int32) = 1 → wp_Loop_countWith 2 lp_facts (fun r_2 => post r_2)) ∧ ((x1 : Int32) = 2 → wp_Loop_countWith 4 lp_facts (fun r_3 => post r_3)) ∧ ((x1 : Int32) = 3 → wp_Loop_countWith 12 lp_facts (fun r_4 => post r_4)) ∧ ((x1 : Int32) = 4 → wp_Runs_greatestLevel rn_greatestLevel (fun r_5 => post r_5)) ∧ ((x1 : Int32) = 5 → wp_Runs_countPairs lp_choices lp_facts lp_turns (fun r_6 => post r_6)) ∧ ((x1 : Int32) = 6 → wp_Gues_keptFacts gu_left (fun r_7 => wp_Loop_countWith r_7 lp_facts (fun r_8 => post r_8))) ∧ (¬ (x1 : Int32) = 0 → ¬ (x1 : Int32) = 1 → ¬ (x1 : Int32) = 2 → ¬ (x1 : Int32) = 3 → ¬ (x1 : Int32) = 4 → ¬ (x1 : Int32) = 5 → ¬ (x1 : Int32) = 6 → post (-1)))) ∧ ((li_loopGiven : Int32) = 0 → post (-1)))
set_option maxHeartbeats 4000000 in
set_option maxRecDepth 100000 in
theorem c_LI_many (l : Launch) (dC : Nat → ClassId) (dI : Nat → Nat → Nat) (cI cB cZ : ClassId) (adK adV : Nat → Nat) (sz : Nat) (a_li a_tp a_tk a_cd a_ps a_lp a_rn a_gu a_fu a_lp_facts a_lp_turns a_lp_first a_lp_src a_s1 a_rn_levels a_rn_path a_s2 a_wk a_gu_rounds : Nat) (li_loopGiven : Int32) (li_faultPlace : Int32) (lp_choices : Int32) (lp_guesses : Int32) (lp_unaries : Int32) (lp_ranked : Int32) (lp_facts : Nat → Int32) (lp_turns : Nat → Int32) (rn_reached : Int32) (rn_greatestLevel : Int32) (rn_pathSize : Int32) (gu_left : Int32) (x1 : Int32) (post : Int32 → Prop) (h : wp_LI_many x1 li_loopGiven lp_choices lp_facts lp_turns rn_greatestLevel gu_left post) : Met l y_LI_many w_LI_many ({ frames := 5, cells := 0, slots := 0, locals := 111 }) (pc_ (dC, dI) [(cI, .int), (cB, .byte), (cZ, .boolean)] [(a_li, .inr (0, [.ref a_tp, .ref a_tk, .ref a_cd, .ref a_ps, .ref a_lp, .ref a_rn, .ref a_gu, .ref a_fu, .int li_loopGiven, .int li_faultPlace])), (a_lp, .inr (4, [.ref a_lp_facts, .ref a_lp_turns, .ref a_lp_first, .ref a_lp_src, .ref a_s1, .int lp_choices, .int lp_guesses, .int lp_unaries, .int lp_ranked])), (a_lp_facts, .inl (cI, 4096, .inl lp_facts)), (a_lp_turns, .inl (cI, 24576, .inl lp_turns)), (a_rn, .inr (6, [.ref a_lp, .ref a_rn_levels, .ref a_rn_path, .ref a_s1, .ref a_s2, .ref a_wk, .int rn_reached, .int rn_greatestLevel, .int rn_pathSize])), (a_gu, .inr (3, [.ref a_lp, .ref a_gu_rounds, .ref a_s1, .ref a_s2, .int gu_left]))] sz adK adV [.ref a_li, .int x1]) (va_Qi (fun (r : Int32) (u : Unit) => post r ) (fun (u : Unit) t => bw_ (dC, dI) [(cI, .int), (cB, .byte), (cZ, .boolean)] (va_A [(a_li, .inr (0, [.ref a_tp, .ref a_tk, .ref a_cd, .ref a_ps, .ref a_lp, .ref a_rn, .ref a_gu, .ref a_fu, .int li_loopGiven, .int li_faultPlace])), (a_lp, .inr (4, [.ref a_lp_facts, .ref a_lp_turns, .ref a_lp_first, .ref a_lp_src, .ref a_s1, .int lp_choices, .int lp_guesses, .int lp_unaries, .int lp_ranked])), (a_lp_facts, .inl (cI, 4096, .inl lp_facts)), (a_lp_turns, .inl (cI, 24576, .inl lp_turns)), (a_rn, .inr (6, [.ref a_lp, .ref a_rn_levels, .ref a_rn_path, .ref a_s1, .ref a_s2, .ref a_wk, .int rn_reached, .int rn_greatestLevel, .int rn_pathSize])), (a_gu, .inr (3, [.ref a_lp, .ref a_gu_rounds, .ref a_s1, .ref a_s2, .int gu_left]))] sz) [(a_li, .inr (0, [.ref a_tp, .ref a_tk, .ref a_cd, .ref a_ps, .ref a_lp, .ref a_rn, .ref a_gu, .ref a_fu, .int li_loopGiven, .int li_faultPlace])), (a_lp, .inr (4, [.ref a_lp_facts, .ref a_lp_turns, .ref a_lp_first, .ref a_lp_src, .ref a_s1, .int lp_choices, .int lp_guesses, .int lp_unaries, .int lp_ranked])), (a_lp_facts, .inl (cI, 4096, .inl lp_facts)), (a_lp_turns, .inl (cI, 24576, .inl lp_turns)), (a_rn, .inr (6, [.ref a_lp, .ref a_rn_levels, .ref a_rn_path, .ref a_s1, .ref a_s2, .ref a_wk, .int rn_reached, .int rn_greatestLevel, .int rn_pathSize])), (a_gu, .inr (3, [.ref a_lp, .ref a_gu_rounds, .ref a_s1, .ref a_s2, .int gu_left]))] t) (va_A [(a_li, .inr (0, [.ref a_tp, .ref a_tk, .ref a_cd, .ref a_ps, .ref a_lp, .ref a_rn, .ref a_gu, .ref a_fu, .int li_loopGiven, .int li_faultPlace])), (a_lp, .inr (4, [.ref a_lp_facts, .ref a_lp_turns, .ref a_lp_first, .ref a_lp_src, .ref a_s1, .int lp_choices, .int lp_guesses, .int lp_unaries, .int lp_ranked])), (a_lp_facts, .inl (cI, 4096, .inl lp_facts)), (a_lp_turns, .inl (cI, 24576, .inl lp_turns)), (a_rn, .inr (6, [.ref a_lp, .ref a_rn_levels, .ref a_rn_path, .ref a_s1, .ref a_s2, .ref a_wk, .int rn_reached, .int rn_greatestLevel, .int rn_pathSize])), (a_gu, .inr (3, [.ref a_lp, .ref a_gu_rounds, .ref a_s1, .ref a_s2, .int gu_left]))] sz)) 0 0 (va_A [(a_li, .inr (0, [.ref a_tp, .ref a_tk, .ref a_cd, .ref a_ps, .ref a_lp, .ref a_rn, .ref a_gu, .ref a_fu, .int li_loopGiven, .int li_faultPlace])), (a_lp, .inr (4, [.ref a_lp_facts, .ref a_lp_turns, .ref a_lp_first, .ref a_lp_src, .ref a_s1, .int lp_choices, .int lp_guesses, .int lp_unaries, .int lp_ranked])), (a_lp_facts, .inl (cI, 4096, .inl lp_facts)), (a_lp_turns, .inl (cI, 24576, .inl lp_turns)), (a_rn, .inr (6, [.ref a_lp, .ref a_rn_levels, .ref a_rn_path, .ref a_s1, .ref a_s2, .ref a_wk, .int rn_reached, .int rn_greatestLevel, .int rn_pathSize])), (a_gu, .inr (3, [.ref a_lp, .ref a_gu_rounds, .ref a_s1, .ref a_s2, .int gu_left]))] sz) := by
  refine Met.ofW (cc := b_LI_many) (maxL := 2) (ret := (some .int)) (by decide) rfl ?_
  intro p e s m args below meth c s₁ B hml hv
  obtain ⟨rfl, hsz, hP, hK, hD0, hN, hT⟩ := hv
  have hx := B.exec
  have hb := B.bytes
  have hr := B.returns
  have hts := atoms_spec (ws := w_LI_many) B.pre
  have hown : s.vm.findClass "LoopInduction" = some m.cls := findClass_of_methodNamed B.named
  have hlocks := B.notSynchronized
  subst hsz
  have hD := hD0.self (sz := s.heap.size)
  generalize hAe : va_A [(a_li, .inr (0, [.ref a_tp, .ref a_tk, .ref a_cd, .ref a_ps, .ref a_lp, .ref a_rn, .ref a_gu, .ref a_fu, .int li_loopGiven, .int li_faultPlace])), (a_lp, .inr (4, [.ref a_lp_facts, .ref a_lp_turns, .ref a_lp_first, .ref a_lp_src, .ref a_s1, .int lp_choices, .int lp_guesses, .int lp_unaries, .int lp_ranked])), (a_lp_facts, .inl (cI, 4096, .inl lp_facts)), (a_lp_turns, .inl (cI, 24576, .inl lp_turns)), (a_rn, .inr (6, [.ref a_lp, .ref a_rn_levels, .ref a_rn_path, .ref a_s1, .ref a_s2, .ref a_wk, .int rn_reached, .int rn_greatestLevel, .int rn_pathSize])), (a_gu, .inr (3, [.ref a_lp, .ref a_gu_rounds, .ref a_s1, .ref a_s2, .int gu_left]))] s.heap.size = A at hD hT ⊢
  have hA : ∀ q : Nat, s.heap.size ≤ q → A q := fun q h => by rw [← hAe]; exact Or.inr h
  have hS : va_S A s.heap s.heap [] := va_S.rf
  generalize hQ : MQ below _ _ s 0 0 _ = QQ
  have hl := lv_entry ([.ref a_li, .int x1]) (n := 2) (Nat.le_of_ble_eq_true rfl)
  rw [lg_entry_eq]
  generalize (lg_sl ([.ref a_li, .int x1]) ++ List.replicate (2 - (lg_sl ([.ref a_li, .int x1])).length) Slot.unset).toArray = ls at hl ⊢
  have hl : lv_has ls 2 [(0, .ref a_li), (1, .int x1)] := hl
  have fl_49 := (hts _ (List.mem_cons_of_mem _ m_375))
  have fl_58 := (hts _ (List.mem_cons_of_mem _ m_376))
  have fl_65 := (hts _ (List.mem_cons_of_mem _ m_377))
  have fl_76 := (hts _ (List.mem_cons_of_mem _ m_379))
  refine lv_aload_n hx hb d_LI_many_0 rfl (lv_at hl 0 rfl) ?_
  refine va_get (D := (dC, dI)) (ci := 0) (v := .int li_loopGiven) (C := "LoopInduction") (T := F_LI) (N := 10) hx hb hts iC_LI hown hK hP 0 rfl rfl 8 (by decide) fl_76 (fun _ h9 => h9) rfl d_LI_many_1 ?_
  refine lv_if_ne (tgt := 9) hx hb d_LI_many_4 (by decide) (fun c_4 => ?_) (fun c_4 => ?_)
  · have h := And.left h c_4
    refine lv_iload_n hx hb d_LI_many_9 rfl (lv_at hl 1 rfl) ?_
    rcases Classical.em ((x1 : Int32) = 0) with e_10_0 | e_10_0
    · have h := h.1 e_10_0
      refine lv_tableIn (off := 42) (tgt := 52) hx hb d_LI_many_10 (by rw [e_10_0]; decide) (by rw [e_10_0]; decide) (by rw [e_10_0]; rfl) (by decide) ?_
      refine lv_aload_n hx hb d_LI_many_52 rfl (lv_at hl 0 rfl) ?_
      refine va_get (D := (dC, dI)) (ci := 0) (v := .ref a_lp) (C := "LoopInduction") (T := F_LI) (N := 10) hx hb hts iC_LI hown hK hP 0 rfl rfl 4 (by decide) fl_49 (fun _ h9 => h9) rfl d_LI_many_53 ?_
      refine lv_iconst (v := 1) hx hb d_LI_many_56 (by decide) ?_
      refine jn_i (wr := [(a_li, .inr (0, [.ref a_tp, .ref a_tk, .ref a_cd, .ref a_ps, .ref a_lp, .ref a_rn, .ref a_gu, .ref a_fu, .int li_loopGiven, .int li_faultPlace])), (a_lp_turns, .inl (cI, 24576, .inl lp_turns)), (a_rn, .inr (6, [.ref a_lp, .ref a_rn_levels, .ref a_rn_path, .ref a_s1, .ref a_s2, .ref a_wk, .int rn_reached, .int rn_greatestLevel, .int rn_pathSize])), (a_gu, .inr (3, [.ref a_lp, .ref a_gu_rounds, .ref a_s1, .ref a_s2, .int gu_left]))]) (va_runV (As := [.int 1]) (rest := []) ⟨hx, hb, hml, hown, hts⟩ (c_Loop_countWith l dC dI cI cB cZ adK adV _ a_lp a_lp_facts a_lp_turns a_lp_first a_lp_src a_s1 lp_choices lp_guesses lp_unaries lp_ranked lp_facts 1 _ h) (cwV 1 hts (gv_ m_927 m_928 m_929 m_92 m_930) rfl rfl rfl pd_Loop_countWith ⟨Nat.le_of_ble_eq_true rfl, Nat.le_of_ble_eq_true rfl⟩) ⟨pc_blind, va_recv hK hP (ci := 4) (q0 := 1) rfl rfl, pc_of (hP.sub [1, 2] rfl) hK (hD.sub [1, 2] (by decide) rfl) hN hT hS hA⟩ rfl rfl hl.1 rfl (lv_room (Nat.le_of_ble_eq_true rfl)) d_LI_many_57 ⟨Nat.zero_le _, Nat.zero_le _⟩) hP hD hS hA [1, 2] [0, 3, 4, 5] rfl rfl (by decide) (by decide) (fun r_1 u_ H locs h hP hD hS => ?_)
      have hP : va_P (dC, dI) vwCl [(a_li, .inr (0, [.ref a_tp, .ref a_tk, .ref a_cd, .ref a_ps, .ref a_lp, .ref a_rn, .ref a_gu, .ref a_fu, .int li_loopGiven, .int li_faultPlace])), (a_lp_turns, .inl (cI, 24576, .inl lp_turns)), (a_rn, .inr (6, [.ref a_lp, .ref a_rn_levels, .ref a_rn_path, .ref a_s1, .ref a_s2, .ref a_wk, .int rn_reached, .int rn_greatestLevel, .int rn_pathSize])), (a_gu, .inr (3, [.ref a_lp, .ref a_gu_rounds, .ref a_s1, .ref a_s2, .int gu_left])), (a_lp, .inr (4, [.ref a_lp_facts, .ref a_lp_turns, .ref a_lp_first, .ref a_lp_src, .ref a_s1, .int lp_choices, .int lp_guesses, .int lp_unaries, .int lp_ranked])), (a_lp_facts, .inl (cI, 4096, .inl lp_facts))] H := hP
      have hD : va_D A [(a_li, .inr (0, [.ref a_tp, .ref a_tk, .ref a_cd, .ref a_ps, .ref a_lp, .ref a_rn, .ref a_gu, .ref a_fu, .int li_loopGiven, .int li_faultPlace])), (a_lp_turns, .inl (cI, 24576, .inl lp_turns)), (a_rn, .inr (6, [.ref a_lp, .ref a_rn_levels, .ref a_rn_path, .ref a_s1, .ref a_s2, .ref a_wk, .int rn_reached, .int rn_greatestLevel, .int rn_pathSize])), (a_gu, .inr (3, [.ref a_lp, .ref a_gu_rounds, .ref a_s1, .ref a_s2, .int gu_left])), (a_lp, .inr (4, [.ref a_lp_facts, .ref a_lp_turns, .ref a_lp_first, .ref a_lp_src, .ref a_s1, .int lp_choices, .int lp_guesses, .int lp_unaries, .int lp_ranked])), (a_lp_facts, .inl (cI, 4096, .inl lp_facts))] := hD
      subst hQ
      have hP9 := hP.sub (ws' := [(a_li, .inr (0, [.ref a_tp, .ref a_tk, .ref a_cd, .ref a_ps, .ref a_lp, .ref a_rn, .ref a_gu, .ref a_fu, .int li_loopGiven, .int li_faultPlace])), (a_lp, .inr (4, [.ref a_lp_facts, .ref a_lp_turns, .ref a_lp_first, .ref a_lp_src, .ref a_s1, .int lp_choices, .int lp_guesses, .int lp_unaries, .int lp_ranked])), (a_lp_facts, .inl (cI, 4096, .inl lp_facts)), (a_lp_turns, .inl (cI, 24576, .inl lp_turns)), (a_rn, .inr (6, [.ref a_lp, .ref a_rn_levels, .ref a_rn_path, .ref a_s1, .ref a_s2, .ref a_wk, .int rn_reached, .int rn_greatestLevel, .int rn_pathSize])), (a_gu, .inr (3, [.ref a_lp, .ref a_gu_rounds, .ref a_s1, .ref a_s2, .int gu_left]))]) [0, 4, 5, 1, 2, 3] rfl
      have hD9 := hD.sub (ws' := [(a_li, .inr (0, [.ref a_tp, .ref a_tk, .ref a_cd, .ref a_ps, .ref a_lp, .ref a_rn, .ref a_gu, .ref a_fu, .int li_loopGiven, .int li_faultPlace])), (a_lp, .inr (4, [.ref a_lp_facts, .ref a_lp_turns, .ref a_lp_first, .ref a_lp_src, .ref a_s1, .int lp_choices, .int lp_guesses, .int lp_unaries, .int lp_ranked])), (a_lp_facts, .inl (cI, 4096, .inl lp_facts)), (a_lp_turns, .inl (cI, 24576, .inl lp_turns)), (a_rn, .inr (6, [.ref a_lp, .ref a_rn_levels, .ref a_rn_path, .ref a_s1, .ref a_s2, .ref a_wk, .int rn_reached, .int rn_greatestLevel, .int rn_pathSize])), (a_gu, .inr (3, [.ref a_lp, .ref a_gu_rounds, .ref a_s1, .ref a_s2, .int gu_left]))]) [0, 4, 5, 1, 2, 3] (by decide) rfl
      exact W.iret (v := r_1) hx hb hr (fun t ht hW => ⟨⟨r_1, (), rfl, h, by rw [ht]; exact hP9, va_K.moved hW.alike hK, hD9⟩, hS.F ht⟩) hS.2.2 d_LI_many_60
    rcases Classical.em ((x1 : Int32) = 1) with e_10_1 | e_10_1
    · have h := h.2.1 e_10_1
      refine lv_tableIn (off := 51) (tgt := 61) hx hb d_LI_many_10 (by rw [e_10_1]; decide) (by rw [e_10_1]; decide) (by rw [e_10_1]; rfl) (by decide) ?_
      refine lv_aload_n hx hb d_LI_many_61 rfl (lv_at hl 0 rfl) ?_
      refine va_get (D := (dC, dI)) (ci := 0) (v := .ref a_lp) (C := "LoopInduction") (T := F_LI) (N := 10) hx hb hts iC_LI hown hK hP 0 rfl rfl 4 (by decide) fl_49 (fun _ h9 => h9) rfl d_LI_many_62 ?_
      refine lv_iconst (v := 2) hx hb d_LI_many_65 (by decide) ?_
      refine jn_i (wr := [(a_li, .inr (0, [.ref a_tp, .ref a_tk, .ref a_cd, .ref a_ps, .ref a_lp, .ref a_rn, .ref a_gu, .ref a_fu, .int li_loopGiven, .int li_faultPlace])), (a_lp_turns, .inl (cI, 24576, .inl lp_turns)), (a_rn, .inr (6, [.ref a_lp, .ref a_rn_levels, .ref a_rn_path, .ref a_s1, .ref a_s2, .ref a_wk, .int rn_reached, .int rn_greatestLevel, .int rn_pathSize])), (a_gu, .inr (3, [.ref a_lp, .ref a_gu_rounds, .ref a_s1, .ref a_s2, .int gu_left]))]) (va_runV (As := [.int 2]) (rest := []) ⟨hx, hb, hml, hown, hts⟩ (c_Loop_countWith l dC dI cI cB cZ adK adV _ a_lp a_lp_facts a_lp_turns a_lp_first a_lp_src a_s1 lp_choices lp_guesses lp_unaries lp_ranked lp_facts 2 _ h) (cwV 1 hts (gv_ m_927 m_928 m_929 m_92 m_930) rfl rfl rfl pd_Loop_countWith ⟨Nat.le_of_ble_eq_true rfl, Nat.le_of_ble_eq_true rfl⟩) ⟨pc_blind, va_recv hK hP (ci := 4) (q0 := 1) rfl rfl, pc_of (hP.sub [1, 2] rfl) hK (hD.sub [1, 2] (by decide) rfl) hN hT hS hA⟩ rfl rfl hl.1 rfl (lv_room (Nat.le_of_ble_eq_true rfl)) d_LI_many_66 ⟨Nat.zero_le _, Nat.zero_le _⟩) hP hD hS hA [1, 2] [0, 3, 4, 5] rfl rfl (by decide) (by decide) (fun r_2 u_ H locs h hP hD hS => ?_)
      have hP : va_P (dC, dI) vwCl [(a_li, .inr (0, [.ref a_tp, .ref a_tk, .ref a_cd, .ref a_ps, .ref a_lp, .ref a_rn, .ref a_gu, .ref a_fu, .int li_loopGiven, .int li_faultPlace])), (a_lp_turns, .inl (cI, 24576, .inl lp_turns)), (a_rn, .inr (6, [.ref a_lp, .ref a_rn_levels, .ref a_rn_path, .ref a_s1, .ref a_s2, .ref a_wk, .int rn_reached, .int rn_greatestLevel, .int rn_pathSize])), (a_gu, .inr (3, [.ref a_lp, .ref a_gu_rounds, .ref a_s1, .ref a_s2, .int gu_left])), (a_lp, .inr (4, [.ref a_lp_facts, .ref a_lp_turns, .ref a_lp_first, .ref a_lp_src, .ref a_s1, .int lp_choices, .int lp_guesses, .int lp_unaries, .int lp_ranked])), (a_lp_facts, .inl (cI, 4096, .inl lp_facts))] H := hP
      have hD : va_D A [(a_li, .inr (0, [.ref a_tp, .ref a_tk, .ref a_cd, .ref a_ps, .ref a_lp, .ref a_rn, .ref a_gu, .ref a_fu, .int li_loopGiven, .int li_faultPlace])), (a_lp_turns, .inl (cI, 24576, .inl lp_turns)), (a_rn, .inr (6, [.ref a_lp, .ref a_rn_levels, .ref a_rn_path, .ref a_s1, .ref a_s2, .ref a_wk, .int rn_reached, .int rn_greatestLevel, .int rn_pathSize])), (a_gu, .inr (3, [.ref a_lp, .ref a_gu_rounds, .ref a_s1, .ref a_s2, .int gu_left])), (a_lp, .inr (4, [.ref a_lp_facts, .ref a_lp_turns, .ref a_lp_first, .ref a_lp_src, .ref a_s1, .int lp_choices, .int lp_guesses, .int lp_unaries, .int lp_ranked])), (a_lp_facts, .inl (cI, 4096, .inl lp_facts))] := hD
      subst hQ
      have hP9 := hP.sub (ws' := [(a_li, .inr (0, [.ref a_tp, .ref a_tk, .ref a_cd, .ref a_ps, .ref a_lp, .ref a_rn, .ref a_gu, .ref a_fu, .int li_loopGiven, .int li_faultPlace])), (a_lp, .inr (4, [.ref a_lp_facts, .ref a_lp_turns, .ref a_lp_first, .ref a_lp_src, .ref a_s1, .int lp_choices, .int lp_guesses, .int lp_unaries, .int lp_ranked])), (a_lp_facts, .inl (cI, 4096, .inl lp_facts)), (a_lp_turns, .inl (cI, 24576, .inl lp_turns)), (a_rn, .inr (6, [.ref a_lp, .ref a_rn_levels, .ref a_rn_path, .ref a_s1, .ref a_s2, .ref a_wk, .int rn_reached, .int rn_greatestLevel, .int rn_pathSize])), (a_gu, .inr (3, [.ref a_lp, .ref a_gu_rounds, .ref a_s1, .ref a_s2, .int gu_left]))]) [0, 4, 5, 1, 2, 3] rfl
      have hD9 := hD.sub (ws' := [(a_li, .inr (0, [.ref a_tp, .ref a_tk, .ref a_cd, .ref a_ps, .ref a_lp, .ref a_rn, .ref a_gu, .ref a_fu, .int li_loopGiven, .int li_faultPlace])), (a_lp, .inr (4, [.ref a_lp_facts, .ref a_lp_turns, .ref a_lp_first, .ref a_lp_src, .ref a_s1, .int lp_choices, .int lp_guesses, .int lp_unaries, .int lp_ranked])), (a_lp_facts, .inl (cI, 4096, .inl lp_facts)), (a_lp_turns, .inl (cI, 24576, .inl lp_turns)), (a_rn, .inr (6, [.ref a_lp, .ref a_rn_levels, .ref a_rn_path, .ref a_s1, .ref a_s2, .ref a_wk, .int rn_reached, .int rn_greatestLevel, .int rn_pathSize])), (a_gu, .inr (3, [.ref a_lp, .ref a_gu_rounds, .ref a_s1, .ref a_s2, .int gu_left]))]) [0, 4, 5, 1, 2, 3] (by decide) rfl
      exact W.iret (v := r_2) hx hb hr (fun t ht hW => ⟨⟨r_2, (), rfl, h, by rw [ht]; exact hP9, va_K.moved hW.alike hK, hD9⟩, hS.F ht⟩) hS.2.2 d_LI_many_69
    rcases Classical.em ((x1 : Int32) = 2) with e_10_2 | e_10_2
    · have h := h.2.2.1 e_10_2
      refine lv_tableIn (off := 60) (tgt := 70) hx hb d_LI_many_10 (by rw [e_10_2]; decide) (by rw [e_10_2]; decide) (by rw [e_10_2]; rfl) (by decide) ?_
      refine lv_aload_n hx hb d_LI_many_70 rfl (lv_at hl 0 rfl) ?_
      refine va_get (D := (dC, dI)) (ci := 0) (v := .ref a_lp) (C := "LoopInduction") (T := F_LI) (N := 10) hx hb hts iC_LI hown hK hP 0 rfl rfl 4 (by decide) fl_49 (fun _ h9 => h9) rfl d_LI_many_71 ?_
      refine lv_iconst (v := 4) hx hb d_LI_many_74 (by decide) ?_
      refine jn_i (wr := [(a_li, .inr (0, [.ref a_tp, .ref a_tk, .ref a_cd, .ref a_ps, .ref a_lp, .ref a_rn, .ref a_gu, .ref a_fu, .int li_loopGiven, .int li_faultPlace])), (a_lp_turns, .inl (cI, 24576, .inl lp_turns)), (a_rn, .inr (6, [.ref a_lp, .ref a_rn_levels, .ref a_rn_path, .ref a_s1, .ref a_s2, .ref a_wk, .int rn_reached, .int rn_greatestLevel, .int rn_pathSize])), (a_gu, .inr (3, [.ref a_lp, .ref a_gu_rounds, .ref a_s1, .ref a_s2, .int gu_left]))]) (va_runV (As := [.int 4]) (rest := []) ⟨hx, hb, hml, hown, hts⟩ (c_Loop_countWith l dC dI cI cB cZ adK adV _ a_lp a_lp_facts a_lp_turns a_lp_first a_lp_src a_s1 lp_choices lp_guesses lp_unaries lp_ranked lp_facts 4 _ h) (cwV 1 hts (gv_ m_927 m_928 m_929 m_92 m_930) rfl rfl rfl pd_Loop_countWith ⟨Nat.le_of_ble_eq_true rfl, Nat.le_of_ble_eq_true rfl⟩) ⟨pc_blind, va_recv hK hP (ci := 4) (q0 := 1) rfl rfl, pc_of (hP.sub [1, 2] rfl) hK (hD.sub [1, 2] (by decide) rfl) hN hT hS hA⟩ rfl rfl hl.1 rfl (lv_room (Nat.le_of_ble_eq_true rfl)) d_LI_many_75 ⟨Nat.zero_le _, Nat.zero_le _⟩) hP hD hS hA [1, 2] [0, 3, 4, 5] rfl rfl (by decide) (by decide) (fun r_3 u_ H locs h hP hD hS => ?_)
      have hP : va_P (dC, dI) vwCl [(a_li, .inr (0, [.ref a_tp, .ref a_tk, .ref a_cd, .ref a_ps, .ref a_lp, .ref a_rn, .ref a_gu, .ref a_fu, .int li_loopGiven, .int li_faultPlace])), (a_lp_turns, .inl (cI, 24576, .inl lp_turns)), (a_rn, .inr (6, [.ref a_lp, .ref a_rn_levels, .ref a_rn_path, .ref a_s1, .ref a_s2, .ref a_wk, .int rn_reached, .int rn_greatestLevel, .int rn_pathSize])), (a_gu, .inr (3, [.ref a_lp, .ref a_gu_rounds, .ref a_s1, .ref a_s2, .int gu_left])), (a_lp, .inr (4, [.ref a_lp_facts, .ref a_lp_turns, .ref a_lp_first, .ref a_lp_src, .ref a_s1, .int lp_choices, .int lp_guesses, .int lp_unaries, .int lp_ranked])), (a_lp_facts, .inl (cI, 4096, .inl lp_facts))] H := hP
      have hD : va_D A [(a_li, .inr (0, [.ref a_tp, .ref a_tk, .ref a_cd, .ref a_ps, .ref a_lp, .ref a_rn, .ref a_gu, .ref a_fu, .int li_loopGiven, .int li_faultPlace])), (a_lp_turns, .inl (cI, 24576, .inl lp_turns)), (a_rn, .inr (6, [.ref a_lp, .ref a_rn_levels, .ref a_rn_path, .ref a_s1, .ref a_s2, .ref a_wk, .int rn_reached, .int rn_greatestLevel, .int rn_pathSize])), (a_gu, .inr (3, [.ref a_lp, .ref a_gu_rounds, .ref a_s1, .ref a_s2, .int gu_left])), (a_lp, .inr (4, [.ref a_lp_facts, .ref a_lp_turns, .ref a_lp_first, .ref a_lp_src, .ref a_s1, .int lp_choices, .int lp_guesses, .int lp_unaries, .int lp_ranked])), (a_lp_facts, .inl (cI, 4096, .inl lp_facts))] := hD
      subst hQ
      have hP9 := hP.sub (ws' := [(a_li, .inr (0, [.ref a_tp, .ref a_tk, .ref a_cd, .ref a_ps, .ref a_lp, .ref a_rn, .ref a_gu, .ref a_fu, .int li_loopGiven, .int li_faultPlace])), (a_lp, .inr (4, [.ref a_lp_facts, .ref a_lp_turns, .ref a_lp_first, .ref a_lp_src, .ref a_s1, .int lp_choices, .int lp_guesses, .int lp_unaries, .int lp_ranked])), (a_lp_facts, .inl (cI, 4096, .inl lp_facts)), (a_lp_turns, .inl (cI, 24576, .inl lp_turns)), (a_rn, .inr (6, [.ref a_lp, .ref a_rn_levels, .ref a_rn_path, .ref a_s1, .ref a_s2, .ref a_wk, .int rn_reached, .int rn_greatestLevel, .int rn_pathSize])), (a_gu, .inr (3, [.ref a_lp, .ref a_gu_rounds, .ref a_s1, .ref a_s2, .int gu_left]))]) [0, 4, 5, 1, 2, 3] rfl
      have hD9 := hD.sub (ws' := [(a_li, .inr (0, [.ref a_tp, .ref a_tk, .ref a_cd, .ref a_ps, .ref a_lp, .ref a_rn, .ref a_gu, .ref a_fu, .int li_loopGiven, .int li_faultPlace])), (a_lp, .inr (4, [.ref a_lp_facts, .ref a_lp_turns, .ref a_lp_first, .ref a_lp_src, .ref a_s1, .int lp_choices, .int lp_guesses, .int lp_unaries, .int lp_ranked])), (a_lp_facts, .inl (cI, 4096, .inl lp_facts)), (a_lp_turns, .inl (cI, 24576, .inl lp_turns)), (a_rn, .inr (6, [.ref a_lp, .ref a_rn_levels, .ref a_rn_path, .ref a_s1, .ref a_s2, .ref a_wk, .int rn_reached, .int rn_greatestLevel, .int rn_pathSize])), (a_gu, .inr (3, [.ref a_lp, .ref a_gu_rounds, .ref a_s1, .ref a_s2, .int gu_left]))]) [0, 4, 5, 1, 2, 3] (by decide) rfl
      exact W.iret (v := r_3) hx hb hr (fun t ht hW => ⟨⟨r_3, (), rfl, h, by rw [ht]; exact hP9, va_K.moved hW.alike hK, hD9⟩, hS.F ht⟩) hS.2.2 d_LI_many_78
    rcases Classical.em ((x1 : Int32) = 3) with e_10_3 | e_10_3
    · have h := h.2.2.2.1 e_10_3
      refine lv_tableIn (off := 69) (tgt := 79) hx hb d_LI_many_10 (by rw [e_10_3]; decide) (by rw [e_10_3]; decide) (by rw [e_10_3]; rfl) (by decide) ?_
      refine lv_aload_n hx hb d_LI_many_79 rfl (lv_at hl 0 rfl) ?_
      refine va_get (D := (dC, dI)) (ci := 0) (v := .ref a_lp) (C := "LoopInduction") (T := F_LI) (N := 10) hx hb hts iC_LI hown hK hP 0 rfl rfl 4 (by decide) fl_49 (fun _ h9 => h9) rfl d_LI_many_80 ?_
      refine lv_bipush (v := 12) hx hb d_LI_many_83 (by decide) ?_
      refine jn_i (wr := [(a_li, .inr (0, [.ref a_tp, .ref a_tk, .ref a_cd, .ref a_ps, .ref a_lp, .ref a_rn, .ref a_gu, .ref a_fu, .int li_loopGiven, .int li_faultPlace])), (a_lp_turns, .inl (cI, 24576, .inl lp_turns)), (a_rn, .inr (6, [.ref a_lp, .ref a_rn_levels, .ref a_rn_path, .ref a_s1, .ref a_s2, .ref a_wk, .int rn_reached, .int rn_greatestLevel, .int rn_pathSize])), (a_gu, .inr (3, [.ref a_lp, .ref a_gu_rounds, .ref a_s1, .ref a_s2, .int gu_left]))]) (va_runV (As := [.int 12]) (rest := []) ⟨hx, hb, hml, hown, hts⟩ (c_Loop_countWith l dC dI cI cB cZ adK adV _ a_lp a_lp_facts a_lp_turns a_lp_first a_lp_src a_s1 lp_choices lp_guesses lp_unaries lp_ranked lp_facts 12 _ h) (cwV 1 hts (gv_ m_927 m_928 m_929 m_92 m_930) rfl rfl rfl pd_Loop_countWith ⟨Nat.le_of_ble_eq_true rfl, Nat.le_of_ble_eq_true rfl⟩) ⟨pc_blind, va_recv hK hP (ci := 4) (q0 := 1) rfl rfl, pc_of (hP.sub [1, 2] rfl) hK (hD.sub [1, 2] (by decide) rfl) hN hT hS hA⟩ rfl rfl hl.1 rfl (lv_room (Nat.le_of_ble_eq_true rfl)) d_LI_many_85 ⟨Nat.zero_le _, Nat.zero_le _⟩) hP hD hS hA [1, 2] [0, 3, 4, 5] rfl rfl (by decide) (by decide) (fun r_4 u_ H locs h hP hD hS => ?_)
      have hP : va_P (dC, dI) vwCl [(a_li, .inr (0, [.ref a_tp, .ref a_tk, .ref a_cd, .ref a_ps, .ref a_lp, .ref a_rn, .ref a_gu, .ref a_fu, .int li_loopGiven, .int li_faultPlace])), (a_lp_turns, .inl (cI, 24576, .inl lp_turns)), (a_rn, .inr (6, [.ref a_lp, .ref a_rn_levels, .ref a_rn_path, .ref a_s1, .ref a_s2, .ref a_wk, .int rn_reached, .int rn_greatestLevel, .int rn_pathSize])), (a_gu, .inr (3, [.ref a_lp, .ref a_gu_rounds, .ref a_s1, .ref a_s2, .int gu_left])), (a_lp, .inr (4, [.ref a_lp_facts, .ref a_lp_turns, .ref a_lp_first, .ref a_lp_src, .ref a_s1, .int lp_choices, .int lp_guesses, .int lp_unaries, .int lp_ranked])), (a_lp_facts, .inl (cI, 4096, .inl lp_facts))] H := hP
      have hD : va_D A [(a_li, .inr (0, [.ref a_tp, .ref a_tk, .ref a_cd, .ref a_ps, .ref a_lp, .ref a_rn, .ref a_gu, .ref a_fu, .int li_loopGiven, .int li_faultPlace])), (a_lp_turns, .inl (cI, 24576, .inl lp_turns)), (a_rn, .inr (6, [.ref a_lp, .ref a_rn_levels, .ref a_rn_path, .ref a_s1, .ref a_s2, .ref a_wk, .int rn_reached, .int rn_greatestLevel, .int rn_pathSize])), (a_gu, .inr (3, [.ref a_lp, .ref a_gu_rounds, .ref a_s1, .ref a_s2, .int gu_left])), (a_lp, .inr (4, [.ref a_lp_facts, .ref a_lp_turns, .ref a_lp_first, .ref a_lp_src, .ref a_s1, .int lp_choices, .int lp_guesses, .int lp_unaries, .int lp_ranked])), (a_lp_facts, .inl (cI, 4096, .inl lp_facts))] := hD
      subst hQ
      have hP9 := hP.sub (ws' := [(a_li, .inr (0, [.ref a_tp, .ref a_tk, .ref a_cd, .ref a_ps, .ref a_lp, .ref a_rn, .ref a_gu, .ref a_fu, .int li_loopGiven, .int li_faultPlace])), (a_lp, .inr (4, [.ref a_lp_facts, .ref a_lp_turns, .ref a_lp_first, .ref a_lp_src, .ref a_s1, .int lp_choices, .int lp_guesses, .int lp_unaries, .int lp_ranked])), (a_lp_facts, .inl (cI, 4096, .inl lp_facts)), (a_lp_turns, .inl (cI, 24576, .inl lp_turns)), (a_rn, .inr (6, [.ref a_lp, .ref a_rn_levels, .ref a_rn_path, .ref a_s1, .ref a_s2, .ref a_wk, .int rn_reached, .int rn_greatestLevel, .int rn_pathSize])), (a_gu, .inr (3, [.ref a_lp, .ref a_gu_rounds, .ref a_s1, .ref a_s2, .int gu_left]))]) [0, 4, 5, 1, 2, 3] rfl
      have hD9 := hD.sub (ws' := [(a_li, .inr (0, [.ref a_tp, .ref a_tk, .ref a_cd, .ref a_ps, .ref a_lp, .ref a_rn, .ref a_gu, .ref a_fu, .int li_loopGiven, .int li_faultPlace])), (a_lp, .inr (4, [.ref a_lp_facts, .ref a_lp_turns, .ref a_lp_first, .ref a_lp_src, .ref a_s1, .int lp_choices, .int lp_guesses, .int lp_unaries, .int lp_ranked])), (a_lp_facts, .inl (cI, 4096, .inl lp_facts)), (a_lp_turns, .inl (cI, 24576, .inl lp_turns)), (a_rn, .inr (6, [.ref a_lp, .ref a_rn_levels, .ref a_rn_path, .ref a_s1, .ref a_s2, .ref a_wk, .int rn_reached, .int rn_greatestLevel, .int rn_pathSize])), (a_gu, .inr (3, [.ref a_lp, .ref a_gu_rounds, .ref a_s1, .ref a_s2, .int gu_left]))]) [0, 4, 5, 1, 2, 3] (by decide) rfl
      exact W.iret (v := r_4) hx hb hr (fun t ht hW => ⟨⟨r_4, (), rfl, h, by rw [ht]; exact hP9, va_K.moved hW.alike hK, hD9⟩, hS.F ht⟩) hS.2.2 d_LI_many_88
    rcases Classical.em ((x1 : Int32) = 4) with e_10_4 | e_10_4
    · have h := h.2.2.2.2.1 e_10_4
      refine lv_tableIn (off := 79) (tgt := 89) hx hb d_LI_many_10 (by rw [e_10_4]; decide) (by rw [e_10_4]; decide) (by rw [e_10_4]; rfl) (by decide) ?_
      refine lv_aload_n hx hb d_LI_many_89 rfl (lv_at hl 0 rfl) ?_
      refine va_get (D := (dC, dI)) (ci := 0) (v := .ref a_rn) (C := "LoopInduction") (T := F_LI) (N := 10) hx hb hts iC_LI hown hK hP 0 rfl rfl 5 (by decide) fl_58 (fun _ h9 => h9) rfl d_LI_many_90 ?_
      refine jn_i (wr := [(a_li, .inr (0, [.ref a_tp, .ref a_tk, .ref a_cd, .ref a_ps, .ref a_lp, .ref a_rn, .ref a_gu, .ref a_fu, .int li_loopGiven, .int li_faultPlace])), (a_lp, .inr (4, [.ref a_lp_facts, .ref a_lp_turns, .ref a_lp_first, .ref a_lp_src, .ref a_s1, .int lp_choices, .int lp_guesses, .int lp_unaries, .int lp_ranked])), (a_lp_facts, .inl (cI, 4096, .inl lp_facts)), (a_lp_turns, .inl (cI, 24576, .inl lp_turns)), (a_gu, .inr (3, [.ref a_lp, .ref a_gu_rounds, .ref a_s1, .ref a_s2, .int gu_left]))]) (va_runV (As := []) (rest := []) ⟨hx, hb, hml, hown, hts⟩ (c_Runs_greatestLevel l dC dI cI cB cZ adK adV _ a_rn a_lp a_rn_levels a_rn_path a_s1 a_s2 a_wk rn_reached rn_greatestLevel rn_pathSize _ h) (cwV 0 hts (gv_ m_932 m_933 m_934 m_93 m_935) rfl rfl rfl pd_Runs_greatestLevel ⟨Nat.le_of_ble_eq_true rfl, Nat.le_of_ble_eq_true rfl⟩) ⟨pc_blind, va_recv hK hP (ci := 6) (q0 := 4) rfl rfl, pc_of (hP.sub [4] rfl) hK (hD.sub [4] (by decide) rfl) hN hT hS hA⟩ rfl rfl hl.1 rfl (lv_room (Nat.le_of_ble_eq_true rfl)) d_LI_many_93 ⟨Nat.zero_le _, Nat.zero_le _⟩) hP hD hS hA [4] [0, 1, 2, 3, 5] rfl rfl (by decide) (by decide) (fun r_5 u_ H locs h hP hD hS => ?_)
      have hP : va_P (dC, dI) vwCl [(a_li, .inr (0, [.ref a_tp, .ref a_tk, .ref a_cd, .ref a_ps, .ref a_lp, .ref a_rn, .ref a_gu, .ref a_fu, .int li_loopGiven, .int li_faultPlace])), (a_lp, .inr (4, [.ref a_lp_facts, .ref a_lp_turns, .ref a_lp_first, .ref a_lp_src, .ref a_s1, .int lp_choices, .int lp_guesses, .int lp_unaries, .int lp_ranked])), (a_lp_facts, .inl (cI, 4096, .inl lp_facts)), (a_lp_turns, .inl (cI, 24576, .inl lp_turns)), (a_gu, .inr (3, [.ref a_lp, .ref a_gu_rounds, .ref a_s1, .ref a_s2, .int gu_left])), (a_rn, .inr (6, [.ref a_lp, .ref a_rn_levels, .ref a_rn_path, .ref a_s1, .ref a_s2, .ref a_wk, .int rn_reached, .int rn_greatestLevel, .int rn_pathSize]))] H := hP
      have hD : va_D A [(a_li, .inr (0, [.ref a_tp, .ref a_tk, .ref a_cd, .ref a_ps, .ref a_lp, .ref a_rn, .ref a_gu, .ref a_fu, .int li_loopGiven, .int li_faultPlace])), (a_lp, .inr (4, [.ref a_lp_facts, .ref a_lp_turns, .ref a_lp_first, .ref a_lp_src, .ref a_s1, .int lp_choices, .int lp_guesses, .int lp_unaries, .int lp_ranked])), (a_lp_facts, .inl (cI, 4096, .inl lp_facts)), (a_lp_turns, .inl (cI, 24576, .inl lp_turns)), (a_gu, .inr (3, [.ref a_lp, .ref a_gu_rounds, .ref a_s1, .ref a_s2, .int gu_left])), (a_rn, .inr (6, [.ref a_lp, .ref a_rn_levels, .ref a_rn_path, .ref a_s1, .ref a_s2, .ref a_wk, .int rn_reached, .int rn_greatestLevel, .int rn_pathSize]))] := hD
      subst hQ
      have hP9 := hP.sub (ws' := [(a_li, .inr (0, [.ref a_tp, .ref a_tk, .ref a_cd, .ref a_ps, .ref a_lp, .ref a_rn, .ref a_gu, .ref a_fu, .int li_loopGiven, .int li_faultPlace])), (a_lp, .inr (4, [.ref a_lp_facts, .ref a_lp_turns, .ref a_lp_first, .ref a_lp_src, .ref a_s1, .int lp_choices, .int lp_guesses, .int lp_unaries, .int lp_ranked])), (a_lp_facts, .inl (cI, 4096, .inl lp_facts)), (a_lp_turns, .inl (cI, 24576, .inl lp_turns)), (a_rn, .inr (6, [.ref a_lp, .ref a_rn_levels, .ref a_rn_path, .ref a_s1, .ref a_s2, .ref a_wk, .int rn_reached, .int rn_greatestLevel, .int rn_pathSize])), (a_gu, .inr (3, [.ref a_lp, .ref a_gu_rounds, .ref a_s1, .ref a_s2, .int gu_left]))]) [0, 1, 2, 3, 5, 4] rfl
      have hD9 := hD.sub (ws' := [(a_li, .inr (0, [.ref a_tp, .ref a_tk, .ref a_cd, .ref a_ps, .ref a_lp, .ref a_rn, .ref a_gu, .ref a_fu, .int li_loopGiven, .int li_faultPlace])), (a_lp, .inr (4, [.ref a_lp_facts, .ref a_lp_turns, .ref a_lp_first, .ref a_lp_src, .ref a_s1, .int lp_choices, .int lp_guesses, .int lp_unaries, .int lp_ranked])), (a_lp_facts, .inl (cI, 4096, .inl lp_facts)), (a_lp_turns, .inl (cI, 24576, .inl lp_turns)), (a_rn, .inr (6, [.ref a_lp, .ref a_rn_levels, .ref a_rn_path, .ref a_s1, .ref a_s2, .ref a_wk, .int rn_reached, .int rn_greatestLevel, .int rn_pathSize])), (a_gu, .inr (3, [.ref a_lp, .ref a_gu_rounds, .ref a_s1, .ref a_s2, .int gu_left]))]) [0, 1, 2, 3, 5, 4] (by decide) rfl
      exact W.iret (v := r_5) hx hb hr (fun t ht hW => ⟨⟨r_5, (), rfl, h, by rw [ht]; exact hP9, va_K.moved hW.alike hK, hD9⟩, hS.F ht⟩) hS.2.2 d_LI_many_96
    rcases Classical.em ((x1 : Int32) = 5) with e_10_5 | e_10_5
    · have h := h.2.2.2.2.2.1 e_10_5
      refine lv_tableIn (off := 87) (tgt := 97) hx hb d_LI_many_10 (by rw [e_10_5]; decide) (by rw [e_10_5]; decide) (by rw [e_10_5]; rfl) (by decide) ?_
      refine lv_aload_n hx hb d_LI_many_97 rfl (lv_at hl 0 rfl) ?_
      refine va_get (D := (dC, dI)) (ci := 0) (v := .ref a_rn) (C := "LoopInduction") (T := F_LI) (N := 10) hx hb hts iC_LI hown hK hP 0 rfl rfl 5 (by decide) fl_58 (fun _ h9 => h9) rfl d_LI_many_98 ?_
      refine jn_i (wr := [(a_li, .inr (0, [.ref a_tp, .ref a_tk, .ref a_cd, .ref a_ps, .ref a_lp, .ref a_rn, .ref a_gu, .ref a_fu, .int li_loopGiven, .int li_faultPlace])), (a_gu, .inr (3, [.ref a_lp, .ref a_gu_rounds, .ref a_s1, .ref a_s2, .int gu_left]))]) (va_runV (As := []) (rest := []) ⟨hx, hb, hml, hown, hts⟩ (c_Runs_countPairs l dC dI cI cB cZ adK adV _ a_lp a_lp_facts a_lp_turns a_lp_first a_lp_src a_s1 a_rn a_rn_levels a_rn_path a_s2 a_wk lp_choices lp_guesses lp_unaries lp_ranked lp_facts lp_turns rn_reached rn_greatestLevel rn_pathSize _ h) (cwV 0 hts (gv_ m_936 m_937 m_938 m_93 m_939) rfl rfl rfl pd_Runs_countPairs ⟨Nat.le_of_ble_eq_true rfl, Nat.le_of_ble_eq_true rfl⟩) ⟨pc_blind, va_recv hK hP (ci := 6) (q0 := 4) rfl rfl, pc_of (hP.sub [1, 2, 3, 4] rfl) hK (hD.sub [1, 2, 3, 4] (by decide) rfl) hN hT hS hA⟩ rfl rfl hl.1 rfl (lv_room (Nat.le_of_ble_eq_true rfl)) d_LI_many_101 ⟨Nat.zero_le _, Nat.zero_le _⟩) hP hD hS hA [1, 2, 3, 4] [0, 5] rfl rfl (by decide) (by decide) (fun r_6 u_ H locs h hP hD hS => ?_)
      have hP : va_P (dC, dI) vwCl [(a_li, .inr (0, [.ref a_tp, .ref a_tk, .ref a_cd, .ref a_ps, .ref a_lp, .ref a_rn, .ref a_gu, .ref a_fu, .int li_loopGiven, .int li_faultPlace])), (a_gu, .inr (3, [.ref a_lp, .ref a_gu_rounds, .ref a_s1, .ref a_s2, .int gu_left])), (a_lp, .inr (4, [.ref a_lp_facts, .ref a_lp_turns, .ref a_lp_first, .ref a_lp_src, .ref a_s1, .int lp_choices, .int lp_guesses, .int lp_unaries, .int lp_ranked])), (a_lp_facts, .inl (cI, 4096, .inl lp_facts)), (a_lp_turns, .inl (cI, 24576, .inl lp_turns)), (a_rn, .inr (6, [.ref a_lp, .ref a_rn_levels, .ref a_rn_path, .ref a_s1, .ref a_s2, .ref a_wk, .int rn_reached, .int rn_greatestLevel, .int rn_pathSize]))] H := hP
      have hD : va_D A [(a_li, .inr (0, [.ref a_tp, .ref a_tk, .ref a_cd, .ref a_ps, .ref a_lp, .ref a_rn, .ref a_gu, .ref a_fu, .int li_loopGiven, .int li_faultPlace])), (a_gu, .inr (3, [.ref a_lp, .ref a_gu_rounds, .ref a_s1, .ref a_s2, .int gu_left])), (a_lp, .inr (4, [.ref a_lp_facts, .ref a_lp_turns, .ref a_lp_first, .ref a_lp_src, .ref a_s1, .int lp_choices, .int lp_guesses, .int lp_unaries, .int lp_ranked])), (a_lp_facts, .inl (cI, 4096, .inl lp_facts)), (a_lp_turns, .inl (cI, 24576, .inl lp_turns)), (a_rn, .inr (6, [.ref a_lp, .ref a_rn_levels, .ref a_rn_path, .ref a_s1, .ref a_s2, .ref a_wk, .int rn_reached, .int rn_greatestLevel, .int rn_pathSize]))] := hD
      subst hQ
      have hP9 := hP.sub (ws' := [(a_li, .inr (0, [.ref a_tp, .ref a_tk, .ref a_cd, .ref a_ps, .ref a_lp, .ref a_rn, .ref a_gu, .ref a_fu, .int li_loopGiven, .int li_faultPlace])), (a_lp, .inr (4, [.ref a_lp_facts, .ref a_lp_turns, .ref a_lp_first, .ref a_lp_src, .ref a_s1, .int lp_choices, .int lp_guesses, .int lp_unaries, .int lp_ranked])), (a_lp_facts, .inl (cI, 4096, .inl lp_facts)), (a_lp_turns, .inl (cI, 24576, .inl lp_turns)), (a_rn, .inr (6, [.ref a_lp, .ref a_rn_levels, .ref a_rn_path, .ref a_s1, .ref a_s2, .ref a_wk, .int rn_reached, .int rn_greatestLevel, .int rn_pathSize])), (a_gu, .inr (3, [.ref a_lp, .ref a_gu_rounds, .ref a_s1, .ref a_s2, .int gu_left]))]) [0, 2, 3, 4, 5, 1] rfl
      have hD9 := hD.sub (ws' := [(a_li, .inr (0, [.ref a_tp, .ref a_tk, .ref a_cd, .ref a_ps, .ref a_lp, .ref a_rn, .ref a_gu, .ref a_fu, .int li_loopGiven, .int li_faultPlace])), (a_lp, .inr (4, [.ref a_lp_facts, .ref a_lp_turns, .ref a_lp_first, .ref a_lp_src, .ref a_s1, .int lp_choices, .int lp_guesses, .int lp_unaries, .int lp_ranked])), (a_lp_facts, .inl (cI, 4096, .inl lp_facts)), (a_lp_turns, .inl (cI, 24576, .inl lp_turns)), (a_rn, .inr (6, [.ref a_lp, .ref a_rn_levels, .ref a_rn_path, .ref a_s1, .ref a_s2, .ref a_wk, .int rn_reached, .int rn_greatestLevel, .int rn_pathSize])), (a_gu, .inr (3, [.ref a_lp, .ref a_gu_rounds, .ref a_s1, .ref a_s2, .int gu_left]))]) [0, 2, 3, 4, 5, 1] (by decide) rfl
      exact W.iret (v := r_6) hx hb hr (fun t ht hW => ⟨⟨r_6, (), rfl, h, by rw [ht]; exact hP9, va_K.moved hW.alike hK, hD9⟩, hS.F ht⟩) hS.2.2 d_LI_many_104
    rcases Classical.em ((x1 : Int32) = 6) with e_10_6 | e_10_6
    · have h := h.2.2.2.2.2.2.1 e_10_6
      refine lv_tableIn (off := 95) (tgt := 105) hx hb d_LI_many_10 (by rw [e_10_6]; decide) (by rw [e_10_6]; decide) (by rw [e_10_6]; rfl) (by decide) ?_
      refine lv_aload_n hx hb d_LI_many_105 rfl (lv_at hl 0 rfl) ?_
      refine va_get (D := (dC, dI)) (ci := 0) (v := .ref a_lp) (C := "LoopInduction") (T := F_LI) (N := 10) hx hb hts iC_LI hown hK hP 0 rfl rfl 4 (by decide) fl_49 (fun _ h9 => h9) rfl d_LI_many_106 ?_
      refine lv_aload_n hx hb d_LI_many_109 rfl (lv_at hl 0 rfl) ?_
      refine va_get (D := (dC, dI)) (ci := 0) (v := .ref a_gu) (C := "LoopInduction") (T := F_LI) (N := 10) hx hb hts iC_LI hown hK hP 0 rfl rfl 6 (by decide) fl_65 (fun _ h9 => h9) rfl d_LI_many_110 ?_
      refine jn_i (wr := [(a_li, .inr (0, [.ref a_tp, .ref a_tk, .ref a_cd, .ref a_ps, .ref a_lp, .ref a_rn, .ref a_gu, .ref a_fu, .int li_loopGiven, .int li_faultPlace])), (a_lp, .inr (4, [.ref a_lp_facts, .ref a_lp_turns, .ref a_lp_first, .ref a_lp_src, .ref a_s1, .int lp_choices, .int lp_guesses, .int lp_unaries, .int lp_ranked])), (a_lp_facts, .inl (cI, 4096, .inl lp_facts)), (a_lp_turns, .inl (cI, 24576, .inl lp_turns)), (a_rn, .inr (6, [.ref a_lp, .ref a_rn_levels, .ref a_rn_path, .ref a_s1, .ref a_s2, .ref a_wk, .int rn_reached, .int rn_greatestLevel, .int rn_pathSize]))]) (va_runV (As := []) (rest := [.ref a_lp]) ⟨hx, hb, hml, hown, hts⟩ (c_Gues_keptFacts l dC dI cI cB cZ adK adV _ a_gu a_lp a_gu_rounds a_s1 a_s2 gu_left _ h) (cwV 0 hts (gv_ m_948 m_877 m_878 m_94 m_879) rfl rfl rfl pd_Gues_keptFacts ⟨Nat.le_of_ble_eq_true rfl, Nat.le_of_ble_eq_true rfl⟩) ⟨pc_blind, va_recv hK hP (ci := 3) (q0 := 5) rfl rfl, pc_of (hP.sub [5] rfl) hK (hD.sub [5] (by decide) rfl) hN hT hS hA⟩ rfl rfl hl.1 rfl (lv_room (Nat.le_of_ble_eq_true rfl)) d_LI_many_113 ⟨Nat.zero_le _, Nat.zero_le _⟩) hP hD hS hA [5] [0, 1, 2, 3, 4] rfl rfl (by decide) (by decide) (fun r_7 u_ H locs h hP hD hS => ?_)
      have hP : va_P (dC, dI) vwCl [(a_li, .inr (0, [.ref a_tp, .ref a_tk, .ref a_cd, .ref a_ps, .ref a_lp, .ref a_rn, .ref a_gu, .ref a_fu, .int li_loopGiven, .int li_faultPlace])), (a_lp, .inr (4, [.ref a_lp_facts, .ref a_lp_turns, .ref a_lp_first, .ref a_lp_src, .ref a_s1, .int lp_choices, .int lp_guesses, .int lp_unaries, .int lp_ranked])), (a_lp_facts, .inl (cI, 4096, .inl lp_facts)), (a_lp_turns, .inl (cI, 24576, .inl lp_turns)), (a_rn, .inr (6, [.ref a_lp, .ref a_rn_levels, .ref a_rn_path, .ref a_s1, .ref a_s2, .ref a_wk, .int rn_reached, .int rn_greatestLevel, .int rn_pathSize])), (a_gu, .inr (3, [.ref a_lp, .ref a_gu_rounds, .ref a_s1, .ref a_s2, .int gu_left]))] H := hP
      have hD : va_D A [(a_li, .inr (0, [.ref a_tp, .ref a_tk, .ref a_cd, .ref a_ps, .ref a_lp, .ref a_rn, .ref a_gu, .ref a_fu, .int li_loopGiven, .int li_faultPlace])), (a_lp, .inr (4, [.ref a_lp_facts, .ref a_lp_turns, .ref a_lp_first, .ref a_lp_src, .ref a_s1, .int lp_choices, .int lp_guesses, .int lp_unaries, .int lp_ranked])), (a_lp_facts, .inl (cI, 4096, .inl lp_facts)), (a_lp_turns, .inl (cI, 24576, .inl lp_turns)), (a_rn, .inr (6, [.ref a_lp, .ref a_rn_levels, .ref a_rn_path, .ref a_s1, .ref a_s2, .ref a_wk, .int rn_reached, .int rn_greatestLevel, .int rn_pathSize])), (a_gu, .inr (3, [.ref a_lp, .ref a_gu_rounds, .ref a_s1, .ref a_s2, .int gu_left]))] := hD
      refine jn_i (wr := [(a_li, .inr (0, [.ref a_tp, .ref a_tk, .ref a_cd, .ref a_ps, .ref a_lp, .ref a_rn, .ref a_gu, .ref a_fu, .int li_loopGiven, .int li_faultPlace])), (a_lp_turns, .inl (cI, 24576, .inl lp_turns)), (a_rn, .inr (6, [.ref a_lp, .ref a_rn_levels, .ref a_rn_path, .ref a_s1, .ref a_s2, .ref a_wk, .int rn_reached, .int rn_greatestLevel, .int rn_pathSize])), (a_gu, .inr (3, [.ref a_lp, .ref a_gu_rounds, .ref a_s1, .ref a_s2, .int gu_left]))]) (va_runV (As := [.int r_7]) (rest := []) ⟨hx, hb, hml, hown, hts⟩ (c_Loop_countWith l dC dI cI cB cZ adK adV _ a_lp a_lp_facts a_lp_turns a_lp_first a_lp_src a_s1 lp_choices lp_guesses lp_unaries lp_ranked lp_facts r_7 _ h) (cwV 1 hts (gv_ m_927 m_928 m_929 m_92 m_930) rfl rfl rfl pd_Loop_countWith ⟨Nat.le_of_ble_eq_true rfl, Nat.le_of_ble_eq_true rfl⟩) ⟨pc_blind, va_recv hK hP (ci := 4) (q0 := 1) rfl rfl, pc_of (hP.sub [1, 2] rfl) hK (hD.sub [1, 2] (by decide) rfl) hN hT hS hA⟩ rfl rfl hl.1 rfl (lv_room (Nat.le_of_ble_eq_true rfl)) d_LI_many_116 ⟨Nat.zero_le _, Nat.zero_le _⟩) hP hD hS hA [1, 2] [0, 3, 4, 5] rfl rfl (by decide) (by decide) (fun r_8 u_ H locs h hP hD hS => ?_)
      have hP : va_P (dC, dI) vwCl [(a_li, .inr (0, [.ref a_tp, .ref a_tk, .ref a_cd, .ref a_ps, .ref a_lp, .ref a_rn, .ref a_gu, .ref a_fu, .int li_loopGiven, .int li_faultPlace])), (a_lp_turns, .inl (cI, 24576, .inl lp_turns)), (a_rn, .inr (6, [.ref a_lp, .ref a_rn_levels, .ref a_rn_path, .ref a_s1, .ref a_s2, .ref a_wk, .int rn_reached, .int rn_greatestLevel, .int rn_pathSize])), (a_gu, .inr (3, [.ref a_lp, .ref a_gu_rounds, .ref a_s1, .ref a_s2, .int gu_left])), (a_lp, .inr (4, [.ref a_lp_facts, .ref a_lp_turns, .ref a_lp_first, .ref a_lp_src, .ref a_s1, .int lp_choices, .int lp_guesses, .int lp_unaries, .int lp_ranked])), (a_lp_facts, .inl (cI, 4096, .inl lp_facts))] H := hP
      have hD : va_D A [(a_li, .inr (0, [.ref a_tp, .ref a_tk, .ref a_cd, .ref a_ps, .ref a_lp, .ref a_rn, .ref a_gu, .ref a_fu, .int li_loopGiven, .int li_faultPlace])), (a_lp_turns, .inl (cI, 24576, .inl lp_turns)), (a_rn, .inr (6, [.ref a_lp, .ref a_rn_levels, .ref a_rn_path, .ref a_s1, .ref a_s2, .ref a_wk, .int rn_reached, .int rn_greatestLevel, .int rn_pathSize])), (a_gu, .inr (3, [.ref a_lp, .ref a_gu_rounds, .ref a_s1, .ref a_s2, .int gu_left])), (a_lp, .inr (4, [.ref a_lp_facts, .ref a_lp_turns, .ref a_lp_first, .ref a_lp_src, .ref a_s1, .int lp_choices, .int lp_guesses, .int lp_unaries, .int lp_ranked])), (a_lp_facts, .inl (cI, 4096, .inl lp_facts))] := hD
      subst hQ
      have hP9 := hP.sub (ws' := [(a_li, .inr (0, [.ref a_tp, .ref a_tk, .ref a_cd, .ref a_ps, .ref a_lp, .ref a_rn, .ref a_gu, .ref a_fu, .int li_loopGiven, .int li_faultPlace])), (a_lp, .inr (4, [.ref a_lp_facts, .ref a_lp_turns, .ref a_lp_first, .ref a_lp_src, .ref a_s1, .int lp_choices, .int lp_guesses, .int lp_unaries, .int lp_ranked])), (a_lp_facts, .inl (cI, 4096, .inl lp_facts)), (a_lp_turns, .inl (cI, 24576, .inl lp_turns)), (a_rn, .inr (6, [.ref a_lp, .ref a_rn_levels, .ref a_rn_path, .ref a_s1, .ref a_s2, .ref a_wk, .int rn_reached, .int rn_greatestLevel, .int rn_pathSize])), (a_gu, .inr (3, [.ref a_lp, .ref a_gu_rounds, .ref a_s1, .ref a_s2, .int gu_left]))]) [0, 4, 5, 1, 2, 3] rfl
      have hD9 := hD.sub (ws' := [(a_li, .inr (0, [.ref a_tp, .ref a_tk, .ref a_cd, .ref a_ps, .ref a_lp, .ref a_rn, .ref a_gu, .ref a_fu, .int li_loopGiven, .int li_faultPlace])), (a_lp, .inr (4, [.ref a_lp_facts, .ref a_lp_turns, .ref a_lp_first, .ref a_lp_src, .ref a_s1, .int lp_choices, .int lp_guesses, .int lp_unaries, .int lp_ranked])), (a_lp_facts, .inl (cI, 4096, .inl lp_facts)), (a_lp_turns, .inl (cI, 24576, .inl lp_turns)), (a_rn, .inr (6, [.ref a_lp, .ref a_rn_levels, .ref a_rn_path, .ref a_s1, .ref a_s2, .ref a_wk, .int rn_reached, .int rn_greatestLevel, .int rn_pathSize])), (a_gu, .inr (3, [.ref a_lp, .ref a_gu_rounds, .ref a_s1, .ref a_s2, .int gu_left]))]) [0, 4, 5, 1, 2, 3] (by decide) rfl
      exact W.iret (v := r_8) hx hb hr (fun t ht hW => ⟨⟨r_8, (), rfl, h, by rw [ht]; exact hP9, va_K.moved hW.alike hK, hD9⟩, hS.F ht⟩) hS.2.2 d_LI_many_119
    have h := h.2.2.2.2.2.2.2 e_10_0 e_10_1 e_10_2 e_10_3 e_10_4 e_10_5 e_10_6
    refine lv_tableOut (tgt := 120) hx hb d_LI_many_10 (by have := lv_neT e_10_0 (a := 0) (by decide); have := lv_neT e_10_1 (a := 1) (by decide); have := lv_neT e_10_2 (a := 2) (by decide); have := lv_neT e_10_3 (a := 3) (by decide); have := lv_neT e_10_4 (a := 4) (by decide); have := lv_neT e_10_5 (a := 5) (by decide); have := lv_neT e_10_6 (a := 6) (by decide); omega) (by decide) ?_
    refine lv_iconst (v := (-1)) hx hb d_LI_many_120 (by decide) ?_
    subst hQ
    have hP9 := hP
    have hD9 := hD
    exact W.iret (v := (-1)) hx hb hr (fun t ht hW => ⟨⟨(-1), (), rfl, h, by rw [ht]; exact hP9, va_K.moved hW.alike hK, hD9⟩, hS.F ht⟩) hS.2.2 d_LI_many_121
  · have h := And.right h c_4
    refine lv_iconst (v := (-1)) hx hb d_LI_many_7 (by decide) ?_
    subst hQ
    have hP9 := hP
    have hD9 := hD
    exact W.iret (v := (-1)) hx hb hr (fun t ht hW => ⟨⟨(-1), (), rfl, h, by rw [ht]; exact hP9, va_K.moved hW.alike hK, hD9⟩, hS.F ht⟩) hS.2.2 d_LI_many_8
def wp_LI_level (x1 : Int32) (li_loopGiven : Int32) (rn_levels : Nat → Int32) (post : Int32 → Prop) : Prop :=
  (((li_loopGiven : Int32) = 0 → post (-1)) ∧ (¬ (li_loopGiven : Int32) = 0 → wp_Runs_levelOf x1 rn_levels (fun r_1 => post r_1)))
set_option maxHeartbeats 4000000 in
set_option maxRecDepth 100000 in
theorem c_LI_level (l : Launch) (dC : Nat → ClassId) (dI : Nat → Nat → Nat) (cI cB cZ : ClassId) (adK adV : Nat → Nat) (sz : Nat) (a_li a_tp a_tk a_cd a_ps a_lp a_rn a_gu a_fu a_rn_levels a_rn_path a_s1 a_s2 a_wk : Nat) (li_loopGiven : Int32) (li_faultPlace : Int32) (rn_reached : Int32) (rn_greatestLevel : Int32) (rn_pathSize : Int32) (rn_levels : Nat → Int32) (x1 : Int32) (post : Int32 → Prop) (h : wp_LI_level x1 li_loopGiven rn_levels post) : Met l y_LI_level w_LI_level ({ frames := 2, cells := 0, slots := 0, locals := 41 }) (pc_ (dC, dI) [(cI, .int), (cB, .byte), (cZ, .boolean)] [(a_li, .inr (0, [.ref a_tp, .ref a_tk, .ref a_cd, .ref a_ps, .ref a_lp, .ref a_rn, .ref a_gu, .ref a_fu, .int li_loopGiven, .int li_faultPlace])), (a_rn, .inr (6, [.ref a_lp, .ref a_rn_levels, .ref a_rn_path, .ref a_s1, .ref a_s2, .ref a_wk, .int rn_reached, .int rn_greatestLevel, .int rn_pathSize])), (a_rn_levels, .inl (cI, 4096, .inl rn_levels))] sz adK adV [.ref a_li, .int x1]) (va_Qi (fun (r : Int32) (u : Unit) => post r ) (fun (u : Unit) t => bw_ (dC, dI) [(cI, .int), (cB, .byte), (cZ, .boolean)] (va_A [(a_li, .inr (0, [.ref a_tp, .ref a_tk, .ref a_cd, .ref a_ps, .ref a_lp, .ref a_rn, .ref a_gu, .ref a_fu, .int li_loopGiven, .int li_faultPlace])), (a_rn, .inr (6, [.ref a_lp, .ref a_rn_levels, .ref a_rn_path, .ref a_s1, .ref a_s2, .ref a_wk, .int rn_reached, .int rn_greatestLevel, .int rn_pathSize])), (a_rn_levels, .inl (cI, 4096, .inl rn_levels))] sz) [(a_li, .inr (0, [.ref a_tp, .ref a_tk, .ref a_cd, .ref a_ps, .ref a_lp, .ref a_rn, .ref a_gu, .ref a_fu, .int li_loopGiven, .int li_faultPlace])), (a_rn, .inr (6, [.ref a_lp, .ref a_rn_levels, .ref a_rn_path, .ref a_s1, .ref a_s2, .ref a_wk, .int rn_reached, .int rn_greatestLevel, .int rn_pathSize])), (a_rn_levels, .inl (cI, 4096, .inl rn_levels))] t) (va_A [(a_li, .inr (0, [.ref a_tp, .ref a_tk, .ref a_cd, .ref a_ps, .ref a_lp, .ref a_rn, .ref a_gu, .ref a_fu, .int li_loopGiven, .int li_faultPlace])), (a_rn, .inr (6, [.ref a_lp, .ref a_rn_levels, .ref a_rn_path, .ref a_s1, .ref a_s2, .ref a_wk, .int rn_reached, .int rn_greatestLevel, .int rn_pathSize])), (a_rn_levels, .inl (cI, 4096, .inl rn_levels))] sz)) 0 0 (va_A [(a_li, .inr (0, [.ref a_tp, .ref a_tk, .ref a_cd, .ref a_ps, .ref a_lp, .ref a_rn, .ref a_gu, .ref a_fu, .int li_loopGiven, .int li_faultPlace])), (a_rn, .inr (6, [.ref a_lp, .ref a_rn_levels, .ref a_rn_path, .ref a_s1, .ref a_s2, .ref a_wk, .int rn_reached, .int rn_greatestLevel, .int rn_pathSize])), (a_rn_levels, .inl (cI, 4096, .inl rn_levels))] sz) := by
  refine Met.ofW (cc := b_LI_level) (maxL := 2) (ret := (some .int)) (by decide) rfl ?_
  intro p e s m args below meth c s₁ B hml hv
  obtain ⟨rfl, hsz, hP, hK, hD0, hN, hT⟩ := hv
  have hx := B.exec
  have hb := B.bytes
  have hr := B.returns
  have hts := atoms_spec (ws := w_LI_level) B.pre
  have hown : s.vm.findClass "LoopInduction" = some m.cls := findClass_of_methodNamed B.named
  have hlocks := B.notSynchronized
  subst hsz
  have hD := hD0.self (sz := s.heap.size)
  generalize hAe : va_A [(a_li, .inr (0, [.ref a_tp, .ref a_tk, .ref a_cd, .ref a_ps, .ref a_lp, .ref a_rn, .ref a_gu, .ref a_fu, .int li_loopGiven, .int li_faultPlace])), (a_rn, .inr (6, [.ref a_lp, .ref a_rn_levels, .ref a_rn_path, .ref a_s1, .ref a_s2, .ref a_wk, .int rn_reached, .int rn_greatestLevel, .int rn_pathSize])), (a_rn_levels, .inl (cI, 4096, .inl rn_levels))] s.heap.size = A at hD hT ⊢
  have hA : ∀ q : Nat, s.heap.size ≤ q → A q := fun q h => by rw [← hAe]; exact Or.inr h
  have hS : va_S A s.heap s.heap [] := va_S.rf
  generalize hQ : MQ below _ _ s 0 0 _ = QQ
  have hl := lv_entry ([.ref a_li, .int x1]) (n := 2) (Nat.le_of_ble_eq_true rfl)
  rw [lg_entry_eq]
  generalize (lg_sl ([.ref a_li, .int x1]) ++ List.replicate (2 - (lg_sl ([.ref a_li, .int x1])).length) Slot.unset).toArray = ls at hl ⊢
  have hl : lv_has ls 2 [(0, .ref a_li), (1, .int x1)] := hl
  have fl_58 := (hts _ (List.mem_cons_of_mem _ m_376))
  have fl_76 := (hts _ (List.mem_cons_of_mem _ m_379))
  refine lv_aload_n hx hb d_LI_level_0 rfl (lv_at hl 0 rfl) ?_
  refine va_get (D := (dC, dI)) (ci := 0) (v := .int li_loopGiven) (C := "LoopInduction") (T := F_LI) (N := 10) hx hb hts iC_LI hown hK hP 0 rfl rfl 8 (by decide) fl_76 (fun _ h9 => h9) rfl d_LI_level_1 ?_
  refine lv_if_eq (tgt := 18) hx hb d_LI_level_4 (by decide) (fun c_4 => ?_) (fun c_4 => ?_)
  · have h := And.left h c_4
    refine lv_iconst (v := (-1)) hx hb d_LI_level_18 (by decide) ?_
    subst hQ
    have hP9 := hP
    have hD9 := hD
    exact W.iret (v := (-1)) hx hb hr (fun t ht hW => ⟨⟨(-1), (), rfl, h, by rw [ht]; exact hP9, va_K.moved hW.alike hK, hD9⟩, hS.F ht⟩) hS.2.2 d_LI_level_19
  · have h := And.right h c_4
    refine lv_aload_n hx hb d_LI_level_7 rfl (lv_at hl 0 rfl) ?_
    refine va_get (D := (dC, dI)) (ci := 0) (v := .ref a_rn) (C := "LoopInduction") (T := F_LI) (N := 10) hx hb hts iC_LI hown hK hP 0 rfl rfl 5 (by decide) fl_58 (fun _ h9 => h9) rfl d_LI_level_8 ?_
    refine lv_iload_n hx hb d_LI_level_11 rfl (lv_at hl 1 rfl) ?_
    refine jn_i (wr := [(a_li, .inr (0, [.ref a_tp, .ref a_tk, .ref a_cd, .ref a_ps, .ref a_lp, .ref a_rn, .ref a_gu, .ref a_fu, .int li_loopGiven, .int li_faultPlace]))]) (va_runV (As := [.int x1]) (rest := []) ⟨hx, hb, hml, hown, hts⟩ (c_Runs_levelOf l dC dI cI cB cZ adK adV _ a_rn a_lp a_rn_levels a_rn_path a_s1 a_s2 a_wk rn_reached rn_greatestLevel rn_pathSize rn_levels x1 _ h) (cwV 1 hts (gv_ m_953 m_815 m_816 m_93 m_817) rfl rfl rfl pd_Runs_levelOf ⟨Nat.le_of_ble_eq_true rfl, Nat.le_of_ble_eq_true rfl⟩) ⟨pc_blind, va_recv hK hP (ci := 6) (q0 := 1) rfl rfl, pc_of (hP.sub [1, 2] rfl) hK (hD.sub [1, 2] (by decide) rfl) hN hT hS hA⟩ rfl rfl hl.1 rfl (lv_room (Nat.le_of_ble_eq_true rfl)) d_LI_level_12 ⟨Nat.zero_le _, Nat.zero_le _⟩) hP hD hS hA [1, 2] [0] rfl rfl (by decide) (by decide) (fun r_1 u_ H locs h hP hD hS => ?_)
    have hP : va_P (dC, dI) vwCl [(a_li, .inr (0, [.ref a_tp, .ref a_tk, .ref a_cd, .ref a_ps, .ref a_lp, .ref a_rn, .ref a_gu, .ref a_fu, .int li_loopGiven, .int li_faultPlace])), (a_rn, .inr (6, [.ref a_lp, .ref a_rn_levels, .ref a_rn_path, .ref a_s1, .ref a_s2, .ref a_wk, .int rn_reached, .int rn_greatestLevel, .int rn_pathSize])), (a_rn_levels, .inl (cI, 4096, .inl rn_levels))] H := hP
    have hD : va_D A [(a_li, .inr (0, [.ref a_tp, .ref a_tk, .ref a_cd, .ref a_ps, .ref a_lp, .ref a_rn, .ref a_gu, .ref a_fu, .int li_loopGiven, .int li_faultPlace])), (a_rn, .inr (6, [.ref a_lp, .ref a_rn_levels, .ref a_rn_path, .ref a_s1, .ref a_s2, .ref a_wk, .int rn_reached, .int rn_greatestLevel, .int rn_pathSize])), (a_rn_levels, .inl (cI, 4096, .inl rn_levels))] := hD
    refine lv_goto (tgt := 19) hx hb d_LI_level_15 (by decide) ?_
    subst hQ
    have hP9 := hP
    have hD9 := hD
    exact W.iret (v := r_1) hx hb hr (fun t ht hW => ⟨⟨r_1, (), rfl, h, by rw [ht]; exact hP9, va_K.moved hW.alike hK, hD9⟩, hS.F ht⟩) hS.2.2 d_LI_level_19
def wp_LI_counter (x1 : Int32) (li_loopGiven : Int32) (rn_pathSize : Int32) (rn_path : Nat → Int32) (post : Int32 → Prop) : Prop :=
  (((li_loopGiven : Int32) = 0 → post (-1)) ∧ (¬ (li_loopGiven : Int32) = 0 → wp_Runs_onPathToBad x1 rn_pathSize rn_path (fun r_1 => post r_1)))
set_option maxHeartbeats 4000000 in
set_option maxRecDepth 100000 in
theorem c_LI_counter (l : Launch) (dC : Nat → ClassId) (dI : Nat → Nat → Nat) (cI cB cZ : ClassId) (adK adV : Nat → Nat) (sz : Nat) (a_li a_tp a_tk a_cd a_ps a_lp a_rn a_gu a_fu a_rn_levels a_rn_path a_s1 a_s2 a_wk : Nat) (li_loopGiven : Int32) (li_faultPlace : Int32) (rn_reached : Int32) (rn_greatestLevel : Int32) (rn_pathSize : Int32) (rn_path : Nat → Int32) (x1 : Int32) (post : Int32 → Prop) (h : wp_LI_counter x1 li_loopGiven rn_pathSize rn_path post) : Met l y_LI_counter w_LI_counter ({ frames := 1, cells := 0, slots := 0, locals := 21 }) (pc_ (dC, dI) [(cI, .int), (cB, .byte), (cZ, .boolean)] [(a_li, .inr (0, [.ref a_tp, .ref a_tk, .ref a_cd, .ref a_ps, .ref a_lp, .ref a_rn, .ref a_gu, .ref a_fu, .int li_loopGiven, .int li_faultPlace])), (a_rn, .inr (6, [.ref a_lp, .ref a_rn_levels, .ref a_rn_path, .ref a_s1, .ref a_s2, .ref a_wk, .int rn_reached, .int rn_greatestLevel, .int rn_pathSize])), (a_rn_path, .inl (cI, 4096, .inl rn_path))] sz adK adV [.ref a_li, .int x1]) (va_Qi (fun (r : Int32) (u : Unit) => post r ) (fun (u : Unit) t => bw_ (dC, dI) [(cI, .int), (cB, .byte), (cZ, .boolean)] (va_A [(a_li, .inr (0, [.ref a_tp, .ref a_tk, .ref a_cd, .ref a_ps, .ref a_lp, .ref a_rn, .ref a_gu, .ref a_fu, .int li_loopGiven, .int li_faultPlace])), (a_rn, .inr (6, [.ref a_lp, .ref a_rn_levels, .ref a_rn_path, .ref a_s1, .ref a_s2, .ref a_wk, .int rn_reached, .int rn_greatestLevel, .int rn_pathSize])), (a_rn_path, .inl (cI, 4096, .inl rn_path))] sz) [(a_li, .inr (0, [.ref a_tp, .ref a_tk, .ref a_cd, .ref a_ps, .ref a_lp, .ref a_rn, .ref a_gu, .ref a_fu, .int li_loopGiven, .int li_faultPlace])), (a_rn, .inr (6, [.ref a_lp, .ref a_rn_levels, .ref a_rn_path, .ref a_s1, .ref a_s2, .ref a_wk, .int rn_reached, .int rn_greatestLevel, .int rn_pathSize])), (a_rn_path, .inl (cI, 4096, .inl rn_path))] t) (va_A [(a_li, .inr (0, [.ref a_tp, .ref a_tk, .ref a_cd, .ref a_ps, .ref a_lp, .ref a_rn, .ref a_gu, .ref a_fu, .int li_loopGiven, .int li_faultPlace])), (a_rn, .inr (6, [.ref a_lp, .ref a_rn_levels, .ref a_rn_path, .ref a_s1, .ref a_s2, .ref a_wk, .int rn_reached, .int rn_greatestLevel, .int rn_pathSize])), (a_rn_path, .inl (cI, 4096, .inl rn_path))] sz)) 0 0 (va_A [(a_li, .inr (0, [.ref a_tp, .ref a_tk, .ref a_cd, .ref a_ps, .ref a_lp, .ref a_rn, .ref a_gu, .ref a_fu, .int li_loopGiven, .int li_faultPlace])), (a_rn, .inr (6, [.ref a_lp, .ref a_rn_levels, .ref a_rn_path, .ref a_s1, .ref a_s2, .ref a_wk, .int rn_reached, .int rn_greatestLevel, .int rn_pathSize])), (a_rn_path, .inl (cI, 4096, .inl rn_path))] sz) := by
  refine Met.ofW (cc := b_LI_counter) (maxL := 2) (ret := (some .int)) (by decide) rfl ?_
  intro p e s m args below meth c s₁ B hml hv
  obtain ⟨rfl, hsz, hP, hK, hD0, hN, hT⟩ := hv
  have hx := B.exec
  have hb := B.bytes
  have hr := B.returns
  have hts := atoms_spec (ws := w_LI_counter) B.pre
  have hown : s.vm.findClass "LoopInduction" = some m.cls := findClass_of_methodNamed B.named
  have hlocks := B.notSynchronized
  subst hsz
  have hD := hD0.self (sz := s.heap.size)
  generalize hAe : va_A [(a_li, .inr (0, [.ref a_tp, .ref a_tk, .ref a_cd, .ref a_ps, .ref a_lp, .ref a_rn, .ref a_gu, .ref a_fu, .int li_loopGiven, .int li_faultPlace])), (a_rn, .inr (6, [.ref a_lp, .ref a_rn_levels, .ref a_rn_path, .ref a_s1, .ref a_s2, .ref a_wk, .int rn_reached, .int rn_greatestLevel, .int rn_pathSize])), (a_rn_path, .inl (cI, 4096, .inl rn_path))] s.heap.size = A at hD hT ⊢
  have hA : ∀ q : Nat, s.heap.size ≤ q → A q := fun q h => by rw [← hAe]; exact Or.inr h
  have hS : va_S A s.heap s.heap [] := va_S.rf
  generalize hQ : MQ below _ _ s 0 0 _ = QQ
  have hl := lv_entry ([.ref a_li, .int x1]) (n := 2) (Nat.le_of_ble_eq_true rfl)
  rw [lg_entry_eq]
  generalize (lg_sl ([.ref a_li, .int x1]) ++ List.replicate (2 - (lg_sl ([.ref a_li, .int x1])).length) Slot.unset).toArray = ls at hl ⊢
  have hl : lv_has ls 2 [(0, .ref a_li), (1, .int x1)] := hl
  have fl_58 := (hts _ (List.mem_cons_of_mem _ m_376))
  have fl_76 := (hts _ (List.mem_cons_of_mem _ m_379))
  refine lv_aload_n hx hb d_LI_counter_0 rfl (lv_at hl 0 rfl) ?_
  refine va_get (D := (dC, dI)) (ci := 0) (v := .int li_loopGiven) (C := "LoopInduction") (T := F_LI) (N := 10) hx hb hts iC_LI hown hK hP 0 rfl rfl 8 (by decide) fl_76 (fun _ h9 => h9) rfl d_LI_counter_1 ?_
  refine lv_if_eq (tgt := 18) hx hb d_LI_counter_4 (by decide) (fun c_4 => ?_) (fun c_4 => ?_)
  · have h := And.left h c_4
    refine lv_iconst (v := (-1)) hx hb d_LI_counter_18 (by decide) ?_
    subst hQ
    have hP9 := hP
    have hD9 := hD
    exact W.iret (v := (-1)) hx hb hr (fun t ht hW => ⟨⟨(-1), (), rfl, h, by rw [ht]; exact hP9, va_K.moved hW.alike hK, hD9⟩, hS.F ht⟩) hS.2.2 d_LI_counter_19
  · have h := And.right h c_4
    refine lv_aload_n hx hb d_LI_counter_7 rfl (lv_at hl 0 rfl) ?_
    refine va_get (D := (dC, dI)) (ci := 0) (v := .ref a_rn) (C := "LoopInduction") (T := F_LI) (N := 10) hx hb hts iC_LI hown hK hP 0 rfl rfl 5 (by decide) fl_58 (fun _ h9 => h9) rfl d_LI_counter_8 ?_
    refine lv_iload_n hx hb d_LI_counter_11 rfl (lv_at hl 1 rfl) ?_
    refine jn_i (wr := [(a_li, .inr (0, [.ref a_tp, .ref a_tk, .ref a_cd, .ref a_ps, .ref a_lp, .ref a_rn, .ref a_gu, .ref a_fu, .int li_loopGiven, .int li_faultPlace]))]) (va_runV (As := [.int x1]) (rest := []) ⟨hx, hb, hml, hown, hts⟩ (c_Runs_onPathToBad l dC dI cI cB cZ adK adV _ a_rn a_lp a_rn_levels a_rn_path a_s1 a_s2 a_wk rn_reached rn_greatestLevel rn_pathSize rn_path x1 _ h) (cwV 1 hts (gv_ m_958 m_959 m_960 m_93 m_961) rfl rfl rfl pd_Runs_onPathToBad ⟨Nat.le_of_ble_eq_true rfl, Nat.le_of_ble_eq_true rfl⟩) ⟨pc_blind, va_recv hK hP (ci := 6) (q0 := 1) rfl rfl, pc_of (hP.sub [1, 2] rfl) hK (hD.sub [1, 2] (by decide) rfl) hN hT hS hA⟩ rfl rfl hl.1 rfl (lv_room (Nat.le_of_ble_eq_true rfl)) d_LI_counter_12 ⟨Nat.zero_le _, Nat.zero_le _⟩) hP hD hS hA [1, 2] [0] rfl rfl (by decide) (by decide) (fun r_1 u_ H locs h hP hD hS => ?_)
    have hP : va_P (dC, dI) vwCl [(a_li, .inr (0, [.ref a_tp, .ref a_tk, .ref a_cd, .ref a_ps, .ref a_lp, .ref a_rn, .ref a_gu, .ref a_fu, .int li_loopGiven, .int li_faultPlace])), (a_rn, .inr (6, [.ref a_lp, .ref a_rn_levels, .ref a_rn_path, .ref a_s1, .ref a_s2, .ref a_wk, .int rn_reached, .int rn_greatestLevel, .int rn_pathSize])), (a_rn_path, .inl (cI, 4096, .inl rn_path))] H := hP
    have hD : va_D A [(a_li, .inr (0, [.ref a_tp, .ref a_tk, .ref a_cd, .ref a_ps, .ref a_lp, .ref a_rn, .ref a_gu, .ref a_fu, .int li_loopGiven, .int li_faultPlace])), (a_rn, .inr (6, [.ref a_lp, .ref a_rn_levels, .ref a_rn_path, .ref a_s1, .ref a_s2, .ref a_wk, .int rn_reached, .int rn_greatestLevel, .int rn_pathSize])), (a_rn_path, .inl (cI, 4096, .inl rn_path))] := hD
    refine lv_goto (tgt := 19) hx hb d_LI_counter_15 (by decide) ?_
    subst hQ
    have hP9 := hP
    have hD9 := hD
    exact W.iret (v := r_1) hx hb hr (fun t ht hW => ⟨⟨r_1, (), rfl, h, by rw [ht]; exact hP9, va_K.moved hW.alike hK, hD9⟩, hS.F ht⟩) hS.2.2 d_LI_counter_19
def wp_LI_induction (x1 : Int32) (li_loopGiven : Int32) (lp_choices : Int32) (lp_facts : Nat → Int32) (lp_turns : Nat → Int32) (s1 : Nat → Int32) (s2 : Nat → Int32) (rn_pathSize : Int32) (gu_left : Int32) (post : Int32 → (Nat → Int32) → (Nat → Int32) → Prop) : Prop :=
  (((li_loopGiven : Int32) = 0 → post (-1) s1 s2) ∧ (¬ (li_loopGiven : Int32) = 0 → (((x1 : Int32) < 0 → post (-1) s1 s2) ∧ (¬ (x1 : Int32) < 0 → (((x1 : Int32) ≤ (1 : Int32) → ((¬ (x1 : Int32) = (1 : Int32) → wp_Runs_turnsToBad rn_pathSize (fun r_1 => wp_Gues_leastInduction 0 r_1 lp_choices lp_facts lp_turns s1 s2 gu_left (fun r_2 s1_3 s2_4 => post r_2 s1_3 s2_4))) ∧ ((x1 : Int32) = (1 : Int32) → wp_Runs_turnsToBad rn_pathSize (fun r_5 => wp_Gues_leastInduction 1 r_5 lp_choices lp_facts lp_turns s1 s2 gu_left (fun r_6 s1_7 s2_8 => post r_6 s1_7 s2_8))))) ∧ (¬ (x1 : Int32) ≤ (1 : Int32) → post (-1) s1 s2))))))
set_option maxHeartbeats 4000000 in
set_option maxRecDepth 100000 in
theorem c_LI_induction (l : Launch) (dC : Nat → ClassId) (dI : Nat → Nat → Nat) (cI cB cZ : ClassId) (adK adV : Nat → Nat) (sz : Nat) (a_li a_tp a_tk a_cd a_ps a_lp a_rn a_gu a_fu a_lp_facts a_lp_turns a_lp_first a_lp_src a_s1 a_s2 a_rn_levels a_rn_path a_wk a_gu_rounds : Nat) (li_loopGiven : Int32) (li_faultPlace : Int32) (lp_choices : Int32) (lp_guesses : Int32) (lp_unaries : Int32) (lp_ranked : Int32) (lp_facts : Nat → Int32) (lp_turns : Nat → Int32) (s1 : Nat → Int32) (s2 : Nat → Int32) (rn_reached : Int32) (rn_greatestLevel : Int32) (rn_pathSize : Int32) (gu_left : Int32) (x1 : Int32) (post : Int32 → (Nat → Int32) → (Nat → Int32) → Prop) (h : wp_LI_induction x1 li_loopGiven lp_choices lp_facts lp_turns s1 s2 rn_pathSize gu_left post) : Met l y_LI_induction w_LI_induction ({ frames := 5, cells := 0, slots := 0, locals := 112 }) (pc_ (dC, dI) [(cI, .int), (cB, .byte), (cZ, .boolean)] [(a_li, .inr (0, [.ref a_tp, .ref a_tk, .ref a_cd, .ref a_ps, .ref a_lp, .ref a_rn, .ref a_gu, .ref a_fu, .int li_loopGiven, .int li_faultPlace])), (a_lp, .inr (4, [.ref a_lp_facts, .ref a_lp_turns, .ref a_lp_first, .ref a_lp_src, .ref a_s1, .int lp_choices, .int lp_guesses, .int lp_unaries, .int lp_ranked])), (a_lp_facts, .inl (cI, 4096, .inl lp_facts)), (a_lp_turns, .inl (cI, 24576, .inl lp_turns)), (a_s1, .inl (cI, 4096, .inl s1)), (a_s2, .inl (cI, 4096, .inl s2)), (a_rn, .inr (6, [.ref a_lp, .ref a_rn_levels, .ref a_rn_path, .ref a_s1, .ref a_s2, .ref a_wk, .int rn_reached, .int rn_greatestLevel, .int rn_pathSize])), (a_gu, .inr (3, [.ref a_lp, .ref a_gu_rounds, .ref a_s1, .ref a_s2, .int gu_left]))] sz adK adV [.ref a_li, .int x1]) (va_Qi (fun (r : Int32) (u : (Nat → Int32) × (Nat → Int32)) => post r u.1 u.2) (fun (u : (Nat → Int32) × (Nat → Int32)) t => bw_ (dC, dI) [(cI, .int), (cB, .byte), (cZ, .boolean)] (va_A [(a_li, .inr (0, [.ref a_tp, .ref a_tk, .ref a_cd, .ref a_ps, .ref a_lp, .ref a_rn, .ref a_gu, .ref a_fu, .int li_loopGiven, .int li_faultPlace])), (a_lp, .inr (4, [.ref a_lp_facts, .ref a_lp_turns, .ref a_lp_first, .ref a_lp_src, .ref a_s1, .int lp_choices, .int lp_guesses, .int lp_unaries, .int lp_ranked])), (a_lp_facts, .inl (cI, 4096, .inl lp_facts)), (a_lp_turns, .inl (cI, 24576, .inl lp_turns)), (a_s1, .inl (cI, 4096, .inl s1)), (a_s2, .inl (cI, 4096, .inl s2)), (a_rn, .inr (6, [.ref a_lp, .ref a_rn_levels, .ref a_rn_path, .ref a_s1, .ref a_s2, .ref a_wk, .int rn_reached, .int rn_greatestLevel, .int rn_pathSize])), (a_gu, .inr (3, [.ref a_lp, .ref a_gu_rounds, .ref a_s1, .ref a_s2, .int gu_left]))] sz) [(a_li, .inr (0, [.ref a_tp, .ref a_tk, .ref a_cd, .ref a_ps, .ref a_lp, .ref a_rn, .ref a_gu, .ref a_fu, .int li_loopGiven, .int li_faultPlace])), (a_lp, .inr (4, [.ref a_lp_facts, .ref a_lp_turns, .ref a_lp_first, .ref a_lp_src, .ref a_s1, .int lp_choices, .int lp_guesses, .int lp_unaries, .int lp_ranked])), (a_lp_facts, .inl (cI, 4096, .inl lp_facts)), (a_lp_turns, .inl (cI, 24576, .inl lp_turns)), (a_s1, .inl (cI, 4096, .inl u.1)), (a_s2, .inl (cI, 4096, .inl u.2)), (a_rn, .inr (6, [.ref a_lp, .ref a_rn_levels, .ref a_rn_path, .ref a_s1, .ref a_s2, .ref a_wk, .int rn_reached, .int rn_greatestLevel, .int rn_pathSize])), (a_gu, .inr (3, [.ref a_lp, .ref a_gu_rounds, .ref a_s1, .ref a_s2, .int gu_left]))] t) (va_A [(a_li, .inr (0, [.ref a_tp, .ref a_tk, .ref a_cd, .ref a_ps, .ref a_lp, .ref a_rn, .ref a_gu, .ref a_fu, .int li_loopGiven, .int li_faultPlace])), (a_lp, .inr (4, [.ref a_lp_facts, .ref a_lp_turns, .ref a_lp_first, .ref a_lp_src, .ref a_s1, .int lp_choices, .int lp_guesses, .int lp_unaries, .int lp_ranked])), (a_lp_facts, .inl (cI, 4096, .inl lp_facts)), (a_lp_turns, .inl (cI, 24576, .inl lp_turns)), (a_s1, .inl (cI, 4096, .inl s1)), (a_s2, .inl (cI, 4096, .inl s2)), (a_rn, .inr (6, [.ref a_lp, .ref a_rn_levels, .ref a_rn_path, .ref a_s1, .ref a_s2, .ref a_wk, .int rn_reached, .int rn_greatestLevel, .int rn_pathSize])), (a_gu, .inr (3, [.ref a_lp, .ref a_gu_rounds, .ref a_s1, .ref a_s2, .int gu_left]))] sz)) 0 0 (va_A [(a_li, .inr (0, [.ref a_tp, .ref a_tk, .ref a_cd, .ref a_ps, .ref a_lp, .ref a_rn, .ref a_gu, .ref a_fu, .int li_loopGiven, .int li_faultPlace])), (a_lp, .inr (4, [.ref a_lp_facts, .ref a_lp_turns, .ref a_lp_first, .ref a_lp_src, .ref a_s1, .int lp_choices, .int lp_guesses, .int lp_unaries, .int lp_ranked])), (a_lp_facts, .inl (cI, 4096, .inl lp_facts)), (a_lp_turns, .inl (cI, 24576, .inl lp_turns)), (a_s1, .inl (cI, 4096, .inl s1)), (a_s2, .inl (cI, 4096, .inl s2)), (a_rn, .inr (6, [.ref a_lp, .ref a_rn_levels, .ref a_rn_path, .ref a_s1, .ref a_s2, .ref a_wk, .int rn_reached, .int rn_greatestLevel, .int rn_pathSize])), (a_gu, .inr (3, [.ref a_lp, .ref a_gu_rounds, .ref a_s1, .ref a_s2, .int gu_left]))] sz) := by
  refine Met.ofW (cc := b_LI_induction) (maxL := 2) (ret := (some .int)) (by decide) rfl ?_
  intro p e s m args below meth c s₁ B hml hv
  obtain ⟨rfl, hsz, hP, hK, hD0, hN, hT⟩ := hv
  have hx := B.exec
  have hb := B.bytes
  have hr := B.returns
  have hts := atoms_spec (ws := w_LI_induction) B.pre
  have hown : s.vm.findClass "LoopInduction" = some m.cls := findClass_of_methodNamed B.named
  have hlocks := B.notSynchronized
  subst hsz
  have hD := hD0.self (sz := s.heap.size)
  generalize hAe : va_A [(a_li, .inr (0, [.ref a_tp, .ref a_tk, .ref a_cd, .ref a_ps, .ref a_lp, .ref a_rn, .ref a_gu, .ref a_fu, .int li_loopGiven, .int li_faultPlace])), (a_lp, .inr (4, [.ref a_lp_facts, .ref a_lp_turns, .ref a_lp_first, .ref a_lp_src, .ref a_s1, .int lp_choices, .int lp_guesses, .int lp_unaries, .int lp_ranked])), (a_lp_facts, .inl (cI, 4096, .inl lp_facts)), (a_lp_turns, .inl (cI, 24576, .inl lp_turns)), (a_s1, .inl (cI, 4096, .inl s1)), (a_s2, .inl (cI, 4096, .inl s2)), (a_rn, .inr (6, [.ref a_lp, .ref a_rn_levels, .ref a_rn_path, .ref a_s1, .ref a_s2, .ref a_wk, .int rn_reached, .int rn_greatestLevel, .int rn_pathSize])), (a_gu, .inr (3, [.ref a_lp, .ref a_gu_rounds, .ref a_s1, .ref a_s2, .int gu_left]))] s.heap.size = A at hD hT ⊢
  have hA : ∀ q : Nat, s.heap.size ≤ q → A q := fun q h => by rw [← hAe]; exact Or.inr h
  have hS : va_S A s.heap s.heap [] := va_S.rf
  generalize hQ : MQ below _ _ s 0 0 _ = QQ
  have hl := lv_entry ([.ref a_li, .int x1]) (n := 2) (Nat.le_of_ble_eq_true rfl)
  rw [lg_entry_eq]
  generalize (lg_sl ([.ref a_li, .int x1]) ++ List.replicate (2 - (lg_sl ([.ref a_li, .int x1])).length) Slot.unset).toArray = ls at hl ⊢
  have hl : lv_has ls 2 [(0, .ref a_li), (1, .int x1)] := hl
  have fl_58 := (hts _ (List.mem_cons_of_mem _ m_376))
  have fl_65 := (hts _ (List.mem_cons_of_mem _ m_377))
  have fl_76 := (hts _ (List.mem_cons_of_mem _ m_379))
  refine lv_aload_n hx hb d_LI_induction_0 rfl (lv_at hl 0 rfl) ?_
  refine va_get (D := (dC, dI)) (ci := 0) (v := .int li_loopGiven) (C := "LoopInduction") (T := F_LI) (N := 10) hx hb hts iC_LI hown hK hP 0 rfl rfl 8 (by decide) fl_76 (fun _ h9 => h9) rfl d_LI_induction_1 ?_
  refine lv_if_eq (tgt := 16) hx hb d_LI_induction_4 (by decide) (fun c_4 => ?_) (fun c_4 => ?_)
  · have h := And.left h c_4
    refine lv_iconst (v := (-1)) hx hb d_LI_induction_16 (by decide) ?_
    subst hQ
    have hP9 := hP
    have hD9 := hD
    exact W.iret (v := (-1)) hx hb hr (fun t ht hW => ⟨⟨(-1), (s1, s2), rfl, h, by rw [ht]; exact hP9, va_K.moved hW.alike hK, hD9⟩, hS.F ht⟩) hS.2.2 d_LI_induction_17
  · have h := And.right h c_4
    refine lv_iload_n hx hb d_LI_induction_7 rfl (lv_at hl 1 rfl) ?_
    refine lv_if_lt (tgt := 16) hx hb d_LI_induction_8 (by decide) (fun c_8 => ?_) (fun c_8 => ?_)
    · have h := And.left h c_8
      refine lv_iconst (v := (-1)) hx hb d_LI_induction_16 (by decide) ?_
      subst hQ
      have hP9 := hP
      have hD9 := hD
      exact W.iret (v := (-1)) hx hb hr (fun t ht hW => ⟨⟨(-1), (s1, s2), rfl, h, by rw [ht]; exact hP9, va_K.moved hW.alike hK, hD9⟩, hS.F ht⟩) hS.2.2 d_LI_induction_17
    · have h := And.right h c_8
      refine lv_iload_n hx hb d_LI_induction_11 rfl (lv_at hl 1 rfl) ?_
      refine lv_iconst (v := 1) hx hb d_LI_induction_12 (by decide) ?_
      refine lv_icmp_le (tgt := 18) hx hb d_LI_induction_13 (by decide) (fun c_13 => ?_) (fun c_13 => ?_)
      · have h := And.left h c_13
        refine lv_aload_n hx hb d_LI_induction_18 rfl (lv_at hl 0 rfl) ?_
        refine va_get (D := (dC, dI)) (ci := 0) (v := .ref a_gu) (C := "LoopInduction") (T := F_LI) (N := 10) hx hb hts iC_LI hown hK hP 0 rfl rfl 6 (by decide) fl_65 (fun _ h9 => h9) rfl d_LI_induction_19 ?_
        refine lv_iload_n hx hb d_LI_induction_22 rfl (lv_at hl 1 rfl) ?_
        refine lv_iconst (v := 1) hx hb d_LI_induction_23 (by decide) ?_
        refine lv_icmp_ne (tgt := 31) hx hb d_LI_induction_24 (by decide) (fun c_24 => ?_) (fun c_24 => ?_)
        · have h := And.left h c_24
          refine lv_iconst (v := 0) hx hb d_LI_induction_31 (by decide) ?_
          refine lv_aload_n hx hb d_LI_induction_32 rfl (lv_at hl 0 rfl) ?_
          refine va_get (D := (dC, dI)) (ci := 0) (v := .ref a_rn) (C := "LoopInduction") (T := F_LI) (N := 10) hx hb hts iC_LI hown hK hP 0 rfl rfl 5 (by decide) fl_58 (fun _ h9 => h9) rfl d_LI_induction_33 ?_
          refine jn_i (wr := [(a_li, .inr (0, [.ref a_tp, .ref a_tk, .ref a_cd, .ref a_ps, .ref a_lp, .ref a_rn, .ref a_gu, .ref a_fu, .int li_loopGiven, .int li_faultPlace])), (a_lp, .inr (4, [.ref a_lp_facts, .ref a_lp_turns, .ref a_lp_first, .ref a_lp_src, .ref a_s1, .int lp_choices, .int lp_guesses, .int lp_unaries, .int lp_ranked])), (a_lp_facts, .inl (cI, 4096, .inl lp_facts)), (a_lp_turns, .inl (cI, 24576, .inl lp_turns)), (a_s1, .inl (cI, 4096, .inl s1)), (a_s2, .inl (cI, 4096, .inl s2)), (a_gu, .inr (3, [.ref a_lp, .ref a_gu_rounds, .ref a_s1, .ref a_s2, .int gu_left]))]) (va_runV (As := []) (rest := [.int 0, .ref a_gu]) ⟨hx, hb, hml, hown, hts⟩ (c_Runs_turnsToBad l dC dI cI cB cZ adK adV _ a_rn a_lp a_rn_levels a_rn_path a_s1 a_s2 a_wk rn_reached rn_greatestLevel rn_pathSize _ h) (cwV 0 hts (gv_ m_966 m_967 m_968 m_93 m_969) rfl rfl rfl pd_Runs_turnsToBad ⟨Nat.le_of_ble_eq_true rfl, Nat.le_of_ble_eq_true rfl⟩) ⟨pc_blind, va_recv hK hP (ci := 6) (q0 := 6) rfl rfl, pc_of (hP.sub [6] rfl) hK (hD.sub [6] (by decide) rfl) hN hT hS hA⟩ rfl rfl hl.1 rfl (lv_room (Nat.le_of_ble_eq_true rfl)) d_LI_induction_36 ⟨Nat.zero_le _, Nat.zero_le _⟩) hP hD hS hA [6] [0, 1, 2, 3, 4, 5, 7] rfl rfl (by decide) (by decide) (fun r_1 u_ H locs h hP hD hS => ?_)
          have hP : va_P (dC, dI) vwCl [(a_li, .inr (0, [.ref a_tp, .ref a_tk, .ref a_cd, .ref a_ps, .ref a_lp, .ref a_rn, .ref a_gu, .ref a_fu, .int li_loopGiven, .int li_faultPlace])), (a_lp, .inr (4, [.ref a_lp_facts, .ref a_lp_turns, .ref a_lp_first, .ref a_lp_src, .ref a_s1, .int lp_choices, .int lp_guesses, .int lp_unaries, .int lp_ranked])), (a_lp_facts, .inl (cI, 4096, .inl lp_facts)), (a_lp_turns, .inl (cI, 24576, .inl lp_turns)), (a_s1, .inl (cI, 4096, .inl s1)), (a_s2, .inl (cI, 4096, .inl s2)), (a_gu, .inr (3, [.ref a_lp, .ref a_gu_rounds, .ref a_s1, .ref a_s2, .int gu_left])), (a_rn, .inr (6, [.ref a_lp, .ref a_rn_levels, .ref a_rn_path, .ref a_s1, .ref a_s2, .ref a_wk, .int rn_reached, .int rn_greatestLevel, .int rn_pathSize]))] H := hP
          have hD : va_D A [(a_li, .inr (0, [.ref a_tp, .ref a_tk, .ref a_cd, .ref a_ps, .ref a_lp, .ref a_rn, .ref a_gu, .ref a_fu, .int li_loopGiven, .int li_faultPlace])), (a_lp, .inr (4, [.ref a_lp_facts, .ref a_lp_turns, .ref a_lp_first, .ref a_lp_src, .ref a_s1, .int lp_choices, .int lp_guesses, .int lp_unaries, .int lp_ranked])), (a_lp_facts, .inl (cI, 4096, .inl lp_facts)), (a_lp_turns, .inl (cI, 24576, .inl lp_turns)), (a_s1, .inl (cI, 4096, .inl s1)), (a_s2, .inl (cI, 4096, .inl s2)), (a_gu, .inr (3, [.ref a_lp, .ref a_gu_rounds, .ref a_s1, .ref a_s2, .int gu_left])), (a_rn, .inr (6, [.ref a_lp, .ref a_rn_levels, .ref a_rn_path, .ref a_s1, .ref a_s2, .ref a_wk, .int rn_reached, .int rn_greatestLevel, .int rn_pathSize]))] := hD
          refine jn_i (wr := [(a_li, .inr (0, [.ref a_tp, .ref a_tk, .ref a_cd, .ref a_ps, .ref a_lp, .ref a_rn, .ref a_gu, .ref a_fu, .int li_loopGiven, .int li_faultPlace])), (a_rn, .inr (6, [.ref a_lp, .ref a_rn_levels, .ref a_rn_path, .ref a_s1, .ref a_s2, .ref a_wk, .int rn_reached, .int rn_greatestLevel, .int rn_pathSize]))]) (va_runV (As := [.int 0, .int r_1]) (rest := []) ⟨hx, hb, hml, hown, hts⟩ (c_Gues_leastInduction l dC dI cI cB cZ adK adV _ a_lp a_lp_facts a_lp_turns a_lp_first a_lp_src a_s1 a_s2 a_gu a_gu_rounds lp_choices lp_guesses lp_unaries lp_ranked lp_facts lp_turns s1 s2 gu_left 0 r_1 _ h) (cwV 2 hts (gv_ m_970 m_971 m_972 m_94 m_973) rfl rfl rfl pd_Gues_leastInduction ⟨Nat.le_of_ble_eq_true rfl, Nat.le_of_ble_eq_true rfl⟩) ⟨pc_blind, va_recv hK hP (ci := 3) (q0 := 6) rfl rfl, pc_of (hP.sub [1, 2, 3, 4, 5, 6] rfl) hK (hD.sub [1, 2, 3, 4, 5, 6] (by decide) rfl) hN hT hS hA⟩ rfl rfl hl.1 rfl (lv_room (Nat.le_of_ble_eq_true rfl)) d_LI_induction_39 ⟨Nat.zero_le _, Nat.zero_le _⟩) hP hD hS hA [1, 2, 3, 4, 5, 6] [0, 7] rfl rfl (by decide) (by decide) (fun r_2 u_ H locs h hP hD hS => ?_)
          obtain ⟨s1_3, s2_4⟩ := u_
          have hP : va_P (dC, dI) vwCl [(a_li, .inr (0, [.ref a_tp, .ref a_tk, .ref a_cd, .ref a_ps, .ref a_lp, .ref a_rn, .ref a_gu, .ref a_fu, .int li_loopGiven, .int li_faultPlace])), (a_rn, .inr (6, [.ref a_lp, .ref a_rn_levels, .ref a_rn_path, .ref a_s1, .ref a_s2, .ref a_wk, .int rn_reached, .int rn_greatestLevel, .int rn_pathSize])), (a_lp, .inr (4, [.ref a_lp_facts, .ref a_lp_turns, .ref a_lp_first, .ref a_lp_src, .ref a_s1, .int lp_choices, .int lp_guesses, .int lp_unaries, .int lp_ranked])), (a_lp_facts, .inl (cI, 4096, .inl lp_facts)), (a_lp_turns, .inl (cI, 24576, .inl lp_turns)), (a_s1, .inl (cI, 4096, .inl s1_3)), (a_s2, .inl (cI, 4096, .inl s2_4)), (a_gu, .inr (3, [.ref a_lp, .ref a_gu_rounds, .ref a_s1, .ref a_s2, .int gu_left]))] H := hP
          have hD : va_D A [(a_li, .inr (0, [.ref a_tp, .ref a_tk, .ref a_cd, .ref a_ps, .ref a_lp, .ref a_rn, .ref a_gu, .ref a_fu, .int li_loopGiven, .int li_faultPlace])), (a_rn, .inr (6, [.ref a_lp, .ref a_rn_levels, .ref a_rn_path, .ref a_s1, .ref a_s2, .ref a_wk, .int rn_reached, .int rn_greatestLevel, .int rn_pathSize])), (a_lp, .inr (4, [.ref a_lp_facts, .ref a_lp_turns, .ref a_lp_first, .ref a_lp_src, .ref a_s1, .int lp_choices, .int lp_guesses, .int lp_unaries, .int lp_ranked])), (a_lp_facts, .inl (cI, 4096, .inl lp_facts)), (a_lp_turns, .inl (cI, 24576, .inl lp_turns)), (a_s1, .inl (cI, 4096, .inl s1_3)), (a_s2, .inl (cI, 4096, .inl s2_4)), (a_gu, .inr (3, [.ref a_lp, .ref a_gu_rounds, .ref a_s1, .ref a_s2, .int gu_left]))] := hD
          subst hQ
          have hP9 := hP.sub (ws' := [(a_li, .inr (0, [.ref a_tp, .ref a_tk, .ref a_cd, .ref a_ps, .ref a_lp, .ref a_rn, .ref a_gu, .ref a_fu, .int li_loopGiven, .int li_faultPlace])), (a_lp, .inr (4, [.ref a_lp_facts, .ref a_lp_turns, .ref a_lp_first, .ref a_lp_src, .ref a_s1, .int lp_choices, .int lp_guesses, .int lp_unaries, .int lp_ranked])), (a_lp_facts, .inl (cI, 4096, .inl lp_facts)), (a_lp_turns, .inl (cI, 24576, .inl lp_turns)), (a_s1, .inl (cI, 4096, .inl s1_3)), (a_s2, .inl (cI, 4096, .inl s2_4)), (a_rn, .inr (6, [.ref a_lp, .ref a_rn_levels, .ref a_rn_path, .ref a_s1, .ref a_s2, .ref a_wk, .int rn_reached, .int rn_greatestLevel, .int rn_pathSize])), (a_gu, .inr (3, [.ref a_lp, .ref a_gu_rounds, .ref a_s1, .ref a_s2, .int gu_left]))]) [0, 2, 3, 4, 5, 6, 1, 7] rfl
          have hD9 := hD.sub (ws' := [(a_li, .inr (0, [.ref a_tp, .ref a_tk, .ref a_cd, .ref a_ps, .ref a_lp, .ref a_rn, .ref a_gu, .ref a_fu, .int li_loopGiven, .int li_faultPlace])), (a_lp, .inr (4, [.ref a_lp_facts, .ref a_lp_turns, .ref a_lp_first, .ref a_lp_src, .ref a_s1, .int lp_choices, .int lp_guesses, .int lp_unaries, .int lp_ranked])), (a_lp_facts, .inl (cI, 4096, .inl lp_facts)), (a_lp_turns, .inl (cI, 24576, .inl lp_turns)), (a_s1, .inl (cI, 4096, .inl s1_3)), (a_s2, .inl (cI, 4096, .inl s2_4)), (a_rn, .inr (6, [.ref a_lp, .ref a_rn_levels, .ref a_rn_path, .ref a_s1, .ref a_s2, .ref a_wk, .int rn_reached, .int rn_greatestLevel, .int rn_pathSize])), (a_gu, .inr (3, [.ref a_lp, .ref a_gu_rounds, .ref a_s1, .ref a_s2, .int gu_left]))]) [0, 2, 3, 4, 5, 6, 1, 7] (by decide) rfl
          exact W.iret (v := r_2) hx hb hr (fun t ht hW => ⟨⟨r_2, (s1_3, s2_4), rfl, h, by rw [ht]; exact hP9, va_K.moved hW.alike hK, hD9⟩, hS.F ht⟩) hS.2.2 d_LI_induction_42
        · have h := And.right h c_24
          refine lv_iconst (v := 1) hx hb d_LI_induction_27 (by decide) ?_
          refine lv_goto (tgt := 32) hx hb d_LI_induction_28 (by decide) ?_
          refine lv_aload_n hx hb d_LI_induction_32 rfl (lv_at hl 0 rfl) ?_
          refine va_get (D := (dC, dI)) (ci := 0) (v := .ref a_rn) (C := "LoopInduction") (T := F_LI) (N := 10) hx hb hts iC_LI hown hK hP 0 rfl rfl 5 (by decide) fl_58 (fun _ h9 => h9) rfl d_LI_induction_33 ?_
          refine jn_i (wr := [(a_li, .inr (0, [.ref a_tp, .ref a_tk, .ref a_cd, .ref a_ps, .ref a_lp, .ref a_rn, .ref a_gu, .ref a_fu, .int li_loopGiven, .int li_faultPlace])), (a_lp, .inr (4, [.ref a_lp_facts, .ref a_lp_turns, .ref a_lp_first, .ref a_lp_src, .ref a_s1, .int lp_choices, .int lp_guesses, .int lp_unaries, .int lp_ranked])), (a_lp_facts, .inl (cI, 4096, .inl lp_facts)), (a_lp_turns, .inl (cI, 24576, .inl lp_turns)), (a_s1, .inl (cI, 4096, .inl s1)), (a_s2, .inl (cI, 4096, .inl s2)), (a_gu, .inr (3, [.ref a_lp, .ref a_gu_rounds, .ref a_s1, .ref a_s2, .int gu_left]))]) (va_runV (As := []) (rest := [.int 1, .ref a_gu]) ⟨hx, hb, hml, hown, hts⟩ (c_Runs_turnsToBad l dC dI cI cB cZ adK adV _ a_rn a_lp a_rn_levels a_rn_path a_s1 a_s2 a_wk rn_reached rn_greatestLevel rn_pathSize _ h) (cwV 0 hts (gv_ m_966 m_967 m_968 m_93 m_969) rfl rfl rfl pd_Runs_turnsToBad ⟨Nat.le_of_ble_eq_true rfl, Nat.le_of_ble_eq_true rfl⟩) ⟨pc_blind, va_recv hK hP (ci := 6) (q0 := 6) rfl rfl, pc_of (hP.sub [6] rfl) hK (hD.sub [6] (by decide) rfl) hN hT hS hA⟩ rfl rfl hl.1 rfl (lv_room (Nat.le_of_ble_eq_true rfl)) d_LI_induction_36 ⟨Nat.zero_le _, Nat.zero_le _⟩) hP hD hS hA [6] [0, 1, 2, 3, 4, 5, 7] rfl rfl (by decide) (by decide) (fun r_5 u_ H locs h hP hD hS => ?_)
          have hP : va_P (dC, dI) vwCl [(a_li, .inr (0, [.ref a_tp, .ref a_tk, .ref a_cd, .ref a_ps, .ref a_lp, .ref a_rn, .ref a_gu, .ref a_fu, .int li_loopGiven, .int li_faultPlace])), (a_lp, .inr (4, [.ref a_lp_facts, .ref a_lp_turns, .ref a_lp_first, .ref a_lp_src, .ref a_s1, .int lp_choices, .int lp_guesses, .int lp_unaries, .int lp_ranked])), (a_lp_facts, .inl (cI, 4096, .inl lp_facts)), (a_lp_turns, .inl (cI, 24576, .inl lp_turns)), (a_s1, .inl (cI, 4096, .inl s1)), (a_s2, .inl (cI, 4096, .inl s2)), (a_gu, .inr (3, [.ref a_lp, .ref a_gu_rounds, .ref a_s1, .ref a_s2, .int gu_left])), (a_rn, .inr (6, [.ref a_lp, .ref a_rn_levels, .ref a_rn_path, .ref a_s1, .ref a_s2, .ref a_wk, .int rn_reached, .int rn_greatestLevel, .int rn_pathSize]))] H := hP
          have hD : va_D A [(a_li, .inr (0, [.ref a_tp, .ref a_tk, .ref a_cd, .ref a_ps, .ref a_lp, .ref a_rn, .ref a_gu, .ref a_fu, .int li_loopGiven, .int li_faultPlace])), (a_lp, .inr (4, [.ref a_lp_facts, .ref a_lp_turns, .ref a_lp_first, .ref a_lp_src, .ref a_s1, .int lp_choices, .int lp_guesses, .int lp_unaries, .int lp_ranked])), (a_lp_facts, .inl (cI, 4096, .inl lp_facts)), (a_lp_turns, .inl (cI, 24576, .inl lp_turns)), (a_s1, .inl (cI, 4096, .inl s1)), (a_s2, .inl (cI, 4096, .inl s2)), (a_gu, .inr (3, [.ref a_lp, .ref a_gu_rounds, .ref a_s1, .ref a_s2, .int gu_left])), (a_rn, .inr (6, [.ref a_lp, .ref a_rn_levels, .ref a_rn_path, .ref a_s1, .ref a_s2, .ref a_wk, .int rn_reached, .int rn_greatestLevel, .int rn_pathSize]))] := hD
          refine jn_i (wr := [(a_li, .inr (0, [.ref a_tp, .ref a_tk, .ref a_cd, .ref a_ps, .ref a_lp, .ref a_rn, .ref a_gu, .ref a_fu, .int li_loopGiven, .int li_faultPlace])), (a_rn, .inr (6, [.ref a_lp, .ref a_rn_levels, .ref a_rn_path, .ref a_s1, .ref a_s2, .ref a_wk, .int rn_reached, .int rn_greatestLevel, .int rn_pathSize]))]) (va_runV (As := [.int 1, .int r_5]) (rest := []) ⟨hx, hb, hml, hown, hts⟩ (c_Gues_leastInduction l dC dI cI cB cZ adK adV _ a_lp a_lp_facts a_lp_turns a_lp_first a_lp_src a_s1 a_s2 a_gu a_gu_rounds lp_choices lp_guesses lp_unaries lp_ranked lp_facts lp_turns s1 s2 gu_left 1 r_5 _ h) (cwV 2 hts (gv_ m_970 m_971 m_972 m_94 m_973) rfl rfl rfl pd_Gues_leastInduction ⟨Nat.le_of_ble_eq_true rfl, Nat.le_of_ble_eq_true rfl⟩) ⟨pc_blind, va_recv hK hP (ci := 3) (q0 := 6) rfl rfl, pc_of (hP.sub [1, 2, 3, 4, 5, 6] rfl) hK (hD.sub [1, 2, 3, 4, 5, 6] (by decide) rfl) hN hT hS hA⟩ rfl rfl hl.1 rfl (lv_room (Nat.le_of_ble_eq_true rfl)) d_LI_induction_39 ⟨Nat.zero_le _, Nat.zero_le _⟩) hP hD hS hA [1, 2, 3, 4, 5, 6] [0, 7] rfl rfl (by decide) (by decide) (fun r_6 u_ H locs h hP hD hS => ?_)
          obtain ⟨s1_7, s2_8⟩ := u_
          have hP : va_P (dC, dI) vwCl [(a_li, .inr (0, [.ref a_tp, .ref a_tk, .ref a_cd, .ref a_ps, .ref a_lp, .ref a_rn, .ref a_gu, .ref a_fu, .int li_loopGiven, .int li_faultPlace])), (a_rn, .inr (6, [.ref a_lp, .ref a_rn_levels, .ref a_rn_path, .ref a_s1, .ref a_s2, .ref a_wk, .int rn_reached, .int rn_greatestLevel, .int rn_pathSize])), (a_lp, .inr (4, [.ref a_lp_facts, .ref a_lp_turns, .ref a_lp_first, .ref a_lp_src, .ref a_s1, .int lp_choices, .int lp_guesses, .int lp_unaries, .int lp_ranked])), (a_lp_facts, .inl (cI, 4096, .inl lp_facts)), (a_lp_turns, .inl (cI, 24576, .inl lp_turns)), (a_s1, .inl (cI, 4096, .inl s1_7)), (a_s2, .inl (cI, 4096, .inl s2_8)), (a_gu, .inr (3, [.ref a_lp, .ref a_gu_rounds, .ref a_s1, .ref a_s2, .int gu_left]))] H := hP
          have hD : va_D A [(a_li, .inr (0, [.ref a_tp, .ref a_tk, .ref a_cd, .ref a_ps, .ref a_lp, .ref a_rn, .ref a_gu, .ref a_fu, .int li_loopGiven, .int li_faultPlace])), (a_rn, .inr (6, [.ref a_lp, .ref a_rn_levels, .ref a_rn_path, .ref a_s1, .ref a_s2, .ref a_wk, .int rn_reached, .int rn_greatestLevel, .int rn_pathSize])), (a_lp, .inr (4, [.ref a_lp_facts, .ref a_lp_turns, .ref a_lp_first, .ref a_lp_src, .ref a_s1, .int lp_choices, .int lp_guesses, .int lp_unaries, .int lp_ranked])), (a_lp_facts, .inl (cI, 4096, .inl lp_facts)), (a_lp_turns, .inl (cI, 24576, .inl lp_turns)), (a_s1, .inl (cI, 4096, .inl s1_7)), (a_s2, .inl (cI, 4096, .inl s2_8)), (a_gu, .inr (3, [.ref a_lp, .ref a_gu_rounds, .ref a_s1, .ref a_s2, .int gu_left]))] := hD
          subst hQ
          have hP9 := hP.sub (ws' := [(a_li, .inr (0, [.ref a_tp, .ref a_tk, .ref a_cd, .ref a_ps, .ref a_lp, .ref a_rn, .ref a_gu, .ref a_fu, .int li_loopGiven, .int li_faultPlace])), (a_lp, .inr (4, [.ref a_lp_facts, .ref a_lp_turns, .ref a_lp_first, .ref a_lp_src, .ref a_s1, .int lp_choices, .int lp_guesses, .int lp_unaries, .int lp_ranked])), (a_lp_facts, .inl (cI, 4096, .inl lp_facts)), (a_lp_turns, .inl (cI, 24576, .inl lp_turns)), (a_s1, .inl (cI, 4096, .inl s1_7)), (a_s2, .inl (cI, 4096, .inl s2_8)), (a_rn, .inr (6, [.ref a_lp, .ref a_rn_levels, .ref a_rn_path, .ref a_s1, .ref a_s2, .ref a_wk, .int rn_reached, .int rn_greatestLevel, .int rn_pathSize])), (a_gu, .inr (3, [.ref a_lp, .ref a_gu_rounds, .ref a_s1, .ref a_s2, .int gu_left]))]) [0, 2, 3, 4, 5, 6, 1, 7] rfl
          have hD9 := hD.sub (ws' := [(a_li, .inr (0, [.ref a_tp, .ref a_tk, .ref a_cd, .ref a_ps, .ref a_lp, .ref a_rn, .ref a_gu, .ref a_fu, .int li_loopGiven, .int li_faultPlace])), (a_lp, .inr (4, [.ref a_lp_facts, .ref a_lp_turns, .ref a_lp_first, .ref a_lp_src, .ref a_s1, .int lp_choices, .int lp_guesses, .int lp_unaries, .int lp_ranked])), (a_lp_facts, .inl (cI, 4096, .inl lp_facts)), (a_lp_turns, .inl (cI, 24576, .inl lp_turns)), (a_s1, .inl (cI, 4096, .inl s1_7)), (a_s2, .inl (cI, 4096, .inl s2_8)), (a_rn, .inr (6, [.ref a_lp, .ref a_rn_levels, .ref a_rn_path, .ref a_s1, .ref a_s2, .ref a_wk, .int rn_reached, .int rn_greatestLevel, .int rn_pathSize])), (a_gu, .inr (3, [.ref a_lp, .ref a_gu_rounds, .ref a_s1, .ref a_s2, .int gu_left]))]) [0, 2, 3, 4, 5, 6, 1, 7] (by decide) rfl
          exact W.iret (v := r_6) hx hb hr (fun t ht hW => ⟨⟨r_6, (s1_7, s2_8), rfl, h, by rw [ht]; exact hP9, va_K.moved hW.alike hK, hD9⟩, hS.F ht⟩) hS.2.2 d_LI_induction_42
      · have h := And.right h c_13
        refine lv_iconst (v := (-1)) hx hb d_LI_induction_16 (by decide) ?_
        subst hQ
        have hP9 := hP
        have hD9 := hD
        exact W.iret (v := (-1)) hx hb hr (fun t ht hW => ⟨⟨(-1), (s1, s2), rfl, h, by rw [ht]; exact hP9, va_K.moved hW.alike hK, hD9⟩, hS.F ht⟩) hS.2.2 d_LI_induction_17
def wp_LI_kept (li_loopGiven : Int32) (gu_left : Int32) (post : Int32 → Prop) : Prop :=
  (((li_loopGiven : Int32) = 0 → post (-1)) ∧ (¬ (li_loopGiven : Int32) = 0 → wp_Gues_keptSum gu_left (fun r_1 => post r_1)))
set_option maxHeartbeats 4000000 in
set_option maxRecDepth 100000 in
theorem c_LI_kept (l : Launch) (dC : Nat → ClassId) (dI : Nat → Nat → Nat) (cI cB cZ : ClassId) (adK adV : Nat → Nat) (sz : Nat) (a_li a_tp a_tk a_cd a_ps a_lp a_rn a_gu a_fu a_gu_rounds a_s1 a_s2 : Nat) (li_loopGiven : Int32) (li_faultPlace : Int32) (gu_left : Int32) (post : Int32 → Prop) (h : wp_LI_kept li_loopGiven gu_left post) : Met l y_LI_kept w_LI_kept ({ frames := 1, cells := 0, slots := 0, locals := 20 }) (pc_ (dC, dI) [(cI, .int), (cB, .byte), (cZ, .boolean)] [(a_li, .inr (0, [.ref a_tp, .ref a_tk, .ref a_cd, .ref a_ps, .ref a_lp, .ref a_rn, .ref a_gu, .ref a_fu, .int li_loopGiven, .int li_faultPlace])), (a_gu, .inr (3, [.ref a_lp, .ref a_gu_rounds, .ref a_s1, .ref a_s2, .int gu_left]))] sz adK adV [.ref a_li]) (va_Qi (fun (r : Int32) (u : Unit) => post r ) (fun (u : Unit) t => bw_ (dC, dI) [(cI, .int), (cB, .byte), (cZ, .boolean)] (va_A [(a_li, .inr (0, [.ref a_tp, .ref a_tk, .ref a_cd, .ref a_ps, .ref a_lp, .ref a_rn, .ref a_gu, .ref a_fu, .int li_loopGiven, .int li_faultPlace])), (a_gu, .inr (3, [.ref a_lp, .ref a_gu_rounds, .ref a_s1, .ref a_s2, .int gu_left]))] sz) [(a_li, .inr (0, [.ref a_tp, .ref a_tk, .ref a_cd, .ref a_ps, .ref a_lp, .ref a_rn, .ref a_gu, .ref a_fu, .int li_loopGiven, .int li_faultPlace])), (a_gu, .inr (3, [.ref a_lp, .ref a_gu_rounds, .ref a_s1, .ref a_s2, .int gu_left]))] t) (va_A [(a_li, .inr (0, [.ref a_tp, .ref a_tk, .ref a_cd, .ref a_ps, .ref a_lp, .ref a_rn, .ref a_gu, .ref a_fu, .int li_loopGiven, .int li_faultPlace])), (a_gu, .inr (3, [.ref a_lp, .ref a_gu_rounds, .ref a_s1, .ref a_s2, .int gu_left]))] sz)) 0 0 (va_A [(a_li, .inr (0, [.ref a_tp, .ref a_tk, .ref a_cd, .ref a_ps, .ref a_lp, .ref a_rn, .ref a_gu, .ref a_fu, .int li_loopGiven, .int li_faultPlace])), (a_gu, .inr (3, [.ref a_lp, .ref a_gu_rounds, .ref a_s1, .ref a_s2, .int gu_left]))] sz) := by
  refine Met.ofW (cc := b_LI_kept) (maxL := 1) (ret := (some .int)) (by decide) rfl ?_
  intro p e s m args below meth c s₁ B hml hv
  obtain ⟨rfl, hsz, hP, hK, hD0, hN, hT⟩ := hv
  have hx := B.exec
  have hb := B.bytes
  have hr := B.returns
  have hts := atoms_spec (ws := w_LI_kept) B.pre
  have hown : s.vm.findClass "LoopInduction" = some m.cls := findClass_of_methodNamed B.named
  have hlocks := B.notSynchronized
  subst hsz
  have hD := hD0.self (sz := s.heap.size)
  generalize hAe : va_A [(a_li, .inr (0, [.ref a_tp, .ref a_tk, .ref a_cd, .ref a_ps, .ref a_lp, .ref a_rn, .ref a_gu, .ref a_fu, .int li_loopGiven, .int li_faultPlace])), (a_gu, .inr (3, [.ref a_lp, .ref a_gu_rounds, .ref a_s1, .ref a_s2, .int gu_left]))] s.heap.size = A at hD hT ⊢
  have hA : ∀ q : Nat, s.heap.size ≤ q → A q := fun q h => by rw [← hAe]; exact Or.inr h
  have hS : va_S A s.heap s.heap [] := va_S.rf
  generalize hQ : MQ below _ _ s 0 0 _ = QQ
  have hl := lv_entry ([.ref a_li]) (n := 1) (Nat.le_of_ble_eq_true rfl)
  rw [lg_entry_eq]
  generalize (lg_sl ([.ref a_li]) ++ List.replicate (1 - (lg_sl ([.ref a_li])).length) Slot.unset).toArray = ls at hl ⊢
  have hl : lv_has ls 1 [(0, .ref a_li)] := hl
  have fl_65 := (hts _ (List.mem_cons_of_mem _ m_377))
  have fl_76 := (hts _ (List.mem_cons_of_mem _ m_379))
  refine lv_aload_n hx hb d_LI_kept_0 rfl (lv_at hl 0 rfl) ?_
  refine va_get (D := (dC, dI)) (ci := 0) (v := .int li_loopGiven) (C := "LoopInduction") (T := F_LI) (N := 10) hx hb hts iC_LI hown hK hP 0 rfl rfl 8 (by decide) fl_76 (fun _ h9 => h9) rfl d_LI_kept_1 ?_
  refine lv_if_eq (tgt := 17) hx hb d_LI_kept_4 (by decide) (fun c_4 => ?_) (fun c_4 => ?_)
  · have h := And.left h c_4
    refine lv_iconst (v := (-1)) hx hb d_LI_kept_17 (by decide) ?_
    subst hQ
    have hP9 := hP
    have hD9 := hD
    exact W.iret (v := (-1)) hx hb hr (fun t ht hW => ⟨⟨(-1), (), rfl, h, by rw [ht]; exact hP9, va_K.moved hW.alike hK, hD9⟩, hS.F ht⟩) hS.2.2 d_LI_kept_18
  · have h := And.right h c_4
    refine lv_aload_n hx hb d_LI_kept_7 rfl (lv_at hl 0 rfl) ?_
    refine va_get (D := (dC, dI)) (ci := 0) (v := .ref a_gu) (C := "LoopInduction") (T := F_LI) (N := 10) hx hb hts iC_LI hown hK hP 0 rfl rfl 6 (by decide) fl_65 (fun _ h9 => h9) rfl d_LI_kept_8 ?_
    refine jn_i (wr := [(a_li, .inr (0, [.ref a_tp, .ref a_tk, .ref a_cd, .ref a_ps, .ref a_lp, .ref a_rn, .ref a_gu, .ref a_fu, .int li_loopGiven, .int li_faultPlace]))]) (va_runV (As := []) (rest := []) ⟨hx, hb, hml, hown, hts⟩ (c_Gues_keptSum l dC dI cI cB cZ adK adV _ a_gu a_lp a_gu_rounds a_s1 a_s2 gu_left _ h) (cwV 0 hts (gv_ m_990 m_991 m_992 m_94 m_993) rfl rfl rfl pd_Gues_keptSum ⟨Nat.le_of_ble_eq_true rfl, Nat.le_of_ble_eq_true rfl⟩) ⟨pc_blind, va_recv hK hP (ci := 3) (q0 := 1) rfl rfl, pc_of (hP.sub [1] rfl) hK (hD.sub [1] (by decide) rfl) hN hT hS hA⟩ rfl rfl hl.1 rfl (lv_room (Nat.le_of_ble_eq_true rfl)) d_LI_kept_11 ⟨Nat.zero_le _, Nat.zero_le _⟩) hP hD hS hA [1] [0] rfl rfl (by decide) (by decide) (fun r_1 u_ H locs h hP hD hS => ?_)
    have hP : va_P (dC, dI) vwCl [(a_li, .inr (0, [.ref a_tp, .ref a_tk, .ref a_cd, .ref a_ps, .ref a_lp, .ref a_rn, .ref a_gu, .ref a_fu, .int li_loopGiven, .int li_faultPlace])), (a_gu, .inr (3, [.ref a_lp, .ref a_gu_rounds, .ref a_s1, .ref a_s2, .int gu_left]))] H := hP
    have hD : va_D A [(a_li, .inr (0, [.ref a_tp, .ref a_tk, .ref a_cd, .ref a_ps, .ref a_lp, .ref a_rn, .ref a_gu, .ref a_fu, .int li_loopGiven, .int li_faultPlace])), (a_gu, .inr (3, [.ref a_lp, .ref a_gu_rounds, .ref a_s1, .ref a_s2, .int gu_left]))] := hD
    refine lv_goto (tgt := 18) hx hb d_LI_kept_14 (by decide) ?_
    subst hQ
    have hP9 := hP
    have hD9 := hD
    exact W.iret (v := r_1) hx hb hr (fun t ht hW => ⟨⟨r_1, (), rfl, h, by rw [ht]; exact hP9, va_K.moved hW.alike hK, hD9⟩, hS.F ht⟩) hS.2.2 d_LI_kept_18
def wp_LI_gone (x1 : Int32) (li_loopGiven : Int32) (lp_guesses : Int32) (gu_rounds : Nat → Int32) (post : Int32 → Prop) : Prop :=
  (((li_loopGiven : Int32) = 0 → post (-1)) ∧ (¬ (li_loopGiven : Int32) = 0 → wp_Gues_roundOf x1 lp_guesses gu_rounds (fun r_1 => post r_1)))
set_option maxHeartbeats 4000000 in
set_option maxRecDepth 100000 in
theorem c_LI_gone (l : Launch) (dC : Nat → ClassId) (dI : Nat → Nat → Nat) (cI cB cZ : ClassId) (adK adV : Nat → Nat) (sz : Nat) (a_li a_tp a_tk a_cd a_ps a_lp a_rn a_gu a_fu a_lp_facts a_lp_turns a_lp_first a_lp_src a_s1 a_gu_rounds a_s2 : Nat) (li_loopGiven : Int32) (li_faultPlace : Int32) (lp_choices : Int32) (lp_guesses : Int32) (lp_unaries : Int32) (lp_ranked : Int32) (gu_left : Int32) (gu_rounds : Nat → Int32) (x1 : Int32) (post : Int32 → Prop) (h : wp_LI_gone x1 li_loopGiven lp_guesses gu_rounds post) : Met l y_LI_gone w_LI_gone ({ frames := 2, cells := 0, slots := 0, locals := 41 }) (pc_ (dC, dI) [(cI, .int), (cB, .byte), (cZ, .boolean)] [(a_li, .inr (0, [.ref a_tp, .ref a_tk, .ref a_cd, .ref a_ps, .ref a_lp, .ref a_rn, .ref a_gu, .ref a_fu, .int li_loopGiven, .int li_faultPlace])), (a_lp, .inr (4, [.ref a_lp_facts, .ref a_lp_turns, .ref a_lp_first, .ref a_lp_src, .ref a_s1, .int lp_choices, .int lp_guesses, .int lp_unaries, .int lp_ranked])), (a_gu, .inr (3, [.ref a_lp, .ref a_gu_rounds, .ref a_s1, .ref a_s2, .int gu_left])), (a_gu_rounds, .inl (cI, 12, .inl gu_rounds))] sz adK adV [.ref a_li, .int x1]) (va_Qi (fun (r : Int32) (u : Unit) => post r ) (fun (u : Unit) t => bw_ (dC, dI) [(cI, .int), (cB, .byte), (cZ, .boolean)] (va_A [(a_li, .inr (0, [.ref a_tp, .ref a_tk, .ref a_cd, .ref a_ps, .ref a_lp, .ref a_rn, .ref a_gu, .ref a_fu, .int li_loopGiven, .int li_faultPlace])), (a_lp, .inr (4, [.ref a_lp_facts, .ref a_lp_turns, .ref a_lp_first, .ref a_lp_src, .ref a_s1, .int lp_choices, .int lp_guesses, .int lp_unaries, .int lp_ranked])), (a_gu, .inr (3, [.ref a_lp, .ref a_gu_rounds, .ref a_s1, .ref a_s2, .int gu_left])), (a_gu_rounds, .inl (cI, 12, .inl gu_rounds))] sz) [(a_li, .inr (0, [.ref a_tp, .ref a_tk, .ref a_cd, .ref a_ps, .ref a_lp, .ref a_rn, .ref a_gu, .ref a_fu, .int li_loopGiven, .int li_faultPlace])), (a_lp, .inr (4, [.ref a_lp_facts, .ref a_lp_turns, .ref a_lp_first, .ref a_lp_src, .ref a_s1, .int lp_choices, .int lp_guesses, .int lp_unaries, .int lp_ranked])), (a_gu, .inr (3, [.ref a_lp, .ref a_gu_rounds, .ref a_s1, .ref a_s2, .int gu_left])), (a_gu_rounds, .inl (cI, 12, .inl gu_rounds))] t) (va_A [(a_li, .inr (0, [.ref a_tp, .ref a_tk, .ref a_cd, .ref a_ps, .ref a_lp, .ref a_rn, .ref a_gu, .ref a_fu, .int li_loopGiven, .int li_faultPlace])), (a_lp, .inr (4, [.ref a_lp_facts, .ref a_lp_turns, .ref a_lp_first, .ref a_lp_src, .ref a_s1, .int lp_choices, .int lp_guesses, .int lp_unaries, .int lp_ranked])), (a_gu, .inr (3, [.ref a_lp, .ref a_gu_rounds, .ref a_s1, .ref a_s2, .int gu_left])), (a_gu_rounds, .inl (cI, 12, .inl gu_rounds))] sz)) 0 0 (va_A [(a_li, .inr (0, [.ref a_tp, .ref a_tk, .ref a_cd, .ref a_ps, .ref a_lp, .ref a_rn, .ref a_gu, .ref a_fu, .int li_loopGiven, .int li_faultPlace])), (a_lp, .inr (4, [.ref a_lp_facts, .ref a_lp_turns, .ref a_lp_first, .ref a_lp_src, .ref a_s1, .int lp_choices, .int lp_guesses, .int lp_unaries, .int lp_ranked])), (a_gu, .inr (3, [.ref a_lp, .ref a_gu_rounds, .ref a_s1, .ref a_s2, .int gu_left])), (a_gu_rounds, .inl (cI, 12, .inl gu_rounds))] sz) := by
  refine Met.ofW (cc := b_LI_gone) (maxL := 2) (ret := (some .int)) (by decide) rfl ?_
  intro p e s m args below meth c s₁ B hml hv
  obtain ⟨rfl, hsz, hP, hK, hD0, hN, hT⟩ := hv
  have hx := B.exec
  have hb := B.bytes
  have hr := B.returns
  have hts := atoms_spec (ws := w_LI_gone) B.pre
  have hown : s.vm.findClass "LoopInduction" = some m.cls := findClass_of_methodNamed B.named
  have hlocks := B.notSynchronized
  subst hsz
  have hD := hD0.self (sz := s.heap.size)
  generalize hAe : va_A [(a_li, .inr (0, [.ref a_tp, .ref a_tk, .ref a_cd, .ref a_ps, .ref a_lp, .ref a_rn, .ref a_gu, .ref a_fu, .int li_loopGiven, .int li_faultPlace])), (a_lp, .inr (4, [.ref a_lp_facts, .ref a_lp_turns, .ref a_lp_first, .ref a_lp_src, .ref a_s1, .int lp_choices, .int lp_guesses, .int lp_unaries, .int lp_ranked])), (a_gu, .inr (3, [.ref a_lp, .ref a_gu_rounds, .ref a_s1, .ref a_s2, .int gu_left])), (a_gu_rounds, .inl (cI, 12, .inl gu_rounds))] s.heap.size = A at hD hT ⊢
  have hA : ∀ q : Nat, s.heap.size ≤ q → A q := fun q h => by rw [← hAe]; exact Or.inr h
  have hS : va_S A s.heap s.heap [] := va_S.rf
  generalize hQ : MQ below _ _ s 0 0 _ = QQ
  have hl := lv_entry ([.ref a_li, .int x1]) (n := 2) (Nat.le_of_ble_eq_true rfl)
  rw [lg_entry_eq]
  generalize (lg_sl ([.ref a_li, .int x1]) ++ List.replicate (2 - (lg_sl ([.ref a_li, .int x1])).length) Slot.unset).toArray = ls at hl ⊢
  have hl : lv_has ls 2 [(0, .ref a_li), (1, .int x1)] := hl
  have fl_65 := (hts _ (List.mem_cons_of_mem _ m_377))
  have fl_76 := (hts _ (List.mem_cons_of_mem _ m_379))
  refine lv_aload_n hx hb d_LI_gone_0 rfl (lv_at hl 0 rfl) ?_
  refine va_get (D := (dC, dI)) (ci := 0) (v := .int li_loopGiven) (C := "LoopInduction") (T := F_LI) (N := 10) hx hb hts iC_LI hown hK hP 0 rfl rfl 8 (by decide) fl_76 (fun _ h9 => h9) rfl d_LI_gone_1 ?_
  refine lv_if_eq (tgt := 18) hx hb d_LI_gone_4 (by decide) (fun c_4 => ?_) (fun c_4 => ?_)
  · have h := And.left h c_4
    refine lv_iconst (v := (-1)) hx hb d_LI_gone_18 (by decide) ?_
    subst hQ
    have hP9 := hP
    have hD9 := hD
    exact W.iret (v := (-1)) hx hb hr (fun t ht hW => ⟨⟨(-1), (), rfl, h, by rw [ht]; exact hP9, va_K.moved hW.alike hK, hD9⟩, hS.F ht⟩) hS.2.2 d_LI_gone_19
  · have h := And.right h c_4
    refine lv_aload_n hx hb d_LI_gone_7 rfl (lv_at hl 0 rfl) ?_
    refine va_get (D := (dC, dI)) (ci := 0) (v := .ref a_gu) (C := "LoopInduction") (T := F_LI) (N := 10) hx hb hts iC_LI hown hK hP 0 rfl rfl 6 (by decide) fl_65 (fun _ h9 => h9) rfl d_LI_gone_8 ?_
    refine lv_iload_n hx hb d_LI_gone_11 rfl (lv_at hl 1 rfl) ?_
    refine jn_i (wr := [(a_li, .inr (0, [.ref a_tp, .ref a_tk, .ref a_cd, .ref a_ps, .ref a_lp, .ref a_rn, .ref a_gu, .ref a_fu, .int li_loopGiven, .int li_faultPlace]))]) (va_runV (As := [.int x1]) (rest := []) ⟨hx, hb, hml, hown, hts⟩ (c_Gues_roundOf l dC dI cI cB cZ adK adV _ a_lp a_lp_facts a_lp_turns a_lp_first a_lp_src a_s1 a_gu a_gu_rounds a_s2 lp_choices lp_guesses lp_unaries lp_ranked gu_left gu_rounds x1 _ h) (cwV 1 hts (gv_ m_998 m_999 m_1000 m_94 m_1001) rfl rfl rfl pd_Gues_roundOf ⟨Nat.le_of_ble_eq_true rfl, Nat.le_of_ble_eq_true rfl⟩) ⟨pc_blind, va_recv hK hP (ci := 3) (q0 := 2) rfl rfl, pc_of (hP.sub [1, 2, 3] rfl) hK (hD.sub [1, 2, 3] (by decide) rfl) hN hT hS hA⟩ rfl rfl hl.1 rfl (lv_room (Nat.le_of_ble_eq_true rfl)) d_LI_gone_12 ⟨Nat.zero_le _, Nat.zero_le _⟩) hP hD hS hA [1, 2, 3] [0] rfl rfl (by decide) (by decide) (fun r_1 u_ H locs h hP hD hS => ?_)
    have hP : va_P (dC, dI) vwCl [(a_li, .inr (0, [.ref a_tp, .ref a_tk, .ref a_cd, .ref a_ps, .ref a_lp, .ref a_rn, .ref a_gu, .ref a_fu, .int li_loopGiven, .int li_faultPlace])), (a_lp, .inr (4, [.ref a_lp_facts, .ref a_lp_turns, .ref a_lp_first, .ref a_lp_src, .ref a_s1, .int lp_choices, .int lp_guesses, .int lp_unaries, .int lp_ranked])), (a_gu, .inr (3, [.ref a_lp, .ref a_gu_rounds, .ref a_s1, .ref a_s2, .int gu_left])), (a_gu_rounds, .inl (cI, 12, .inl gu_rounds))] H := hP
    have hD : va_D A [(a_li, .inr (0, [.ref a_tp, .ref a_tk, .ref a_cd, .ref a_ps, .ref a_lp, .ref a_rn, .ref a_gu, .ref a_fu, .int li_loopGiven, .int li_faultPlace])), (a_lp, .inr (4, [.ref a_lp_facts, .ref a_lp_turns, .ref a_lp_first, .ref a_lp_src, .ref a_s1, .int lp_choices, .int lp_guesses, .int lp_unaries, .int lp_ranked])), (a_gu, .inr (3, [.ref a_lp, .ref a_gu_rounds, .ref a_s1, .ref a_s2, .int gu_left])), (a_gu_rounds, .inl (cI, 12, .inl gu_rounds))] := hD
    refine lv_goto (tgt := 19) hx hb d_LI_gone_15 (by decide) ?_
    subst hQ
    have hP9 := hP
    have hD9 := hD
    exact W.iret (v := r_1) hx hb hr (fun t ht hW => ⟨⟨r_1, (), rfl, h, by rw [ht]; exact hP9, va_K.moved hW.alike hK, hD9⟩, hS.F ht⟩) hS.2.2 d_LI_gone_19
def wp_LI_follows (li_loopGiven : Int32) (lp_facts : Nat → Int32) (gu_left : Int32) (post : Int32 → Prop) : Prop :=
  ((¬ (li_loopGiven : Int32) = 0 → wp_Gues_implyGoal lp_facts gu_left (fun r_1 => (((r_1 : Int32) = 0 → post 0) ∧ (¬ (r_1 : Int32) = 0 → post 1)))) ∧ ((li_loopGiven : Int32) = 0 → post (-1)))
set_option maxHeartbeats 4000000 in
set_option maxRecDepth 100000 in
theorem c_LI_follows (l : Launch) (dC : Nat → ClassId) (dI : Nat → Nat → Nat) (cI cB cZ : ClassId) (adK adV : Nat → Nat) (sz : Nat) (a_li a_tp a_tk a_cd a_ps a_lp a_rn a_gu a_fu a_lp_facts a_lp_turns a_lp_first a_lp_src a_s1 a_gu_rounds a_s2 : Nat) (li_loopGiven : Int32) (li_faultPlace : Int32) (lp_choices : Int32) (lp_guesses : Int32) (lp_unaries : Int32) (lp_ranked : Int32) (lp_facts : Nat → Int32) (gu_left : Int32) (post : Int32 → Prop) (h : wp_LI_follows li_loopGiven lp_facts gu_left post) : Met l y_LI_follows w_LI_follows ({ frames := 4, cells := 0, slots := 0, locals := 85 }) (pc_ (dC, dI) [(cI, .int), (cB, .byte), (cZ, .boolean)] [(a_li, .inr (0, [.ref a_tp, .ref a_tk, .ref a_cd, .ref a_ps, .ref a_lp, .ref a_rn, .ref a_gu, .ref a_fu, .int li_loopGiven, .int li_faultPlace])), (a_lp, .inr (4, [.ref a_lp_facts, .ref a_lp_turns, .ref a_lp_first, .ref a_lp_src, .ref a_s1, .int lp_choices, .int lp_guesses, .int lp_unaries, .int lp_ranked])), (a_lp_facts, .inl (cI, 4096, .inl lp_facts)), (a_gu, .inr (3, [.ref a_lp, .ref a_gu_rounds, .ref a_s1, .ref a_s2, .int gu_left]))] sz adK adV [.ref a_li]) (va_Qi (fun (r : Int32) (u : Unit) => post r ) (fun (u : Unit) t => bw_ (dC, dI) [(cI, .int), (cB, .byte), (cZ, .boolean)] (va_A [(a_li, .inr (0, [.ref a_tp, .ref a_tk, .ref a_cd, .ref a_ps, .ref a_lp, .ref a_rn, .ref a_gu, .ref a_fu, .int li_loopGiven, .int li_faultPlace])), (a_lp, .inr (4, [.ref a_lp_facts, .ref a_lp_turns, .ref a_lp_first, .ref a_lp_src, .ref a_s1, .int lp_choices, .int lp_guesses, .int lp_unaries, .int lp_ranked])), (a_lp_facts, .inl (cI, 4096, .inl lp_facts)), (a_gu, .inr (3, [.ref a_lp, .ref a_gu_rounds, .ref a_s1, .ref a_s2, .int gu_left]))] sz) [(a_li, .inr (0, [.ref a_tp, .ref a_tk, .ref a_cd, .ref a_ps, .ref a_lp, .ref a_rn, .ref a_gu, .ref a_fu, .int li_loopGiven, .int li_faultPlace])), (a_lp, .inr (4, [.ref a_lp_facts, .ref a_lp_turns, .ref a_lp_first, .ref a_lp_src, .ref a_s1, .int lp_choices, .int lp_guesses, .int lp_unaries, .int lp_ranked])), (a_lp_facts, .inl (cI, 4096, .inl lp_facts)), (a_gu, .inr (3, [.ref a_lp, .ref a_gu_rounds, .ref a_s1, .ref a_s2, .int gu_left]))] t) (va_A [(a_li, .inr (0, [.ref a_tp, .ref a_tk, .ref a_cd, .ref a_ps, .ref a_lp, .ref a_rn, .ref a_gu, .ref a_fu, .int li_loopGiven, .int li_faultPlace])), (a_lp, .inr (4, [.ref a_lp_facts, .ref a_lp_turns, .ref a_lp_first, .ref a_lp_src, .ref a_s1, .int lp_choices, .int lp_guesses, .int lp_unaries, .int lp_ranked])), (a_lp_facts, .inl (cI, 4096, .inl lp_facts)), (a_gu, .inr (3, [.ref a_lp, .ref a_gu_rounds, .ref a_s1, .ref a_s2, .int gu_left]))] sz)) 0 0 (va_A [(a_li, .inr (0, [.ref a_tp, .ref a_tk, .ref a_cd, .ref a_ps, .ref a_lp, .ref a_rn, .ref a_gu, .ref a_fu, .int li_loopGiven, .int li_faultPlace])), (a_lp, .inr (4, [.ref a_lp_facts, .ref a_lp_turns, .ref a_lp_first, .ref a_lp_src, .ref a_s1, .int lp_choices, .int lp_guesses, .int lp_unaries, .int lp_ranked])), (a_lp_facts, .inl (cI, 4096, .inl lp_facts)), (a_gu, .inr (3, [.ref a_lp, .ref a_gu_rounds, .ref a_s1, .ref a_s2, .int gu_left]))] sz) := by
  refine Met.ofW (cc := b_LI_follows) (maxL := 1) (ret := (some .int)) (by decide) rfl ?_
  intro p e s m args below meth c s₁ B hml hv
  obtain ⟨rfl, hsz, hP, hK, hD0, hN, hT⟩ := hv
  have hx := B.exec
  have hb := B.bytes
  have hr := B.returns
  have hts := atoms_spec (ws := w_LI_follows) B.pre
  have hown : s.vm.findClass "LoopInduction" = some m.cls := findClass_of_methodNamed B.named
  have hlocks := B.notSynchronized
  subst hsz
  have hD := hD0.self (sz := s.heap.size)
  generalize hAe : va_A [(a_li, .inr (0, [.ref a_tp, .ref a_tk, .ref a_cd, .ref a_ps, .ref a_lp, .ref a_rn, .ref a_gu, .ref a_fu, .int li_loopGiven, .int li_faultPlace])), (a_lp, .inr (4, [.ref a_lp_facts, .ref a_lp_turns, .ref a_lp_first, .ref a_lp_src, .ref a_s1, .int lp_choices, .int lp_guesses, .int lp_unaries, .int lp_ranked])), (a_lp_facts, .inl (cI, 4096, .inl lp_facts)), (a_gu, .inr (3, [.ref a_lp, .ref a_gu_rounds, .ref a_s1, .ref a_s2, .int gu_left]))] s.heap.size = A at hD hT ⊢
  have hA : ∀ q : Nat, s.heap.size ≤ q → A q := fun q h => by rw [← hAe]; exact Or.inr h
  have hS : va_S A s.heap s.heap [] := va_S.rf
  generalize hQ : MQ below _ _ s 0 0 _ = QQ
  have hl := lv_entry ([.ref a_li]) (n := 1) (Nat.le_of_ble_eq_true rfl)
  rw [lg_entry_eq]
  generalize (lg_sl ([.ref a_li]) ++ List.replicate (1 - (lg_sl ([.ref a_li])).length) Slot.unset).toArray = ls at hl ⊢
  have hl : lv_has ls 1 [(0, .ref a_li)] := hl
  have fl_65 := (hts _ (List.mem_cons_of_mem _ m_377))
  have fl_76 := (hts _ (List.mem_cons_of_mem _ m_379))
  refine lv_aload_n hx hb d_LI_follows_0 rfl (lv_at hl 0 rfl) ?_
  refine va_get (D := (dC, dI)) (ci := 0) (v := .int li_loopGiven) (C := "LoopInduction") (T := F_LI) (N := 10) hx hb hts iC_LI hown hK hP 0 rfl rfl 8 (by decide) fl_76 (fun _ h9 => h9) rfl d_LI_follows_1 ?_
  refine lv_if_ne (tgt := 9) hx hb d_LI_follows_4 (by decide) (fun c_4 => ?_) (fun c_4 => ?_)
  · have h := And.left h c_4
    refine lv_aload_n hx hb d_LI_follows_9 rfl (lv_at hl 0 rfl) ?_
    refine va_get (D := (dC, dI)) (ci := 0) (v := .ref a_gu) (C := "LoopInduction") (T := F_LI) (N := 10) hx hb hts iC_LI hown hK hP 0 rfl rfl 6 (by decide) fl_65 (fun _ h9 => h9) rfl d_LI_follows_10 ?_
    refine jn_i (wr := [(a_li, .inr (0, [.ref a_tp, .ref a_tk, .ref a_cd, .ref a_ps, .ref a_lp, .ref a_rn, .ref a_gu, .ref a_fu, .int li_loopGiven, .int li_faultPlace]))]) (va_runV (As := []) (rest := []) ⟨hx, hb, hml, hown, hts⟩ (c_Gues_implyGoal l dC dI cI cB cZ adK adV _ a_lp a_lp_facts a_lp_turns a_lp_first a_lp_src a_s1 a_gu a_gu_rounds a_s2 lp_choices lp_guesses lp_unaries lp_ranked lp_facts gu_left _ h) (cwV 0 hts (gv_ m_1006 m_1007 m_1008 m_94 m_1009) rfl rfl rfl pd_Gues_implyGoal ⟨Nat.le_of_ble_eq_true rfl, Nat.le_of_ble_eq_true rfl⟩) ⟨pc_blind, va_recv hK hP (ci := 3) (q0 := 3) rfl rfl, pc_of (hP.sub [1, 2, 3] rfl) hK (hD.sub [1, 2, 3] (by decide) rfl) hN hT hS hA⟩ rfl rfl hl.1 rfl (lv_room (Nat.le_of_ble_eq_true rfl)) d_LI_follows_13 ⟨Nat.zero_le _, Nat.zero_le _⟩) hP hD hS hA [1, 2, 3] [0] rfl rfl (by decide) (by decide) (fun r_1 u_ H locs h hP hD hS => ?_)
    have hP : va_P (dC, dI) vwCl [(a_li, .inr (0, [.ref a_tp, .ref a_tk, .ref a_cd, .ref a_ps, .ref a_lp, .ref a_rn, .ref a_gu, .ref a_fu, .int li_loopGiven, .int li_faultPlace])), (a_lp, .inr (4, [.ref a_lp_facts, .ref a_lp_turns, .ref a_lp_first, .ref a_lp_src, .ref a_s1, .int lp_choices, .int lp_guesses, .int lp_unaries, .int lp_ranked])), (a_lp_facts, .inl (cI, 4096, .inl lp_facts)), (a_gu, .inr (3, [.ref a_lp, .ref a_gu_rounds, .ref a_s1, .ref a_s2, .int gu_left]))] H := hP
    have hD : va_D A [(a_li, .inr (0, [.ref a_tp, .ref a_tk, .ref a_cd, .ref a_ps, .ref a_lp, .ref a_rn, .ref a_gu, .ref a_fu, .int li_loopGiven, .int li_faultPlace])), (a_lp, .inr (4, [.ref a_lp_facts, .ref a_lp_turns, .ref a_lp_first, .ref a_lp_src, .ref a_s1, .int lp_choices, .int lp_guesses, .int lp_unaries, .int lp_ranked])), (a_lp_facts, .inl (cI, 4096, .inl lp_facts)), (a_gu, .inr (3, [.ref a_lp, .ref a_gu_rounds, .ref a_s1, .ref a_s2, .int gu_left]))] := hD
    refine lv_if_eq (tgt := 23) hx hb d_LI_follows_16 (by decide) (fun c_16 => ?_) (fun c_16 => ?_)
    · have h := And.left h c_16
      refine lv_iconst (v := 0) hx hb d_LI_follows_23 (by decide) ?_
      subst hQ
      have hP9 := hP
      have hD9 := hD
      exact W.iret (v := 0) hx hb hr (fun t ht hW => ⟨⟨0, (), rfl, h, by rw [ht]; exact hP9, va_K.moved hW.alike hK, hD9⟩, hS.F ht⟩) hS.2.2 d_LI_follows_24
    · have h := And.right h c_16
      refine lv_iconst (v := 1) hx hb d_LI_follows_19 (by decide) ?_
      refine lv_goto (tgt := 24) hx hb d_LI_follows_20 (by decide) ?_
      subst hQ
      have hP9 := hP
      have hD9 := hD
      exact W.iret (v := 1) hx hb hr (fun t ht hW => ⟨⟨1, (), rfl, h, by rw [ht]; exact hP9, va_K.moved hW.alike hK, hD9⟩, hS.F ht⟩) hS.2.2 d_LI_follows_24
  · have h := And.right h c_4
    refine lv_iconst (v := (-1)) hx hb d_LI_follows_7 (by decide) ?_
    subst hQ
    have hP9 := hP
    have hD9 := hD
    exact W.iret (v := (-1)) hx hb hr (fun t ht hW => ⟨⟨(-1), (), rfl, h, by rw [ht]; exact hP9, va_K.moved hW.alike hK, hD9⟩, hS.F ht⟩) hS.2.2 d_LI_follows_8
def wp_LI_falls (li_loopGiven : Int32) (lp_choices : Int32) (lp_ranked : Int32) (lp_facts : Nat → Int32) (lp_turns : Nat → Int32) (post : Int32 → Prop) : Prop :=
  (((li_loopGiven : Int32) = 0 → post (-1)) ∧ (¬ (li_loopGiven : Int32) = 0 → wp_Loop_isRanked lp_ranked (fun r_1 => ((¬ (r_1 : Int32) = 0 → wp_Runs_rankAlwaysFalls lp_choices lp_facts lp_turns (fun r_2 => (((r_2 : Int32) = 0 → post 0) ∧ (¬ (r_2 : Int32) = 0 → post 1)))) ∧ ((r_1 : Int32) = 0 → post (-1))))))
set_option maxHeartbeats 4000000 in
set_option maxRecDepth 100000 in
theorem c_LI_falls (l : Launch) (dC : Nat → ClassId) (dI : Nat → Nat → Nat) (cI cB cZ : ClassId) (adK adV : Nat → Nat) (sz : Nat) (a_li a_tp a_tk a_cd a_ps a_lp a_rn a_gu a_fu a_lp_facts a_lp_turns a_lp_first a_lp_src a_s1 a_rn_levels a_rn_path a_s2 a_wk : Nat) (li_loopGiven : Int32) (li_faultPlace : Int32) (lp_choices : Int32) (lp_guesses : Int32) (lp_unaries : Int32) (lp_ranked : Int32) (lp_facts : Nat → Int32) (lp_turns : Nat → Int32) (rn_reached : Int32) (rn_greatestLevel : Int32) (rn_pathSize : Int32) (post : Int32 → Prop) (h : wp_LI_falls li_loopGiven lp_choices lp_ranked lp_facts lp_turns post) : Met l y_LI_falls w_LI_falls ({ frames := 4, cells := 0, slots := 0, locals := 87 }) (pc_ (dC, dI) [(cI, .int), (cB, .byte), (cZ, .boolean)] [(a_li, .inr (0, [.ref a_tp, .ref a_tk, .ref a_cd, .ref a_ps, .ref a_lp, .ref a_rn, .ref a_gu, .ref a_fu, .int li_loopGiven, .int li_faultPlace])), (a_lp, .inr (4, [.ref a_lp_facts, .ref a_lp_turns, .ref a_lp_first, .ref a_lp_src, .ref a_s1, .int lp_choices, .int lp_guesses, .int lp_unaries, .int lp_ranked])), (a_lp_facts, .inl (cI, 4096, .inl lp_facts)), (a_lp_turns, .inl (cI, 24576, .inl lp_turns)), (a_rn, .inr (6, [.ref a_lp, .ref a_rn_levels, .ref a_rn_path, .ref a_s1, .ref a_s2, .ref a_wk, .int rn_reached, .int rn_greatestLevel, .int rn_pathSize]))] sz adK adV [.ref a_li]) (va_Qi (fun (r : Int32) (u : Unit) => post r ) (fun (u : Unit) t => bw_ (dC, dI) [(cI, .int), (cB, .byte), (cZ, .boolean)] (va_A [(a_li, .inr (0, [.ref a_tp, .ref a_tk, .ref a_cd, .ref a_ps, .ref a_lp, .ref a_rn, .ref a_gu, .ref a_fu, .int li_loopGiven, .int li_faultPlace])), (a_lp, .inr (4, [.ref a_lp_facts, .ref a_lp_turns, .ref a_lp_first, .ref a_lp_src, .ref a_s1, .int lp_choices, .int lp_guesses, .int lp_unaries, .int lp_ranked])), (a_lp_facts, .inl (cI, 4096, .inl lp_facts)), (a_lp_turns, .inl (cI, 24576, .inl lp_turns)), (a_rn, .inr (6, [.ref a_lp, .ref a_rn_levels, .ref a_rn_path, .ref a_s1, .ref a_s2, .ref a_wk, .int rn_reached, .int rn_greatestLevel, .int rn_pathSize]))] sz) [(a_li, .inr (0, [.ref a_tp, .ref a_tk, .ref a_cd, .ref a_ps, .ref a_lp, .ref a_rn, .ref a_gu, .ref a_fu, .int li_loopGiven, .int li_faultPlace])), (a_lp, .inr (4, [.ref a_lp_facts, .ref a_lp_turns, .ref a_lp_first, .ref a_lp_src, .ref a_s1, .int lp_choices, .int lp_guesses, .int lp_unaries, .int lp_ranked])), (a_lp_facts, .inl (cI, 4096, .inl lp_facts)), (a_lp_turns, .inl (cI, 24576, .inl lp_turns)), (a_rn, .inr (6, [.ref a_lp, .ref a_rn_levels, .ref a_rn_path, .ref a_s1, .ref a_s2, .ref a_wk, .int rn_reached, .int rn_greatestLevel, .int rn_pathSize]))] t) (va_A [(a_li, .inr (0, [.ref a_tp, .ref a_tk, .ref a_cd, .ref a_ps, .ref a_lp, .ref a_rn, .ref a_gu, .ref a_fu, .int li_loopGiven, .int li_faultPlace])), (a_lp, .inr (4, [.ref a_lp_facts, .ref a_lp_turns, .ref a_lp_first, .ref a_lp_src, .ref a_s1, .int lp_choices, .int lp_guesses, .int lp_unaries, .int lp_ranked])), (a_lp_facts, .inl (cI, 4096, .inl lp_facts)), (a_lp_turns, .inl (cI, 24576, .inl lp_turns)), (a_rn, .inr (6, [.ref a_lp, .ref a_rn_levels, .ref a_rn_path, .ref a_s1, .ref a_s2, .ref a_wk, .int rn_reached, .int rn_greatestLevel, .int rn_pathSize]))] sz)) 0 0 (va_A [(a_li, .inr (0, [.ref a_tp, .ref a_tk, .ref a_cd, .ref a_ps, .ref a_lp, .ref a_rn, .ref a_gu, .ref a_fu, .int li_loopGiven, .int li_faultPlace])), (a_lp, .inr (4, [.ref a_lp_facts, .ref a_lp_turns, .ref a_lp_first, .ref a_lp_src, .ref a_s1, .int lp_choices, .int lp_guesses, .int lp_unaries, .int lp_ranked])), (a_lp_facts, .inl (cI, 4096, .inl lp_facts)), (a_lp_turns, .inl (cI, 24576, .inl lp_turns)), (a_rn, .inr (6, [.ref a_lp, .ref a_rn_levels, .ref a_rn_path, .ref a_s1, .ref a_s2, .ref a_wk, .int rn_reached, .int rn_greatestLevel, .int rn_pathSize]))] sz) := by
  refine Met.ofW (cc := b_LI_falls) (maxL := 1) (ret := (some .int)) (by decide) rfl ?_
  intro p e s m args below meth c s₁ B hml hv
  obtain ⟨rfl, hsz, hP, hK, hD0, hN, hT⟩ := hv
  have hx := B.exec
  have hb := B.bytes
  have hr := B.returns
  have hts := atoms_spec (ws := w_LI_falls) B.pre
  have hown : s.vm.findClass "LoopInduction" = some m.cls := findClass_of_methodNamed B.named
  have hlocks := B.notSynchronized
  subst hsz
  have hD := hD0.self (sz := s.heap.size)
  generalize hAe : va_A [(a_li, .inr (0, [.ref a_tp, .ref a_tk, .ref a_cd, .ref a_ps, .ref a_lp, .ref a_rn, .ref a_gu, .ref a_fu, .int li_loopGiven, .int li_faultPlace])), (a_lp, .inr (4, [.ref a_lp_facts, .ref a_lp_turns, .ref a_lp_first, .ref a_lp_src, .ref a_s1, .int lp_choices, .int lp_guesses, .int lp_unaries, .int lp_ranked])), (a_lp_facts, .inl (cI, 4096, .inl lp_facts)), (a_lp_turns, .inl (cI, 24576, .inl lp_turns)), (a_rn, .inr (6, [.ref a_lp, .ref a_rn_levels, .ref a_rn_path, .ref a_s1, .ref a_s2, .ref a_wk, .int rn_reached, .int rn_greatestLevel, .int rn_pathSize]))] s.heap.size = A at hD hT ⊢
  have hA : ∀ q : Nat, s.heap.size ≤ q → A q := fun q h => by rw [← hAe]; exact Or.inr h
  have hS : va_S A s.heap s.heap [] := va_S.rf
  generalize hQ : MQ below _ _ s 0 0 _ = QQ
  have hl := lv_entry ([.ref a_li]) (n := 1) (Nat.le_of_ble_eq_true rfl)
  rw [lg_entry_eq]
  generalize (lg_sl ([.ref a_li]) ++ List.replicate (1 - (lg_sl ([.ref a_li])).length) Slot.unset).toArray = ls at hl ⊢
  have hl : lv_has ls 1 [(0, .ref a_li)] := hl
  have fl_49 := (hts _ (List.mem_cons_of_mem _ m_375))
  have fl_58 := (hts _ (List.mem_cons_of_mem _ m_376))
  have fl_76 := (hts _ (List.mem_cons_of_mem _ m_379))
  refine lv_aload_n hx hb d_LI_falls_0 rfl (lv_at hl 0 rfl) ?_
  refine va_get (D := (dC, dI)) (ci := 0) (v := .int li_loopGiven) (C := "LoopInduction") (T := F_LI) (N := 10) hx hb hts iC_LI hown hK hP 0 rfl rfl 8 (by decide) fl_76 (fun _ h9 => h9) rfl d_LI_falls_1 ?_
  refine lv_if_eq (tgt := 17) hx hb d_LI_falls_4 (by decide) (fun c_4 => ?_) (fun c_4 => ?_)
  · have h := And.left h c_4
    refine lv_iconst (v := (-1)) hx hb d_LI_falls_17 (by decide) ?_
    subst hQ
    have hP9 := hP
    have hD9 := hD
    exact W.iret (v := (-1)) hx hb hr (fun t ht hW => ⟨⟨(-1), (), rfl, h, by rw [ht]; exact hP9, va_K.moved hW.alike hK, hD9⟩, hS.F ht⟩) hS.2.2 d_LI_falls_18
  · have h := And.right h c_4
    refine lv_aload_n hx hb d_LI_falls_7 rfl (lv_at hl 0 rfl) ?_
    refine va_get (D := (dC, dI)) (ci := 0) (v := .ref a_lp) (C := "LoopInduction") (T := F_LI) (N := 10) hx hb hts iC_LI hown hK hP 0 rfl rfl 4 (by decide) fl_49 (fun _ h9 => h9) rfl d_LI_falls_8 ?_
    refine jn_i (wr := [(a_li, .inr (0, [.ref a_tp, .ref a_tk, .ref a_cd, .ref a_ps, .ref a_lp, .ref a_rn, .ref a_gu, .ref a_fu, .int li_loopGiven, .int li_faultPlace])), (a_lp_facts, .inl (cI, 4096, .inl lp_facts)), (a_lp_turns, .inl (cI, 24576, .inl lp_turns)), (a_rn, .inr (6, [.ref a_lp, .ref a_rn_levels, .ref a_rn_path, .ref a_s1, .ref a_s2, .ref a_wk, .int rn_reached, .int rn_greatestLevel, .int rn_pathSize]))]) (va_runV (As := []) (rest := []) ⟨hx, hb, hml, hown, hts⟩ (c_Loop_isRanked l dC dI cI cB cZ adK adV _ a_lp a_lp_facts a_lp_turns a_lp_first a_lp_src a_s1 lp_choices lp_guesses lp_unaries lp_ranked _ h) (cwV 0 hts (gv_ m_900 m_901 m_902 m_92 m_903) rfl rfl rfl pd_Loop_isRanked ⟨Nat.le_of_ble_eq_true rfl, Nat.le_of_ble_eq_true rfl⟩) ⟨pc_blind, va_recv hK hP (ci := 4) (q0 := 1) rfl rfl, pc_of (hP.sub [1] rfl) hK (hD.sub [1] (by decide) rfl) hN hT hS hA⟩ rfl rfl hl.1 rfl (lv_room (Nat.le_of_ble_eq_true rfl)) d_LI_falls_11 ⟨Nat.zero_le _, Nat.zero_le _⟩) hP hD hS hA [1] [0, 2, 3, 4] rfl rfl (by decide) (by decide) (fun r_1 u_ H locs h hP hD hS => ?_)
    have hP : va_P (dC, dI) vwCl [(a_li, .inr (0, [.ref a_tp, .ref a_tk, .ref a_cd, .ref a_ps, .ref a_lp, .ref a_rn, .ref a_gu, .ref a_fu, .int li_loopGiven, .int li_faultPlace])), (a_lp_facts, .inl (cI, 4096, .inl lp_facts)), (a_lp_turns, .inl (cI, 24576, .inl lp_turns)), (a_rn, .inr (6, [.ref a_lp, .ref a_rn_levels, .ref a_rn_path, .ref a_s1, .ref a_s2, .ref a_wk, .int rn_reached, .int rn_greatestLevel, .int rn_pathSize])), (a_lp, .inr (4, [.ref a_lp_facts, .ref a_lp_turns, .ref a_lp_first, .ref a_lp_src, .ref a_s1, .int lp_choices, .int lp_guesses, .int lp_unaries, .int lp_ranked]))] H := hP
    have hD : va_D A [(a_li, .inr (0, [.ref a_tp, .ref a_tk, .ref a_cd, .ref a_ps, .ref a_lp, .ref a_rn, .ref a_gu, .ref a_fu, .int li_loopGiven, .int li_faultPlace])), (a_lp_facts, .inl (cI, 4096, .inl lp_facts)), (a_lp_turns, .inl (cI, 24576, .inl lp_turns)), (a_rn, .inr (6, [.ref a_lp, .ref a_rn_levels, .ref a_rn_path, .ref a_s1, .ref a_s2, .ref a_wk, .int rn_reached, .int rn_greatestLevel, .int rn_pathSize])), (a_lp, .inr (4, [.ref a_lp_facts, .ref a_lp_turns, .ref a_lp_first, .ref a_lp_src, .ref a_s1, .int lp_choices, .int lp_guesses, .int lp_unaries, .int lp_ranked]))] := hD
    refine lv_if_ne (tgt := 19) hx hb d_LI_falls_14 (by decide) (fun c_14 => ?_) (fun c_14 => ?_)
    · have h := And.left h c_14
      refine lv_aload_n hx hb d_LI_falls_19 rfl (lv_at hl 0 rfl) ?_
      refine va_get (D := (dC, dI)) (ci := 0) (v := .ref a_rn) (C := "LoopInduction") (T := F_LI) (N := 10) hx hb hts iC_LI hown hK hP 0 rfl rfl 5 (by decide) fl_58 (fun _ h9 => h9) rfl d_LI_falls_20 ?_
      refine jn_i (wr := [(a_li, .inr (0, [.ref a_tp, .ref a_tk, .ref a_cd, .ref a_ps, .ref a_lp, .ref a_rn, .ref a_gu, .ref a_fu, .int li_loopGiven, .int li_faultPlace]))]) (va_runV (As := []) (rest := []) ⟨hx, hb, hml, hown, hts⟩ (c_Runs_rankAlwaysFalls l dC dI cI cB cZ adK adV _ a_lp a_lp_facts a_lp_turns a_lp_first a_lp_src a_s1 a_rn a_rn_levels a_rn_path a_s2 a_wk lp_choices lp_guesses lp_unaries lp_ranked lp_facts lp_turns rn_reached rn_greatestLevel rn_pathSize _ h) (cwV 0 hts (gv_ m_1015 m_1016 m_1017 m_93 m_1018) rfl rfl rfl pd_Runs_rankAlwaysFalls ⟨Nat.le_of_ble_eq_true rfl, Nat.le_of_ble_eq_true rfl⟩) ⟨pc_blind, va_recv hK hP (ci := 6) (q0 := 3) rfl rfl, pc_of (hP.sub [4, 1, 2, 3] rfl) hK (hD.sub [4, 1, 2, 3] (by decide) rfl) hN hT hS hA⟩ rfl rfl hl.1 rfl (lv_room (Nat.le_of_ble_eq_true rfl)) d_LI_falls_23 ⟨Nat.zero_le _, Nat.zero_le _⟩) hP hD hS hA [4, 1, 2, 3] [0] rfl rfl (by decide) (by decide) (fun r_2 u_ H locs h hP hD hS => ?_)
      have hP : va_P (dC, dI) vwCl [(a_li, .inr (0, [.ref a_tp, .ref a_tk, .ref a_cd, .ref a_ps, .ref a_lp, .ref a_rn, .ref a_gu, .ref a_fu, .int li_loopGiven, .int li_faultPlace])), (a_lp, .inr (4, [.ref a_lp_facts, .ref a_lp_turns, .ref a_lp_first, .ref a_lp_src, .ref a_s1, .int lp_choices, .int lp_guesses, .int lp_unaries, .int lp_ranked])), (a_lp_facts, .inl (cI, 4096, .inl lp_facts)), (a_lp_turns, .inl (cI, 24576, .inl lp_turns)), (a_rn, .inr (6, [.ref a_lp, .ref a_rn_levels, .ref a_rn_path, .ref a_s1, .ref a_s2, .ref a_wk, .int rn_reached, .int rn_greatestLevel, .int rn_pathSize]))] H := hP
      have hD : va_D A [(a_li, .inr (0, [.ref a_tp, .ref a_tk, .ref a_cd, .ref a_ps, .ref a_lp, .ref a_rn, .ref a_gu, .ref a_fu, .int li_loopGiven, .int li_faultPlace])), (a_lp, .inr (4, [.ref a_lp_facts, .ref a_lp_turns, .ref a_lp_first, .ref a_lp_src, .ref a_s1, .int lp_choices, .int lp_guesses, .int lp_unaries, .int lp_ranked])), (a_lp_facts, .inl (cI, 4096, .inl lp_facts)), (a_lp_turns, .inl (cI, 24576, .inl lp_turns)), (a_rn, .inr (6, [.ref a_lp, .ref a_rn_levels, .ref a_rn_path, .ref a_s1, .ref a_s2, .ref a_wk, .int rn_reached, .int rn_greatestLevel, .int rn_pathSize]))] := hD
      refine lv_if_eq (tgt := 33) hx hb d_LI_falls_26 (by decide) (fun c_26 => ?_) (fun c_26 => ?_)
      · have h := And.left h c_26
        refine lv_iconst (v := 0) hx hb d_LI_falls_33 (by decide) ?_
        subst hQ
        have hP9 := hP
        have hD9 := hD
        exact W.iret (v := 0) hx hb hr (fun t ht hW => ⟨⟨0, (), rfl, h, by rw [ht]; exact hP9, va_K.moved hW.alike hK, hD9⟩, hS.F ht⟩) hS.2.2 d_LI_falls_34
      · have h := And.right h c_26
        refine lv_iconst (v := 1) hx hb d_LI_falls_29 (by decide) ?_
        refine lv_goto (tgt := 34) hx hb d_LI_falls_30 (by decide) ?_
        subst hQ
        have hP9 := hP
        have hD9 := hD
        exact W.iret (v := 1) hx hb hr (fun t ht hW => ⟨⟨1, (), rfl, h, by rw [ht]; exact hP9, va_K.moved hW.alike hK, hD9⟩, hS.F ht⟩) hS.2.2 d_LI_falls_34
    · have h := And.right h c_14
      refine lv_iconst (v := (-1)) hx hb d_LI_falls_17 (by decide) ?_
      subst hQ
      have hP9 := hP.sub (ws' := [(a_li, .inr (0, [.ref a_tp, .ref a_tk, .ref a_cd, .ref a_ps, .ref a_lp, .ref a_rn, .ref a_gu, .ref a_fu, .int li_loopGiven, .int li_faultPlace])), (a_lp, .inr (4, [.ref a_lp_facts, .ref a_lp_turns, .ref a_lp_first, .ref a_lp_src, .ref a_s1, .int lp_choices, .int lp_guesses, .int lp_unaries, .int lp_ranked])), (a_lp_facts, .inl (cI, 4096, .inl lp_facts)), (a_lp_turns, .inl (cI, 24576, .inl lp_turns)), (a_rn, .inr (6, [.ref a_lp, .ref a_rn_levels, .ref a_rn_path, .ref a_s1, .ref a_s2, .ref a_wk, .int rn_reached, .int rn_greatestLevel, .int rn_pathSize]))]) [0, 4, 1, 2, 3] rfl
      have hD9 := hD.sub (ws' := [(a_li, .inr (0, [.ref a_tp, .ref a_tk, .ref a_cd, .ref a_ps, .ref a_lp, .ref a_rn, .ref a_gu, .ref a_fu, .int li_loopGiven, .int li_faultPlace])), (a_lp, .inr (4, [.ref a_lp_facts, .ref a_lp_turns, .ref a_lp_first, .ref a_lp_src, .ref a_s1, .int lp_choices, .int lp_guesses, .int lp_unaries, .int lp_ranked])), (a_lp_facts, .inl (cI, 4096, .inl lp_facts)), (a_lp_turns, .inl (cI, 24576, .inl lp_turns)), (a_rn, .inr (6, [.ref a_lp, .ref a_rn_levels, .ref a_rn_path, .ref a_s1, .ref a_s2, .ref a_wk, .int rn_reached, .int rn_greatestLevel, .int rn_pathSize]))]) [0, 4, 1, 2, 3] (by decide) rfl
      exact W.iret (v := (-1)) hx hb hr (fun t ht hW => ⟨⟨(-1), (), rfl, h, by rw [ht]; exact hP9, va_K.moved hW.alike hK, hD9⟩, hS.F ht⟩) hS.2.2 d_LI_falls_18
def wp_LI_longest (li_loopGiven : Int32) (lp_choices : Int32) (lp_facts : Nat → Int32) (lp_turns : Nat → Int32) (s1 : Nat → Int32) (s2 : Nat → Int32) (wk_size : Int32) (wk_items : Nat → Int32) (rn_reached : Int32) (post : Int32 → (Nat → Int32) → (Nat → Int32) → Int32 → (Nat → Int32) → Prop) : Prop :=
  (((li_loopGiven : Int32) = 0 → post (-1) s1 s2 wk_size wk_items) ∧ (¬ (li_loopGiven : Int32) = 0 → wp_Runs_longestTurns lp_choices lp_facts lp_turns s1 s2 wk_size wk_items rn_reached (fun r_1 s1_2 s2_3 wk_size_4 wk_items_5 => post r_1 s1_2 s2_3 wk_size_4 wk_items_5)))
set_option maxHeartbeats 4000000 in
set_option maxRecDepth 100000 in
theorem c_LI_longest (l : Launch) (dC : Nat → ClassId) (dI : Nat → Nat → Nat) (cI cB cZ : ClassId) (adK adV : Nat → Nat) (sz : Nat) (a_li a_tp a_tk a_cd a_ps a_lp a_rn a_gu a_fu a_lp_facts a_lp_turns a_lp_first a_lp_src a_s1 a_s2 a_wk a_wk_items a_rn_levels a_rn_path : Nat) (li_loopGiven : Int32) (li_faultPlace : Int32) (lp_choices : Int32) (lp_guesses : Int32) (lp_unaries : Int32) (lp_ranked : Int32) (lp_facts : Nat → Int32) (lp_turns : Nat → Int32) (s1 : Nat → Int32) (s2 : Nat → Int32) (wk_size : Int32) (wk_items : Nat → Int32) (rn_reached : Int32) (rn_greatestLevel : Int32) (rn_pathSize : Int32) (post : Int32 → (Nat → Int32) → (Nat → Int32) → Int32 → (Nat → Int32) → Prop) (h : wp_LI_longest li_loopGiven lp_choices lp_facts lp_turns s1 s2 wk_size wk_items rn_reached post) : Met l y_LI_longest w_LI_longest ({ frames := 4, cells := 0, slots := 0, locals := 87 }) (pc_ (dC, dI) [(cI, .int), (cB, .byte), (cZ, .boolean)] [(a_li, .inr (0, [.ref a_tp, .ref a_tk, .ref a_cd, .ref a_ps, .ref a_lp, .ref a_rn, .ref a_gu, .ref a_fu, .int li_loopGiven, .int li_faultPlace])), (a_lp, .inr (4, [.ref a_lp_facts, .ref a_lp_turns, .ref a_lp_first, .ref a_lp_src, .ref a_s1, .int lp_choices, .int lp_guesses, .int lp_unaries, .int lp_ranked])), (a_lp_facts, .inl (cI, 4096, .inl lp_facts)), (a_lp_turns, .inl (cI, 24576, .inl lp_turns)), (a_s1, .inl (cI, 4096, .inl s1)), (a_s2, .inl (cI, 4096, .inl s2)), (a_wk, .inr (10, [.ref a_wk_items, .int wk_size])), (a_wk_items, .inl (cI, 4096, .inl wk_items)), (a_rn, .inr (6, [.ref a_lp, .ref a_rn_levels, .ref a_rn_path, .ref a_s1, .ref a_s2, .ref a_wk, .int rn_reached, .int rn_greatestLevel, .int rn_pathSize]))] sz adK adV [.ref a_li]) (va_Qi (fun (r : Int32) (u : (Nat → Int32) × (Nat → Int32) × Int32 × (Nat → Int32)) => post r u.1 u.2.1 u.2.2.1 u.2.2.2) (fun (u : (Nat → Int32) × (Nat → Int32) × Int32 × (Nat → Int32)) t => bw_ (dC, dI) [(cI, .int), (cB, .byte), (cZ, .boolean)] (va_A [(a_li, .inr (0, [.ref a_tp, .ref a_tk, .ref a_cd, .ref a_ps, .ref a_lp, .ref a_rn, .ref a_gu, .ref a_fu, .int li_loopGiven, .int li_faultPlace])), (a_lp, .inr (4, [.ref a_lp_facts, .ref a_lp_turns, .ref a_lp_first, .ref a_lp_src, .ref a_s1, .int lp_choices, .int lp_guesses, .int lp_unaries, .int lp_ranked])), (a_lp_facts, .inl (cI, 4096, .inl lp_facts)), (a_lp_turns, .inl (cI, 24576, .inl lp_turns)), (a_s1, .inl (cI, 4096, .inl s1)), (a_s2, .inl (cI, 4096, .inl s2)), (a_wk, .inr (10, [.ref a_wk_items, .int wk_size])), (a_wk_items, .inl (cI, 4096, .inl wk_items)), (a_rn, .inr (6, [.ref a_lp, .ref a_rn_levels, .ref a_rn_path, .ref a_s1, .ref a_s2, .ref a_wk, .int rn_reached, .int rn_greatestLevel, .int rn_pathSize]))] sz) [(a_li, .inr (0, [.ref a_tp, .ref a_tk, .ref a_cd, .ref a_ps, .ref a_lp, .ref a_rn, .ref a_gu, .ref a_fu, .int li_loopGiven, .int li_faultPlace])), (a_lp, .inr (4, [.ref a_lp_facts, .ref a_lp_turns, .ref a_lp_first, .ref a_lp_src, .ref a_s1, .int lp_choices, .int lp_guesses, .int lp_unaries, .int lp_ranked])), (a_lp_facts, .inl (cI, 4096, .inl lp_facts)), (a_lp_turns, .inl (cI, 24576, .inl lp_turns)), (a_s1, .inl (cI, 4096, .inl u.1)), (a_s2, .inl (cI, 4096, .inl u.2.1)), (a_wk, .inr (10, [.ref a_wk_items, .int u.2.2.1])), (a_wk_items, .inl (cI, 4096, .inl u.2.2.2)), (a_rn, .inr (6, [.ref a_lp, .ref a_rn_levels, .ref a_rn_path, .ref a_s1, .ref a_s2, .ref a_wk, .int rn_reached, .int rn_greatestLevel, .int rn_pathSize]))] t) (va_A [(a_li, .inr (0, [.ref a_tp, .ref a_tk, .ref a_cd, .ref a_ps, .ref a_lp, .ref a_rn, .ref a_gu, .ref a_fu, .int li_loopGiven, .int li_faultPlace])), (a_lp, .inr (4, [.ref a_lp_facts, .ref a_lp_turns, .ref a_lp_first, .ref a_lp_src, .ref a_s1, .int lp_choices, .int lp_guesses, .int lp_unaries, .int lp_ranked])), (a_lp_facts, .inl (cI, 4096, .inl lp_facts)), (a_lp_turns, .inl (cI, 24576, .inl lp_turns)), (a_s1, .inl (cI, 4096, .inl s1)), (a_s2, .inl (cI, 4096, .inl s2)), (a_wk, .inr (10, [.ref a_wk_items, .int wk_size])), (a_wk_items, .inl (cI, 4096, .inl wk_items)), (a_rn, .inr (6, [.ref a_lp, .ref a_rn_levels, .ref a_rn_path, .ref a_s1, .ref a_s2, .ref a_wk, .int rn_reached, .int rn_greatestLevel, .int rn_pathSize]))] sz)) 0 0 (va_A [(a_li, .inr (0, [.ref a_tp, .ref a_tk, .ref a_cd, .ref a_ps, .ref a_lp, .ref a_rn, .ref a_gu, .ref a_fu, .int li_loopGiven, .int li_faultPlace])), (a_lp, .inr (4, [.ref a_lp_facts, .ref a_lp_turns, .ref a_lp_first, .ref a_lp_src, .ref a_s1, .int lp_choices, .int lp_guesses, .int lp_unaries, .int lp_ranked])), (a_lp_facts, .inl (cI, 4096, .inl lp_facts)), (a_lp_turns, .inl (cI, 24576, .inl lp_turns)), (a_s1, .inl (cI, 4096, .inl s1)), (a_s2, .inl (cI, 4096, .inl s2)), (a_wk, .inr (10, [.ref a_wk_items, .int wk_size])), (a_wk_items, .inl (cI, 4096, .inl wk_items)), (a_rn, .inr (6, [.ref a_lp, .ref a_rn_levels, .ref a_rn_path, .ref a_s1, .ref a_s2, .ref a_wk, .int rn_reached, .int rn_greatestLevel, .int rn_pathSize]))] sz) := by
  refine Met.ofW (cc := b_LI_longest) (maxL := 1) (ret := (some .int)) (by decide) rfl ?_
  intro p e s m args below meth c s₁ B hml hv
  obtain ⟨rfl, hsz, hP, hK, hD0, hN, hT⟩ := hv
  have hx := B.exec
  have hb := B.bytes
  have hr := B.returns
  have hts := atoms_spec (ws := w_LI_longest) B.pre
  have hown : s.vm.findClass "LoopInduction" = some m.cls := findClass_of_methodNamed B.named
  have hlocks := B.notSynchronized
  subst hsz
  have hD := hD0.self (sz := s.heap.size)
  generalize hAe : va_A [(a_li, .inr (0, [.ref a_tp, .ref a_tk, .ref a_cd, .ref a_ps, .ref a_lp, .ref a_rn, .ref a_gu, .ref a_fu, .int li_loopGiven, .int li_faultPlace])), (a_lp, .inr (4, [.ref a_lp_facts, .ref a_lp_turns, .ref a_lp_first, .ref a_lp_src, .ref a_s1, .int lp_choices, .int lp_guesses, .int lp_unaries, .int lp_ranked])), (a_lp_facts, .inl (cI, 4096, .inl lp_facts)), (a_lp_turns, .inl (cI, 24576, .inl lp_turns)), (a_s1, .inl (cI, 4096, .inl s1)), (a_s2, .inl (cI, 4096, .inl s2)), (a_wk, .inr (10, [.ref a_wk_items, .int wk_size])), (a_wk_items, .inl (cI, 4096, .inl wk_items)), (a_rn, .inr (6, [.ref a_lp, .ref a_rn_levels, .ref a_rn_path, .ref a_s1, .ref a_s2, .ref a_wk, .int rn_reached, .int rn_greatestLevel, .int rn_pathSize]))] s.heap.size = A at hD hT ⊢
  have hA : ∀ q : Nat, s.heap.size ≤ q → A q := fun q h => by rw [← hAe]; exact Or.inr h
  have hS : va_S A s.heap s.heap [] := va_S.rf
  generalize hQ : MQ below _ _ s 0 0 _ = QQ
  have hl := lv_entry ([.ref a_li]) (n := 1) (Nat.le_of_ble_eq_true rfl)
  rw [lg_entry_eq]
  generalize (lg_sl ([.ref a_li]) ++ List.replicate (1 - (lg_sl ([.ref a_li])).length) Slot.unset).toArray = ls at hl ⊢
  have hl : lv_has ls 1 [(0, .ref a_li)] := hl
  have fl_58 := (hts _ (List.mem_cons_of_mem _ m_376))
  have fl_76 := (hts _ (List.mem_cons_of_mem _ m_379))
  refine lv_aload_n hx hb d_LI_longest_0 rfl (lv_at hl 0 rfl) ?_
  refine va_get (D := (dC, dI)) (ci := 0) (v := .int li_loopGiven) (C := "LoopInduction") (T := F_LI) (N := 10) hx hb hts iC_LI hown hK hP 0 rfl rfl 8 (by decide) fl_76 (fun _ h9 => h9) rfl d_LI_longest_1 ?_
  refine lv_if_eq (tgt := 17) hx hb d_LI_longest_4 (by decide) (fun c_4 => ?_) (fun c_4 => ?_)
  · have h := And.left h c_4
    refine lv_iconst (v := (-1)) hx hb d_LI_longest_17 (by decide) ?_
    subst hQ
    have hP9 := hP
    have hD9 := hD
    exact W.iret (v := (-1)) hx hb hr (fun t ht hW => ⟨⟨(-1), (s1, s2, wk_size, wk_items), rfl, h, by rw [ht]; exact hP9, va_K.moved hW.alike hK, hD9⟩, hS.F ht⟩) hS.2.2 d_LI_longest_18
  · have h := And.right h c_4
    refine lv_aload_n hx hb d_LI_longest_7 rfl (lv_at hl 0 rfl) ?_
    refine va_get (D := (dC, dI)) (ci := 0) (v := .ref a_rn) (C := "LoopInduction") (T := F_LI) (N := 10) hx hb hts iC_LI hown hK hP 0 rfl rfl 5 (by decide) fl_58 (fun _ h9 => h9) rfl d_LI_longest_8 ?_
    refine jn_i (wr := [(a_li, .inr (0, [.ref a_tp, .ref a_tk, .ref a_cd, .ref a_ps, .ref a_lp, .ref a_rn, .ref a_gu, .ref a_fu, .int li_loopGiven, .int li_faultPlace]))]) (va_runV (As := []) (rest := []) ⟨hx, hb, hml, hown, hts⟩ (c_Runs_longestTurns l dC dI cI cB cZ adK adV _ a_lp a_lp_facts a_lp_turns a_lp_first a_lp_src a_s1 a_s2 a_wk a_wk_items a_rn a_rn_levels a_rn_path lp_choices lp_guesses lp_unaries lp_ranked lp_facts lp_turns s1 s2 wk_size wk_items rn_reached rn_greatestLevel rn_pathSize _ h) (cwV 0 hts (gv_ m_1028 m_1029 m_1030 m_93 m_1031) rfl rfl rfl pd_Runs_longestTurns ⟨Nat.le_of_ble_eq_true rfl, Nat.le_of_ble_eq_true rfl⟩) ⟨pc_blind, va_recv hK hP (ci := 6) (q0 := 8) rfl rfl, pc_of (hP.sub [1, 2, 3, 4, 5, 6, 7, 8] rfl) hK (hD.sub [1, 2, 3, 4, 5, 6, 7, 8] (by decide) rfl) hN hT hS hA⟩ rfl rfl hl.1 rfl (lv_room (Nat.le_of_ble_eq_true rfl)) d_LI_longest_11 ⟨Nat.zero_le _, Nat.zero_le _⟩) hP hD hS hA [1, 2, 3, 4, 5, 6, 7, 8] [0] rfl rfl (by decide) (by decide) (fun r_1 u_ H locs h hP hD hS => ?_)
    obtain ⟨s1_2, s2_3, wk_size_4, wk_items_5⟩ := u_
    have hP : va_P (dC, dI) vwCl [(a_li, .inr (0, [.ref a_tp, .ref a_tk, .ref a_cd, .ref a_ps, .ref a_lp, .ref a_rn, .ref a_gu, .ref a_fu, .int li_loopGiven, .int li_faultPlace])), (a_lp, .inr (4, [.ref a_lp_facts, .ref a_lp_turns, .ref a_lp_first, .ref a_lp_src, .ref a_s1, .int lp_choices, .int lp_guesses, .int lp_unaries, .int lp_ranked])), (a_lp_facts, .inl (cI, 4096, .inl lp_facts)), (a_lp_turns, .inl (cI, 24576, .inl lp_turns)), (a_s1, .inl (cI, 4096, .inl s1_2)), (a_s2, .inl (cI, 4096, .inl s2_3)), (a_wk, .inr (10, [.ref a_wk_items, .int wk_size_4])), (a_wk_items, .inl (cI, 4096, .inl wk_items_5)), (a_rn, .inr (6, [.ref a_lp, .ref a_rn_levels, .ref a_rn_path, .ref a_s1, .ref a_s2, .ref a_wk, .int rn_reached, .int rn_greatestLevel, .int rn_pathSize]))] H := hP
    have hD : va_D A [(a_li, .inr (0, [.ref a_tp, .ref a_tk, .ref a_cd, .ref a_ps, .ref a_lp, .ref a_rn, .ref a_gu, .ref a_fu, .int li_loopGiven, .int li_faultPlace])), (a_lp, .inr (4, [.ref a_lp_facts, .ref a_lp_turns, .ref a_lp_first, .ref a_lp_src, .ref a_s1, .int lp_choices, .int lp_guesses, .int lp_unaries, .int lp_ranked])), (a_lp_facts, .inl (cI, 4096, .inl lp_facts)), (a_lp_turns, .inl (cI, 24576, .inl lp_turns)), (a_s1, .inl (cI, 4096, .inl s1_2)), (a_s2, .inl (cI, 4096, .inl s2_3)), (a_wk, .inr (10, [.ref a_wk_items, .int wk_size_4])), (a_wk_items, .inl (cI, 4096, .inl wk_items_5)), (a_rn, .inr (6, [.ref a_lp, .ref a_rn_levels, .ref a_rn_path, .ref a_s1, .ref a_s2, .ref a_wk, .int rn_reached, .int rn_greatestLevel, .int rn_pathSize]))] := hD
    refine lv_goto (tgt := 18) hx hb d_LI_longest_14 (by decide) ?_
    subst hQ
    have hP9 := hP
    have hD9 := hD
    exact W.iret (v := r_1) hx hb hr (fun t ht hW => ⟨⟨r_1, (s1_2, s2_3, wk_size_4, wk_items_5), rfl, h, by rw [ht]; exact hP9, va_K.moved hW.alike hK, hD9⟩, hS.F ht⟩) hS.2.2 d_LI_longest_18
