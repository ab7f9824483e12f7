abbrev b_Md_told : ByteArray := prog_13_method_41_code
abbrev y_Md_told : MethodName := ⟨"LoopInductionModel", "told", "(I)I"⟩
abbrev w_Md_told : List Cond := .code y_Md_told b_Md_told 2 (some .int) :: allW
theorem pn_Md_told : y_Md_told.cls ≠ "java/lang/invoke/MethodHandle" ∧ y_Md_told.cls ≠ "java/lang/invoke/VarHandle" ∧ (parseMethodDescriptor y_Md_told.desc).map (fun d => d.parameters.length) = some 1 := by decide +kernel
theorem pd_Md_told : y_Md_told.cls = "LoopInductionModel" ∧ y_Md_told.cls ≠ "java/lang/invoke/MethodHandle" ∧ y_Md_told.cls ≠ "java/lang/invoke/VarHandle" ∧ (parseMethodDescriptor y_Md_told.desc).map (fun d => d.parameters.length) = some 1 := by decide +kernel
abbrev b_Md_has : ByteArray := prog_13_method_42_code
abbrev y_Md_has : MethodName := ⟨"LoopInductionModel", "has", "(II)I"⟩
abbrev w_Md_has : List Cond := .code y_Md_has b_Md_has 4 (some .int) :: allW
theorem pn_Md_has : y_Md_has.cls ≠ "java/lang/invoke/MethodHandle" ∧ y_Md_has.cls ≠ "java/lang/invoke/VarHandle" ∧ (parseMethodDescriptor y_Md_has.desc).map (fun d => d.parameters.length) = some 2 := by decide +kernel
theorem pd_Md_has : y_Md_has.cls = "LoopInductionModel" ∧ y_Md_has.cls ≠ "java/lang/invoke/MethodHandle" ∧ y_Md_has.cls ≠ "java/lang/invoke/VarHandle" ∧ (parseMethodDescriptor y_Md_has.desc).map (fun d => d.parameters.length) = some 2 := by decide +kernel
theorem d_Md_told_0 : decode b_Md_told 0 = .ok (.aload_n 0, 1) := by decide +kernel
theorem d_Md_told_1 : decode b_Md_told 1 = .ok (.getfield 30, 3) := by decide +kernel
theorem d_Md_told_4 : decode b_Md_told 4 = .ok (.ifCond .ge 5, 3) := by decide +kernel
theorem d_Md_told_7 : decode b_Md_told 7 = .ok (.iconst (-1), 1) := by decide +kernel
theorem d_Md_told_8 : decode b_Md_told 8 = .ok (.ireturn, 1) := by decide +kernel
theorem d_Md_told_9 : decode b_Md_told 9 = .ok (.iload_n 1, 1) := by decide +kernel
theorem d_Md_told_10 : decode b_Md_told 10 = .ok (.ifCond .ne 15, 3) := by decide +kernel
theorem d_Md_told_13 : decode b_Md_told 13 = .ok (.aload_n 0, 1) := by decide +kernel
theorem d_Md_told_14 : decode b_Md_told 14 = .ok (.getfield 42, 3) := by decide +kernel
theorem d_Md_told_17 : decode b_Md_told 17 = .ok (.aload_n 0, 1) := by decide +kernel
theorem d_Md_told_18 : decode b_Md_told 18 = .ok (.getfield 30, 3) := by decide +kernel
theorem d_Md_told_21 : decode b_Md_told 21 = .ok (.iaload, 1) := by decide +kernel
theorem d_Md_told_22 : decode b_Md_told 22 = .ok (.goto 63, 3) := by decide +kernel
theorem d_Md_told_25 : decode b_Md_told 25 = .ok (.iload_n 1, 1) := by decide +kernel
theorem d_Md_told_26 : decode b_Md_told 26 = .ok (.iconst 1, 1) := by decide +kernel
theorem d_Md_told_27 : decode b_Md_told 27 = .ok (.if_icmp .ne 15, 3) := by decide +kernel
theorem d_Md_told_30 : decode b_Md_told 30 = .ok (.aload_n 0, 1) := by decide +kernel
theorem d_Md_told_31 : decode b_Md_told 31 = .ok (.getfield 51, 3) := by decide +kernel
theorem d_Md_told_34 : decode b_Md_told 34 = .ok (.aload_n 0, 1) := by decide +kernel
theorem d_Md_told_35 : decode b_Md_told 35 = .ok (.getfield 30, 3) := by decide +kernel
theorem d_Md_told_38 : decode b_Md_told 38 = .ok (.iaload, 1) := by decide +kernel
theorem d_Md_told_39 : decode b_Md_told 39 = .ok (.goto 46, 3) := by decide +kernel
theorem d_Md_told_42 : decode b_Md_told 42 = .ok (.iload_n 1, 1) := by decide +kernel
theorem d_Md_told_43 : decode b_Md_told 43 = .ok (.iconst 2, 1) := by decide +kernel
theorem d_Md_told_44 : decode b_Md_told 44 = .ok (.if_icmp .ne 15, 3) := by decide +kernel
theorem d_Md_told_47 : decode b_Md_told 47 = .ok (.aload_n 0, 1) := by decide +kernel
theorem d_Md_told_48 : decode b_Md_told 48 = .ok (.getfield 57, 3) := by decide +kernel
theorem d_Md_told_51 : decode b_Md_told 51 = .ok (.aload_n 0, 1) := by decide +kernel
theorem d_Md_told_52 : decode b_Md_told 52 = .ok (.getfield 30, 3) := by decide +kernel
theorem d_Md_told_55 : decode b_Md_told 55 = .ok (.iaload, 1) := by decide +kernel
theorem d_Md_told_56 : decode b_Md_told 56 = .ok (.goto 29, 3) := by decide +kernel
theorem d_Md_told_59 : decode b_Md_told 59 = .ok (.iload_n 1, 1) := by decide +kernel
theorem d_Md_told_60 : decode b_Md_told 60 = .ok (.iconst 3, 1) := by decide +kernel
theorem d_Md_told_61 : decode b_Md_told 61 = .ok (.if_icmp .ne 23, 3) := by decide +kernel
theorem d_Md_told_64 : decode b_Md_told 64 = .ok (.aload_n 0, 1) := by decide +kernel
theorem d_Md_told_65 : decode b_Md_told 65 = .ok (.getfield 39, 3) := by decide +kernel
theorem d_Md_told_68 : decode b_Md_told 68 = .ok (.aload_n 0, 1) := by decide +kernel
theorem d_Md_told_69 : decode b_Md_told 69 = .ok (.getfield 30, 3) := by decide +kernel
theorem d_Md_told_72 : decode b_Md_told 72 = .ok (.iaload, 1) := by decide +kernel
theorem d_Md_told_73 : decode b_Md_told 73 = .ok (.ifCond .lt 7, 3) := by decide +kernel
theorem d_Md_told_76 : decode b_Md_told 76 = .ok (.iconst 1, 1) := by decide +kernel
theorem d_Md_told_77 : decode b_Md_told 77 = .ok (.goto 8, 3) := by decide +kernel
theorem d_Md_told_80 : decode b_Md_told 80 = .ok (.iconst 0, 1) := by decide +kernel
theorem d_Md_told_81 : decode b_Md_told 81 = .ok (.goto 4, 3) := by decide +kernel
theorem d_Md_told_84 : decode b_Md_told 84 = .ok (.iconst (-1), 1) := by decide +kernel
theorem d_Md_told_85 : decode b_Md_told 85 = .ok (.ireturn, 1) := by decide +kernel
theorem d_Md_has_0 : decode b_Md_has 0 = .ok (.aload_n 0, 1) := by decide +kernel
theorem d_Md_has_1 : decode b_Md_has 1 = .ok (.iload_n 1, 1) := by decide +kernel
theorem d_Md_has_2 : decode b_Md_has 2 = .ok (.invokevirtual 267, 3) := by decide +kernel
theorem d_Md_has_5 : decode b_Md_has 5 = .ok (.ifCond .eq 22, 3) := by decide +kernel
theorem d_Md_has_8 : decode b_Md_has 8 = .ok (.iload_n 2, 1) := by decide +kernel
theorem d_Md_has_9 : decode b_Md_has 9 = .ok (.ifCond .lt 18, 3) := by decide +kernel
theorem d_Md_has_12 : decode b_Md_has 12 = .ok (.iload_n 2, 1) := by decide +kernel
theorem d_Md_has_13 : decode b_Md_has 13 = .ok (.iconst 4, 1) := by decide +kernel
theorem d_Md_has_14 : decode b_Md_has 14 = .ok (.aload_n 0, 1) := by decide +kernel
theorem d_Md_has_15 : decode b_Md_has 15 = .ok (.getfield 51, 3) := by decide +kernel
theorem d_Md_has_18 : decode b_Md_has 18 = .ok (.aload_n 0, 1) := by decide +kernel
theorem d_Md_has_19 : decode b_Md_has 19 = .ok (.getfield 30, 3) := by decide +kernel
theorem d_Md_has_22 : decode b_Md_has 22 = .ok (.iaload, 1) := by decide +kernel
theorem d_Md_has_23 : decode b_Md_has 23 = .ok (.iadd, 1) := by decide +kernel
theorem d_Md_has_24 : decode b_Md_has 24 = .ok (.if_icmp .lt 5, 3) := by decide +kernel
theorem d_Md_has_27 : decode b_Md_has 27 = .ok (.iconst (-1), 1) := by decide +kernel
theorem d_Md_has_28 : decode b_Md_has 28 = .ok (.ireturn, 1) := by decide +kernel
theorem d_Md_has_29 : decode b_Md_has 29 = .ok (.iload_n 2, 1) := by decide +kernel
theorem d_Md_has_30 : decode b_Md_has 30 = .ok (.ifCond .ne 12, 3) := by decide +kernel
theorem d_Md_has_33 : decode b_Md_has 33 = .ok (.aload_n 0, 1) := by decide +kernel
theorem d_Md_has_34 : decode b_Md_has 34 = .ok (.getfield 66, 3) := by decide +kernel
theorem d_Md_has_37 : decode b_Md_has 37 = .ok (.iload_n 1, 1) := by decide +kernel
theorem d_Md_has_38 : decode b_Md_has 38 = .ok (.baload, 1) := by decide +kernel
theorem d_Md_has_39 : decode b_Md_has 39 = .ok (.goto 73, 3) := by decide +kernel
theorem d_Md_has_42 : decode b_Md_has 42 = .ok (.iload_n 2, 1) := by decide +kernel
theorem d_Md_has_43 : decode b_Md_has 43 = .ok (.iconst 1, 1) := by decide +kernel
theorem d_Md_has_44 : decode b_Md_has 44 = .ok (.if_icmp .ne 12, 3) := by decide +kernel
theorem d_Md_has_47 : decode b_Md_has 47 = .ok (.aload_n 0, 1) := by decide +kernel
theorem d_Md_has_48 : decode b_Md_has 48 = .ok (.getfield 70, 3) := by decide +kernel
theorem d_Md_has_51 : decode b_Md_has 51 = .ok (.iload_n 1, 1) := by decide +kernel
theorem d_Md_has_52 : decode b_Md_has 52 = .ok (.baload, 1) := by decide +kernel
theorem d_Md_has_53 : decode b_Md_has 53 = .ok (.goto 59, 3) := by decide +kernel
theorem d_Md_has_56 : decode b_Md_has 56 = .ok (.iload_n 2, 1) := by decide +kernel
theorem d_Md_has_57 : decode b_Md_has 57 = .ok (.iconst 2, 1) := by decide +kernel
theorem d_Md_has_58 : decode b_Md_has 58 = .ok (.if_icmp .ne 20, 3) := by decide +kernel
theorem d_Md_has_61 : decode b_Md_has 61 = .ok (.aload_n 0, 1) := by decide +kernel
theorem d_Md_has_62 : decode b_Md_has 62 = .ok (.getfield 73, 3) := by decide +kernel
theorem d_Md_has_65 : decode b_Md_has 65 = .ok (.iload_n 1, 1) := by decide +kernel
theorem d_Md_has_66 : decode b_Md_has 66 = .ok (.iaload, 1) := by decide +kernel
theorem d_Md_has_67 : decode b_Md_has 67 = .ok (.ifCond .lt 7, 3) := by decide +kernel
theorem d_Md_has_70 : decode b_Md_has 70 = .ok (.iconst 1, 1) := by decide +kernel
theorem d_Md_has_71 : decode b_Md_has 71 = .ok (.goto 41, 3) := by decide +kernel
theorem d_Md_has_74 : decode b_Md_has 74 = .ok (.iconst 0, 1) := by decide +kernel
theorem d_Md_has_75 : decode b_Md_has 75 = .ok (.goto 37, 3) := by decide +kernel
theorem d_Md_has_78 : decode b_Md_has 78 = .ok (.iload_n 2, 1) := by decide +kernel
theorem d_Md_has_79 : decode b_Md_has 79 = .ok (.iconst 3, 1) := by decide +kernel
theorem d_Md_has_80 : decode b_Md_has 80 = .ok (.if_icmp .ne 11, 3) := by decide +kernel
theorem d_Md_has_83 : decode b_Md_has 83 = .ok (.aload_n 0, 1) := by decide +kernel
theorem d_Md_has_84 : decode b_Md_has 84 = .ok (.iload_n 1, 1) := by decide +kernel
theorem d_Md_has_85 : decode b_Md_has 85 = .ok (.invokevirtual 270, 3) := by decide +kernel
theorem d_Md_has_88 : decode b_Md_has 88 = .ok (.goto 24, 3) := by decide +kernel
theorem d_Md_has_91 : decode b_Md_has 91 = .ok (.aload_n 0, 1) := by decide +kernel
theorem d_Md_has_92 : decode b_Md_has 92 = .ok (.getfield 79, 3) := by decide +kernel
theorem d_Md_has_95 : decode b_Md_has 95 = .ok (.iload_n 1, 1) := by decide +kernel
theorem d_Md_has_96 : decode b_Md_has 96 = .ok (.iaload, 1) := by decide +kernel
theorem d_Md_has_97 : decode b_Md_has 97 = .ok (.iload_n 2, 1) := by decide +kernel
theorem d_Md_has_98 : decode b_Md_has 98 = .ok (.iconst 4, 1) := by decide +kernel
theorem d_Md_has_99 : decode b_Md_has 99 = .ok (.isub, 1) := by decide +kernel
theorem d_Md_has_100 : decode b_Md_has 100 = .ok (.ishr, 1) := by decide +kernel
theorem d_Md_has_101 : decode b_Md_has 101 = .ok (.iconst 1, 1) := by decide +kernel
theorem d_Md_has_102 : decode b_Md_has 102 = .ok (.iand, 1) := by decide +kernel
theorem d_Md_has_103 : decode b_Md_has 103 = .ok (.iconst 1, 1) := by decide +kernel
theorem d_Md_has_104 : decode b_Md_has 104 = .ok (.if_icmp .ne 7, 3) := by decide +kernel
theorem d_Md_has_107 : decode b_Md_has 107 = .ok (.iconst 1, 1) := by decide +kernel
theorem d_Md_has_108 : decode b_Md_has 108 = .ok (.goto 4, 3) := by decide +kernel
theorem d_Md_has_111 : decode b_Md_has 111 = .ok (.iconst 0, 1) := by decide +kernel
theorem d_Md_has_112 : decode b_Md_has 112 = .ok (.istore_n 3, 1) := by decide +kernel
theorem d_Md_has_113 : decode b_Md_has 113 = .ok (.iload_n 3, 1) := by decide +kernel
theorem d_Md_has_114 : decode b_Md_has 114 = .ok (.ifCond .eq 7, 3) := by decide +kernel
theorem d_Md_has_117 : decode b_Md_has 117 = .ok (.iconst 1, 1) := by decide +kernel
theorem d_Md_has_118 : decode b_Md_has 118 = .ok (.goto 4, 3) := by decide +kernel
theorem d_Md_has_121 : decode b_Md_has 121 = .ok (.iconst 0, 1) := by decide +kernel
theorem d_Md_has_122 : decode b_Md_has 122 = .ok (.ireturn, 1) := by decide +kernel
set_option maxHeartbeats 4000000 in
set_option maxRecDepth 100000 in
theorem c_Md_told (l : Launch) (dC : Nat → ClassId) (dI : Nat → Nat → Nat) (cI cB cZ : ClassId) (adK adV : Nat → Nat) (sz : Nat) (a_md a_md_tape a_md_acts a_md_actNumbers a_md_actCounts a_md_pile a_md_begins a_md_goals a_md_ranks a_md_choiceCounts a_md_whens a_md_becomes a_md_guessCounts a_md_guesses a_md_unaryCounts a_md_stack a_md_nexts a_md_isBegin a_md_isGoal a_md_levels a_md_queue a_md_hasGuesses a_md_rounds a_md_marked a_md_other a_md_heights : Nat) (md_size : Int32) (md_at : Int32) (md_token : Int32) (md_tokenPlace : Int32) (md_number : Int32) (md_sign : Int32) (md_bad : Int32) (md_faultPlace : Int32) (md_place : Int32) (md_bank : Int32) (md_unaries : Int32) (md_opens : Int32) (md_piled : Int32) (md_loop : Int32) (md_keptBits : Int32) (md_ranks : Nat → Int32) (md_choiceCounts : Nat → Int32) (md_guessCounts : Nat → Int32) (md_unaryCounts : Nat → Int32) (x1 : Int32) (post : Int32 → Prop) (h : wp_Md_told x1 md_loop md_ranks md_choiceCounts md_guessCounts md_unaryCounts post) : Met l y_Md_told w_Md_told ({ frames := 0, cells := 0, slots := 0, locals := 0 }) (pc_ (dC, dI) [(cI, .int), (cB, .byte), (cZ, .boolean)] [(a_md, .inr (11, [.ref a_md_tape, .int md_size, .int md_at, .int md_token, .int md_tokenPlace, .int md_number, .int md_sign, .int md_bad, .int md_faultPlace, .int md_place, .ref a_md_acts, .ref a_md_actNumbers, .ref a_md_actCounts, .int md_bank, .int md_unaries, .int md_opens, .ref a_md_pile, .int md_piled, .int md_loop, .ref a_md_begins, .ref a_md_goals, .ref a_md_ranks, .ref a_md_choiceCounts, .ref a_md_whens, .ref a_md_becomes, .ref a_md_guessCounts, .ref a_md_guesses, .ref a_md_unaryCounts, .ref a_md_stack, .ref a_md_nexts, .ref a_md_isBegin, .ref a_md_isGoal, .ref a_md_levels, .ref a_md_queue, .ref a_md_hasGuesses, .int md_keptBits, .ref a_md_rounds, .ref a_md_marked, .ref a_md_other, .ref a_md_heights])), (a_md_ranks, .inl (cI, 2, .inl md_ranks)), (a_md_choiceCounts, .inl (cI, 2, .inl md_choiceCounts)), (a_md_guessCounts, .inl (cI, 2, .inl md_guessCounts)), (a_md_unaryCounts, .inl (cI, 2, .inl md_unaryCounts))] sz adK adV [.ref a_md, .int x1]) (va_Qi (fun (r : Int32) (u : Unit) => post r ) (fun (u : Unit) t => bw_ (dC, dI) [(cI, .int), (cB, .byte), (cZ, .boolean)] (va_A [(a_md, .inr (11, [.ref a_md_tape, .int md_size, .int md_at, .int md_token, .int md_tokenPlace, .int md_number, .int md_sign, .int md_bad, .int md_faultPlace, .int md_place, .ref a_md_acts, .ref a_md_actNumbers, .ref a_md_actCounts, .int md_bank, .int md_unaries, .int md_opens, .ref a_md_pile, .int md_piled, .int md_loop, .ref a_md_begins, .ref a_md_goals, .ref a_md_ranks, .ref a_md_choiceCounts, .ref a_md_whens, .ref a_md_becomes, .ref a_md_guessCounts, .ref a_md_guesses, .ref a_md_unaryCounts, .ref a_md_stack, .ref a_md_nexts, .ref a_md_isBegin, .ref a_md_isGoal, .ref a_md_levels, .ref a_md_queue, .ref a_md_hasGuesses, .int md_keptBits, .ref a_md_rounds, .ref a_md_marked, .ref a_md_other, .ref a_md_heights])), (a_md_ranks, .inl (cI, 2, .inl md_ranks)), (a_md_choiceCounts, .inl (cI, 2, .inl md_choiceCounts)), (a_md_guessCounts, .inl (cI, 2, .inl md_guessCounts)), (a_md_unaryCounts, .inl (cI, 2, .inl md_unaryCounts))] sz) [(a_md, .inr (11, [.ref a_md_tape, .int md_size, .int md_at, .int md_token, .int md_tokenPlace, .int md_number, .int md_sign, .int md_bad, .int md_faultPlace, .int md_place, .ref a_md_acts, .ref a_md_actNumbers, .ref a_md_actCounts, .int md_bank, .int md_unaries, .int md_opens, .ref a_md_pile, .int md_piled, .int md_loop, .ref a_md_begins, .ref a_md_goals, .ref a_md_ranks, .ref a_md_choiceCounts, .ref a_md_whens, .ref a_md_becomes, .ref a_md_guessCounts, .ref a_md_guesses, .ref a_md_unaryCounts, .ref a_md_stack, .ref a_md_nexts, .ref a_md_isBegin, .ref a_md_isGoal, .ref a_md_levels, .ref a_md_queue, .ref a_md_hasGuesses, .int md_keptBits, .ref a_md_rounds, .ref a_md_marked, .ref a_md_other, .ref a_md_heights])), (a_md_ranks, .inl (cI, 2, .inl md_ranks)), (a_md_choiceCounts, .inl (cI, 2, .inl md_choiceCounts)), (a_md_guessCounts, .inl (cI, 2, .inl md_guessCounts)), (a_md_unaryCounts, .inl (cI, 2, .inl md_unaryCounts))] t) (va_A [(a_md, .inr (11, [.ref a_md_tape, .int md_size, .int md_at, .int md_token, .int md_tokenPlace, .int md_number, .int md_sign, .int md_bad, .int md_faultPlace, .int md_place, .ref a_md_acts, .ref a_md_actNumbers, .ref a_md_actCounts, .int md_bank, .int md_unaries, .int md_opens, .ref a_md_pile, .int md_piled, .int md_loop, .ref a_md_begins, .ref a_md_goals, .ref a_md_ranks, .ref a_md_choiceCounts, .ref a_md_whens, .ref a_md_becomes, .ref a_md_guessCounts, .ref a_md_guesses, .ref a_md_unaryCounts, .ref a_md_stack, .ref a_md_nexts, .ref a_md_isBegin, .ref a_md_isGoal, .ref a_md_levels, .ref a_md_queue, .ref a_md_hasGuesses, .int md_keptBits, .ref a_md_rounds, .ref a_md_marked, .ref a_md_other, .ref a_md_heights])), (a_md_ranks, .inl (cI, 2, .inl md_ranks)), (a_md_choiceCounts, .inl (cI, 2, .inl md_choiceCounts)), (a_md_guessCounts, .inl (cI, 2, .inl md_guessCounts)), (a_md_unaryCounts, .inl (cI, 2, .inl md_unaryCounts))] sz)) 0 0 (va_A [(a_md, .inr (11, [.ref a_md_tape, .int md_size, .int md_at, .int md_token, .int md_tokenPlace, .int md_number, .int md_sign, .int md_bad, .int md_faultPlace, .int md_place, .ref a_md_acts, .ref a_md_actNumbers, .ref a_md_actCounts, .int md_bank, .int md_unaries, .int md_opens, .ref a_md_pile, .int md_piled, .int md_loop, .ref a_md_begins, .ref a_md_goals, .ref a_md_ranks, .ref a_md_choiceCounts, .ref a_md_whens, .ref a_md_becomes, .ref a_md_guessCounts, .ref a_md_guesses, .ref a_md_unaryCounts, .ref a_md_stack, .ref a_md_nexts, .ref a_md_isBegin, .ref a_md_isGoal, .ref a_md_levels, .ref a_md_queue, .ref a_md_hasGuesses, .int md_keptBits, .ref a_md_rounds, .ref a_md_marked, .ref a_md_other, .ref a_md_heights])), (a_md_ranks, .inl (cI, 2, .inl md_ranks)), (a_md_choiceCounts, .inl (cI, 2, .inl md_choiceCounts)), (a_md_guessCounts, .inl (cI, 2, .inl md_guessCounts)), (a_md_unaryCounts, .inl (cI, 2, .inl md_unaryCounts))] sz) := by
  refine Met.ofW (cc := b_Md_told) (maxL := 2) (ret := (some .int)) (by decide) rfl ?_
  intro p e s m args below meth c s₁ B hml hv
  obtain ⟨rfl, hsz, hP, hK, hD0, hN, hT⟩ := hv
  have hx := B.exec
  have hb := B.bytes
  have hr := B.returns
  have hts := atoms_spec (ws := w_Md_told) B.pre
  have hown : s.vm.findClass "LoopInductionModel" = some m.cls := findClass_of_methodNamed B.named
  have hlocks := B.notSynchronized
  subst hsz
  have hD := hD0.self (sz := s.heap.size)
  generalize hAe : va_A [(a_md, .inr (11, [.ref a_md_tape, .int md_size, .int md_at, .int md_token, .int md_tokenPlace, .int md_number, .int md_sign, .int md_bad, .int md_faultPlace, .int md_place, .ref a_md_acts, .ref a_md_actNumbers, .ref a_md_actCounts, .int md_bank, .int md_unaries, .int md_opens, .ref a_md_pile, .int md_piled, .int md_loop, .ref a_md_begins, .ref a_md_goals, .ref a_md_ranks, .ref a_md_choiceCounts, .ref a_md_whens, .ref a_md_becomes, .ref a_md_guessCounts, .ref a_md_guesses, .ref a_md_unaryCounts, .ref a_md_stack, .ref a_md_nexts, .ref a_md_isBegin, .ref a_md_isGoal, .ref a_md_levels, .ref a_md_queue, .ref a_md_hasGuesses, .int md_keptBits, .ref a_md_rounds, .ref a_md_marked, .ref a_md_other, .ref a_md_heights])), (a_md_ranks, .inl (cI, 2, .inl md_ranks)), (a_md_choiceCounts, .inl (cI, 2, .inl md_choiceCounts)), (a_md_guessCounts, .inl (cI, 2, .inl md_guessCounts)), (a_md_unaryCounts, .inl (cI, 2, .inl md_unaryCounts))] s.heap.size = A at hD hT ⊢
  have hA : ∀ q : Nat, s.heap.size ≤ q → A q := fun q h => by rw [← hAe]; exact Or.inr h
  have hS : va_S A s.heap s.heap [] := va_S.rf
  generalize hQ : MQ below _ _ s 0 0 _ = QQ
  have hl := lv_entry ([.ref a_md, .int x1]) (n := 2) (Nat.le_of_ble_eq_true rfl)
  rw [lg_entry_eq]
  generalize (lg_sl ([.ref a_md, .int x1]) ++ List.replicate (2 - (lg_sl ([.ref a_md, .int x1])).length) Slot.unset).toArray = ls at hl ⊢
  have hl : lv_has ls 2 [(0, .ref a_md), (1, .int x1)] := hl
  have fl_30 := (hts _ (List.mem_cons_of_mem _ m_1108))
  have fl_39 := (hts _ (List.mem_cons_of_mem _ m_1111))
  have fl_42 := (hts _ (List.mem_cons_of_mem _ m_1112))
  have fl_51 := (hts _ (List.mem_cons_of_mem _ m_1115))
  have fl_57 := (hts _ (List.mem_cons_of_mem _ m_1117))
  refine lv_aload_n hx hb d_Md_told_0 rfl (lv_at hl 0 rfl) ?_
  refine va_get (D := (dC, dI)) (ci := 11) (v := .int md_loop) (C := "LoopInductionModel") (T := F_Md) (N := 40) hx hb hts iC_Md hown hK hP 0 rfl rfl 18 (by decide) fl_30 (fun _ h9 => h9) rfl d_Md_told_1 ?_
  refine lv_if_ge (tgt := 9) hx hb d_Md_told_4 (by decide) (fun c_4 => ?_) (fun c_4 => ?_)
  · have h := And.left h c_4
    refine lv_iload_n hx hb d_Md_told_9 rfl (lv_at hl 1 rfl) ?_
    refine lv_if_ne (tgt := 25) hx hb d_Md_told_10 (by decide) (fun c_10 => ?_) (fun c_10 => ?_)
    · have h := And.left h c_10
      refine lv_iload_n hx hb d_Md_told_25 rfl (lv_at hl 1 rfl) ?_
      refine lv_iconst (v := 1) hx hb d_Md_told_26 (by decide) ?_
      refine lv_icmp_ne (tgt := 42) hx hb d_Md_told_27 (by decide) (fun c_27 => ?_) (fun c_27 => ?_)
      · have h := And.left h c_27
        refine lv_iload_n hx hb d_Md_told_42 rfl (lv_at hl 1 rfl) ?_
        refine lv_iconst (v := 2) hx hb d_Md_told_43 (by decide) ?_
        refine lv_icmp_ne (tgt := 59) hx hb d_Md_told_44 (by decide) (fun c_44 => ?_) (fun c_44 => ?_)
        · have h := And.left h c_44
          refine lv_iload_n hx hb d_Md_told_59 rfl (lv_at hl 1 rfl) ?_
          refine lv_iconst (v := 3) hx hb d_Md_told_60 (by decide) ?_
          refine lv_icmp_ne (tgt := 84) hx hb d_Md_told_61 (by decide) (fun c_61 => ?_) (fun c_61 => ?_)
          · have h := And.left h c_61
            refine lv_iconst (v := (-1)) hx hb d_Md_told_84 (by decide) ?_
            rw [← hQ]
            have hP9 := hP
            have hD9 := hD
            exact W.iret (v := (-1)) hx hb hr (fun t ht hW => ⟨⟨(-1), (), rfl, h, by rw [ht]; exact hP9, va_K.moved hW.alike hK, hD9⟩, hS.F ht⟩) hS.2.2 d_Md_told_85
          · have h := And.right h c_61
            refine lv_aload_n hx hb d_Md_told_64 rfl (lv_at hl 0 rfl) ?_
            refine va_get (D := (dC, dI)) (ci := 11) (v := .ref a_md_ranks) (C := "LoopInductionModel") (T := F_Md) (N := 40) hx hb hts iC_Md hown hK hP 0 rfl rfl 21 (by decide) fl_39 (fun _ h9 => h9) rfl d_Md_told_65 ?_
            refine lv_aload_n hx hb d_Md_told_68 rfl (lv_at hl 0 rfl) ?_
            refine va_get (D := (dC, dI)) (ci := 11) (v := .int md_loop) (C := "LoopInductionModel") (T := F_Md) (N := 40) hx hb hts iC_Md hown hK hP 0 rfl rfl 18 (by decide) fl_30 (fun _ h9 => h9) rfl d_Md_told_69 ?_
            obtain ⟨hin_72, h⟩ := h
            refine va_iald hx hb hK hP 1 0 rfl rfl hin_72 d_Md_told_72 ?_
            refine lv_if_lt (tgt := 80) hx hb d_Md_told_73 (by decide) (fun c_73 => ?_) (fun c_73 => ?_)
            · have h := And.left h c_73
              refine lv_iconst (v := 0) hx hb d_Md_told_80 (by decide) ?_
              refine lv_goto (tgt := 85) hx hb d_Md_told_81 (by decide) ?_
              rw [← hQ]
              have hP9 := hP
              have hD9 := hD
              exact W.iret (v := 0) hx hb hr (fun t ht hW => ⟨⟨0, (), rfl, h, by rw [ht]; exact hP9, va_K.moved hW.alike hK, hD9⟩, hS.F ht⟩) hS.2.2 d_Md_told_85
            · have h := And.right h c_73
              refine lv_iconst (v := 1) hx hb d_Md_told_76 (by decide) ?_
              refine lv_goto (tgt := 85) hx hb d_Md_told_77 (by decide) ?_
              rw [← hQ]
              have hP9 := hP
              have hD9 := hD
              exact W.iret (v := 1) hx hb hr (fun t ht hW => ⟨⟨1, (), rfl, h, by rw [ht]; exact hP9, va_K.moved hW.alike hK, hD9⟩, hS.F ht⟩) hS.2.2 d_Md_told_85
        · have h := And.right h c_44
          refine lv_aload_n hx hb d_Md_told_47 rfl (lv_at hl 0 rfl) ?_
          refine va_get (D := (dC, dI)) (ci := 11) (v := .ref a_md_unaryCounts) (C := "LoopInductionModel") (T := F_Md) (N := 40) hx hb hts iC_Md hown hK hP 0 rfl rfl 27 (by decide) fl_57 (fun _ h9 => h9) rfl d_Md_told_48 ?_
          refine lv_aload_n hx hb d_Md_told_51 rfl (lv_at hl 0 rfl) ?_
          refine va_get (D := (dC, dI)) (ci := 11) (v := .int md_loop) (C := "LoopInductionModel") (T := F_Md) (N := 40) hx hb hts iC_Md hown hK hP 0 rfl rfl 18 (by decide) fl_30 (fun _ h9 => h9) rfl d_Md_told_52 ?_
          obtain ⟨hin_55, h⟩ := h
          refine va_iald hx hb hK hP 4 0 rfl rfl hin_55 d_Md_told_55 ?_
          refine lv_goto (tgt := 85) hx hb d_Md_told_56 (by decide) ?_
          rw [← hQ]
          have hP9 := hP
          have hD9 := hD
          exact W.iret (v := md_unaryCounts (md_loop : Int32).toNatClampNeg) hx hb hr (fun t ht hW => ⟨⟨(md_unaryCounts (md_loop : Int32).toNatClampNeg), (), rfl, h, by rw [ht]; exact hP9, va_K.moved hW.alike hK, hD9⟩, hS.F ht⟩) hS.2.2 d_Md_told_85
      · have h := And.right h c_27
        refine lv_aload_n hx hb d_Md_told_30 rfl (lv_at hl 0 rfl) ?_
        refine va_get (D := (dC, dI)) (ci := 11) (v := .ref a_md_guessCounts) (C := "LoopInductionModel") (T := F_Md) (N := 40) hx hb hts iC_Md hown hK hP 0 rfl rfl 25 (by decide) fl_51 (fun _ h9 => h9) rfl d_Md_told_31 ?_
        refine lv_aload_n hx hb d_Md_told_34 rfl (lv_at hl 0 rfl) ?_
        refine va_get (D := (dC, dI)) (ci := 11) (v := .int md_loop) (C := "LoopInductionModel") (T := F_Md) (N := 40) hx hb hts iC_Md hown hK hP 0 rfl rfl 18 (by decide) fl_30 (fun _ h9 => h9) rfl d_Md_told_35 ?_
        obtain ⟨hin_38, h⟩ := h
        refine va_iald hx hb hK hP 3 0 rfl rfl hin_38 d_Md_told_38 ?_
        refine lv_goto (tgt := 85) hx hb d_Md_told_39 (by decide) ?_
        rw [← hQ]
        have hP9 := hP
        have hD9 := hD
        exact W.iret (v := md_guessCounts (md_loop : Int32).toNatClampNeg) hx hb hr (fun t ht hW => ⟨⟨(md_guessCounts (md_loop : Int32).toNatClampNeg), (), rfl, h, by rw [ht]; exact hP9, va_K.moved hW.alike hK, hD9⟩, hS.F ht⟩) hS.2.2 d_Md_told_85
    · have h := And.right h c_10
      refine lv_aload_n hx hb d_Md_told_13 rfl (lv_at hl 0 rfl) ?_
      refine va_get (D := (dC, dI)) (ci := 11) (v := .ref a_md_choiceCounts) (C := "LoopInductionModel") (T := F_Md) (N := 40) hx hb hts iC_Md hown hK hP 0 rfl rfl 22 (by decide) fl_42 (fun _ h9 => h9) rfl d_Md_told_14 ?_
      refine lv_aload_n hx hb d_Md_told_17 rfl (lv_at hl 0 rfl) ?_
      refine va_get (D := (dC, dI)) (ci := 11) (v := .int md_loop) (C := "LoopInductionModel") (T := F_Md) (N := 40) hx hb hts iC_Md hown hK hP 0 rfl rfl 18 (by decide) fl_30 (fun _ h9 => h9) rfl d_Md_told_18 ?_
      obtain ⟨hin_21, h⟩ := h
      refine va_iald hx hb hK hP 2 0 rfl rfl hin_21 d_Md_told_21 ?_
      refine lv_goto (tgt := 85) hx hb d_Md_told_22 (by decide) ?_
      rw [← hQ]
      have hP9 := hP
      have hD9 := hD
      exact W.iret (v := md_choiceCounts (md_loop : Int32).toNatClampNeg) hx hb hr (fun t ht hW => ⟨⟨(md_choiceCounts (md_loop : Int32).toNatClampNeg), (), rfl, h, by rw [ht]; exact hP9, va_K.moved hW.alike hK, hD9⟩, hS.F ht⟩) hS.2.2 d_Md_told_85
  · have h := And.right h c_4
    refine lv_iconst (v := (-1)) hx hb d_Md_told_7 (by decide) ?_
    rw [← hQ]
    have hP9 := hP
    have hD9 := hD
    exact W.iret (v := (-1)) hx hb hr (fun t ht hW => ⟨⟨(-1), (), rfl, h, by rw [ht]; exact hP9, va_K.moved hW.alike hK, hD9⟩, hS.F ht⟩) hS.2.2 d_Md_told_8
set_option maxHeartbeats 4000000 in
set_option maxRecDepth 100000 in
theorem c_Md_has (l : Launch) (dC : Nat → ClassId) (dI : Nat → Nat → Nat) (cI cB cZ : ClassId) (adK adV : Nat → Nat) (sz : Nat) (a_md a_md_tape a_md_acts a_md_actNumbers a_md_actCounts a_md_pile a_md_begins a_md_goals a_md_ranks a_md_choiceCounts a_md_whens a_md_becomes a_md_guessCounts a_md_guesses a_md_unaryCounts a_md_stack a_md_nexts a_md_isBegin a_md_isGoal a_md_levels a_md_queue a_md_hasGuesses a_md_rounds a_md_marked a_md_other a_md_heights : Nat) (md_size : Int32) (md_at : Int32) (md_token : Int32) (md_tokenPlace : Int32) (md_number : Int32) (md_sign : Int32) (md_bad : Int32) (md_faultPlace : Int32) (md_place : Int32) (md_bank : Int32) (md_unaries : Int32) (md_opens : Int32) (md_piled : Int32) (md_loop : Int32) (md_keptBits : Int32) (md_guessCounts : Nat → Int32) (md_nexts : Nat → Int32) (md_isBegin : Nat → Int32) (md_isGoal : Nat → Int32) (md_levels : Nat → Int32) (md_hasGuesses : Nat → Int32) (x1 : Int32) (x2 : Int32) (post : Int32 → Prop) (h : wp_Md_has x1 x2 md_loop md_guessCounts md_nexts md_isBegin md_isGoal md_levels md_hasGuesses post) : Met l y_Md_has w_Md_has ({ frames := 1, cells := 0, slots := 0, locals := 23 }) (pc_ (dC, dI) [(cI, .int), (cB, .byte), (cZ, .boolean)] [(a_md, .inr (11, [.ref a_md_tape, .int md_size, .int md_at, .int md_token, .int md_tokenPlace, .int md_number, .int md_sign, .int md_bad, .int md_faultPlace, .int md_place, .ref a_md_acts, .ref a_md_actNumbers, .ref a_md_actCounts, .int md_bank, .int md_unaries, .int md_opens, .ref a_md_pile, .int md_piled, .int md_loop, .ref a_md_begins, .ref a_md_goals, .ref a_md_ranks, .ref a_md_choiceCounts, .ref a_md_whens, .ref a_md_becomes, .ref a_md_guessCounts, .ref a_md_guesses, .ref a_md_unaryCounts, .ref a_md_stack, .ref a_md_nexts, .ref a_md_isBegin, .ref a_md_isGoal, .ref a_md_levels, .ref a_md_queue, .ref a_md_hasGuesses, .int md_keptBits, .ref a_md_rounds, .ref a_md_marked, .ref a_md_other, .ref a_md_heights])), (a_md_guessCounts, .inl (cI, 2, .inl md_guessCounts)), (a_md_nexts, .inl (cI, 24576, .inl md_nexts)), (a_md_isBegin, .inl (cZ, 4096, .inl md_isBegin)), (a_md_isGoal, .inl (cZ, 4096, .inl md_isGoal)), (a_md_levels, .inl (cI, 4096, .inl md_levels)), (a_md_hasGuesses, .inl (cI, 4096, .inl md_hasGuesses))] sz adK adV [.ref a_md, .int x1, .int x2]) (va_Qi (fun (r : Int32) (u : Unit) => post r ) (fun (u : Unit) t => bw_ (dC, dI) [(cI, .int), (cB, .byte), (cZ, .boolean)] (va_A [(a_md, .inr (11, [.ref a_md_tape, .int md_size, .int md_at, .int md_token, .int md_tokenPlace, .int md_number, .int md_sign, .int md_bad, .int md_faultPlace, .int md_place, .ref a_md_acts, .ref a_md_actNumbers, .ref a_md_actCounts, .int md_bank, .int md_unaries, .int md_opens, .ref a_md_pile, .int md_piled, .int md_loop, .ref a_md_begins, .ref a_md_goals, .ref a_md_ranks, .ref a_md_choiceCounts, .ref a_md_whens, .ref a_md_becomes, .ref a_md_guessCounts, .ref a_md_guesses, .ref a_md_unaryCounts, .ref a_md_stack, .ref a_md_nexts, .ref a_md_isBegin, .ref a_md_isGoal, .ref a_md_levels, .ref a_md_queue, .ref a_md_hasGuesses, .int md_keptBits, .ref a_md_rounds, .ref a_md_marked, .ref a_md_other, .ref a_md_heights])), (a_md_guessCounts, .inl (cI, 2, .inl md_guessCounts)), (a_md_nexts, .inl (cI, 24576, .inl md_nexts)), (a_md_isBegin, .inl (cZ, 4096, .inl md_isBegin)), (a_md_isGoal, .inl (cZ, 4096, .inl md_isGoal)), (a_md_levels, .inl (cI, 4096, .inl md_levels)), (a_md_hasGuesses, .inl (cI, 4096, .inl md_hasGuesses))] sz) [(a_md, .inr (11, [.ref a_md_tape, .int md_size, .int md_at, .int md_token, .int md_tokenPlace, .int md_number, .int md_sign, .int md_bad, .int md_faultPlace, .int md_place, .ref a_md_acts, .ref a_md_actNumbers, .ref a_md_actCounts, .int md_bank, .int md_unaries, .int md_opens, .ref a_md_pile, .int md_piled, .int md_loop, .ref a_md_begins, .ref a_md_goals, .ref a_md_ranks, .ref a_md_choiceCounts, .ref a_md_whens, .ref a_md_becomes, .ref a_md_guessCounts, .ref a_md_guesses, .ref a_md_unaryCounts, .ref a_md_stack, .ref a_md_nexts, .ref a_md_isBegin, .ref a_md_isGoal, .ref a_md_levels, .ref a_md_queue, .ref a_md_hasGuesses, .int md_keptBits, .ref a_md_rounds, .ref a_md_marked, .ref a_md_other, .ref a_md_heights])), (a_md_guessCounts, .inl (cI, 2, .inl md_guessCounts)), (a_md_nexts, .inl (cI, 24576, .inl md_nexts)), (a_md_isBegin, .inl (cZ, 4096, .inl md_isBegin)), (a_md_isGoal, .inl (cZ, 4096, .inl md_isGoal)), (a_md_levels, .inl (cI, 4096, .inl md_levels)), (a_md_hasGuesses, .inl (cI, 4096, .inl md_hasGuesses))] t) (va_A [(a_md, .inr (11, [.ref a_md_tape, .int md_size, .int md_at, .int md_token, .int md_tokenPlace, .int md_number, .int md_sign, .int md_bad, .int md_faultPlace, .int md_place, .ref a_md_acts, .ref a_md_actNumbers, .ref a_md_actCounts, .int md_bank, .int md_unaries, .int md_opens, .ref a_md_pile, .int md_piled, .int md_loop, .ref a_md_begins, .ref a_md_goals, .ref a_md_ranks, .ref a_md_choiceCounts, .ref a_md_whens, .ref a_md_becomes, .ref a_md_guessCounts, .ref a_md_guesses, .ref a_md_unaryCounts, .ref a_md_stack, .ref a_md_nexts, .ref a_md_isBegin, .ref a_md_isGoal, .ref a_md_levels, .ref a_md_queue, .ref a_md_hasGuesses, .int md_keptBits, .ref a_md_rounds, .ref a_md_marked, .ref a_md_other, .ref a_md_heights])), (a_md_guessCounts, .inl (cI, 2, .inl md_guessCounts)), (a_md_nexts, .inl (cI, 24576, .inl md_nexts)), (a_md_isBegin, .inl (cZ, 4096, .inl md_isBegin)), (a_md_isGoal, .inl (cZ, 4096, .inl md_isGoal)), (a_md_levels, .inl (cI, 4096, .inl md_levels)), (a_md_hasGuesses, .inl (cI, 4096, .inl md_hasGuesses))] sz)) 0 0 (va_A [(a_md, .inr (11, [.ref a_md_tape, .int md_size, .int md_at, .int md_token, .int md_tokenPlace, .int md_number, .int md_sign, .int md_bad, .int md_faultPlace, .int md_place, .ref a_md_acts, .ref a_md_actNumbers, .ref a_md_actCounts, .int md_bank, .int md_unaries, .int md_opens, .ref a_md_pile, .int md_piled, .int md_loop, .ref a_md_begins, .ref a_md_goals, .ref a_md_ranks, .ref a_md_choiceCounts, .ref a_md_whens, .ref a_md_becomes, .ref a_md_guessCounts, .ref a_md_guesses, .ref a_md_unaryCounts, .ref a_md_stack, .ref a_md_nexts, .ref a_md_isBegin, .ref a_md_isGoal, .ref a_md_levels, .ref a_md_queue, .ref a_md_hasGuesses, .int md_keptBits, .ref a_md_rounds, .ref a_md_marked, .ref a_md_other, .ref a_md_heights])), (a_md_guessCounts, .inl (cI, 2, .inl md_guessCounts)), (a_md_nexts, .inl (cI, 24576, .inl md_nexts)), (a_md_isBegin, .inl (cZ, 4096, .inl md_isBegin)), (a_md_isGoal, .inl (cZ, 4096, .inl md_isGoal)), (a_md_levels, .inl (cI, 4096, .inl md_levels)), (a_md_hasGuesses, .inl (cI, 4096, .inl md_hasGuesses))] sz) := by
  refine Met.ofW (cc := b_Md_has) (maxL := 4) (ret := (some .int)) (by decide) rfl ?_
  intro p e s m args below meth c s₁ B hml hv
  obtain ⟨rfl, hsz, hP, hK, hD0, hN, hT⟩ := hv
  have hx := B.exec
  have hb := B.bytes
  have hr := B.returns
  have hts := atoms_spec (ws := w_Md_has) B.pre
  have hown : s.vm.findClass "LoopInductionModel" = some m.cls := findClass_of_methodNamed B.named
  have hlocks := B.notSynchronized
  subst hsz
  have hD := hD0.self (sz := s.heap.size)
  generalize hAe : va_A [(a_md, .inr (11, [.ref a_md_tape, .int md_size, .int md_at, .int md_token, .int md_tokenPlace, .int md_number, .int md_sign, .int md_bad, .int md_faultPlace, .int md_place, .ref a_md_acts, .ref a_md_actNumbers, .ref a_md_actCounts, .int md_bank, .int md_unaries, .int md_opens, .ref a_md_pile, .int md_piled, .int md_loop, .ref a_md_begins, .ref a_md_goals, .ref a_md_ranks, .ref a_md_choiceCounts, .ref a_md_whens, .ref a_md_becomes, .ref a_md_guessCounts, .ref a_md_guesses, .ref a_md_unaryCounts, .ref a_md_stack, .ref a_md_nexts, .ref a_md_isBegin, .ref a_md_isGoal, .ref a_md_levels, .ref a_md_queue, .ref a_md_hasGuesses, .int md_keptBits, .ref a_md_rounds, .ref a_md_marked, .ref a_md_other, .ref a_md_heights])), (a_md_guessCounts, .inl (cI, 2, .inl md_guessCounts)), (a_md_nexts, .inl (cI, 24576, .inl md_nexts)), (a_md_isBegin, .inl (cZ, 4096, .inl md_isBegin)), (a_md_isGoal, .inl (cZ, 4096, .inl md_isGoal)), (a_md_levels, .inl (cI, 4096, .inl md_levels)), (a_md_hasGuesses, .inl (cI, 4096, .inl md_hasGuesses))] s.heap.size = A at hD hT ⊢
  have hA : ∀ q : Nat, s.heap.size ≤ q → A q := fun q h => by rw [← hAe]; exact Or.inr h
  have hS : va_S A s.heap s.heap [] := va_S.rf
  generalize hQ : MQ below _ _ s 0 0 _ = QQ
  have hl := lv_entry ([.ref a_md, .int x1, .int x2]) (n := 4) (Nat.le_of_ble_eq_true rfl)
  rw [lg_entry_eq]
  generalize (lg_sl ([.ref a_md, .int x1, .int x2]) ++ List.replicate (4 - (lg_sl ([.ref a_md, .int x1, .int x2])).length) Slot.unset).toArray = ls at hl ⊢
  have hl : lv_has ls 4 [(0, .ref a_md), (1, .int x1), (2, .int x2)] := hl
  have fl_30 := (hts _ (List.mem_cons_of_mem _ m_1108))
  have fl_51 := (hts _ (List.mem_cons_of_mem _ m_1115))
  have fl_66 := (hts _ (List.mem_cons_of_mem _ m_1120))
  have fl_70 := (hts _ (List.mem_cons_of_mem _ m_1121))
  have fl_73 := (hts _ (List.mem_cons_of_mem _ m_1122))
  have fl_79 := (hts _ (List.mem_cons_of_mem _ m_1124))
  refine lv_aload_n hx hb d_Md_has_0 rfl (lv_at hl 0 rfl) ?_
  refine lv_iload_n hx hb d_Md_has_1 rfl (lv_at hl 1 rfl) ?_
  refine jn_i (wr := [(a_md_guessCounts, .inl (cI, 2, .inl md_guessCounts)), (a_md_nexts, .inl (cI, 24576, .inl md_nexts)), (a_md_isBegin, .inl (cZ, 4096, .inl md_isBegin)), (a_md_isGoal, .inl (cZ, 4096, .inl md_isGoal)), (a_md_levels, .inl (cI, 4096, .inl md_levels)), (a_md_hasGuesses, .inl (cI, 4096, .inl md_hasGuesses))]) (va_runV (As := [.int x1]) (rest := []) ⟨hx, hb, hml, hown, hts⟩ (c_Md_isState l dC dI cI cB cZ adK adV _ a_md a_md_tape a_md_acts a_md_actNumbers a_md_actCounts a_md_pile a_md_begins a_md_goals a_md_ranks a_md_choiceCounts a_md_whens a_md_becomes a_md_guessCounts a_md_guesses a_md_unaryCounts a_md_stack a_md_nexts a_md_isBegin a_md_isGoal a_md_levels a_md_queue a_md_hasGuesses a_md_rounds a_md_marked a_md_other a_md_heights md_size md_at md_token md_tokenPlace md_number md_sign md_bad md_faultPlace md_place md_bank md_unaries md_opens md_piled md_loop md_keptBits x1 _ h) (cwV 1 hts (gv_ m_1373 m_1375 m_77 m_96 m_1376) rfl rfl rfl pd_Md_isState ⟨Nat.le_of_ble_eq_true rfl, Nat.le_of_ble_eq_true rfl⟩) ⟨pc_blind, va_recv hK hP (ci := 11) (q0 := 0) rfl rfl, pc_of (hP.sub [0] rfl) hK (hD.sub [0] (by decide) rfl) hN hT hS hA⟩ rfl rfl hl.1 rfl (lv_room (Nat.le_of_ble_eq_true rfl)) d_Md_has_2 ⟨Nat.zero_le _, Nat.zero_le _⟩) hP hD hS hA [0] [1, 2, 3, 4, 5, 6] rfl rfl (by decide) (by decide) (fun r_1 u_ H locs h hP hD hS => ?_)
  have hP : va_P (dC, dI) vwCl [(a_md_guessCounts, .inl (cI, 2, .inl md_guessCounts)), (a_md_nexts, .inl (cI, 24576, .inl md_nexts)), (a_md_isBegin, .inl (cZ, 4096, .inl md_isBegin)), (a_md_isGoal, .inl (cZ, 4096, .inl md_isGoal)), (a_md_levels, .inl (cI, 4096, .inl md_levels)), (a_md_hasGuesses, .inl (cI, 4096, .inl md_hasGuesses)), (a_md, .inr (11, [.ref a_md_tape, .int md_size, .int md_at, .int md_token, .int md_tokenPlace, .int md_number, .int md_sign, .int md_bad, .int md_faultPlace, .int md_place, .ref a_md_acts, .ref a_md_actNumbers, .ref a_md_actCounts, .int md_bank, .int md_unaries, .int md_opens, .ref a_md_pile, .int md_piled, .int md_loop, .ref a_md_begins, .ref a_md_goals, .ref a_md_ranks, .ref a_md_choiceCounts, .ref a_md_whens, .ref a_md_becomes, .ref a_md_guessCounts, .ref a_md_guesses, .ref a_md_unaryCounts, .ref a_md_stack, .ref a_md_nexts, .ref a_md_isBegin, .ref a_md_isGoal, .ref a_md_levels, .ref a_md_queue, .ref a_md_hasGuesses, .int md_keptBits, .ref a_md_rounds, .ref a_md_marked, .ref a_md_other, .ref a_md_heights]))] H := hP
  have hD : va_D A [(a_md_guessCounts, .inl (cI, 2, .inl md_guessCounts)), (a_md_nexts, .inl (cI, 24576, .inl md_nexts)), (a_md_isBegin, .inl (cZ, 4096, .inl md_isBegin)), (a_md_isGoal, .inl (cZ, 4096, .inl md_isGoal)), (a_md_levels, .inl (cI, 4096, .inl md_levels)), (a_md_hasGuesses, .inl (cI, 4096, .inl md_hasGuesses)), (a_md, .inr (11, [.ref a_md_tape, .int md_size, .int md_at, .int md_token, .int md_tokenPlace, .int md_number, .int md_sign, .int md_bad, .int md_faultPlace, .int md_place, .ref a_md_acts, .ref a_md_actNumbers, .ref a_md_actCounts, .int md_bank, .int md_unaries, .int md_opens, .ref a_md_pile, .int md_piled, .int md_loop, .ref a_md_begins, .ref a_md_goals, .ref a_md_ranks, .ref a_md_choiceCounts, .ref a_md_whens, .ref a_md_becomes, .ref a_md_guessCounts, .ref a_md_guesses, .ref a_md_unaryCounts, .ref a_md_stack, .ref a_md_nexts, .ref a_md_isBegin, .ref a_md_isGoal, .ref a_md_levels, .ref a_md_queue, .ref a_md_hasGuesses, .int md_keptBits, .ref a_md_rounds, .ref a_md_marked, .ref a_md_other, .ref a_md_heights]))] := hD
  refine lv_if_eq (tgt := 27) hx hb d_Md_has_5 (by decide) (fun c_5 => ?_) (fun c_5 => ?_)
  · have h := And.left h c_5
    refine lv_iconst (v := (-1)) hx hb d_Md_has_27 (by decide) ?_
    rw [← hQ]
    have hP9 := hP.sub (ws' := [(a_md, .inr (11, [.ref a_md_tape, .int md_size, .int md_at, .int md_token, .int md_tokenPlace, .int md_number, .int md_sign, .int md_bad, .int md_faultPlace, .int md_place, .ref a_md_acts, .ref a_md_actNumbers, .ref a_md_actCounts, .int md_bank, .int md_unaries, .int md_opens, .ref a_md_pile, .int md_piled, .int md_loop, .ref a_md_begins, .ref a_md_goals, .ref a_md_ranks, .ref a_md_choiceCounts, .ref a_md_whens, .ref a_md_becomes, .ref a_md_guessCounts, .ref a_md_guesses, .ref a_md_unaryCounts, .ref a_md_stack, .ref a_md_nexts, .ref a_md_isBegin, .ref a_md_isGoal, .ref a_md_levels, .ref a_md_queue, .ref a_md_hasGuesses, .int md_keptBits, .ref a_md_rounds, .ref a_md_marked, .ref a_md_other, .ref a_md_heights])), (a_md_guessCounts, .inl (cI, 2, .inl md_guessCounts)), (a_md_nexts, .inl (cI, 24576, .inl md_nexts)), (a_md_isBegin, .inl (cZ, 4096, .inl md_isBegin)), (a_md_isGoal, .inl (cZ, 4096, .inl md_isGoal)), (a_md_levels, .inl (cI, 4096, .inl md_levels)), (a_md_hasGuesses, .inl (cI, 4096, .inl md_hasGuesses))]) [6, 0, 1, 2, 3, 4, 5] rfl
    have hD9 := hD.sub (ws' := [(a_md, .inr (11, [.ref a_md_tape, .int md_size, .int md_at, .int md_token, .int md_tokenPlace, .int md_number, .int md_sign, .int md_bad, .int md_faultPlace, .int md_place, .ref a_md_acts, .ref a_md_actNumbers, .ref a_md_actCounts, .int md_bank, .int md_unaries, .int md_opens, .ref a_md_pile, .int md_piled, .int md_loop, .ref a_md_begins, .ref a_md_goals, .ref a_md_ranks, .ref a_md_choiceCounts, .ref a_md_whens, .ref a_md_becomes, .ref a_md_guessCounts, .ref a_md_guesses, .ref a_md_unaryCounts, .ref a_md_stack, .ref a_md_nexts, .ref a_md_isBegin, .ref a_md_isGoal, .ref a_md_levels, .ref a_md_queue, .ref a_md_hasGuesses, .int md_keptBits, .ref a_md_rounds, .ref a_md_marked, .ref a_md_other, .ref a_md_heights])), (a_md_guessCounts, .inl (cI, 2, .inl md_guessCounts)), (a_md_nexts, .inl (cI, 24576, .inl md_nexts)), (a_md_isBegin, .inl (cZ, 4096, .inl md_isBegin)), (a_md_isGoal, .inl (cZ, 4096, .inl md_isGoal)), (a_md_levels, .inl (cI, 4096, .inl md_levels)), (a_md_hasGuesses, .inl (cI, 4096, .inl md_hasGuesses))]) [6, 0, 1, 2, 3, 4, 5] (by decide) rfl
    exact W.iret (v := (-1)) hx hb hr (fun t ht hW => ⟨⟨(-1), (), rfl, h, by rw [ht]; exact hP9, va_K.moved hW.alike hK, hD9⟩, hS.F ht⟩) hS.2.2 d_Md_has_28
  · have h := And.right h c_5
    refine lv_iload_n hx hb d_Md_has_8 rfl (lv_at hl 2 rfl) ?_
    refine lv_if_lt (tgt := 27) hx hb d_Md_has_9 (by decide) (fun c_9 => ?_) (fun c_9 => ?_)
    · have h := And.left h c_9
      refine lv_iconst (v := (-1)) hx hb d_Md_has_27 (by decide) ?_
      rw [← hQ]
      have hP9 := hP.sub (ws' := [(a_md, .inr (11, [.ref a_md_tape, .int md_size, .int md_at, .int md_token, .int md_tokenPlace, .int md_number, .int md_sign, .int md_bad, .int md_faultPlace, .int md_place, .ref a_md_acts, .ref a_md_actNumbers, .ref a_md_actCounts, .int md_bank, .int md_unaries, .int md_opens, .ref a_md_pile, .int md_piled, .int md_loop, .ref a_md_begins, .ref a_md_goals, .ref a_md_ranks, .ref a_md_choiceCounts, .ref a_md_whens, .ref a_md_becomes, .ref a_md_guessCounts, .ref a_md_guesses, .ref a_md_unaryCounts, .ref a_md_stack, .ref a_md_nexts, .ref a_md_isBegin, .ref a_md_isGoal, .ref a_md_levels, .ref a_md_queue, .ref a_md_hasGuesses, .int md_keptBits, .ref a_md_rounds, .ref a_md_marked, .ref a_md_other, .ref a_md_heights])), (a_md_guessCounts, .inl (cI, 2, .inl md_guessCounts)), (a_md_nexts, .inl (cI, 24576, .inl md_nexts)), (a_md_isBegin, .inl (cZ, 4096, .inl md_isBegin)), (a_md_isGoal, .inl (cZ, 4096, .inl md_isGoal)), (a_md_levels, .inl (cI, 4096, .inl md_levels)), (a_md_hasGuesses, .inl (cI, 4096, .inl md_hasGuesses))]) [6, 0, 1, 2, 3, 4, 5] rfl
      have hD9 := hD.sub (ws' := [(a_md, .inr (11, [.ref a_md_tape, .int md_size, .int md_at, .int md_token, .int md_tokenPlace, .int md_number, .int md_sign, .int md_bad, .int md_faultPlace, .int md_place, .ref a_md_acts, .ref a_md_actNumbers, .ref a_md_actCounts, .int md_bank, .int md_unaries, .int md_opens, .ref a_md_pile, .int md_piled, .int md_loop, .ref a_md_begins, .ref a_md_goals, .ref a_md_ranks, .ref a_md_choiceCounts, .ref a_md_whens, .ref a_md_becomes, .ref a_md_guessCounts, .ref a_md_guesses, .ref a_md_unaryCounts, .ref a_md_stack, .ref a_md_nexts, .ref a_md_isBegin, .ref a_md_isGoal, .ref a_md_levels, .ref a_md_queue, .ref a_md_hasGuesses, .int md_keptBits, .ref a_md_rounds, .ref a_md_marked, .ref a_md_other, .ref a_md_heights])), (a_md_guessCounts, .inl (cI, 2, .inl md_guessCounts)), (a_md_nexts, .inl (cI, 24576, .inl md_nexts)), (a_md_isBegin, .inl (cZ, 4096, .inl md_isBegin)), (a_md_isGoal, .inl (cZ, 4096, .inl md_isGoal)), (a_md_levels, .inl (cI, 4096, .inl md_levels)), (a_md_hasGuesses, .inl (cI, 4096, .inl md_hasGuesses))]) [6, 0, 1, 2, 3, 4, 5] (by decide) rfl
      exact W.iret (v := (-1)) hx hb hr (fun t ht hW => ⟨⟨(-1), (), rfl, h, by rw [ht]; exact hP9, va_K.moved hW.alike hK, hD9⟩, hS.F ht⟩) hS.2.2 d_Md_has_28
    · have h := And.right h c_9
      refine lv_iload_n hx hb d_Md_has_12 rfl (lv_at hl 2 rfl) ?_
      refine lv_iconst (v := 4) hx hb d_Md_has_13 (by decide) ?_
      refine lv_aload_n hx hb d_Md_has_14 rfl (lv_at hl 0 rfl) ?_
      refine va_get (D := (dC, dI)) (ci := 11) (v := .ref a_md_guessCounts) (C := "LoopInductionModel") (T := F_Md) (N := 40) hx hb hts iC_Md hown hK hP 6 rfl rfl 25 (by decide) fl_51 (fun _ h9 => h9) rfl d_Md_has_15 ?_
      refine lv_aload_n hx hb d_Md_has_18 rfl (lv_at hl 0 rfl) ?_
      refine va_get (D := (dC, dI)) (ci := 11) (v := .int md_loop) (C := "LoopInductionModel") (T := F_Md) (N := 40) hx hb hts iC_Md hown hK hP 6 rfl rfl 18 (by decide) fl_30 (fun _ h9 => h9) rfl d_Md_has_19 ?_
      obtain ⟨hin_22, h⟩ := h
      refine va_iald hx hb hK hP 0 0 rfl rfl hin_22 d_Md_has_22 ?_
      refine lv_iadd hx hb d_Md_has_23 ?_
      refine lv_icmp_lt (tgt := 29) hx hb d_Md_has_24 (by decide) (fun c_24 => ?_) (fun c_24 => ?_)
      · have h := And.left h c_24
        refine lv_iload_n hx hb d_Md_has_29 rfl (lv_at hl 2 rfl) ?_
        refine lv_if_ne (tgt := 42) hx hb d_Md_has_30 (by decide) (fun c_30 => ?_) (fun c_30 => ?_)
        · have h := And.left h c_30
          refine lv_iload_n hx hb d_Md_has_42 rfl (lv_at hl 2 rfl) ?_
          refine lv_iconst (v := 1) hx hb d_Md_has_43 (by decide) ?_
          refine lv_icmp_ne (tgt := 56) hx hb d_Md_has_44 (by decide) (fun c_44 => ?_) (fun c_44 => ?_)
          · have h := And.left h c_44
            refine lv_iload_n hx hb d_Md_has_56 rfl (lv_at hl 2 rfl) ?_
            refine lv_iconst (v := 2) hx hb d_Md_has_57 (by decide) ?_
            refine lv_icmp_ne (tgt := 78) hx hb d_Md_has_58 (by decide) (fun c_58 => ?_) (fun c_58 => ?_)
            · have h := And.left h c_58
              refine lv_iload_n hx hb d_Md_has_78 rfl (lv_at hl 2 rfl) ?_
              refine lv_iconst (v := 3) hx hb d_Md_has_79 (by decide) ?_
              refine lv_icmp_ne (tgt := 91) hx hb d_Md_has_80 (by decide) (fun c_80 => ?_) (fun c_80 => ?_)
              · have h := And.left h c_80
                refine lv_aload_n hx hb d_Md_has_91 rfl (lv_at hl 0 rfl) ?_
                refine va_get (D := (dC, dI)) (ci := 11) (v := .ref a_md_hasGuesses) (C := "LoopInductionModel") (T := F_Md) (N := 40) hx hb hts iC_Md hown hK hP 6 rfl rfl 34 (by decide) fl_79 (fun _ h9 => h9) rfl d_Md_has_92 ?_
                refine lv_iload_n hx hb d_Md_has_95 rfl (lv_at hl 1 rfl) ?_
                obtain ⟨hin_96, h⟩ := h
                refine va_iald hx hb hK hP 5 0 rfl rfl hin_96 d_Md_has_96 ?_
                refine lv_iload_n hx hb d_Md_has_97 rfl (lv_at hl 2 rfl) ?_
                refine lv_iconst (v := 4) hx hb d_Md_has_98 (by decide) ?_
                refine lv_isub hx hb d_Md_has_99 ?_
                refine lv_ishr hx hb d_Md_has_100 ?_
                refine lv_iconst (v := 1) hx hb d_Md_has_101 (by decide) ?_
                refine lv_iand hx hb d_Md_has_102 ?_
                refine lv_iconst (v := 1) hx hb d_Md_has_103 (by decide) ?_
                refine lv_icmp_ne (tgt := 111) hx hb d_Md_has_104 (by decide) (fun c_104 => ?_) (fun c_104 => ?_)
                · have h := And.left h c_104
                  refine lv_iconst (v := 0) hx hb d_Md_has_111 (by decide) ?_
                  refine lv_istore_n (lv' := [(3, .int 0), (0, .ref a_md), (1, .int x1), (2, .int x2)]) hx hb d_Md_has_112 rfl hl (by decide) rfl (fun ls hl => ?_)
                  refine lv_iload_n hx hb d_Md_has_113 rfl (lv_at hl 0 rfl) ?_
                  refine lv_if_eq (tgt := 121) hx hb d_Md_has_114 (by decide) (fun c_114 => ?_) (fun c_114 => ?_)
                  · refine lv_iconst (v := 0) hx hb d_Md_has_121 (by decide) ?_
                    rw [← hQ]
                    have hP9 := hP.sub (ws' := [(a_md, .inr (11, [.ref a_md_tape, .int md_size, .int md_at, .int md_token, .int md_tokenPlace, .int md_number, .int md_sign, .int md_bad, .int md_faultPlace, .int md_place, .ref a_md_acts, .ref a_md_actNumbers, .ref a_md_actCounts, .int md_bank, .int md_unaries, .int md_opens, .ref a_md_pile, .int md_piled, .int md_loop, .ref a_md_begins, .ref a_md_goals, .ref a_md_ranks, .ref a_md_choiceCounts, .ref a_md_whens, .ref a_md_becomes, .ref a_md_guessCounts, .ref a_md_guesses, .ref a_md_unaryCounts, .ref a_md_stack, .ref a_md_nexts, .ref a_md_isBegin, .ref a_md_isGoal, .ref a_md_levels, .ref a_md_queue, .ref a_md_hasGuesses, .int md_keptBits, .ref a_md_rounds, .ref a_md_marked, .ref a_md_other, .ref a_md_heights])), (a_md_guessCounts, .inl (cI, 2, .inl md_guessCounts)), (a_md_nexts, .inl (cI, 24576, .inl md_nexts)), (a_md_isBegin, .inl (cZ, 4096, .inl md_isBegin)), (a_md_isGoal, .inl (cZ, 4096, .inl md_isGoal)), (a_md_levels, .inl (cI, 4096, .inl md_levels)), (a_md_hasGuesses, .inl (cI, 4096, .inl md_hasGuesses))]) [6, 0, 1, 2, 3, 4, 5] rfl
                    have hD9 := hD.sub (ws' := [(a_md, .inr (11, [.ref a_md_tape, .int md_size, .int md_at, .int md_token, .int md_tokenPlace, .int md_number, .int md_sign, .int md_bad, .int md_faultPlace, .int md_place, .ref a_md_acts, .ref a_md_actNumbers, .ref a_md_actCounts, .int md_bank, .int md_unaries, .int md_opens, .ref a_md_pile, .int md_piled, .int md_loop, .ref a_md_begins, .ref a_md_goals, .ref a_md_ranks, .ref a_md_choiceCounts, .ref a_md_whens, .ref a_md_becomes, .ref a_md_guessCounts, .ref a_md_guesses, .ref a_md_unaryCounts, .ref a_md_stack, .ref a_md_nexts, .ref a_md_isBegin, .ref a_md_isGoal, .ref a_md_levels, .ref a_md_queue, .ref a_md_hasGuesses, .int md_keptBits, .ref a_md_rounds, .ref a_md_marked, .ref a_md_other, .ref a_md_heights])), (a_md_guessCounts, .inl (cI, 2, .inl md_guessCounts)), (a_md_nexts, .inl (cI, 24576, .inl md_nexts)), (a_md_isBegin, .inl (cZ, 4096, .inl md_isBegin)), (a_md_isGoal, .inl (cZ, 4096, .inl md_isGoal)), (a_md_levels, .inl (cI, 4096, .inl md_levels)), (a_md_hasGuesses, .inl (cI, 4096, .inl md_hasGuesses))]) [6, 0, 1, 2, 3, 4, 5] (by decide) rfl
                    exact W.iret (v := 0) hx hb hr (fun t ht hW => ⟨⟨0, (), rfl, h, by rw [ht]; exact hP9, va_K.moved hW.alike hK, hD9⟩, hS.F ht⟩) hS.2.2 d_Md_has_122
                  · exact absurd c_114 (by decide +kernel)
                · have h := And.right h c_104
                  refine lv_iconst (v := 1) hx hb d_Md_has_107 (by decide) ?_
                  refine lv_goto (tgt := 112) hx hb d_Md_has_108 (by decide) ?_
                  refine lv_istore_n (lv' := [(3, .int 1), (0, .ref a_md), (1, .int x1), (2, .int x2)]) hx hb d_Md_has_112 rfl hl (by decide) rfl (fun ls hl => ?_)
                  refine lv_iload_n hx hb d_Md_has_113 rfl (lv_at hl 0 rfl) ?_
                  refine lv_if_eq (tgt := 121) hx hb d_Md_has_114 (by decide) (fun c_114 => ?_) (fun c_114 => ?_)
                  · exact absurd c_114 (by decide +kernel)
                  · refine lv_iconst (v := 1) hx hb d_Md_has_117 (by decide) ?_
                    refine lv_goto (tgt := 122) hx hb d_Md_has_118 (by decide) ?_
                    rw [← hQ]
                    have hP9 := hP.sub (ws' := [(a_md, .inr (11, [.ref a_md_tape, .int md_size, .int md_at, .int md_token, .int md_tokenPlace, .int md_number, .int md_sign, .int md_bad, .int md_faultPlace, .int md_place, .ref a_md_acts, .ref a_md_actNumbers, .ref a_md_actCounts, .int md_bank, .int md_unaries, .int md_opens, .ref a_md_pile, .int md_piled, .int md_loop, .ref a_md_begins, .ref a_md_goals, .ref a_md_ranks, .ref a_md_choiceCounts, .ref a_md_whens, .ref a_md_becomes, .ref a_md_guessCounts, .ref a_md_guesses, .ref a_md_unaryCounts, .ref a_md_stack, .ref a_md_nexts, .ref a_md_isBegin, .ref a_md_isGoal, .ref a_md_levels, .ref a_md_queue, .ref a_md_hasGuesses, .int md_keptBits, .ref a_md_rounds, .ref a_md_marked, .ref a_md_other, .ref a_md_heights])), (a_md_guessCounts, .inl (cI, 2, .inl md_guessCounts)), (a_md_nexts, .inl (cI, 24576, .inl md_nexts)), (a_md_isBegin, .inl (cZ, 4096, .inl md_isBegin)), (a_md_isGoal, .inl (cZ, 4096, .inl md_isGoal)), (a_md_levels, .inl (cI, 4096, .inl md_levels)), (a_md_hasGuesses, .inl (cI, 4096, .inl md_hasGuesses))]) [6, 0, 1, 2, 3, 4, 5] rfl
                    have hD9 := hD.sub (ws' := [(a_md, .inr (11, [.ref a_md_tape, .int md_size, .int md_at, .int md_token, .int md_tokenPlace, .int md_number, .int md_sign, .int md_bad, .int md_faultPlace, .int md_place, .ref a_md_acts, .ref a_md_actNumbers, .ref a_md_actCounts, .int md_bank, .int md_unaries, .int md_opens, .ref a_md_pile, .int md_piled, .int md_loop, .ref a_md_begins, .ref a_md_goals, .ref a_md_ranks, .ref a_md_choiceCounts, .ref a_md_whens, .ref a_md_becomes, .ref a_md_guessCounts, .ref a_md_guesses, .ref a_md_unaryCounts, .ref a_md_stack, .ref a_md_nexts, .ref a_md_isBegin, .ref a_md_isGoal, .ref a_md_levels, .ref a_md_queue, .ref a_md_hasGuesses, .int md_keptBits, .ref a_md_rounds, .ref a_md_marked, .ref a_md_other, .ref a_md_heights])), (a_md_guessCounts, .inl (cI, 2, .inl md_guessCounts)), (a_md_nexts, .inl (cI, 24576, .inl md_nexts)), (a_md_isBegin, .inl (cZ, 4096, .inl md_isBegin)), (a_md_isGoal, .inl (cZ, 4096, .inl md_isGoal)), (a_md_levels, .inl (cI, 4096, .inl md_levels)), (a_md_hasGuesses, .inl (cI, 4096, .inl md_hasGuesses))]) [6, 0, 1, 2, 3, 4, 5] (by decide) rfl
                    exact W.iret (v := 1) hx hb hr (fun t ht hW => ⟨⟨1, (), rfl, h, by rw [ht]; exact hP9, va_K.moved hW.alike hK, hD9⟩, hS.F ht⟩) hS.2.2 d_Md_has_122
              · have h := And.right h c_80
                refine lv_aload_n hx hb d_Md_has_83 rfl (lv_at hl 0 rfl) ?_
                refine lv_iload_n hx hb d_Md_has_84 rfl (lv_at hl 1 rfl) ?_
                refine jn_i (wr := [(a_md_guessCounts, .inl (cI, 2, .inl md_guessCounts)), (a_md_isBegin, .inl (cZ, 4096, .inl md_isBegin)), (a_md_isGoal, .inl (cZ, 4096, .inl md_isGoal)), (a_md_levels, .inl (cI, 4096, .inl md_levels)), (a_md_hasGuesses, .inl (cI, 4096, .inl md_hasGuesses))]) (va_runV (As := [.int x1]) (rest := []) ⟨hx, hb, hml, hown, hts⟩ (c_Md_isEnd l dC dI cI cB cZ adK adV _ a_md a_md_tape a_md_acts a_md_actNumbers a_md_actCounts a_md_pile a_md_begins a_md_goals a_md_ranks a_md_choiceCounts a_md_whens a_md_becomes a_md_guessCounts a_md_guesses a_md_unaryCounts a_md_stack a_md_nexts a_md_isBegin a_md_isGoal a_md_levels a_md_queue a_md_hasGuesses a_md_rounds a_md_marked a_md_other a_md_heights md_size md_at md_token md_tokenPlace md_number md_sign md_bad md_faultPlace md_place md_bank md_unaries md_opens md_piled md_loop md_keptBits md_nexts x1 _ h) (cwV 1 hts (gv_ m_1377 m_1379 m_78 m_96 m_1380) rfl rfl rfl pd_Md_isEnd ⟨Nat.le_of_ble_eq_true rfl, Nat.le_of_ble_eq_true rfl⟩) ⟨pc_blind, va_recv hK hP (ci := 11) (q0 := 6) rfl rfl, pc_of (hP.sub [6, 1] rfl) hK (hD.sub [6, 1] (by decide) rfl) hN hT hS hA⟩ rfl rfl hl.1 rfl (lv_room (Nat.le_of_ble_eq_true rfl)) d_Md_has_85 ⟨Nat.zero_le _, Nat.zero_le _⟩) hP hD hS hA [6, 1] [0, 2, 3, 4, 5] rfl rfl (by decide) (by decide) (fun r_2 u_ H locs h hP hD hS => ?_)
                have hP : va_P (dC, dI) vwCl [(a_md_guessCounts, .inl (cI, 2, .inl md_guessCounts)), (a_md_isBegin, .inl (cZ, 4096, .inl md_isBegin)), (a_md_isGoal, .inl (cZ, 4096, .inl md_isGoal)), (a_md_levels, .inl (cI, 4096, .inl md_levels)), (a_md_hasGuesses, .inl (cI, 4096, .inl md_hasGuesses)), (a_md, .inr (11, [.ref a_md_tape, .int md_size, .int md_at, .int md_token, .int md_tokenPlace, .int md_number, .int md_sign, .int md_bad, .int md_faultPlace, .int md_place, .ref a_md_acts, .ref a_md_actNumbers, .ref a_md_actCounts, .int md_bank, .int md_unaries, .int md_opens, .ref a_md_pile, .int md_piled, .int md_loop, .ref a_md_begins, .ref a_md_goals, .ref a_md_ranks, .ref a_md_choiceCounts, .ref a_md_whens, .ref a_md_becomes, .ref a_md_guessCounts, .ref a_md_guesses, .ref a_md_unaryCounts, .ref a_md_stack, .ref a_md_nexts, .ref a_md_isBegin, .ref a_md_isGoal, .ref a_md_levels, .ref a_md_queue, .ref a_md_hasGuesses, .int md_keptBits, .ref a_md_rounds, .ref a_md_marked, .ref a_md_other, .ref a_md_heights])), (a_md_nexts, .inl (cI, 24576, .inl md_nexts))] H := hP
                have hD : va_D A [(a_md_guessCounts, .inl (cI, 2, .inl md_guessCounts)), (a_md_isBegin, .inl (cZ, 4096, .inl md_isBegin)), (a_md_isGoal, .inl (cZ, 4096, .inl md_isGoal)), (a_md_levels, .inl (cI, 4096, .inl md_levels)), (a_md_hasGuesses, .inl (cI, 4096, .inl md_hasGuesses)), (a_md, .inr (11, [.ref a_md_tape, .int md_size, .int md_at, .int md_token, .int md_tokenPlace, .int md_number, .int md_sign, .int md_bad, .int md_faultPlace, .int md_place, .ref a_md_acts, .ref a_md_actNumbers, .ref a_md_actCounts, .int md_bank, .int md_unaries, .int md_opens, .ref a_md_pile, .int md_piled, .int md_loop, .ref a_md_begins, .ref a_md_goals, .ref a_md_ranks, .ref a_md_choiceCounts, .ref a_md_whens, .ref a_md_becomes, .ref a_md_guessCounts, .ref a_md_guesses, .ref a_md_unaryCounts, .ref a_md_stack, .ref a_md_nexts, .ref a_md_isBegin, .ref a_md_isGoal, .ref a_md_levels, .ref a_md_queue, .ref a_md_hasGuesses, .int md_keptBits, .ref a_md_rounds, .ref a_md_marked, .ref a_md_other, .ref a_md_heights])), (a_md_nexts, .inl (cI, 24576, .inl md_nexts))] := hD
                refine lv_goto (tgt := 112) hx hb d_Md_has_88 (by decide) ?_
                refine lv_istore_n (lv' := [(3, .int r_2), (0, .ref a_md), (1, .int x1), (2, .int x2)]) hx hb d_Md_has_112 rfl hl (by decide) rfl (fun ls hl => ?_)
                refine lv_iload_n hx hb d_Md_has_113 rfl (lv_at hl 0 rfl) ?_
                refine lv_if_eq (tgt := 121) hx hb d_Md_has_114 (by decide) (fun c_114 => ?_) (fun c_114 => ?_)
                · have h := And.left h c_114
                  refine lv_iconst (v := 0) hx hb d_Md_has_121 (by decide) ?_
                  rw [← hQ]
                  have hP9 := hP.sub (ws' := [(a_md, .inr (11, [.ref a_md_tape, .int md_size, .int md_at, .int md_token, .int md_tokenPlace, .int md_number, .int md_sign, .int md_bad, .int md_faultPlace, .int md_place, .ref a_md_acts, .ref a_md_actNumbers, .ref a_md_actCounts, .int md_bank, .int md_unaries, .int md_opens, .ref a_md_pile, .int md_piled, .int md_loop, .ref a_md_begins, .ref a_md_goals, .ref a_md_ranks, .ref a_md_choiceCounts, .ref a_md_whens, .ref a_md_becomes, .ref a_md_guessCounts, .ref a_md_guesses, .ref a_md_unaryCounts, .ref a_md_stack, .ref a_md_nexts, .ref a_md_isBegin, .ref a_md_isGoal, .ref a_md_levels, .ref a_md_queue, .ref a_md_hasGuesses, .int md_keptBits, .ref a_md_rounds, .ref a_md_marked, .ref a_md_other, .ref a_md_heights])), (a_md_guessCounts, .inl (cI, 2, .inl md_guessCounts)), (a_md_nexts, .inl (cI, 24576, .inl md_nexts)), (a_md_isBegin, .inl (cZ, 4096, .inl md_isBegin)), (a_md_isGoal, .inl (cZ, 4096, .inl md_isGoal)), (a_md_levels, .inl (cI, 4096, .inl md_levels)), (a_md_hasGuesses, .inl (cI, 4096, .inl md_hasGuesses))]) [5, 0, 6, 1, 2, 3, 4] rfl
                  have hD9 := hD.sub (ws' := [(a_md, .inr (11, [.ref a_md_tape, .int md_size, .int md_at, .int md_token, .int md_tokenPlace, .int md_number, .int md_sign, .int md_bad, .int md_faultPlace, .int md_place, .ref a_md_acts, .ref a_md_actNumbers, .ref a_md_actCounts, .int md_bank, .int md_unaries, .int md_opens, .ref a_md_pile, .int md_piled, .int md_loop, .ref a_md_begins, .ref a_md_goals, .ref a_md_ranks, .ref a_md_choiceCounts, .ref a_md_whens, .ref a_md_becomes, .ref a_md_guessCounts, .ref a_md_guesses, .ref a_md_unaryCounts, .ref a_md_stack, .ref a_md_nexts, .ref a_md_isBegin, .ref a_md_isGoal, .ref a_md_levels, .ref a_md_queue, .ref a_md_hasGuesses, .int md_keptBits, .ref a_md_rounds, .ref a_md_marked, .ref a_md_other, .ref a_md_heights])), (a_md_guessCounts, .inl (cI, 2, .inl md_guessCounts)), (a_md_nexts, .inl (cI, 24576, .inl md_nexts)), (a_md_isBegin, .inl (cZ, 4096, .inl md_isBegin)), (a_md_isGoal, .inl (cZ, 4096, .inl md_isGoal)), (a_md_levels, .inl (cI, 4096, .inl md_levels)), (a_md_hasGuesses, .inl (cI, 4096, .inl md_hasGuesses))]) [5, 0, 6, 1, 2, 3, 4] (by decide) rfl
                  exact W.iret (v := 0) hx hb hr (fun t ht hW => ⟨⟨0, (), rfl, h, by rw [ht]; exact hP9, va_K.moved hW.alike hK, hD9⟩, hS.F ht⟩) hS.2.2 d_Md_has_122
                · have h := And.right h c_114
                  refine lv_iconst (v := 1) hx hb d_Md_has_117 (by decide) ?_
                  refine lv_goto (tgt := 122) hx hb d_Md_has_118 (by decide) ?_
                  rw [← hQ]
                  have hP9 := hP.sub (ws' := [(a_md, .inr (11, [.ref a_md_tape, .int md_size, .int md_at, .int md_token, .int md_tokenPlace, .int md_number, .int md_sign, .int md_bad, .int md_faultPlace, .int md_place, .ref a_md_acts, .ref a_md_actNumbers, .ref a_md_actCounts, .int md_bank, .int md_unaries, .int md_opens, .ref a_md_pile, .int md_piled, .int md_loop, .ref a_md_begins, .ref a_md_goals, .ref a_md_ranks, .ref a_md_choiceCounts, .ref a_md_whens, .ref a_md_becomes, .ref a_md_guessCounts, .ref a_md_guesses, .ref a_md_unaryCounts, .ref a_md_stack, .ref a_md_nexts, .ref a_md_isBegin, .ref a_md_isGoal, .ref a_md_levels, .ref a_md_queue, .ref a_md_hasGuesses, .int md_keptBits, .ref a_md_rounds, .ref a_md_marked, .ref a_md_other, .ref a_md_heights])), (a_md_guessCounts, .inl (cI, 2, .inl md_guessCounts)), (a_md_nexts, .inl (cI, 24576, .inl md_nexts)), (a_md_isBegin, .inl (cZ, 4096, .inl md_isBegin)), (a_md_isGoal, .inl (cZ, 4096, .inl md_isGoal)), (a_md_levels, .inl (cI, 4096, .inl md_levels)), (a_md_hasGuesses, .inl (cI, 4096, .inl md_hasGuesses))]) [5, 0, 6, 1, 2, 3, 4] rfl
                  have hD9 := hD.sub (ws' := [(a_md, .inr (11, [.ref a_md_tape, .int md_size, .int md_at, .int md_token, .int md_tokenPlace, .int md_number, .int md_sign, .int md_bad, .int md_faultPlace, .int md_place, .ref a_md_acts, .ref a_md_actNumbers, .ref a_md_actCounts, .int md_bank, .int md_unaries, .int md_opens, .ref a_md_pile, .int md_piled, .int md_loop, .ref a_md_begins, .ref a_md_goals, .ref a_md_ranks, .ref a_md_choiceCounts, .ref a_md_whens, .ref a_md_becomes, .ref a_md_guessCounts, .ref a_md_guesses, .ref a_md_unaryCounts, .ref a_md_stack, .ref a_md_nexts, .ref a_md_isBegin, .ref a_md_isGoal, .ref a_md_levels, .ref a_md_queue, .ref a_md_hasGuesses, .int md_keptBits, .ref a_md_rounds, .ref a_md_marked, .ref a_md_other, .ref a_md_heights])), (a_md_guessCounts, .inl (cI, 2, .inl md_guessCounts)), (a_md_nexts, .inl (cI, 24576, .inl md_nexts)), (a_md_isBegin, .inl (cZ, 4096, .inl md_isBegin)), (a_md_isGoal, .inl (cZ, 4096, .inl md_isGoal)), (a_md_levels, .inl (cI, 4096, .inl md_levels)), (a_md_hasGuesses, .inl (cI, 4096, .inl md_hasGuesses))]) [5, 0, 6, 1, 2, 3, 4] (by decide) rfl
                  exact W.iret (v := 1) hx hb hr (fun t ht hW => ⟨⟨1, (), rfl, h, by rw [ht]; exact hP9, va_K.moved hW.alike hK, hD9⟩, hS.F ht⟩) hS.2.2 d_Md_has_122
            · have h := And.right h c_58
              refine lv_aload_n hx hb d_Md_has_61 rfl (lv_at hl 0 rfl) ?_
              refine va_get (D := (dC, dI)) (ci := 11) (v := .ref a_md_levels) (C := "LoopInductionModel") (T := F_Md) (N := 40) hx hb hts iC_Md hown hK hP 6 rfl rfl 32 (by decide) fl_73 (fun _ h9 => h9) rfl d_Md_has_62 ?_
              refine lv_iload_n hx hb d_Md_has_65 rfl (lv_at hl 1 rfl) ?_
              obtain ⟨hin_66, h⟩ := h
              refine va_iald hx hb hK hP 4 0 rfl rfl hin_66 d_Md_has_66 ?_
              refine lv_if_lt (tgt := 74) hx hb d_Md_has_67 (by decide) (fun c_67 => ?_) (fun c_67 => ?_)
              · have h := And.left h c_67
                refine lv_iconst (v := 0) hx hb d_Md_has_74 (by decide) ?_
                refine lv_goto (tgt := 112) hx hb d_Md_has_75 (by decide) ?_
                refine lv_istore_n (lv' := [(3, .int 0), (0, .ref a_md), (1, .int x1), (2, .int x2)]) hx hb d_Md_has_112 rfl hl (by decide) rfl (fun ls hl => ?_)
                refine lv_iload_n hx hb d_Md_has_113 rfl (lv_at hl 0 rfl) ?_
                refine lv_if_eq (tgt := 121) hx hb d_Md_has_114 (by decide) (fun c_114 => ?_) (fun c_114 => ?_)
                · refine lv_iconst (v := 0) hx hb d_Md_has_121 (by decide) ?_
                  rw [← hQ]
                  have hP9 := hP.sub (ws' := [(a_md, .inr (11, [.ref a_md_tape, .int md_size, .int md_at, .int md_token, .int md_tokenPlace, .int md_number, .int md_sign, .int md_bad, .int md_faultPlace, .int md_place, .ref a_md_acts, .ref a_md_actNumbers, .ref a_md_actCounts, .int md_bank, .int md_unaries, .int md_opens, .ref a_md_pile, .int md_piled, .int md_loop, .ref a_md_begins, .ref a_md_goals, .ref a_md_ranks, .ref a_md_choiceCounts, .ref a_md_whens, .ref a_md_becomes, .ref a_md_guessCounts, .ref a_md_guesses, .ref a_md_unaryCounts, .ref a_md_stack, .ref a_md_nexts, .ref a_md_isBegin, .ref a_md_isGoal, .ref a_md_levels, .ref a_md_queue, .ref a_md_hasGuesses, .int md_keptBits, .ref a_md_rounds, .ref a_md_marked, .ref a_md_other, .ref a_md_heights])), (a_md_guessCounts, .inl (cI, 2, .inl md_guessCounts)), (a_md_nexts, .inl (cI, 24576, .inl md_nexts)), (a_md_isBegin, .inl (cZ, 4096, .inl md_isBegin)), (a_md_isGoal, .inl (cZ, 4096, .inl md_isGoal)), (a_md_levels, .inl (cI, 4096, .inl md_levels)), (a_md_hasGuesses, .inl (cI, 4096, .inl md_hasGuesses))]) [6, 0, 1, 2, 3, 4, 5] rfl
                  have hD9 := hD.sub (ws' := [(a_md, .inr (11, [.ref a_md_tape, .int md_size, .int md_at, .int md_token, .int md_tokenPlace, .int md_number, .int md_sign, .int md_bad, .int md_faultPlace, .int md_place, .ref a_md_acts, .ref a_md_actNumbers, .ref a_md_actCounts, .int md_bank, .int md_unaries, .int md_opens, .ref a_md_pile, .int md_piled, .int md_loop, .ref a_md_begins, .ref a_md_goals, .ref a_md_ranks, .ref a_md_choiceCounts, .ref a_md_whens, .ref a_md_becomes, .ref a_md_guessCounts, .ref a_md_guesses, .ref a_md_unaryCounts, .ref a_md_stack, .ref a_md_nexts, .ref a_md_isBegin, .ref a_md_isGoal, .ref a_md_levels, .ref a_md_queue, .ref a_md_hasGuesses, .int md_keptBits, .ref a_md_rounds, .ref a_md_marked, .ref a_md_other, .ref a_md_heights])), (a_md_guessCounts, .inl (cI, 2, .inl md_guessCounts)), (a_md_nexts, .inl (cI, 24576, .inl md_nexts)), (a_md_isBegin, .inl (cZ, 4096, .inl md_isBegin)), (a_md_isGoal, .inl (cZ, 4096, .inl md_isGoal)), (a_md_levels, .inl (cI, 4096, .inl md_levels)), (a_md_hasGuesses, .inl (cI, 4096, .inl md_hasGuesses))]) [6, 0, 1, 2, 3, 4, 5] (by decide) rfl
                  exact W.iret (v := 0) hx hb hr (fun t ht hW => ⟨⟨0, (), rfl, h, by rw [ht]; exact hP9, va_K.moved hW.alike hK, hD9⟩, hS.F ht⟩) hS.2.2 d_Md_has_122
                · exact absurd c_114 (by decide +kernel)
              · have h := And.right h c_67
                refine lv_iconst (v := 1) hx hb d_Md_has_70 (by decide) ?_
                refine lv_goto (tgt := 112) hx hb d_Md_has_71 (by decide) ?_
                refine lv_istore_n (lv' := [(3, .int 1), (0, .ref a_md), (1, .int x1), (2, .int x2)]) hx hb d_Md_has_112 rfl hl (by decide) rfl (fun ls hl => ?_)
                refine lv_iload_n hx hb d_Md_has_113 rfl (lv_at hl 0 rfl) ?_
                refine lv_if_eq (tgt := 121) hx hb d_Md_has_114 (by decide) (fun c_114 => ?_) (fun c_114 => ?_)
                · exact absurd c_114 (by decide +kernel)
                · refine lv_iconst (v := 1) hx hb d_Md_has_117 (by decide) ?_
                  refine lv_goto (tgt := 122) hx hb d_Md_has_118 (by decide) ?_
                  rw [← hQ]
                  have hP9 := hP.sub (ws' := [(a_md, .inr (11, [.ref a_md_tape, .int md_size, .int md_at, .int md_token, .int md_tokenPlace, .int md_number, .int md_sign, .int md_bad, .int md_faultPlace, .int md_place, .ref a_md_acts, .ref a_md_actNumbers, .ref a_md_actCounts, .int md_bank, .int md_unaries, .int md_opens, .ref a_md_pile, .int md_piled, .int md_loop, .ref a_md_begins, .ref a_md_goals, .ref a_md_ranks, .ref a_md_choiceCounts, .ref a_md_whens, .ref a_md_becomes, .ref a_md_guessCounts, .ref a_md_guesses, .ref a_md_unaryCounts, .ref a_md_stack, .ref a_md_nexts, .ref a_md_isBegin, .ref a_md_isGoal, .ref a_md_levels, .ref a_md_queue, .ref a_md_hasGuesses, .int md_keptBits, .ref a_md_rounds, .ref a_md_marked, .ref a_md_other, .ref a_md_heights])), (a_md_guessCounts, .inl (cI, 2, .inl md_guessCounts)), (a_md_nexts, .inl (cI, 24576, .inl md_nexts)), (a_md_isBegin, .inl (cZ, 4096, .inl md_isBegin)), (a_md_isGoal, .inl (cZ, 4096, .inl md_isGoal)), (a_md_levels, .inl (cI, 4096, .inl md_levels)), (a_md_hasGuesses, .inl (cI, 4096, .inl md_hasGuesses))]) [6, 0, 1, 2, 3, 4, 5] rfl
                  have hD9 := hD.sub (ws' := [(a_md, .inr (11, [.ref a_md_tape, .int md_size, .int md_at, .int md_token, .int md_tokenPlace, .int md_number, .int md_sign, .int md_bad, .int md_faultPlace, .int md_place, .ref a_md_acts, .ref a_md_actNumbers, .ref a_md_actCounts, .int md_bank, .int md_unaries, .int md_opens, .ref a_md_pile, .int md_piled, .int md_loop, .ref a_md_begins, .ref a_md_goals, .ref a_md_ranks, .ref a_md_choiceCounts, .ref a_md_whens, .ref a_md_becomes, .ref a_md_guessCounts, .ref a_md_guesses, .ref a_md_unaryCounts, .ref a_md_stack, .ref a_md_nexts, .ref a_md_isBegin, .ref a_md_isGoal, .ref a_md_levels, .ref a_md_queue, .ref a_md_hasGuesses, .int md_keptBits, .ref a_md_rounds, .ref a_md_marked, .ref a_md_other, .ref a_md_heights])), (a_md_guessCounts, .inl (cI, 2, .inl md_guessCounts)), (a_md_nexts, .inl (cI, 24576, .inl md_nexts)), (a_md_isBegin, .inl (cZ, 4096, .inl md_isBegin)), (a_md_isGoal, .inl (cZ, 4096, .inl md_isGoal)), (a_md_levels, .inl (cI, 4096, .inl md_levels)), (a_md_hasGuesses, .inl (cI, 4096, .inl md_hasGuesses))]) [6, 0, 1, 2, 3, 4, 5] (by decide) rfl
                  exact W.iret (v := 1) hx hb hr (fun t ht hW => ⟨⟨1, (), rfl, h, by rw [ht]; exact hP9, va_K.moved hW.alike hK, hD9⟩, hS.F ht⟩) hS.2.2 d_Md_has_122
          · have h := And.right h c_44
            refine lv_aload_n hx hb d_Md_has_47 rfl (lv_at hl 0 rfl) ?_
            refine va_get (D := (dC, dI)) (ci := 11) (v := .ref a_md_isGoal) (C := "LoopInductionModel") (T := F_Md) (N := 40) hx hb hts iC_Md hown hK hP 6 rfl rfl 31 (by decide) fl_70 (fun _ h9 => h9) rfl d_Md_has_48 ?_
            refine lv_iload_n hx hb d_Md_has_51 rfl (lv_at hl 1 rfl) ?_
            obtain ⟨hin_52, h⟩ := h
            refine va_zald hx hb hK hP 3 2 rfl rfl hin_52 d_Md_has_52 ?_
            refine lv_goto (tgt := 112) hx hb d_Md_has_53 (by decide) ?_
            refine lv_topi (fun x3_3 ex3_3 => ?_)
            have h := h x3_3 ex3_3
            refine lv_istore_n (lv' := [(3, .int x3_3), (0, .ref a_md), (1, .int x1), (2, .int x2)]) hx hb d_Md_has_112 rfl hl (by decide) rfl (fun ls hl => ?_)
            refine lv_iload_n hx hb d_Md_has_113 rfl (lv_at hl 0 rfl) ?_
            refine lv_if_eq (tgt := 121) hx hb d_Md_has_114 (by decide) (fun c_114 => ?_) (fun c_114 => ?_)
            · have h := And.left h c_114
              refine lv_iconst (v := 0) hx hb d_Md_has_121 (by decide) ?_
              rw [← hQ]
              have hP9 := hP.sub (ws' := [(a_md, .inr (11, [.ref a_md_tape, .int md_size, .int md_at, .int md_token, .int md_tokenPlace, .int md_number, .int md_sign, .int md_bad, .int md_faultPlace, .int md_place, .ref a_md_acts, .ref a_md_actNumbers, .ref a_md_actCounts, .int md_bank, .int md_unaries, .int md_opens, .ref a_md_pile, .int md_piled, .int md_loop, .ref a_md_begins, .ref a_md_goals, .ref a_md_ranks, .ref a_md_choiceCounts, .ref a_md_whens, .ref a_md_becomes, .ref a_md_guessCounts, .ref a_md_guesses, .ref a_md_unaryCounts, .ref a_md_stack, .ref a_md_nexts, .ref a_md_isBegin, .ref a_md_isGoal, .ref a_md_levels, .ref a_md_queue, .ref a_md_hasGuesses, .int md_keptBits, .ref a_md_rounds, .ref a_md_marked, .ref a_md_other, .ref a_md_heights])), (a_md_guessCounts, .inl (cI, 2, .inl md_guessCounts)), (a_md_nexts, .inl (cI, 24576, .inl md_nexts)), (a_md_isBegin, .inl (cZ, 4096, .inl md_isBegin)), (a_md_isGoal, .inl (cZ, 4096, .inl md_isGoal)), (a_md_levels, .inl (cI, 4096, .inl md_levels)), (a_md_hasGuesses, .inl (cI, 4096, .inl md_hasGuesses))]) [6, 0, 1, 2, 3, 4, 5] rfl
              have hD9 := hD.sub (ws' := [(a_md, .inr (11, [.ref a_md_tape, .int md_size, .int md_at, .int md_token, .int md_tokenPlace, .int md_number, .int md_sign, .int md_bad, .int md_faultPlace, .int md_place, .ref a_md_acts, .ref a_md_actNumbers, .ref a_md_actCounts, .int md_bank, .int md_unaries, .int md_opens, .ref a_md_pile, .int md_piled, .int md_loop, .ref a_md_begins, .ref a_md_goals, .ref a_md_ranks, .ref a_md_choiceCounts, .ref a_md_whens, .ref a_md_becomes, .ref a_md_guessCounts, .ref a_md_guesses, .ref a_md_unaryCounts, .ref a_md_stack, .ref a_md_nexts, .ref a_md_isBegin, .ref a_md_isGoal, .ref a_md_levels, .ref a_md_queue, .ref a_md_hasGuesses, .int md_keptBits, .ref a_md_rounds, .ref a_md_marked, .ref a_md_other, .ref a_md_heights])), (a_md_guessCounts, .inl (cI, 2, .inl md_guessCounts)), (a_md_nexts, .inl (cI, 24576, .inl md_nexts)), (a_md_isBegin, .inl (cZ, 4096, .inl md_isBegin)), (a_md_isGoal, .inl (cZ, 4096, .inl md_isGoal)), (a_md_levels, .inl (cI, 4096, .inl md_levels)), (a_md_hasGuesses, .inl (cI, 4096, .inl md_hasGuesses))]) [6, 0, 1, 2, 3, 4, 5] (by decide) rfl
              exact W.iret (v := 0) hx hb hr (fun t ht hW => ⟨⟨0, (), rfl, h, by rw [ht]; exact hP9, va_K.moved hW.alike hK, hD9⟩, hS.F ht⟩) hS.2.2 d_Md_has_122
            · have h := And.right h c_114
              refine lv_iconst (v := 1) hx hb d_Md_has_117 (by decide) ?_
              refine lv_goto (tgt := 122) hx hb d_Md_has_118 (by decide) ?_
              rw [← hQ]
              have hP9 := hP.sub (ws' := [(a_md, .inr (11, [.ref a_md_tape, .int md_size, .int md_at, .int md_token, .int md_tokenPlace, .int md_number, .int md_sign, .int md_bad, .int md_faultPlace, .int md_place, .ref a_md_acts, .ref a_md_actNumbers, .ref a_md_actCounts, .int md_bank, .int md_unaries, .int md_opens, .ref a_md_pile, .int md_piled, .int md_loop, .ref a_md_begins, .ref a_md_goals, .ref a_md_ranks, .ref a_md_choiceCounts, .ref a_md_whens, .ref a_md_becomes, .ref a_md_guessCounts, .ref a_md_guesses, .ref a_md_unaryCounts, .ref a_md_stack, .ref a_md_nexts, .ref a_md_isBegin, .ref a_md_isGoal, .ref a_md_levels, .ref a_md_queue, .ref a_md_hasGuesses, .int md_keptBits, .ref a_md_rounds, .ref a_md_marked, .ref a_md_other, .ref a_md_heights])), (a_md_guessCounts, .inl (cI, 2, .inl md_guessCounts)), (a_md_nexts, .inl (cI, 24576, .inl md_nexts)), (a_md_isBegin, .inl (cZ, 4096, .inl md_isBegin)), (a_md_isGoal, .inl (cZ, 4096, .inl md_isGoal)), (a_md_levels, .inl (cI, 4096, .inl md_levels)), (a_md_hasGuesses, .inl (cI, 4096, .inl md_hasGuesses))]) [6, 0, 1, 2, 3, 4, 5] rfl
              have hD9 := hD.sub (ws' := [(a_md, .inr (11, [.ref a_md_tape, .int md_size, .int md_at, .int md_token, .int md_tokenPlace, .int md_number, .int md_sign, .int md_bad, .int md_faultPlace, .int md_place, .ref a_md_acts, .ref a_md_actNumbers, .ref a_md_actCounts, .int md_bank, .int md_unaries, .int md_opens, .ref a_md_pile, .int md_piled, .int md_loop, .ref a_md_begins, .ref a_md_goals, .ref a_md_ranks, .ref a_md_choiceCounts, .ref a_md_whens, .ref a_md_becomes, .ref a_md_guessCounts, .ref a_md_guesses, .ref a_md_unaryCounts, .ref a_md_stack, .ref a_md_nexts, .ref a_md_isBegin, .ref a_md_isGoal, .ref a_md_levels, .ref a_md_queue, .ref a_md_hasGuesses, .int md_keptBits, .ref a_md_rounds, .ref a_md_marked, .ref a_md_other, .ref a_md_heights])), (a_md_guessCounts, .inl (cI, 2, .inl md_guessCounts)), (a_md_nexts, .inl (cI, 24576, .inl md_nexts)), (a_md_isBegin, .inl (cZ, 4096, .inl md_isBegin)), (a_md_isGoal, .inl (cZ, 4096, .inl md_isGoal)), (a_md_levels, .inl (cI, 4096, .inl md_levels)), (a_md_hasGuesses, .inl (cI, 4096, .inl md_hasGuesses))]) [6, 0, 1, 2, 3, 4, 5] (by decide) rfl
              exact W.iret (v := 1) hx hb hr (fun t ht hW => ⟨⟨1, (), rfl, h, by rw [ht]; exact hP9, va_K.moved hW.alike hK, hD9⟩, hS.F ht⟩) hS.2.2 d_Md_has_122
        · have h := And.right h c_30
          refine lv_aload_n hx hb d_Md_has_33 rfl (lv_at hl 0 rfl) ?_
          refine va_get (D := (dC, dI)) (ci := 11) (v := .ref a_md_isBegin) (C := "LoopInductionModel") (T := F_Md) (N := 40) hx hb hts iC_Md hown hK hP 6 rfl rfl 30 (by decide) fl_66 (fun _ h9 => h9) rfl d_Md_has_34 ?_
          refine lv_iload_n hx hb d_Md_has_37 rfl (lv_at hl 1 rfl) ?_
          obtain ⟨hin_38, h⟩ := h
          refine va_zald hx hb hK hP 2 2 rfl rfl hin_38 d_Md_has_38 ?_
          refine lv_goto (tgt := 112) hx hb d_Md_has_39 (by decide) ?_
          refine lv_topi (fun x3_4 ex3_4 => ?_)
          have h := h x3_4 ex3_4
          refine lv_istore_n (lv' := [(3, .int x3_4), (0, .ref a_md), (1, .int x1), (2, .int x2)]) hx hb d_Md_has_112 rfl hl (by decide) rfl (fun ls hl => ?_)
          refine lv_iload_n hx hb d_Md_has_113 rfl (lv_at hl 0 rfl) ?_
          refine lv_if_eq (tgt := 121) hx hb d_Md_has_114 (by decide) (fun c_114 => ?_) (fun c_114 => ?_)
          · have h := And.left h c_114
            refine lv_iconst (v := 0) hx hb d_Md_has_121 (by decide) ?_
            rw [← hQ]
            have hP9 := hP.sub (ws' := [(a_md, .inr (11, [.ref a_md_tape, .int md_size, .int md_at, .int md_token, .int md_tokenPlace, .int md_number, .int md_sign, .int md_bad, .int md_faultPlace, .int md_place, .ref a_md_acts, .ref a_md_actNumbers, .ref a_md_actCounts, .int md_bank, .int md_unaries, .int md_opens, .ref a_md_pile, .int md_piled, .int md_loop, .ref a_md_begins, .ref a_md_goals, .ref a_md_ranks, .ref a_md_choiceCounts, .ref a_md_whens, .ref a_md_becomes, .ref a_md_guessCounts, .ref a_md_guesses, .ref a_md_unaryCounts, .ref a_md_stack, .ref a_md_nexts, .ref a_md_isBegin, .ref a_md_isGoal, .ref a_md_levels, .ref a_md_queue, .ref a_md_hasGuesses, .int md_keptBits, .ref a_md_rounds, .ref a_md_marked, .ref a_md_other, .ref a_md_heights])), (a_md_guessCounts, .inl (cI, 2, .inl md_guessCounts)), (a_md_nexts, .inl (cI, 24576, .inl md_nexts)), (a_md_isBegin, .inl (cZ, 4096, .inl md_isBegin)), (a_md_isGoal, .inl (cZ, 4096, .inl md_isGoal)), (a_md_levels, .inl (cI, 4096, .inl md_levels)), (a_md_hasGuesses, .inl (cI, 4096, .inl md_hasGuesses))]) [6, 0, 1, 2, 3, 4, 5] rfl
            have hD9 := hD.sub (ws' := [(a_md, .inr (11, [.ref a_md_tape, .int md_size, .int md_at, .int md_token, .int md_tokenPlace, .int md_number, .int md_sign, .int md_bad, .int md_faultPlace, .int md_place, .ref a_md_acts, .ref a_md_actNumbers, .ref a_md_actCounts, .int md_bank, .int md_unaries, .int md_opens, .ref a_md_pile, .int md_piled, .int md_loop, .ref a_md_begins, .ref a_md_goals, .ref a_md_ranks, .ref a_md_choiceCounts, .ref a_md_whens, .ref a_md_becomes, .ref a_md_guessCounts, .ref a_md_guesses, .ref a_md_unaryCounts, .ref a_md_stack, .ref a_md_nexts, .ref a_md_isBegin, .ref a_md_isGoal, .ref a_md_levels, .ref a_md_queue, .ref a_md_hasGuesses, .int md_keptBits, .ref a_md_rounds, .ref a_md_marked, .ref a_md_other, .ref a_md_heights])), (a_md_guessCounts, .inl (cI, 2, .inl md_guessCounts)), (a_md_nexts, .inl (cI, 24576, .inl md_nexts)), (a_md_isBegin, .inl (cZ, 4096, .inl md_isBegin)), (a_md_isGoal, .inl (cZ, 4096, .inl md_isGoal)), (a_md_levels, .inl (cI, 4096, .inl md_levels)), (a_md_hasGuesses, .inl (cI, 4096, .inl md_hasGuesses))]) [6, 0, 1, 2, 3, 4, 5] (by decide) rfl
            exact W.iret (v := 0) hx hb hr (fun t ht hW => ⟨⟨0, (), rfl, h, by rw [ht]; exact hP9, va_K.moved hW.alike hK, hD9⟩, hS.F ht⟩) hS.2.2 d_Md_has_122
          · have h := And.right h c_114
            refine lv_iconst (v := 1) hx hb d_Md_has_117 (by decide) ?_
            refine lv_goto (tgt := 122) hx hb d_Md_has_118 (by decide) ?_
            rw [← hQ]
            have hP9 := hP.sub (ws' := [(a_md, .inr (11, [.ref a_md_tape, .int md_size, .int md_at, .int md_token, .int md_tokenPlace, .int md_number, .int md_sign, .int md_bad, .int md_faultPlace, .int md_place, .ref a_md_acts, .ref a_md_actNumbers, .ref a_md_actCounts, .int md_bank, .int md_unaries, .int md_opens, .ref a_md_pile, .int md_piled, .int md_loop, .ref a_md_begins, .ref a_md_goals, .ref a_md_ranks, .ref a_md_choiceCounts, .ref a_md_whens, .ref a_md_becomes, .ref a_md_guessCounts, .ref a_md_guesses, .ref a_md_unaryCounts, .ref a_md_stack, .ref a_md_nexts, .ref a_md_isBegin, .ref a_md_isGoal, .ref a_md_levels, .ref a_md_queue, .ref a_md_hasGuesses, .int md_keptBits, .ref a_md_rounds, .ref a_md_marked, .ref a_md_other, .ref a_md_heights])), (a_md_guessCounts, .inl (cI, 2, .inl md_guessCounts)), (a_md_nexts, .inl (cI, 24576, .inl md_nexts)), (a_md_isBegin, .inl (cZ, 4096, .inl md_isBegin)), (a_md_isGoal, .inl (cZ, 4096, .inl md_isGoal)), (a_md_levels, .inl (cI, 4096, .inl md_levels)), (a_md_hasGuesses, .inl (cI, 4096, .inl md_hasGuesses))]) [6, 0, 1, 2, 3, 4, 5] rfl
            have hD9 := hD.sub (ws' := [(a_md, .inr (11, [.ref a_md_tape, .int md_size, .int md_at, .int md_token, .int md_tokenPlace, .int md_number, .int md_sign, .int md_bad, .int md_faultPlace, .int md_place, .ref a_md_acts, .ref a_md_actNumbers, .ref a_md_actCounts, .int md_bank, .int md_unaries, .int md_opens, .ref a_md_pile, .int md_piled, .int md_loop, .ref a_md_begins, .ref a_md_goals, .ref a_md_ranks, .ref a_md_choiceCounts, .ref a_md_whens, .ref a_md_becomes, .ref a_md_guessCounts, .ref a_md_guesses, .ref a_md_unaryCounts, .ref a_md_stack, .ref a_md_nexts, .ref a_md_isBegin, .ref a_md_isGoal, .ref a_md_levels, .ref a_md_queue, .ref a_md_hasGuesses, .int md_keptBits, .ref a_md_rounds, .ref a_md_marked, .ref a_md_other, .ref a_md_heights])), (a_md_guessCounts, .inl (cI, 2, .inl md_guessCounts)), (a_md_nexts, .inl (cI, 24576, .inl md_nexts)), (a_md_isBegin, .inl (cZ, 4096, .inl md_isBegin)), (a_md_isGoal, .inl (cZ, 4096, .inl md_isGoal)), (a_md_levels, .inl (cI, 4096, .inl md_levels)), (a_md_hasGuesses, .inl (cI, 4096, .inl md_hasGuesses))]) [6, 0, 1, 2, 3, 4, 5] (by decide) rfl
            exact W.iret (v := 1) hx hb hr (fun t ht hW => ⟨⟨1, (), rfl, h, by rw [ht]; exact hP9, va_K.moved hW.alike hK, hD9⟩, hS.F ht⟩) hS.2.2 d_Md_has_122
      · have h := And.right h c_24
        refine lv_iconst (v := (-1)) hx hb d_Md_has_27 (by decide) ?_
        rw [← hQ]
        have hP9 := hP.sub (ws' := [(a_md, .inr (11, [.ref a_md_tape, .int md_size, .int md_at, .int md_token, .int md_tokenPlace, .int md_number, .int md_sign, .int md_bad, .int md_faultPlace, .int md_place, .ref a_md_acts, .ref a_md_actNumbers, .ref a_md_actCounts, .int md_bank, .int md_unaries, .int md_opens, .ref a_md_pile, .int md_piled, .int md_loop, .ref a_md_begins, .ref a_md_goals, .ref a_md_ranks, .ref a_md_choiceCounts, .ref a_md_whens, .ref a_md_becomes, .ref a_md_guessCounts, .ref a_md_guesses, .ref a_md_unaryCounts, .ref a_md_stack, .ref a_md_nexts, .ref a_md_isBegin, .ref a_md_isGoal, .ref a_md_levels, .ref a_md_queue, .ref a_md_hasGuesses, .int md_keptBits, .ref a_md_rounds, .ref a_md_marked, .ref a_md_other, .ref a_md_heights])), (a_md_guessCounts, .inl (cI, 2, .inl md_guessCounts)), (a_md_nexts, .inl (cI, 24576, .inl md_nexts)), (a_md_isBegin, .inl (cZ, 4096, .inl md_isBegin)), (a_md_isGoal, .inl (cZ, 4096, .inl md_isGoal)), (a_md_levels, .inl (cI, 4096, .inl md_levels)), (a_md_hasGuesses, .inl (cI, 4096, .inl md_hasGuesses))]) [6, 0, 1, 2, 3, 4, 5] rfl
        have hD9 := hD.sub (ws' := [(a_md, .inr (11, [.ref a_md_tape, .int md_size, .int md_at, .int md_token, .int md_tokenPlace, .int md_number, .int md_sign, .int md_bad, .int md_faultPlace, .int md_place, .ref a_md_acts, .ref a_md_actNumbers, .ref a_md_actCounts, .int md_bank, .int md_unaries, .int md_opens, .ref a_md_pile, .int md_piled, .int md_loop, .ref a_md_begins, .ref a_md_goals, .ref a_md_ranks, .ref a_md_choiceCounts, .ref a_md_whens, .ref a_md_becomes, .ref a_md_guessCounts, .ref a_md_guesses, .ref a_md_unaryCounts, .ref a_md_stack, .ref a_md_nexts, .ref a_md_isBegin, .ref a_md_isGoal, .ref a_md_levels, .ref a_md_queue, .ref a_md_hasGuesses, .int md_keptBits, .ref a_md_rounds, .ref a_md_marked, .ref a_md_other, .ref a_md_heights])), (a_md_guessCounts, .inl (cI, 2, .inl md_guessCounts)), (a_md_nexts, .inl (cI, 24576, .inl md_nexts)), (a_md_isBegin, .inl (cZ, 4096, .inl md_isBegin)), (a_md_isGoal, .inl (cZ, 4096, .inl md_isGoal)), (a_md_levels, .inl (cI, 4096, .inl md_levels)), (a_md_hasGuesses, .inl (cI, 4096, .inl md_hasGuesses))]) [6, 0, 1, 2, 3, 4, 5] (by decide) rfl
        exact W.iret (v := (-1)) hx hb hr (fun t ht hW => ⟨⟨(-1), (), rfl, h, by rw [ht]; exact hP9, va_K.moved hW.alike hK, hD9⟩, hS.F ht⟩) hS.2.2 d_Md_has_28
