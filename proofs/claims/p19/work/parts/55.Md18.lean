abbrev b_Md_next : ByteArray := prog_13_method_43_code
abbrev y_Md_next : MethodName := ⟨"LoopInductionModel", "next", "(II)I"⟩
abbrev w_Md_next : List Cond := .code y_Md_next b_Md_next 3 (some .int) :: allW
theorem pn_Md_next : y_Md_next.cls ≠ "java/lang/invoke/MethodHandle" ∧ y_Md_next.cls ≠ "java/lang/invoke/VarHandle" ∧ (parseMethodDescriptor y_Md_next.desc).map (fun d => d.parameters.length) = some 2 := by decide +kernel
theorem pd_Md_next : y_Md_next.cls = "LoopInductionModel" ∧ y_Md_next.cls ≠ "java/lang/invoke/MethodHandle" ∧ y_Md_next.cls ≠ "java/lang/invoke/VarHandle" ∧ (parseMethodDescriptor y_Md_next.desc).map (fun d => d.parameters.length) = some 2 := by decide +kernel
abbrev b_Md_rank : ByteArray := prog_13_method_44_code
abbrev y_Md_rank : MethodName := ⟨"LoopInductionModel", "rank", "(I)I"⟩
abbrev w_Md_rank : List Cond := .code y_Md_rank b_Md_rank 2 (some .int) :: allW
theorem pn_Md_rank : y_Md_rank.cls ≠ "java/lang/invoke/MethodHandle" ∧ y_Md_rank.cls ≠ "java/lang/invoke/VarHandle" ∧ (parseMethodDescriptor y_Md_rank.desc).map (fun d => d.parameters.length) = some 1 := by decide +kernel
theorem pd_Md_rank : y_Md_rank.cls = "LoopInductionModel" ∧ y_Md_rank.cls ≠ "java/lang/invoke/MethodHandle" ∧ y_Md_rank.cls ≠ "java/lang/invoke/VarHandle" ∧ (parseMethodDescriptor y_Md_rank.desc).map (fun d => d.parameters.length) = some 1 := by decide +kernel
abbrev b_Md_unlikeNexts : ByteArray := prog_13_method_46_code
abbrev y_Md_unlikeNexts : MethodName := ⟨"LoopInductionModel", "unlikeNexts", "(I)I"⟩
abbrev w_Md_unlikeNexts : List Cond := .code y_Md_unlikeNexts b_Md_unlikeNexts 7 (some .int) :: allW
theorem pn_Md_unlikeNexts : y_Md_unlikeNexts.cls ≠ "java/lang/invoke/MethodHandle" ∧ y_Md_unlikeNexts.cls ≠ "java/lang/invoke/VarHandle" ∧ (parseMethodDescriptor y_Md_unlikeNexts.desc).map (fun d => d.parameters.length) = some 1 := by decide +kernel
theorem pd_Md_unlikeNexts : y_Md_unlikeNexts.cls = "LoopInductionModel" ∧ y_Md_unlikeNexts.cls ≠ "java/lang/invoke/MethodHandle" ∧ y_Md_unlikeNexts.cls ≠ "java/lang/invoke/VarHandle" ∧ (parseMethodDescriptor y_Md_unlikeNexts.desc).map (fun d => d.parameters.length) = some 1 := by decide +kernel
theorem d_Md_next_0 : decode b_Md_next 0 = .ok (.aload_n 0, 1) := by decide +kernel
theorem d_Md_next_1 : decode b_Md_next 1 = .ok (.iload_n 1, 1) := by decide +kernel
theorem d_Md_next_2 : decode b_Md_next 2 = .ok (.invokevirtual 267, 3) := by decide +kernel
theorem d_Md_next_5 : decode b_Md_next 5 = .ok (.ifCond .eq 13, 3) := by decide +kernel
theorem d_Md_next_8 : decode b_Md_next 8 = .ok (.iload_n 2, 1) := by decide +kernel
theorem d_Md_next_9 : decode b_Md_next 9 = .ok (.ifCond .lt 9, 3) := by decide +kernel
theorem d_Md_next_12 : decode b_Md_next 12 = .ok (.iload_n 2, 1) := by decide +kernel
theorem d_Md_next_13 : decode b_Md_next 13 = .ok (.bipush 6, 2) := by decide +kernel
theorem d_Md_next_15 : decode b_Md_next 15 = .ok (.if_icmp .lt 7, 3) := by decide +kernel
theorem d_Md_next_18 : decode b_Md_next 18 = .ok (.iconst (-1), 1) := by decide +kernel
theorem d_Md_next_19 : decode b_Md_next 19 = .ok (.goto 14, 3) := by decide +kernel
theorem d_Md_next_22 : decode b_Md_next 22 = .ok (.aload_n 0, 1) := by decide +kernel
theorem d_Md_next_23 : decode b_Md_next 23 = .ok (.getfield 63, 3) := by decide +kernel
theorem d_Md_next_26 : decode b_Md_next 26 = .ok (.bipush 6, 2) := by decide +kernel
theorem d_Md_next_28 : decode b_Md_next 28 = .ok (.iload_n 1, 1) := by decide +kernel
theorem d_Md_next_29 : decode b_Md_next 29 = .ok (.imul, 1) := by decide +kernel
theorem d_Md_next_30 : decode b_Md_next 30 = .ok (.iload_n 2, 1) := by decide +kernel
theorem d_Md_next_31 : decode b_Md_next 31 = .ok (.iadd, 1) := by decide +kernel
theorem d_Md_next_32 : decode b_Md_next 32 = .ok (.iaload, 1) := by decide +kernel
theorem d_Md_next_33 : decode b_Md_next 33 = .ok (.ireturn, 1) := by decide +kernel
theorem d_Md_rank_0 : decode b_Md_rank 0 = .ok (.aload_n 0, 1) := by decide +kernel
theorem d_Md_rank_1 : decode b_Md_rank 1 = .ok (.iload_n 1, 1) := by decide +kernel
theorem d_Md_rank_2 : decode b_Md_rank 2 = .ok (.invokevirtual 267, 3) := by decide +kernel
theorem d_Md_rank_5 : decode b_Md_rank 5 = .ok (.ifCond .eq 15, 3) := by decide +kernel
theorem d_Md_rank_8 : decode b_Md_rank 8 = .ok (.aload_n 0, 1) := by decide +kernel
theorem d_Md_rank_9 : decode b_Md_rank 9 = .ok (.getfield 39, 3) := by decide +kernel
theorem d_Md_rank_12 : decode b_Md_rank 12 = .ok (.aload_n 0, 1) := by decide +kernel
theorem d_Md_rank_13 : decode b_Md_rank 13 = .ok (.getfield 30, 3) := by decide +kernel
theorem d_Md_rank_16 : decode b_Md_rank 16 = .ok (.iaload, 1) := by decide +kernel
theorem d_Md_rank_17 : decode b_Md_rank 17 = .ok (.ifCond .ge 7, 3) := by decide +kernel
theorem d_Md_rank_20 : decode b_Md_rank 20 = .ok (.iconst (-1), 1) := by decide +kernel
theorem d_Md_rank_21 : decode b_Md_rank 21 = .ok (.goto 17, 3) := by decide +kernel
theorem d_Md_rank_24 : decode b_Md_rank 24 = .ok (.aload_n 0, 1) := by decide +kernel
theorem d_Md_rank_25 : decode b_Md_rank 25 = .ok (.aload_n 0, 1) := by decide +kernel
theorem d_Md_rank_26 : decode b_Md_rank 26 = .ok (.getfield 39, 3) := by decide +kernel
theorem d_Md_rank_29 : decode b_Md_rank 29 = .ok (.aload_n 0, 1) := by decide +kernel
theorem d_Md_rank_30 : decode b_Md_rank 30 = .ok (.getfield 30, 3) := by decide +kernel
theorem d_Md_rank_33 : decode b_Md_rank 33 = .ok (.iaload, 1) := by decide +kernel
theorem d_Md_rank_34 : decode b_Md_rank 34 = .ok (.iload_n 1, 1) := by decide +kernel
theorem d_Md_rank_35 : decode b_Md_rank 35 = .ok (.invokevirtual 252, 3) := by decide +kernel
theorem d_Md_rank_38 : decode b_Md_rank 38 = .ok (.ireturn, 1) := by decide +kernel
theorem d_Md_unlikeNexts_0 : decode b_Md_unlikeNexts 0 = .ok (.iconst 0, 1) := by decide +kernel
theorem d_Md_unlikeNexts_1 : decode b_Md_unlikeNexts 1 = .ok (.istore_n 2, 1) := by decide +kernel
theorem d_Md_unlikeNexts_2 : decode b_Md_unlikeNexts 2 = .ok (.iconst 0, 1) := by decide +kernel
theorem d_Md_unlikeNexts_3 : decode b_Md_unlikeNexts 3 = .ok (.istore_n 3, 1) := by decide +kernel
theorem d_Md_unlikeNexts_4 : decode b_Md_unlikeNexts 4 = .ok (.iload_n 3, 1) := by decide +kernel
theorem d_Md_unlikeNexts_5 : decode b_Md_unlikeNexts 5 = .ok (.bipush 6, 2) := by decide +kernel
theorem d_Md_unlikeNexts_7 : decode b_Md_unlikeNexts 7 = .ok (.if_icmp .ge 91, 3) := by decide +kernel
theorem d_Md_unlikeNexts_10 : decode b_Md_unlikeNexts 10 = .ok (.aload_n 0, 1) := by decide +kernel
theorem d_Md_unlikeNexts_11 : decode b_Md_unlikeNexts 11 = .ok (.getfield 63, 3) := by decide +kernel
theorem d_Md_unlikeNexts_14 : decode b_Md_unlikeNexts 14 = .ok (.bipush 6, 2) := by decide +kernel
theorem d_Md_unlikeNexts_16 : decode b_Md_unlikeNexts 16 = .ok (.iload_n 1, 1) := by decide +kernel
theorem d_Md_unlikeNexts_17 : decode b_Md_unlikeNexts 17 = .ok (.imul, 1) := by decide +kernel
theorem d_Md_unlikeNexts_18 : decode b_Md_unlikeNexts 18 = .ok (.iload_n 3, 1) := by decide +kernel
theorem d_Md_unlikeNexts_19 : decode b_Md_unlikeNexts 19 = .ok (.iadd, 1) := by decide +kernel
theorem d_Md_unlikeNexts_20 : decode b_Md_unlikeNexts 20 = .ok (.iaload, 1) := by decide +kernel
theorem d_Md_unlikeNexts_21 : decode b_Md_unlikeNexts 21 = .ok (.istore 4, 2) := by decide +kernel
theorem d_Md_unlikeNexts_23 : decode b_Md_unlikeNexts 23 = .ok (.iload 4, 2) := by decide +kernel
theorem d_Md_unlikeNexts_25 : decode b_Md_unlikeNexts 25 = .ok (.ifCond .lt 7, 3) := by decide +kernel
theorem d_Md_unlikeNexts_28 : decode b_Md_unlikeNexts 28 = .ok (.iconst 1, 1) := by decide +kernel
theorem d_Md_unlikeNexts_29 : decode b_Md_unlikeNexts 29 = .ok (.goto 4, 3) := by decide +kernel
theorem d_Md_unlikeNexts_32 : decode b_Md_unlikeNexts 32 = .ok (.iconst 0, 1) := by decide +kernel
theorem d_Md_unlikeNexts_33 : decode b_Md_unlikeNexts 33 = .ok (.istore 5, 2) := by decide +kernel
theorem d_Md_unlikeNexts_35 : decode b_Md_unlikeNexts 35 = .ok (.iconst 0, 1) := by decide +kernel
theorem d_Md_unlikeNexts_36 : decode b_Md_unlikeNexts 36 = .ok (.istore 6, 2) := by decide +kernel
theorem d_Md_unlikeNexts_38 : decode b_Md_unlikeNexts 38 = .ok (.iload 6, 2) := by decide +kernel
theorem d_Md_unlikeNexts_40 : decode b_Md_unlikeNexts 40 = .ok (.iload_n 3, 1) := by decide +kernel
theorem d_Md_unlikeNexts_41 : decode b_Md_unlikeNexts 41 = .ok (.if_icmp .ge 38, 3) := by decide +kernel
theorem d_Md_unlikeNexts_44 : decode b_Md_unlikeNexts 44 = .ok (.iload 5, 2) := by decide +kernel
theorem d_Md_unlikeNexts_46 : decode b_Md_unlikeNexts 46 = .ok (.ifCond .eq 24, 3) := by decide +kernel
theorem d_Md_unlikeNexts_49 : decode b_Md_unlikeNexts 49 = .ok (.aload_n 0, 1) := by decide +kernel
theorem d_Md_unlikeNexts_50 : decode b_Md_unlikeNexts 50 = .ok (.getfield 63, 3) := by decide +kernel
theorem d_Md_unlikeNexts_53 : decode b_Md_unlikeNexts 53 = .ok (.bipush 6, 2) := by decide +kernel
theorem d_Md_unlikeNexts_55 : decode b_Md_unlikeNexts 55 = .ok (.iload_n 1, 1) := by decide +kernel
theorem d_Md_unlikeNexts_56 : decode b_Md_unlikeNexts 56 = .ok (.imul, 1) := by decide +kernel
theorem d_Md_unlikeNexts_57 : decode b_Md_unlikeNexts 57 = .ok (.iload 6, 2) := by decide +kernel
theorem d_Md_unlikeNexts_59 : decode b_Md_unlikeNexts 59 = .ok (.iadd, 1) := by decide +kernel
theorem d_Md_unlikeNexts_60 : decode b_Md_unlikeNexts 60 = .ok (.iaload, 1) := by decide +kernel
theorem d_Md_unlikeNexts_61 : decode b_Md_unlikeNexts 61 = .ok (.iload 4, 2) := by decide +kernel
theorem d_Md_unlikeNexts_63 : decode b_Md_unlikeNexts 63 = .ok (.if_icmp .eq 7, 3) := by decide +kernel
theorem d_Md_unlikeNexts_66 : decode b_Md_unlikeNexts 66 = .ok (.iconst 1, 1) := by decide +kernel
theorem d_Md_unlikeNexts_67 : decode b_Md_unlikeNexts 67 = .ok (.goto 4, 3) := by decide +kernel
theorem d_Md_unlikeNexts_70 : decode b_Md_unlikeNexts 70 = .ok (.iconst 0, 1) := by decide +kernel
theorem d_Md_unlikeNexts_71 : decode b_Md_unlikeNexts 71 = .ok (.istore 5, 2) := by decide +kernel
theorem d_Md_unlikeNexts_73 : decode b_Md_unlikeNexts 73 = .ok (.iinc 6 1, 3) := by decide +kernel
theorem d_Md_unlikeNexts_76 : decode b_Md_unlikeNexts 76 = .ok (.goto (-38), 3) := by decide +kernel
theorem d_Md_unlikeNexts_79 : decode b_Md_unlikeNexts 79 = .ok (.iload_n 2, 1) := by decide +kernel
theorem d_Md_unlikeNexts_80 : decode b_Md_unlikeNexts 80 = .ok (.iload 5, 2) := by decide +kernel
theorem d_Md_unlikeNexts_82 : decode b_Md_unlikeNexts 82 = .ok (.ifCond .eq 7, 3) := by decide +kernel
theorem d_Md_unlikeNexts_85 : decode b_Md_unlikeNexts 85 = .ok (.iconst 1, 1) := by decide +kernel
theorem d_Md_unlikeNexts_86 : decode b_Md_unlikeNexts 86 = .ok (.goto 4, 3) := by decide +kernel
theorem d_Md_unlikeNexts_89 : decode b_Md_unlikeNexts 89 = .ok (.iconst 0, 1) := by decide +kernel
theorem d_Md_unlikeNexts_90 : decode b_Md_unlikeNexts 90 = .ok (.iadd, 1) := by decide +kernel
theorem d_Md_unlikeNexts_91 : decode b_Md_unlikeNexts 91 = .ok (.istore_n 2, 1) := by decide +kernel
theorem d_Md_unlikeNexts_92 : decode b_Md_unlikeNexts 92 = .ok (.iinc 3 1, 3) := by decide +kernel
theorem d_Md_unlikeNexts_95 : decode b_Md_unlikeNexts 95 = .ok (.goto (-91), 3) := by decide +kernel
theorem d_Md_unlikeNexts_98 : decode b_Md_unlikeNexts 98 = .ok (.iload_n 2, 1) := by decide +kernel
theorem d_Md_unlikeNexts_99 : decode b_Md_unlikeNexts 99 = .ok (.ireturn, 1) := by decide +kernel
set_option maxHeartbeats 4000000 in
set_option maxRecDepth 100000 in
theorem c_Md_next (l : Launch) (dC : Nat → ClassId) (dI : Nat → Nat → Nat) (cI cB cZ : ClassId) (adK adV : Nat → Nat) (sz : Nat) (a_md a_md_tape a_md_acts a_md_actNumbers a_md_actCounts a_md_pile a_md_begins a_md_goals a_md_ranks a_md_choiceCounts a_md_whens a_md_becomes a_md_guessCounts a_md_guesses a_md_unaryCounts a_md_stack a_md_nexts a_md_isBegin a_md_isGoal a_md_levels a_md_queue a_md_hasGuesses a_md_rounds a_md_marked a_md_other a_md_heights : Nat) (md_size : Int32) (md_at : Int32) (md_token : Int32) (md_tokenPlace : Int32) (md_number : Int32) (md_sign : Int32) (md_bad : Int32) (md_faultPlace : Int32) (md_place : Int32) (md_bank : Int32) (md_unaries : Int32) (md_opens : Int32) (md_piled : Int32) (md_loop : Int32) (md_keptBits : Int32) (md_nexts : Nat → Int32) (x1 : Int32) (x2 : Int32) (post : Int32 → Prop) (h : wp_Md_next x1 x2 md_loop md_nexts post) : Met l y_Md_next w_Md_next ({ frames := 1, cells := 0, slots := 0, locals := 21 }) (pc_ (dC, dI) [(cI, .int), (cB, .byte), (cZ, .boolean)] [(a_md, .inr (11, [.ref a_md_tape, .int md_size, .int md_at, .int md_token, .int md_tokenPlace, .int md_number, .int md_sign, .int md_bad, .int md_faultPlace, .int md_place, .ref a_md_acts, .ref a_md_actNumbers, .ref a_md_actCounts, .int md_bank, .int md_unaries, .int md_opens, .ref a_md_pile, .int md_piled, .int md_loop, .ref a_md_begins, .ref a_md_goals, .ref a_md_ranks, .ref a_md_choiceCounts, .ref a_md_whens, .ref a_md_becomes, .ref a_md_guessCounts, .ref a_md_guesses, .ref a_md_unaryCounts, .ref a_md_stack, .ref a_md_nexts, .ref a_md_isBegin, .ref a_md_isGoal, .ref a_md_levels, .ref a_md_queue, .ref a_md_hasGuesses, .int md_keptBits, .ref a_md_rounds, .ref a_md_marked, .ref a_md_other, .ref a_md_heights])), (a_md_nexts, .inl (cI, 24576, .inl md_nexts))] sz adK adV [.ref a_md, .int x1, .int x2]) (va_Qi (fun (r : Int32) (u : Unit) => post r ) (fun (u : Unit) t => bw_ (dC, dI) [(cI, .int), (cB, .byte), (cZ, .boolean)] (va_A [(a_md, .inr (11, [.ref a_md_tape, .int md_size, .int md_at, .int md_token, .int md_tokenPlace, .int md_number, .int md_sign, .int md_bad, .int md_faultPlace, .int md_place, .ref a_md_acts, .ref a_md_actNumbers, .ref a_md_actCounts, .int md_bank, .int md_unaries, .int md_opens, .ref a_md_pile, .int md_piled, .int md_loop, .ref a_md_begins, .ref a_md_goals, .ref a_md_ranks, .ref a_md_choiceCounts, .ref a_md_whens, .ref a_md_becomes, .ref a_md_guessCounts, .ref a_md_guesses, .ref a_md_unaryCounts, .ref a_md_stack, .ref a_md_nexts, .ref a_md_isBegin, .ref a_md_isGoal, .ref a_md_levels, .ref a_md_queue, .ref a_md_hasGuesses, .int md_keptBits, .ref a_md_rounds, .ref a_md_marked, .ref a_md_other, .ref a_md_heights])), (a_md_nexts, .inl (cI, 24576, .inl md_nexts))] sz) [(a_md, .inr (11, [.ref a_md_tape, .int md_size, .int md_at, .int md_token, .int md_tokenPlace, .int md_number, .int md_sign, .int md_bad, .int md_faultPlace, .int md_place, .ref a_md_acts, .ref a_md_actNumbers, .ref a_md_actCounts, .int md_bank, .int md_unaries, .int md_opens, .ref a_md_pile, .int md_piled, .int md_loop, .ref a_md_begins, .ref a_md_goals, .ref a_md_ranks, .ref a_md_choiceCounts, .ref a_md_whens, .ref a_md_becomes, .ref a_md_guessCounts, .ref a_md_guesses, .ref a_md_unaryCounts, .ref a_md_stack, .ref a_md_nexts, .ref a_md_isBegin, .ref a_md_isGoal, .ref a_md_levels, .ref a_md_queue, .ref a_md_hasGuesses, .int md_keptBits, .ref a_md_rounds, .ref a_md_marked, .ref a_md_other, .ref a_md_heights])), (a_md_nexts, .inl (cI, 24576, .inl md_nexts))] t) (va_A [(a_md, .inr (11, [.ref a_md_tape, .int md_size, .int md_at, .int md_token, .int md_tokenPlace, .int md_number, .int md_sign, .int md_bad, .int md_faultPlace, .int md_place, .ref a_md_acts, .ref a_md_actNumbers, .ref a_md_actCounts, .int md_bank, .int md_unaries, .int md_opens, .ref a_md_pile, .int md_piled, .int md_loop, .ref a_md_begins, .ref a_md_goals, .ref a_md_ranks, .ref a_md_choiceCounts, .ref a_md_whens, .ref a_md_becomes, .ref a_md_guessCounts, .ref a_md_guesses, .ref a_md_unaryCounts, .ref a_md_stack, .ref a_md_nexts, .ref a_md_isBegin, .ref a_md_isGoal, .ref a_md_levels, .ref a_md_queue, .ref a_md_hasGuesses, .int md_keptBits, .ref a_md_rounds, .ref a_md_marked, .ref a_md_other, .ref a_md_heights])), (a_md_nexts, .inl (cI, 24576, .inl md_nexts))] sz)) 0 0 (va_A [(a_md, .inr (11, [.ref a_md_tape, .int md_size, .int md_at, .int md_token, .int md_tokenPlace, .int md_number, .int md_sign, .int md_bad, .int md_faultPlace, .int md_place, .ref a_md_acts, .ref a_md_actNumbers, .ref a_md_actCounts, .int md_bank, .int md_unaries, .int md_opens, .ref a_md_pile, .int md_piled, .int md_loop, .ref a_md_begins, .ref a_md_goals, .ref a_md_ranks, .ref a_md_choiceCounts, .ref a_md_whens, .ref a_md_becomes, .ref a_md_guessCounts, .ref a_md_guesses, .ref a_md_unaryCounts, .ref a_md_stack, .ref a_md_nexts, .ref a_md_isBegin, .ref a_md_isGoal, .ref a_md_levels, .ref a_md_queue, .ref a_md_hasGuesses, .int md_keptBits, .ref a_md_rounds, .ref a_md_marked, .ref a_md_other, .ref a_md_heights])), (a_md_nexts, .inl (cI, 24576, .inl md_nexts))] sz) := by
  refine Met.ofW (cc := b_Md_next) (maxL := 3) (ret := (some .int)) (by decide) rfl ?_
  intro p e s m args below meth c s₁ B hml hv
  obtain ⟨rfl, hsz, hP, hK, hD0, hN, hT⟩ := hv
  have hx := B.exec
  have hb := B.bytes
  have hr := B.returns
  have hts := atoms_spec (ws := w_Md_next) B.pre
  have hown : s.vm.findClass "LoopInductionModel" = some m.cls := findClass_of_methodNamed B.named
  have hlocks := B.notSynchronized
  subst hsz
  have hD := hD0.self (sz := s.heap.size)
  generalize hAe : va_A [(a_md, .inr (11, [.ref a_md_tape, .int md_size, .int md_at, .int md_token, .int md_tokenPlace, .int md_number, .int md_sign, .int md_bad, .int md_faultPlace, .int md_place, .ref a_md_acts, .ref a_md_actNumbers, .ref a_md_actCounts, .int md_bank, .int md_unaries, .int md_opens, .ref a_md_pile, .int md_piled, .int md_loop, .ref a_md_begins, .ref a_md_goals, .ref a_md_ranks, .ref a_md_choiceCounts, .ref a_md_whens, .ref a_md_becomes, .ref a_md_guessCounts, .ref a_md_guesses, .ref a_md_unaryCounts, .ref a_md_stack, .ref a_md_nexts, .ref a_md_isBegin, .ref a_md_isGoal, .ref a_md_levels, .ref a_md_queue, .ref a_md_hasGuesses, .int md_keptBits, .ref a_md_rounds, .ref a_md_marked, .ref a_md_other, .ref a_md_heights])), (a_md_nexts, .inl (cI, 24576, .inl md_nexts))] s.heap.size = A at hD hT ⊢
  have hA : ∀ q : Nat, s.heap.size ≤ q → A q := fun q h => by rw [← hAe]; exact Or.inr h
  have hS : va_S A s.heap s.heap [] := va_S.rf
  generalize hQ : MQ below _ _ s 0 0 _ = QQ
  have hl := lv_entry ([.ref a_md, .int x1, .int x2]) (n := 3) (Nat.le_of_ble_eq_true rfl)
  rw [lg_entry_eq]
  generalize (lg_sl ([.ref a_md, .int x1, .int x2]) ++ List.replicate (3 - (lg_sl ([.ref a_md, .int x1, .int x2])).length) Slot.unset).toArray = ls at hl ⊢
  have hl : lv_has ls 3 [(0, .ref a_md), (1, .int x1), (2, .int x2)] := hl
  have fl_63 := (hts _ (List.mem_cons_of_mem _ m_1119))
  refine lv_aload_n hx hb d_Md_next_0 rfl (lv_at hl 0 rfl) ?_
  refine lv_iload_n hx hb d_Md_next_1 rfl (lv_at hl 1 rfl) ?_
  refine jn_i (wr := [(a_md_nexts, .inl (cI, 24576, .inl md_nexts))]) (va_runV (As := [.int x1]) (rest := []) ⟨hx, hb, hml, hown, hts⟩ (c_Md_isState l dC dI cI cB cZ adK adV _ a_md a_md_tape a_md_acts a_md_actNumbers a_md_actCounts a_md_pile a_md_begins a_md_goals a_md_ranks a_md_choiceCounts a_md_whens a_md_becomes a_md_guessCounts a_md_guesses a_md_unaryCounts a_md_stack a_md_nexts a_md_isBegin a_md_isGoal a_md_levels a_md_queue a_md_hasGuesses a_md_rounds a_md_marked a_md_other a_md_heights md_size md_at md_token md_tokenPlace md_number md_sign md_bad md_faultPlace md_place md_bank md_unaries md_opens md_piled md_loop md_keptBits x1 _ h) (cwV 1 hts (gv_ m_1373 m_1375 m_77 m_96 m_1376) rfl rfl rfl pd_Md_isState ⟨Nat.le_of_ble_eq_true rfl, Nat.le_of_ble_eq_true rfl⟩) ⟨pc_blind, va_recv hK hP (ci := 11) (q0 := 0) rfl rfl, pc_of (hP.sub [0] rfl) hK (hD.sub [0] (by decide) rfl) hN hT hS hA⟩ rfl rfl hl.1 rfl (lv_room (Nat.le_of_ble_eq_true rfl)) d_Md_next_2 ⟨Nat.zero_le _, Nat.zero_le _⟩) hP hD hS hA [0] [1] rfl rfl (by decide) (by decide) (fun r_1 u_ H locs h hP hD hS => ?_)
  have hP : va_P (dC, dI) vwCl [(a_md_nexts, .inl (cI, 24576, .inl md_nexts)), (a_md, .inr (11, [.ref a_md_tape, .int md_size, .int md_at, .int md_token, .int md_tokenPlace, .int md_number, .int md_sign, .int md_bad, .int md_faultPlace, .int md_place, .ref a_md_acts, .ref a_md_actNumbers, .ref a_md_actCounts, .int md_bank, .int md_unaries, .int md_opens, .ref a_md_pile, .int md_piled, .int md_loop, .ref a_md_begins, .ref a_md_goals, .ref a_md_ranks, .ref a_md_choiceCounts, .ref a_md_whens, .ref a_md_becomes, .ref a_md_guessCounts, .ref a_md_guesses, .ref a_md_unaryCounts, .ref a_md_stack, .ref a_md_nexts, .ref a_md_isBegin, .ref a_md_isGoal, .ref a_md_levels, .ref a_md_queue, .ref a_md_hasGuesses, .int md_keptBits, .ref a_md_rounds, .ref a_md_marked, .ref a_md_other, .ref a_md_heights]))] H := hP
  have hD : va_D A [(a_md_nexts, .inl (cI, 24576, .inl md_nexts)), (a_md, .inr (11, [.ref a_md_tape, .int md_size, .int md_at, .int md_token, .int md_tokenPlace, .int md_number, .int md_sign, .int md_bad, .int md_faultPlace, .int md_place, .ref a_md_acts, .ref a_md_actNumbers, .ref a_md_actCounts, .int md_bank, .int md_unaries, .int md_opens, .ref a_md_pile, .int md_piled, .int md_loop, .ref a_md_begins, .ref a_md_goals, .ref a_md_ranks, .ref a_md_choiceCounts, .ref a_md_whens, .ref a_md_becomes, .ref a_md_guessCounts, .ref a_md_guesses, .ref a_md_unaryCounts, .ref a_md_stack, .ref a_md_nexts, .ref a_md_isBegin, .ref a_md_isGoal, .ref a_md_levels, .ref a_md_queue, .ref a_md_hasGuesses, .int md_keptBits, .ref a_md_rounds, .ref a_md_marked, .ref a_md_other, .ref a_md_heights]))] := hD
  refine lv_if_eq (tgt := 18) hx hb d_Md_next_5 (by decide) (fun c_5 => ?_) (fun c_5 => ?_)
  · have h := And.left h c_5
    refine lv_iconst (v := (-1)) hx hb d_Md_next_18 (by decide) ?_
    refine lv_goto (tgt := 33) hx hb d_Md_next_19 (by decide) ?_
    rw [← hQ]
    have hP9 := hP.sub (ws' := [(a_md, .inr (11, [.ref a_md_tape, .int md_size, .int md_at, .int md_token, .int md_tokenPlace, .int md_number, .int md_sign, .int md_bad, .int md_faultPlace, .int md_place, .ref a_md_acts, .ref a_md_actNumbers, .ref a_md_actCounts, .int md_bank, .int md_unaries, .int md_opens, .ref a_md_pile, .int md_piled, .int md_loop, .ref a_md_begins, .ref a_md_goals, .ref a_md_ranks, .ref a_md_choiceCounts, .ref a_md_whens, .ref a_md_becomes, .ref a_md_guessCounts, .ref a_md_guesses, .ref a_md_unaryCounts, .ref a_md_stack, .ref a_md_nexts, .ref a_md_isBegin, .ref a_md_isGoal, .ref a_md_levels, .ref a_md_queue, .ref a_md_hasGuesses, .int md_keptBits, .ref a_md_rounds, .ref a_md_marked, .ref a_md_other, .ref a_md_heights])), (a_md_nexts, .inl (cI, 24576, .inl md_nexts))]) [1, 0] rfl
    have hD9 := hD.sub (ws' := [(a_md, .inr (11, [.ref a_md_tape, .int md_size, .int md_at, .int md_token, .int md_tokenPlace, .int md_number, .int md_sign, .int md_bad, .int md_faultPlace, .int md_place, .ref a_md_acts, .ref a_md_actNumbers, .ref a_md_actCounts, .int md_bank, .int md_unaries, .int md_opens, .ref a_md_pile, .int md_piled, .int md_loop, .ref a_md_begins, .ref a_md_goals, .ref a_md_ranks, .ref a_md_choiceCounts, .ref a_md_whens, .ref a_md_becomes, .ref a_md_guessCounts, .ref a_md_guesses, .ref a_md_unaryCounts, .ref a_md_stack, .ref a_md_nexts, .ref a_md_isBegin, .ref a_md_isGoal, .ref a_md_levels, .ref a_md_queue, .ref a_md_hasGuesses, .int md_keptBits, .ref a_md_rounds, .ref a_md_marked, .ref a_md_other, .ref a_md_heights])), (a_md_nexts, .inl (cI, 24576, .inl md_nexts))]) [1, 0] (by decide) rfl
    exact W.iret (v := (-1)) hx hb hr (fun t ht hW => ⟨⟨(-1), (), rfl, h, by rw [ht]; exact hP9, va_K.moved hW.alike hK, hD9⟩, hS.F ht⟩) hS.2.2 d_Md_next_33
  · have h := And.right h c_5
    refine lv_iload_n hx hb d_Md_next_8 rfl (lv_at hl 2 rfl) ?_
    refine lv_if_lt (tgt := 18) hx hb d_Md_next_9 (by decide) (fun c_9 => ?_) (fun c_9 => ?_)
    · have h := And.left h c_9
      refine lv_iconst (v := (-1)) hx hb d_Md_next_18 (by decide) ?_
      refine lv_goto (tgt := 33) hx hb d_Md_next_19 (by decide) ?_
      rw [← hQ]
      have hP9 := hP.sub (ws' := [(a_md, .inr (11, [.ref a_md_tape, .int md_size, .int md_at, .int md_token, .int md_tokenPlace, .int md_number, .int md_sign, .int md_bad, .int md_faultPlace, .int md_place, .ref a_md_acts, .ref a_md_actNumbers, .ref a_md_actCounts, .int md_bank, .int md_unaries, .int md_opens, .ref a_md_pile, .int md_piled, .int md_loop, .ref a_md_begins, .ref a_md_goals, .ref a_md_ranks, .ref a_md_choiceCounts, .ref a_md_whens, .ref a_md_becomes, .ref a_md_guessCounts, .ref a_md_guesses, .ref a_md_unaryCounts, .ref a_md_stack, .ref a_md_nexts, .ref a_md_isBegin, .ref a_md_isGoal, .ref a_md_levels, .ref a_md_queue, .ref a_md_hasGuesses, .int md_keptBits, .ref a_md_rounds, .ref a_md_marked, .ref a_md_other, .ref a_md_heights])), (a_md_nexts, .inl (cI, 24576, .inl md_nexts))]) [1, 0] rfl
      have hD9 := hD.sub (ws' := [(a_md, .inr (11, [.ref a_md_tape, .int md_size, .int md_at, .int md_token, .int md_tokenPlace, .int md_number, .int md_sign, .int md_bad, .int md_faultPlace, .int md_place, .ref a_md_acts, .ref a_md_actNumbers, .ref a_md_actCounts, .int md_bank, .int md_unaries, .int md_opens, .ref a_md_pile, .int md_piled, .int md_loop, .ref a_md_begins, .ref a_md_goals, .ref a_md_ranks, .ref a_md_choiceCounts, .ref a_md_whens, .ref a_md_becomes, .ref a_md_guessCounts, .ref a_md_guesses, .ref a_md_unaryCounts, .ref a_md_stack, .ref a_md_nexts, .ref a_md_isBegin, .ref a_md_isGoal, .ref a_md_levels, .ref a_md_queue, .ref a_md_hasGuesses, .int md_keptBits, .ref a_md_rounds, .ref a_md_marked, .ref a_md_other, .ref a_md_heights])), (a_md_nexts, .inl (cI, 24576, .inl md_nexts))]) [1, 0] (by decide) rfl
      exact W.iret (v := (-1)) hx hb hr (fun t ht hW => ⟨⟨(-1), (), rfl, h, by rw [ht]; exact hP9, va_K.moved hW.alike hK, hD9⟩, hS.F ht⟩) hS.2.2 d_Md_next_33
    · have h := And.right h c_9
      refine lv_iload_n hx hb d_Md_next_12 rfl (lv_at hl 2 rfl) ?_
      refine lv_bipush (v := 6) hx hb d_Md_next_13 (by decide) ?_
      refine lv_icmp_lt (tgt := 22) hx hb d_Md_next_15 (by decide) (fun c_15 => ?_) (fun c_15 => ?_)
      · have h := And.left h c_15
        refine lv_aload_n hx hb d_Md_next_22 rfl (lv_at hl 0 rfl) ?_
        refine va_get (D := (dC, dI)) (ci := 11) (v := .ref a_md_nexts) (C := "LoopInductionModel") (T := F_Md) (N := 40) hx hb hts iC_Md hown hK hP 1 rfl rfl 29 (by decide) fl_63 (fun _ h9 => h9) rfl d_Md_next_23 ?_
        refine lv_bipush (v := 6) hx hb d_Md_next_26 (by decide) ?_
        refine lv_iload_n hx hb d_Md_next_28 rfl (lv_at hl 1 rfl) ?_
        refine lv_imul hx hb d_Md_next_29 ?_
        refine lv_iload_n hx hb d_Md_next_30 rfl (lv_at hl 2 rfl) ?_
        refine lv_iadd hx hb d_Md_next_31 ?_
        obtain ⟨hin_32, h⟩ := h
        refine va_iald hx hb hK hP 0 0 rfl rfl hin_32 d_Md_next_32 ?_
        rw [← hQ]
        have hP9 := hP.sub (ws' := [(a_md, .inr (11, [.ref a_md_tape, .int md_size, .int md_at, .int md_token, .int md_tokenPlace, .int md_number, .int md_sign, .int md_bad, .int md_faultPlace, .int md_place, .ref a_md_acts, .ref a_md_actNumbers, .ref a_md_actCounts, .int md_bank, .int md_unaries, .int md_opens, .ref a_md_pile, .int md_piled, .int md_loop, .ref a_md_begins, .ref a_md_goals, .ref a_md_ranks, .ref a_md_choiceCounts, .ref a_md_whens, .ref a_md_becomes, .ref a_md_guessCounts, .ref a_md_guesses, .ref a_md_unaryCounts, .ref a_md_stack, .ref a_md_nexts, .ref a_md_isBegin, .ref a_md_isGoal, .ref a_md_levels, .ref a_md_queue, .ref a_md_hasGuesses, .int md_keptBits, .ref a_md_rounds, .ref a_md_marked, .ref a_md_other, .ref a_md_heights])), (a_md_nexts, .inl (cI, 24576, .inl md_nexts))]) [1, 0] rfl
        have hD9 := hD.sub (ws' := [(a_md, .inr (11, [.ref a_md_tape, .int md_size, .int md_at, .int md_token, .int md_tokenPlace, .int md_number, .int md_sign, .int md_bad, .int md_faultPlace, .int md_place, .ref a_md_acts, .ref a_md_actNumbers, .ref a_md_actCounts, .int md_bank, .int md_unaries, .int md_opens, .ref a_md_pile, .int md_piled, .int md_loop, .ref a_md_begins, .ref a_md_goals, .ref a_md_ranks, .ref a_md_choiceCounts, .ref a_md_whens, .ref a_md_becomes, .ref a_md_guessCounts, .ref a_md_guesses, .ref a_md_unaryCounts, .ref a_md_stack, .ref a_md_nexts, .ref a_md_isBegin, .ref a_md_isGoal, .ref a_md_levels, .ref a_md_queue, .ref a_md_hasGuesses, .int md_keptBits, .ref a_md_rounds, .ref a_md_marked, .ref a_md_other, .ref a_md_heights])), (a_md_nexts, .inl (cI, 24576, .inl md_nexts))]) [1, 0] (by decide) rfl
        exact W.iret (v := md_nexts ((6 * x1) + x2 : Int32).toNatClampNeg) hx hb hr (fun t ht hW => ⟨⟨(md_nexts ((6 * x1) + x2 : Int32).toNatClampNeg), (), rfl, h, by rw [ht]; exact hP9, va_K.moved hW.alike hK, hD9⟩, hS.F ht⟩) hS.2.2 d_Md_next_33
      · have h := And.right h c_15
        refine lv_iconst (v := (-1)) hx hb d_Md_next_18 (by decide) ?_
        refine lv_goto (tgt := 33) hx hb d_Md_next_19 (by decide) ?_
        rw [← hQ]
        have hP9 := hP.sub (ws' := [(a_md, .inr (11, [.ref a_md_tape, .int md_size, .int md_at, .int md_token, .int md_tokenPlace, .int md_number, .int md_sign, .int md_bad, .int md_faultPlace, .int md_place, .ref a_md_acts, .ref a_md_actNumbers, .ref a_md_actCounts, .int md_bank, .int md_unaries, .int md_opens, .ref a_md_pile, .int md_piled, .int md_loop, .ref a_md_begins, .ref a_md_goals, .ref a_md_ranks, .ref a_md_choiceCounts, .ref a_md_whens, .ref a_md_becomes, .ref a_md_guessCounts, .ref a_md_guesses, .ref a_md_unaryCounts, .ref a_md_stack, .ref a_md_nexts, .ref a_md_isBegin, .ref a_md_isGoal, .ref a_md_levels, .ref a_md_queue, .ref a_md_hasGuesses, .int md_keptBits, .ref a_md_rounds, .ref a_md_marked, .ref a_md_other, .ref a_md_heights])), (a_md_nexts, .inl (cI, 24576, .inl md_nexts))]) [1, 0] rfl
        have hD9 := hD.sub (ws' := [(a_md, .inr (11, [.ref a_md_tape, .int md_size, .int md_at, .int md_token, .int md_tokenPlace, .int md_number, .int md_sign, .int md_bad, .int md_faultPlace, .int md_place, .ref a_md_acts, .ref a_md_actNumbers, .ref a_md_actCounts, .int md_bank, .int md_unaries, .int md_opens, .ref a_md_pile, .int md_piled, .int md_loop, .ref a_md_begins, .ref a_md_goals, .ref a_md_ranks, .ref a_md_choiceCounts, .ref a_md_whens, .ref a_md_becomes, .ref a_md_guessCounts, .ref a_md_guesses, .ref a_md_unaryCounts, .ref a_md_stack, .ref a_md_nexts, .ref a_md_isBegin, .ref a_md_isGoal, .ref a_md_levels, .ref a_md_queue, .ref a_md_hasGuesses, .int md_keptBits, .ref a_md_rounds, .ref a_md_marked, .ref a_md_other, .ref a_md_heights])), (a_md_nexts, .inl (cI, 24576, .inl md_nexts))]) [1, 0] (by decide) rfl
        exact W.iret (v := (-1)) hx hb hr (fun t ht hW => ⟨⟨(-1), (), rfl, h, by rw [ht]; exact hP9, va_K.moved hW.alike hK, hD9⟩, hS.F ht⟩) hS.2.2 d_Md_next_33
set_option maxHeartbeats 4000000 in
set_option maxRecDepth 100000 in
theorem c_Md_rank (l : Launch) (dC : Nat → ClassId) (dI : Nat → Nat → Nat) (cI cB cZ : ClassId) (adK adV : Nat → Nat) (sz : Nat) (a_md a_md_tape a_md_acts a_md_actNumbers a_md_actCounts a_md_pile a_md_begins a_md_goals a_md_ranks a_md_choiceCounts a_md_whens a_md_becomes a_md_guessCounts a_md_guesses a_md_unaryCounts a_md_stack a_md_nexts a_md_isBegin a_md_isGoal a_md_levels a_md_queue a_md_hasGuesses a_md_rounds a_md_marked a_md_other a_md_heights : Nat) (md_size : Int32) (md_at : Int32) (md_token : Int32) (md_tokenPlace : Int32) (md_number : Int32) (md_sign : Int32) (md_bad : Int32) (md_faultPlace : Int32) (md_place : Int32) (md_bank : Int32) (md_unaries : Int32) (md_opens : Int32) (md_piled : Int32) (md_loop : Int32) (md_keptBits : Int32) (md_acts : Nat → Int32) (md_actNumbers : Nat → Int32) (md_ranks : Nat → Int32) (md_stack : Nat → Int32) (x1 : Int32) (post : Int32 → (Nat → Int32) → Prop) (h : wp_Md_rank x1 md_loop md_acts md_actNumbers md_ranks md_stack post) : Met l y_Md_rank w_Md_rank ({ frames := 2, cells := 0, slots := 0, locals := 49 }) (pc_ (dC, dI) [(cI, .int), (cB, .byte), (cZ, .boolean)] [(a_md, .inr (11, [.ref a_md_tape, .int md_size, .int md_at, .int md_token, .int md_tokenPlace, .int md_number, .int md_sign, .int md_bad, .int md_faultPlace, .int md_place, .ref a_md_acts, .ref a_md_actNumbers, .ref a_md_actCounts, .int md_bank, .int md_unaries, .int md_opens, .ref a_md_pile, .int md_piled, .int md_loop, .ref a_md_begins, .ref a_md_goals, .ref a_md_ranks, .ref a_md_choiceCounts, .ref a_md_whens, .ref a_md_becomes, .ref a_md_guessCounts, .ref a_md_guesses, .ref a_md_unaryCounts, .ref a_md_stack, .ref a_md_nexts, .ref a_md_isBegin, .ref a_md_isGoal, .ref a_md_levels, .ref a_md_queue, .ref a_md_hasGuesses, .int md_keptBits, .ref a_md_rounds, .ref a_md_marked, .ref a_md_other, .ref a_md_heights])), (a_md_acts, .inl (cI, 3000, .inl md_acts)), (a_md_actNumbers, .inl (cI, 3000, .inl md_actNumbers)), (a_md_ranks, .inl (cI, 2, .inl md_ranks)), (a_md_stack, .inl (cI, 300, .inl md_stack))] sz adK adV [.ref a_md, .int x1]) (va_Qi (fun (r : Int32) (u : (Nat → Int32)) => post r u) (fun (u : (Nat → Int32)) t => bw_ (dC, dI) [(cI, .int), (cB, .byte), (cZ, .boolean)] (va_A [(a_md, .inr (11, [.ref a_md_tape, .int md_size, .int md_at, .int md_token, .int md_tokenPlace, .int md_number, .int md_sign, .int md_bad, .int md_faultPlace, .int md_place, .ref a_md_acts, .ref a_md_actNumbers, .ref a_md_actCounts, .int md_bank, .int md_unaries, .int md_opens, .ref a_md_pile, .int md_piled, .int md_loop, .ref a_md_begins, .ref a_md_goals, .ref a_md_ranks, .ref a_md_choiceCounts, .ref a_md_whens, .ref a_md_becomes, .ref a_md_guessCounts, .ref a_md_guesses, .ref a_md_unaryCounts, .ref a_md_stack, .ref a_md_nexts, .ref a_md_isBegin, .ref a_md_isGoal, .ref a_md_levels, .ref a_md_queue, .ref a_md_hasGuesses, .int md_keptBits, .ref a_md_rounds, .ref a_md_marked, .ref a_md_other, .ref a_md_heights])), (a_md_acts, .inl (cI, 3000, .inl md_acts)), (a_md_actNumbers, .inl (cI, 3000, .inl md_actNumbers)), (a_md_ranks, .inl (cI, 2, .inl md_ranks)), (a_md_stack, .inl (cI, 300, .inl md_stack))] sz) [(a_md, .inr (11, [.ref a_md_tape, .int md_size, .int md_at, .int md_token, .int md_tokenPlace, .int md_number, .int md_sign, .int md_bad, .int md_faultPlace, .int md_place, .ref a_md_acts, .ref a_md_actNumbers, .ref a_md_actCounts, .int md_bank, .int md_unaries, .int md_opens, .ref a_md_pile, .int md_piled, .int md_loop, .ref a_md_begins, .ref a_md_goals, .ref a_md_ranks, .ref a_md_choiceCounts, .ref a_md_whens, .ref a_md_becomes, .ref a_md_guessCounts, .ref a_md_guesses, .ref a_md_unaryCounts, .ref a_md_stack, .ref a_md_nexts, .ref a_md_isBegin, .ref a_md_isGoal, .ref a_md_levels, .ref a_md_queue, .ref a_md_hasGuesses, .int md_keptBits, .ref a_md_rounds, .ref a_md_marked, .ref a_md_other, .ref a_md_heights])), (a_md_acts, .inl (cI, 3000, .inl md_acts)), (a_md_actNumbers, .inl (cI, 3000, .inl md_actNumbers)), (a_md_ranks, .inl (cI, 2, .inl md_ranks)), (a_md_stack, .inl (cI, 300, .inl u))] t) (va_A [(a_md, .inr (11, [.ref a_md_tape, .int md_size, .int md_at, .int md_token, .int md_tokenPlace, .int md_number, .int md_sign, .int md_bad, .int md_faultPlace, .int md_place, .ref a_md_acts, .ref a_md_actNumbers, .ref a_md_actCounts, .int md_bank, .int md_unaries, .int md_opens, .ref a_md_pile, .int md_piled, .int md_loop, .ref a_md_begins, .ref a_md_goals, .ref a_md_ranks, .ref a_md_choiceCounts, .ref a_md_whens, .ref a_md_becomes, .ref a_md_guessCounts, .ref a_md_guesses, .ref a_md_unaryCounts, .ref a_md_stack, .ref a_md_nexts, .ref a_md_isBegin, .ref a_md_isGoal, .ref a_md_levels, .ref a_md_queue, .ref a_md_hasGuesses, .int md_keptBits, .ref a_md_rounds, .ref a_md_marked, .ref a_md_other, .ref a_md_heights])), (a_md_acts, .inl (cI, 3000, .inl md_acts)), (a_md_actNumbers, .inl (cI, 3000, .inl md_actNumbers)), (a_md_ranks, .inl (cI, 2, .inl md_ranks)), (a_md_stack, .inl (cI, 300, .inl md_stack))] sz)) 0 0 (va_A [(a_md, .inr (11, [.ref a_md_tape, .int md_size, .int md_at, .int md_token, .int md_tokenPlace, .int md_number, .int md_sign, .int md_bad, .int md_faultPlace, .int md_place, .ref a_md_acts, .ref a_md_actNumbers, .ref a_md_actCounts, .int md_bank, .int md_unaries, .int md_opens, .ref a_md_pile, .int md_piled, .int md_loop, .ref a_md_begins, .ref a_md_goals, .ref a_md_ranks, .ref a_md_choiceCounts, .ref a_md_whens, .ref a_md_becomes, .ref a_md_guessCounts, .ref a_md_guesses, .ref a_md_unaryCounts, .ref a_md_stack, .ref a_md_nexts, .ref a_md_isBegin, .ref a_md_isGoal, .ref a_md_levels, .ref a_md_queue, .ref a_md_hasGuesses, .int md_keptBits, .ref a_md_rounds, .ref a_md_marked, .ref a_md_other, .ref a_md_heights])), (a_md_acts, .inl (cI, 3000, .inl md_acts)), (a_md_actNumbers, .inl (cI, 3000, .inl md_actNumbers)), (a_md_ranks, .inl (cI, 2, .inl md_ranks)), (a_md_stack, .inl (cI, 300, .inl md_stack))] sz) := by
  refine Met.ofW (cc := b_Md_rank) (maxL := 2) (ret := (some .int)) (by decide) rfl ?_
  intro p e s m args below meth c s₁ B hml hv
  obtain ⟨rfl, hsz, hP, hK, hD0, hN, hT⟩ := hv
  have hx := B.exec
  have hb := B.bytes
  have hr := B.returns
  have hts := atoms_spec (ws := w_Md_rank) B.pre
  have hown : s.vm.findClass "LoopInductionModel" = some m.cls := findClass_of_methodNamed B.named
  have hlocks := B.notSynchronized
  subst hsz
  have hD := hD0.self (sz := s.heap.size)
  generalize hAe : va_A [(a_md, .inr (11, [.ref a_md_tape, .int md_size, .int md_at, .int md_token, .int md_tokenPlace, .int md_number, .int md_sign, .int md_bad, .int md_faultPlace, .int md_place, .ref a_md_acts, .ref a_md_actNumbers, .ref a_md_actCounts, .int md_bank, .int md_unaries, .int md_opens, .ref a_md_pile, .int md_piled, .int md_loop, .ref a_md_begins, .ref a_md_goals, .ref a_md_ranks, .ref a_md_choiceCounts, .ref a_md_whens, .ref a_md_becomes, .ref a_md_guessCounts, .ref a_md_guesses, .ref a_md_unaryCounts, .ref a_md_stack, .ref a_md_nexts, .ref a_md_isBegin, .ref a_md_isGoal, .ref a_md_levels, .ref a_md_queue, .ref a_md_hasGuesses, .int md_keptBits, .ref a_md_rounds, .ref a_md_marked, .ref a_md_other, .ref a_md_heights])), (a_md_acts, .inl (cI, 3000, .inl md_acts)), (a_md_actNumbers, .inl (cI, 3000, .inl md_actNumbers)), (a_md_ranks, .inl (cI, 2, .inl md_ranks)), (a_md_stack, .inl (cI, 300, .inl md_stack))] s.heap.size = A at hD hT ⊢
  have hA : ∀ q : Nat, s.heap.size ≤ q → A q := fun q h => by rw [← hAe]; exact Or.inr h
  have hS : va_S A s.heap s.heap [] := va_S.rf
  generalize hQ : MQ below _ _ s 0 0 _ = QQ
  have hl := lv_entry ([.ref a_md, .int x1]) (n := 2) (Nat.le_of_ble_eq_true rfl)
  rw [lg_entry_eq]
  generalize (lg_sl ([.ref a_md, .int x1]) ++ List.replicate (2 - (lg_sl ([.ref a_md, .int x1])).length) Slot.unset).toArray = ls at hl ⊢
  have hl : lv_has ls 2 [(0, .ref a_md), (1, .int x1)] := hl
  have fl_30 := (hts _ (List.mem_cons_of_mem _ m_1108))
  have fl_39 := (hts _ (List.mem_cons_of_mem _ m_1111))
  refine lv_aload_n hx hb d_Md_rank_0 rfl (lv_at hl 0 rfl) ?_
  refine lv_iload_n hx hb d_Md_rank_1 rfl (lv_at hl 1 rfl) ?_
  refine jn_i (wr := [(a_md_acts, .inl (cI, 3000, .inl md_acts)), (a_md_actNumbers, .inl (cI, 3000, .inl md_actNumbers)), (a_md_ranks, .inl (cI, 2, .inl md_ranks)), (a_md_stack, .inl (cI, 300, .inl md_stack))]) (va_runV (As := [.int x1]) (rest := []) ⟨hx, hb, hml, hown, hts⟩ (c_Md_isState l dC dI cI cB cZ adK adV _ a_md a_md_tape a_md_acts a_md_actNumbers a_md_actCounts a_md_pile a_md_begins a_md_goals a_md_ranks a_md_choiceCounts a_md_whens a_md_becomes a_md_guessCounts a_md_guesses a_md_unaryCounts a_md_stack a_md_nexts a_md_isBegin a_md_isGoal a_md_levels a_md_queue a_md_hasGuesses a_md_rounds a_md_marked a_md_other a_md_heights md_size md_at md_token md_tokenPlace md_number md_sign md_bad md_faultPlace md_place md_bank md_unaries md_opens md_piled md_loop md_keptBits x1 _ h) (cwV 1 hts (gv_ m_1373 m_1375 m_77 m_96 m_1376) rfl rfl rfl pd_Md_isState ⟨Nat.le_of_ble_eq_true rfl, Nat.le_of_ble_eq_true rfl⟩) ⟨pc_blind, va_recv hK hP (ci := 11) (q0 := 0) rfl rfl, pc_of (hP.sub [0] rfl) hK (hD.sub [0] (by decide) rfl) hN hT hS hA⟩ rfl rfl hl.1 rfl (lv_room (Nat.le_of_ble_eq_true rfl)) d_Md_rank_2 ⟨Nat.zero_le _, Nat.zero_le _⟩) hP hD hS hA [0] [1, 2, 3, 4] rfl rfl (by decide) (by decide) (fun r_1 u_ H locs h hP hD hS => ?_)
  have hP : va_P (dC, dI) vwCl [(a_md_acts, .inl (cI, 3000, .inl md_acts)), (a_md_actNumbers, .inl (cI, 3000, .inl md_actNumbers)), (a_md_ranks, .inl (cI, 2, .inl md_ranks)), (a_md_stack, .inl (cI, 300, .inl md_stack)), (a_md, .inr (11, [.ref a_md_tape, .int md_size, .int md_at, .int md_token, .int md_tokenPlace, .int md_number, .int md_sign, .int md_bad, .int md_faultPlace, .int md_place, .ref a_md_acts, .ref a_md_actNumbers, .ref a_md_actCounts, .int md_bank, .int md_unaries, .int md_opens, .ref a_md_pile, .int md_piled, .int md_loop, .ref a_md_begins, .ref a_md_goals, .ref a_md_ranks, .ref a_md_choiceCounts, .ref a_md_whens, .ref a_md_becomes, .ref a_md_guessCounts, .ref a_md_guesses, .ref a_md_unaryCounts, .ref a_md_stack, .ref a_md_nexts, .ref a_md_isBegin, .ref a_md_isGoal, .ref a_md_levels, .ref a_md_queue, .ref a_md_hasGuesses, .int md_keptBits, .ref a_md_rounds, .ref a_md_marked, .ref a_md_other, .ref a_md_heights]))] H := hP
  have hD : va_D A [(a_md_acts, .inl (cI, 3000, .inl md_acts)), (a_md_actNumbers, .inl (cI, 3000, .inl md_actNumbers)), (a_md_ranks, .inl (cI, 2, .inl md_ranks)), (a_md_stack, .inl (cI, 300, .inl md_stack)), (a_md, .inr (11, [.ref a_md_tape, .int md_size, .int md_at, .int md_token, .int md_tokenPlace, .int md_number, .int md_sign, .int md_bad, .int md_faultPlace, .int md_place, .ref a_md_acts, .ref a_md_actNumbers, .ref a_md_actCounts, .int md_bank, .int md_unaries, .int md_opens, .ref a_md_pile, .int md_piled, .int md_loop, .ref a_md_begins, .ref a_md_goals, .ref a_md_ranks, .ref a_md_choiceCounts, .ref a_md_whens, .ref a_md_becomes, .ref a_md_guessCounts, .ref a_md_guesses, .ref a_md_unaryCounts, .ref a_md_stack, .ref a_md_nexts, .ref a_md_isBegin, .ref a_md_isGoal, .ref a_md_levels, .ref a_md_queue, .ref a_md_hasGuesses, .int md_keptBits, .ref a_md_rounds, .ref a_md_marked, .ref a_md_other, .ref a_md_heights]))] := hD
  refine lv_if_eq (tgt := 20) hx hb d_Md_rank_5 (by decide) (fun c_5 => ?_) (fun c_5 => ?_)
  · have h := And.left h c_5
    refine lv_iconst (v := (-1)) hx hb d_Md_rank_20 (by decide) ?_
    refine lv_goto (tgt := 38) hx hb d_Md_rank_21 (by decide) ?_
    rw [← hQ]
    have hP9 := hP.sub (ws' := [(a_md, .inr (11, [.ref a_md_tape, .int md_size, .int md_at, .int md_token, .int md_tokenPlace, .int md_number, .int md_sign, .int md_bad, .int md_faultPlace, .int md_place, .ref a_md_acts, .ref a_md_actNumbers, .ref a_md_actCounts, .int md_bank, .int md_unaries, .int md_opens, .ref a_md_pile, .int md_piled, .int md_loop, .ref a_md_begins, .ref a_md_goals, .ref a_md_ranks, .ref a_md_choiceCounts, .ref a_md_whens, .ref a_md_becomes, .ref a_md_guessCounts, .ref a_md_guesses, .ref a_md_unaryCounts, .ref a_md_stack, .ref a_md_nexts, .ref a_md_isBegin, .ref a_md_isGoal, .ref a_md_levels, .ref a_md_queue, .ref a_md_hasGuesses, .int md_keptBits, .ref a_md_rounds, .ref a_md_marked, .ref a_md_other, .ref a_md_heights])), (a_md_acts, .inl (cI, 3000, .inl md_acts)), (a_md_actNumbers, .inl (cI, 3000, .inl md_actNumbers)), (a_md_ranks, .inl (cI, 2, .inl md_ranks)), (a_md_stack, .inl (cI, 300, .inl md_stack))]) [4, 0, 1, 2, 3] rfl
    have hD9 := hD.sub (ws' := [(a_md, .inr (11, [.ref a_md_tape, .int md_size, .int md_at, .int md_token, .int md_tokenPlace, .int md_number, .int md_sign, .int md_bad, .int md_faultPlace, .int md_place, .ref a_md_acts, .ref a_md_actNumbers, .ref a_md_actCounts, .int md_bank, .int md_unaries, .int md_opens, .ref a_md_pile, .int md_piled, .int md_loop, .ref a_md_begins, .ref a_md_goals, .ref a_md_ranks, .ref a_md_choiceCounts, .ref a_md_whens, .ref a_md_becomes, .ref a_md_guessCounts, .ref a_md_guesses, .ref a_md_unaryCounts, .ref a_md_stack, .ref a_md_nexts, .ref a_md_isBegin, .ref a_md_isGoal, .ref a_md_levels, .ref a_md_queue, .ref a_md_hasGuesses, .int md_keptBits, .ref a_md_rounds, .ref a_md_marked, .ref a_md_other, .ref a_md_heights])), (a_md_acts, .inl (cI, 3000, .inl md_acts)), (a_md_actNumbers, .inl (cI, 3000, .inl md_actNumbers)), (a_md_ranks, .inl (cI, 2, .inl md_ranks)), (a_md_stack, .inl (cI, 300, .inl md_stack))]) [4, 0, 1, 2, 3] (by decide) rfl
    exact W.iret (v := (-1)) hx hb hr (fun t ht hW => ⟨⟨(-1), (md_stack), rfl, h, by rw [ht]; exact hP9, va_K.moved hW.alike hK, hD9⟩, hS.F ht⟩) hS.2.2 d_Md_rank_38
  · have h := And.right h c_5
    refine lv_aload_n hx hb d_Md_rank_8 rfl (lv_at hl 0 rfl) ?_
    refine va_get (D := (dC, dI)) (ci := 11) (v := .ref a_md_ranks) (C := "LoopInductionModel") (T := F_Md) (N := 40) hx hb hts iC_Md hown hK hP 4 rfl rfl 21 (by decide) fl_39 (fun _ h9 => h9) rfl d_Md_rank_9 ?_
    refine lv_aload_n hx hb d_Md_rank_12 rfl (lv_at hl 0 rfl) ?_
    refine va_get (D := (dC, dI)) (ci := 11) (v := .int md_loop) (C := "LoopInductionModel") (T := F_Md) (N := 40) hx hb hts iC_Md hown hK hP 4 rfl rfl 18 (by decide) fl_30 (fun _ h9 => h9) rfl d_Md_rank_13 ?_
    obtain ⟨hin_16, h⟩ := h
    refine va_iald hx hb hK hP 2 0 rfl rfl hin_16 d_Md_rank_16 ?_
    refine lv_if_ge (tgt := 24) hx hb d_Md_rank_17 (by decide) (fun c_17 => ?_) (fun c_17 => ?_)
    · have h := And.left h c_17
      refine lv_aload_n hx hb d_Md_rank_24 rfl (lv_at hl 0 rfl) ?_
      refine lv_aload_n hx hb d_Md_rank_25 rfl (lv_at hl 0 rfl) ?_
      refine va_get (D := (dC, dI)) (ci := 11) (v := .ref a_md_ranks) (C := "LoopInductionModel") (T := F_Md) (N := 40) hx hb hts iC_Md hown hK hP 4 rfl rfl 21 (by decide) fl_39 (fun _ h9 => h9) rfl d_Md_rank_26 ?_
      refine lv_aload_n hx hb d_Md_rank_29 rfl (lv_at hl 0 rfl) ?_
      refine va_get (D := (dC, dI)) (ci := 11) (v := .int md_loop) (C := "LoopInductionModel") (T := F_Md) (N := 40) hx hb hts iC_Md hown hK hP 4 rfl rfl 18 (by decide) fl_30 (fun _ h9 => h9) rfl d_Md_rank_30 ?_
      obtain ⟨hin_33, h⟩ := h
      refine va_iald hx hb hK hP 2 0 rfl rfl hin_33 d_Md_rank_33 ?_
      refine lv_iload_n hx hb d_Md_rank_34 rfl (lv_at hl 1 rfl) ?_
      refine jn_i (wr := [(a_md_ranks, .inl (cI, 2, .inl md_ranks))]) (va_runV (As := [.int (md_ranks (md_loop : Int32).toNatClampNeg), .int x1]) (rest := []) ⟨hx, hb, hml, hown, hts⟩ (c_Md_work l dC dI cI cB cZ adK adV _ a_md a_md_tape a_md_acts a_md_actNumbers a_md_actCounts a_md_pile a_md_begins a_md_goals a_md_ranks a_md_choiceCounts a_md_whens a_md_becomes a_md_guessCounts a_md_guesses a_md_unaryCounts a_md_stack a_md_nexts a_md_isBegin a_md_isGoal a_md_levels a_md_queue a_md_hasGuesses a_md_rounds a_md_marked a_md_other a_md_heights md_size md_at md_token md_tokenPlace md_number md_sign md_bad md_faultPlace md_place md_bank md_unaries md_opens md_piled md_loop md_keptBits md_acts md_actNumbers md_stack (md_ranks (md_loop : Int32).toNatClampNeg) x1 _ h) (cwV 2 hts (gv_ m_1339 m_1341 m_73 m_96 m_1342) rfl rfl rfl pd_Md_work ⟨Nat.le_of_ble_eq_true rfl, Nat.le_of_ble_eq_true rfl⟩) ⟨pc_blind, va_recv hK hP (ci := 11) (q0 := 4) rfl rfl, pc_of (hP.sub [4, 0, 1, 3] rfl) hK (hD.sub [4, 0, 1, 3] (by decide) rfl) hN hT hS hA⟩ rfl rfl hl.1 rfl (lv_room (Nat.le_of_ble_eq_true rfl)) d_Md_rank_35 ⟨Nat.zero_le _, Nat.zero_le _⟩) hP hD hS hA [4, 0, 1, 3] [2] rfl rfl (by decide) (by decide) (fun r_2 md_stack_3 H locs h hP hD hS => ?_)
      have hP : va_P (dC, dI) vwCl [(a_md_ranks, .inl (cI, 2, .inl md_ranks)), (a_md, .inr (11, [.ref a_md_tape, .int md_size, .int md_at, .int md_token, .int md_tokenPlace, .int md_number, .int md_sign, .int md_bad, .int md_faultPlace, .int md_place, .ref a_md_acts, .ref a_md_actNumbers, .ref a_md_actCounts, .int md_bank, .int md_unaries, .int md_opens, .ref a_md_pile, .int md_piled, .int md_loop, .ref a_md_begins, .ref a_md_goals, .ref a_md_ranks, .ref a_md_choiceCounts, .ref a_md_whens, .ref a_md_becomes, .ref a_md_guessCounts, .ref a_md_guesses, .ref a_md_unaryCounts, .ref a_md_stack, .ref a_md_nexts, .ref a_md_isBegin, .ref a_md_isGoal, .ref a_md_levels, .ref a_md_queue, .ref a_md_hasGuesses, .int md_keptBits, .ref a_md_rounds, .ref a_md_marked, .ref a_md_other, .ref a_md_heights])), (a_md_acts, .inl (cI, 3000, .inl md_acts)), (a_md_actNumbers, .inl (cI, 3000, .inl md_actNumbers)), (a_md_stack, .inl (cI, 300, .inl md_stack_3))] H := hP
      have hD : va_D A [(a_md_ranks, .inl (cI, 2, .inl md_ranks)), (a_md, .inr (11, [.ref a_md_tape, .int md_size, .int md_at, .int md_token, .int md_tokenPlace, .int md_number, .int md_sign, .int md_bad, .int md_faultPlace, .int md_place, .ref a_md_acts, .ref a_md_actNumbers, .ref a_md_actCounts, .int md_bank, .int md_unaries, .int md_opens, .ref a_md_pile, .int md_piled, .int md_loop, .ref a_md_begins, .ref a_md_goals, .ref a_md_ranks, .ref a_md_choiceCounts, .ref a_md_whens, .ref a_md_becomes, .ref a_md_guessCounts, .ref a_md_guesses, .ref a_md_unaryCounts, .ref a_md_stack, .ref a_md_nexts, .ref a_md_isBegin, .ref a_md_isGoal, .ref a_md_levels, .ref a_md_queue, .ref a_md_hasGuesses, .int md_keptBits, .ref a_md_rounds, .ref a_md_marked, .ref a_md_other, .ref a_md_heights])), (a_md_acts, .inl (cI, 3000, .inl md_acts)), (a_md_actNumbers, .inl (cI, 3000, .inl md_actNumbers)), (a_md_stack, .inl (cI, 300, .inl md_stack_3))] := hD
      rw [← hQ]
      have hP9 := hP.sub (ws' := [(a_md, .inr (11, [.ref a_md_tape, .int md_size, .int md_at, .int md_token, .int md_tokenPlace, .int md_number, .int md_sign, .int md_bad, .int md_faultPlace, .int md_place, .ref a_md_acts, .ref a_md_actNumbers, .ref a_md_actCounts, .int md_bank, .int md_unaries, .int md_opens, .ref a_md_pile, .int md_piled, .int md_loop, .ref a_md_begins, .ref a_md_goals, .ref a_md_ranks, .ref a_md_choiceCounts, .ref a_md_whens, .ref a_md_becomes, .ref a_md_guessCounts, .ref a_md_guesses, .ref a_md_unaryCounts, .ref a_md_stack, .ref a_md_nexts, .ref a_md_isBegin, .ref a_md_isGoal, .ref a_md_levels, .ref a_md_queue, .ref a_md_hasGuesses, .int md_keptBits, .ref a_md_rounds, .ref a_md_marked, .ref a_md_other, .ref a_md_heights])), (a_md_acts, .inl (cI, 3000, .inl md_acts)), (a_md_actNumbers, .inl (cI, 3000, .inl md_actNumbers)), (a_md_ranks, .inl (cI, 2, .inl md_ranks)), (a_md_stack, .inl (cI, 300, .inl md_stack_3))]) [1, 2, 3, 0, 4] rfl
      have hD9 := hD.sub (ws' := [(a_md, .inr (11, [.ref a_md_tape, .int md_size, .int md_at, .int md_token, .int md_tokenPlace, .int md_number, .int md_sign, .int md_bad, .int md_faultPlace, .int md_place, .ref a_md_acts, .ref a_md_actNumbers, .ref a_md_actCounts, .int md_bank, .int md_unaries, .int md_opens, .ref a_md_pile, .int md_piled, .int md_loop, .ref a_md_begins, .ref a_md_goals, .ref a_md_ranks, .ref a_md_choiceCounts, .ref a_md_whens, .ref a_md_becomes, .ref a_md_guessCounts, .ref a_md_guesses, .ref a_md_unaryCounts, .ref a_md_stack, .ref a_md_nexts, .ref a_md_isBegin, .ref a_md_isGoal, .ref a_md_levels, .ref a_md_queue, .ref a_md_hasGuesses, .int md_keptBits, .ref a_md_rounds, .ref a_md_marked, .ref a_md_other, .ref a_md_heights])), (a_md_acts, .inl (cI, 3000, .inl md_acts)), (a_md_actNumbers, .inl (cI, 3000, .inl md_actNumbers)), (a_md_ranks, .inl (cI, 2, .inl md_ranks)), (a_md_stack, .inl (cI, 300, .inl md_stack_3))]) [1, 2, 3, 0, 4] (by decide) rfl
      exact W.iret (v := r_2) hx hb hr (fun t ht hW => ⟨⟨r_2, (md_stack_3), rfl, h, by rw [ht]; exact hP9, va_K.moved hW.alike hK, hD9⟩, hS.F ht⟩) hS.2.2 d_Md_rank_38
    · have h := And.right h c_17
      refine lv_iconst (v := (-1)) hx hb d_Md_rank_20 (by decide) ?_
      refine lv_goto (tgt := 38) hx hb d_Md_rank_21 (by decide) ?_
      rw [← hQ]
      have hP9 := hP.sub (ws' := [(a_md, .inr (11, [.ref a_md_tape, .int md_size, .int md_at, .int md_token, .int md_tokenPlace, .int md_number, .int md_sign, .int md_bad, .int md_faultPlace, .int md_place, .ref a_md_acts, .ref a_md_actNumbers, .ref a_md_actCounts, .int md_bank, .int md_unaries, .int md_opens, .ref a_md_pile, .int md_piled, .int md_loop, .ref a_md_begins, .ref a_md_goals, .ref a_md_ranks, .ref a_md_choiceCounts, .ref a_md_whens, .ref a_md_becomes, .ref a_md_guessCounts, .ref a_md_guesses, .ref a_md_unaryCounts, .ref a_md_stack, .ref a_md_nexts, .ref a_md_isBegin, .ref a_md_isGoal, .ref a_md_levels, .ref a_md_queue, .ref a_md_hasGuesses, .int md_keptBits, .ref a_md_rounds, .ref a_md_marked, .ref a_md_other, .ref a_md_heights])), (a_md_acts, .inl (cI, 3000, .inl md_acts)), (a_md_actNumbers, .inl (cI, 3000, .inl md_actNumbers)), (a_md_ranks, .inl (cI, 2, .inl md_ranks)), (a_md_stack, .inl (cI, 300, .inl md_stack))]) [4, 0, 1, 2, 3] rfl
      have hD9 := hD.sub (ws' := [(a_md, .inr (11, [.ref a_md_tape, .int md_size, .int md_at, .int md_token, .int md_tokenPlace, .int md_number, .int md_sign, .int md_bad, .int md_faultPlace, .int md_place, .ref a_md_acts, .ref a_md_actNumbers, .ref a_md_actCounts, .int md_bank, .int md_unaries, .int md_opens, .ref a_md_pile, .int md_piled, .int md_loop, .ref a_md_begins, .ref a_md_goals, .ref a_md_ranks, .ref a_md_choiceCounts, .ref a_md_whens, .ref a_md_becomes, .ref a_md_guessCounts, .ref a_md_guesses, .ref a_md_unaryCounts, .ref a_md_stack, .ref a_md_nexts, .ref a_md_isBegin, .ref a_md_isGoal, .ref a_md_levels, .ref a_md_queue, .ref a_md_hasGuesses, .int md_keptBits, .ref a_md_rounds, .ref a_md_marked, .ref a_md_other, .ref a_md_heights])), (a_md_acts, .inl (cI, 3000, .inl md_acts)), (a_md_actNumbers, .inl (cI, 3000, .inl md_actNumbers)), (a_md_ranks, .inl (cI, 2, .inl md_ranks)), (a_md_stack, .inl (cI, 300, .inl md_stack))]) [4, 0, 1, 2, 3] (by decide) rfl
      exact W.iret (v := (-1)) hx hb hr (fun t ht hW => ⟨⟨(-1), (md_stack), rfl, h, by rw [ht]; exact hP9, va_K.moved hW.alike hK, hD9⟩, hS.F ht⟩) hS.2.2 d_Md_rank_38
set_option maxHeartbeats 4000000 in
set_option maxRecDepth 100000 in
theorem c_Md_unlikeNexts (l : Launch) (dC : Nat → ClassId) (dI : Nat → Nat → Nat) (cI cB cZ : ClassId) (adK adV : Nat → Nat) (sz : Nat) (a_md a_md_tape a_md_acts a_md_actNumbers a_md_actCounts a_md_pile a_md_begins a_md_goals a_md_ranks a_md_choiceCounts a_md_whens a_md_becomes a_md_guessCounts a_md_guesses a_md_unaryCounts a_md_stack a_md_nexts a_md_isBegin a_md_isGoal a_md_levels a_md_queue a_md_hasGuesses a_md_rounds a_md_marked a_md_other a_md_heights : Nat) (md_size : Int32) (md_at : Int32) (md_token : Int32) (md_tokenPlace : Int32) (md_number : Int32) (md_sign : Int32) (md_bad : Int32) (md_faultPlace : Int32) (md_place : Int32) (md_bank : Int32) (md_unaries : Int32) (md_opens : Int32) (md_piled : Int32) (md_loop : Int32) (md_keptBits : Int32) (md_nexts : Nat → Int32) (x1 : Int32) (post : Int32 → Prop) (h : wp_Md_unlikeNexts x1 md_nexts post) : Met l y_Md_unlikeNexts w_Md_unlikeNexts ({ frames := 0, cells := 0, slots := 0, locals := 0 }) (pc_ (dC, dI) [(cI, .int), (cB, .byte), (cZ, .boolean)] [(a_md, .inr (11, [.ref a_md_tape, .int md_size, .int md_at, .int md_token, .int md_tokenPlace, .int md_number, .int md_sign, .int md_bad, .int md_faultPlace, .int md_place, .ref a_md_acts, .ref a_md_actNumbers, .ref a_md_actCounts, .int md_bank, .int md_unaries, .int md_opens, .ref a_md_pile, .int md_piled, .int md_loop, .ref a_md_begins, .ref a_md_goals, .ref a_md_ranks, .ref a_md_choiceCounts, .ref a_md_whens, .ref a_md_becomes, .ref a_md_guessCounts, .ref a_md_guesses, .ref a_md_unaryCounts, .ref a_md_stack, .ref a_md_nexts, .ref a_md_isBegin, .ref a_md_isGoal, .ref a_md_levels, .ref a_md_queue, .ref a_md_hasGuesses, .int md_keptBits, .ref a_md_rounds, .ref a_md_marked, .ref a_md_other, .ref a_md_heights])), (a_md_nexts, .inl (cI, 24576, .inl md_nexts))] sz adK adV [.ref a_md, .int x1]) (va_Qi (fun (r : Int32) (u : Unit) => post r ) (fun (u : Unit) t => bw_ (dC, dI) [(cI, .int), (cB, .byte), (cZ, .boolean)] (va_A [(a_md, .inr (11, [.ref a_md_tape, .int md_size, .int md_at, .int md_token, .int md_tokenPlace, .int md_number, .int md_sign, .int md_bad, .int md_faultPlace, .int md_place, .ref a_md_acts, .ref a_md_actNumbers, .ref a_md_actCounts, .int md_bank, .int md_unaries, .int md_opens, .ref a_md_pile, .int md_piled, .int md_loop, .ref a_md_begins, .ref a_md_goals, .ref a_md_ranks, .ref a_md_choiceCounts, .ref a_md_whens, .ref a_md_becomes, .ref a_md_guessCounts, .ref a_md_guesses, .ref a_md_unaryCounts, .ref a_md_stack, .ref a_md_nexts, .ref a_md_isBegin, .ref a_md_isGoal, .ref a_md_levels, .ref a_md_queue, .ref a_md_hasGuesses, .int md_keptBits, .ref a_md_rounds, .ref a_md_marked, .ref a_md_other, .ref a_md_heights])), (a_md_nexts, .inl (cI, 24576, .inl md_nexts))] sz) [(a_md, .inr (11, [.ref a_md_tape, .int md_size, .int md_at, .int md_token, .int md_tokenPlace, .int md_number, .int md_sign, .int md_bad, .int md_faultPlace, .int md_place, .ref a_md_acts, .ref a_md_actNumbers, .ref a_md_actCounts, .int md_bank, .int md_unaries, .int md_opens, .ref a_md_pile, .int md_piled, .int md_loop, .ref a_md_begins, .ref a_md_goals, .ref a_md_ranks, .ref a_md_choiceCounts, .ref a_md_whens, .ref a_md_becomes, .ref a_md_guessCounts, .ref a_md_guesses, .ref a_md_unaryCounts, .ref a_md_stack, .ref a_md_nexts, .ref a_md_isBegin, .ref a_md_isGoal, .ref a_md_levels, .ref a_md_queue, .ref a_md_hasGuesses, .int md_keptBits, .ref a_md_rounds, .ref a_md_marked, .ref a_md_other, .ref a_md_heights])), (a_md_nexts, .inl (cI, 24576, .inl md_nexts))] t) (va_A [(a_md, .inr (11, [.ref a_md_tape, .int md_size, .int md_at, .int md_token, .int md_tokenPlace, .int md_number, .int md_sign, .int md_bad, .int md_faultPlace, .int md_place, .ref a_md_acts, .ref a_md_actNumbers, .ref a_md_actCounts, .int md_bank, .int md_unaries, .int md_opens, .ref a_md_pile, .int md_piled, .int md_loop, .ref a_md_begins, .ref a_md_goals, .ref a_md_ranks, .ref a_md_choiceCounts, .ref a_md_whens, .ref a_md_becomes, .ref a_md_guessCounts, .ref a_md_guesses, .ref a_md_unaryCounts, .ref a_md_stack, .ref a_md_nexts, .ref a_md_isBegin, .ref a_md_isGoal, .ref a_md_levels, .ref a_md_queue, .ref a_md_hasGuesses, .int md_keptBits, .ref a_md_rounds, .ref a_md_marked, .ref a_md_other, .ref a_md_heights])), (a_md_nexts, .inl (cI, 24576, .inl md_nexts))] sz)) 0 0 (va_A [(a_md, .inr (11, [.ref a_md_tape, .int md_size, .int md_at, .int md_token, .int md_tokenPlace, .int md_number, .int md_sign, .int md_bad, .int md_faultPlace, .int md_place, .ref a_md_acts, .ref a_md_actNumbers, .ref a_md_actCounts, .int md_bank, .int md_unaries, .int md_opens, .ref a_md_pile, .int md_piled, .int md_loop, .ref a_md_begins, .ref a_md_goals, .ref a_md_ranks, .ref a_md_choiceCounts, .ref a_md_whens, .ref a_md_becomes, .ref a_md_guessCounts, .ref a_md_guesses, .ref a_md_unaryCounts, .ref a_md_stack, .ref a_md_nexts, .ref a_md_isBegin, .ref a_md_isGoal, .ref a_md_levels, .ref a_md_queue, .ref a_md_hasGuesses, .int md_keptBits, .ref a_md_rounds, .ref a_md_marked, .ref a_md_other, .ref a_md_heights])), (a_md_nexts, .inl (cI, 24576, .inl md_nexts))] sz) := by
  refine Met.ofW (cc := b_Md_unlikeNexts) (maxL := 7) (ret := (some .int)) (by decide) rfl ?_
  intro p e s m args below meth c s₁ B hml hv
  obtain ⟨rfl, hsz, hP, hK, hD0, hN, hT⟩ := hv
  have hx := B.exec
  have hb := B.bytes
  have hr := B.returns
  have hts := atoms_spec (ws := w_Md_unlikeNexts) B.pre
  have hown : s.vm.findClass "LoopInductionModel" = some m.cls := findClass_of_methodNamed B.named
  have hlocks := B.notSynchronized
  subst hsz
  have hD := hD0.self (sz := s.heap.size)
  generalize hAe : va_A [(a_md, .inr (11, [.ref a_md_tape, .int md_size, .int md_at, .int md_token, .int md_tokenPlace, .int md_number, .int md_sign, .int md_bad, .int md_faultPlace, .int md_place, .ref a_md_acts, .ref a_md_actNumbers, .ref a_md_actCounts, .int md_bank, .int md_unaries, .int md_opens, .ref a_md_pile, .int md_piled, .int md_loop, .ref a_md_begins, .ref a_md_goals, .ref a_md_ranks, .ref a_md_choiceCounts, .ref a_md_whens, .ref a_md_becomes, .ref a_md_guessCounts, .ref a_md_guesses, .ref a_md_unaryCounts, .ref a_md_stack, .ref a_md_nexts, .ref a_md_isBegin, .ref a_md_isGoal, .ref a_md_levels, .ref a_md_queue, .ref a_md_hasGuesses, .int md_keptBits, .ref a_md_rounds, .ref a_md_marked, .ref a_md_other, .ref a_md_heights])), (a_md_nexts, .inl (cI, 24576, .inl md_nexts))] s.heap.size = A at hD hT ⊢
  have hA : ∀ q : Nat, s.heap.size ≤ q → A q := fun q h => by rw [← hAe]; exact Or.inr h
  have hS : va_S A s.heap s.heap [] := va_S.rf
  generalize hQ : MQ below _ _ s 0 0 _ = QQ
  have hl := lv_entry ([.ref a_md, .int x1]) (n := 7) (Nat.le_of_ble_eq_true rfl)
  rw [lg_entry_eq]
  generalize (lg_sl ([.ref a_md, .int x1]) ++ List.replicate (7 - (lg_sl ([.ref a_md, .int x1])).length) Slot.unset).toArray = ls at hl ⊢
  have hl : lv_has ls 7 [(0, .ref a_md), (1, .int x1)] := hl
  have fl_63 := (hts _ (List.mem_cons_of_mem _ m_1119))
  refine lv_iconst (v := 0) hx hb d_Md_unlikeNexts_0 (by decide) ?_
  refine lv_istore_n (lv' := [(2, .int 0), (0, .ref a_md), (1, .int x1)]) hx hb d_Md_unlikeNexts_1 rfl hl (by decide) rfl (fun ls hl => ?_)
  refine lv_iconst (v := 0) hx hb d_Md_unlikeNexts_2 (by decide) ?_
  refine lv_istore_n (lv' := [(3, .int 0), (2, .int 0), (0, .ref a_md), (1, .int x1)]) hx hb d_Md_unlikeNexts_3 rfl hl (by decide) rfl (fun ls hl => ?_)
  have L4_q_3 : ∀ (k98 : Int32 → Prop) (hk98 : ∀ (x2_4 : Int32), k98 x2_4 → ∀ (H : Heap) (locs : List Loc), va_P (dC, dI) vwCl [(a_md, .inr (11, [.ref a_md_tape, .int md_size, .int md_at, .int md_token, .int md_tokenPlace, .int md_number, .int md_sign, .int md_bad, .int md_faultPlace, .int md_place, .ref a_md_acts, .ref a_md_actNumbers, .ref a_md_actCounts, .int md_bank, .int md_unaries, .int md_opens, .ref a_md_pile, .int md_piled, .int md_loop, .ref a_md_begins, .ref a_md_goals, .ref a_md_ranks, .ref a_md_choiceCounts, .ref a_md_whens, .ref a_md_becomes, .ref a_md_guessCounts, .ref a_md_guesses, .ref a_md_unaryCounts, .ref a_md_stack, .ref a_md_nexts, .ref a_md_isBegin, .ref a_md_isGoal, .ref a_md_levels, .ref a_md_queue, .ref a_md_hasGuesses, .int md_keptBits, .ref a_md_rounds, .ref a_md_marked, .ref a_md_other, .ref a_md_heights])), (a_md_nexts, .inl (cI, 24576, .inl md_nexts))] H → va_D A [(a_md, .inr (11, [.ref a_md_tape, .int md_size, .int md_at, .int md_token, .int md_tokenPlace, .int md_number, .int md_sign, .int md_bad, .int md_faultPlace, .int md_place, .ref a_md_acts, .ref a_md_actNumbers, .ref a_md_actCounts, .int md_bank, .int md_unaries, .int md_opens, .ref a_md_pile, .int md_piled, .int md_loop, .ref a_md_begins, .ref a_md_goals, .ref a_md_ranks, .ref a_md_choiceCounts, .ref a_md_whens, .ref a_md_becomes, .ref a_md_guessCounts, .ref a_md_guesses, .ref a_md_unaryCounts, .ref a_md_stack, .ref a_md_nexts, .ref a_md_isBegin, .ref a_md_isGoal, .ref a_md_levels, .ref a_md_queue, .ref a_md_hasGuesses, .int md_keptBits, .ref a_md_rounds, .ref a_md_marked, .ref a_md_other, .ref a_md_heights])), (a_md_nexts, .inl (cI, 24576, .inl md_nexts))] → va_S A s.heap H locs → ∀ ls : Array Slot, lv_has ls 7 [(2, .int x2_4)] → W p l e (headSpec w_Md_unlikeNexts ({ frames := 0, cells := 0, slots := 0, locals := 0 })).room s m (([.ref a_md, .int x1] : List Value).toArray) below meth c H locs 0 0 QQ (F0 m 98 ls [])) (n : Nat) (x2_1 : Int32) (x3_2 : Int32), wp_Md_unlikeNexts_L4 x1 md_nexts k98 n x2_1 x3_2 → ∀ (H : Heap) (locs : List Loc), va_P (dC, dI) vwCl [(a_md, .inr (11, [.ref a_md_tape, .int md_size, .int md_at, .int md_token, .int md_tokenPlace, .int md_number, .int md_sign, .int md_bad, .int md_faultPlace, .int md_place, .ref a_md_acts, .ref a_md_actNumbers, .ref a_md_actCounts, .int md_bank, .int md_unaries, .int md_opens, .ref a_md_pile, .int md_piled, .int md_loop, .ref a_md_begins, .ref a_md_goals, .ref a_md_ranks, .ref a_md_choiceCounts, .ref a_md_whens, .ref a_md_becomes, .ref a_md_guessCounts, .ref a_md_guesses, .ref a_md_unaryCounts, .ref a_md_stack, .ref a_md_nexts, .ref a_md_isBegin, .ref a_md_isGoal, .ref a_md_levels, .ref a_md_queue, .ref a_md_hasGuesses, .int md_keptBits, .ref a_md_rounds, .ref a_md_marked, .ref a_md_other, .ref a_md_heights])), (a_md_nexts, .inl (cI, 24576, .inl md_nexts))] H → va_D A [(a_md, .inr (11, [.ref a_md_tape, .int md_size, .int md_at, .int md_token, .int md_tokenPlace, .int md_number, .int md_sign, .int md_bad, .int md_faultPlace, .int md_place, .ref a_md_acts, .ref a_md_actNumbers, .ref a_md_actCounts, .int md_bank, .int md_unaries, .int md_opens, .ref a_md_pile, .int md_piled, .int md_loop, .ref a_md_begins, .ref a_md_goals, .ref a_md_ranks, .ref a_md_choiceCounts, .ref a_md_whens, .ref a_md_becomes, .ref a_md_guessCounts, .ref a_md_guesses, .ref a_md_unaryCounts, .ref a_md_stack, .ref a_md_nexts, .ref a_md_isBegin, .ref a_md_isGoal, .ref a_md_levels, .ref a_md_queue, .ref a_md_hasGuesses, .int md_keptBits, .ref a_md_rounds, .ref a_md_marked, .ref a_md_other, .ref a_md_heights])), (a_md_nexts, .inl (cI, 24576, .inl md_nexts))] → va_S A s.heap H locs → ∀ ls : Array Slot, lv_has ls 7 [(0, .ref a_md), (1, .int x1), (2, .int x2_1), (3, .int x3_2)] → W p l e (headSpec w_Md_unlikeNexts ({ frames := 0, cells := 0, slots := 0, locals := 0 })).room s m (([.ref a_md, .int x1] : List Value).toArray) below meth c H locs 0 0 QQ (F0 m 4 ls []) := by
    intro k98 hk98 n
    induction n with
    | zero => intro x2_1 x3_2 h; exact (show False from h).elim
    | succ n il =>
      intro x2_1 x3_2 h
      intro H locs hP hD hS ls hl
      refine lv_iload_n hx hb d_Md_unlikeNexts_4 rfl (lv_at hl 3 rfl) ?_
      refine lv_bipush (v := 6) hx hb d_Md_unlikeNexts_5 (by decide) ?_
      refine lv_icmp_ge (tgt := 98) hx hb d_Md_unlikeNexts_7 (by decide) (fun c_7 => ?_) (fun c_7 => ?_)
      · have h := And.left h c_7
        exact hk98 _ h _ _ hP hD hS _ (lv_sub hl [2] rfl)
      · have h := And.right h c_7
        refine lv_aload_n hx hb d_Md_unlikeNexts_10 rfl (lv_at hl 0 rfl) ?_
        refine va_get (D := (dC, dI)) (ci := 11) (v := .ref a_md_nexts) (C := "LoopInductionModel") (T := F_Md) (N := 40) hx hb hts iC_Md hown hK hP 0 rfl rfl 29 (by decide) fl_63 (fun _ h9 => h9) rfl d_Md_unlikeNexts_11 ?_
        refine lv_bipush (v := 6) hx hb d_Md_unlikeNexts_14 (by decide) ?_
        refine lv_iload_n hx hb d_Md_unlikeNexts_16 rfl (lv_at hl 1 rfl) ?_
        refine lv_imul hx hb d_Md_unlikeNexts_17 ?_
        refine lv_iload_n hx hb d_Md_unlikeNexts_18 rfl (lv_at hl 3 rfl) ?_
        refine lv_iadd hx hb d_Md_unlikeNexts_19 ?_
        obtain ⟨hin_20, h⟩ := h
        refine va_iald hx hb hK hP 1 0 rfl rfl hin_20 d_Md_unlikeNexts_20 ?_
        refine lv_topi (fun x4_5 ex4_5 => ?_)
        have h := h x4_5 ex4_5
        refine lv_istore (lv' := [(4, .int x4_5), (0, .ref a_md), (1, .int x1), (2, .int x2_1), (3, .int x3_2)]) hx hb d_Md_unlikeNexts_21 hl (by decide) rfl (fun ls hl => ?_)
        refine lv_iload hx hb d_Md_unlikeNexts_23 (lv_at hl 0 rfl) ?_
        refine lv_if_lt (tgt := 32) hx hb d_Md_unlikeNexts_25 (by decide) (fun c_25 => ?_) (fun c_25 => ?_)
        · have h := And.left h c_25
          refine lv_iconst (v := 0) hx hb d_Md_unlikeNexts_32 (by decide) ?_
          refine lv_istore (lv' := [(5, .int 0), (4, .int x4_5), (0, .ref a_md), (1, .int x1), (2, .int x2_1), (3, .int x3_2)]) hx hb d_Md_unlikeNexts_33 hl (by decide) rfl (fun ls hl => ?_)
          refine lv_iconst (v := 0) hx hb d_Md_unlikeNexts_35 (by decide) ?_
          refine lv_istore (lv' := [(6, .int 0), (5, .int 0), (4, .int x4_5), (0, .ref a_md), (1, .int x1), (2, .int x2_1), (3, .int x3_2)]) hx hb d_Md_unlikeNexts_36 hl (by decide) rfl (fun ls hl => ?_)
          have L38_q_8 : ∀ (k79 : Int32 → Prop) (hk79 : ∀ (x5_9 : Int32), k79 x5_9 → ∀ (H : Heap) (locs : List Loc), va_P (dC, dI) vwCl [(a_md, .inr (11, [.ref a_md_tape, .int md_size, .int md_at, .int md_token, .int md_tokenPlace, .int md_number, .int md_sign, .int md_bad, .int md_faultPlace, .int md_place, .ref a_md_acts, .ref a_md_actNumbers, .ref a_md_actCounts, .int md_bank, .int md_unaries, .int md_opens, .ref a_md_pile, .int md_piled, .int md_loop, .ref a_md_begins, .ref a_md_goals, .ref a_md_ranks, .ref a_md_choiceCounts, .ref a_md_whens, .ref a_md_becomes, .ref a_md_guessCounts, .ref a_md_guesses, .ref a_md_unaryCounts, .ref a_md_stack, .ref a_md_nexts, .ref a_md_isBegin, .ref a_md_isGoal, .ref a_md_levels, .ref a_md_queue, .ref a_md_hasGuesses, .int md_keptBits, .ref a_md_rounds, .ref a_md_marked, .ref a_md_other, .ref a_md_heights])), (a_md_nexts, .inl (cI, 24576, .inl md_nexts))] H → va_D A [(a_md, .inr (11, [.ref a_md_tape, .int md_size, .int md_at, .int md_token, .int md_tokenPlace, .int md_number, .int md_sign, .int md_bad, .int md_faultPlace, .int md_place, .ref a_md_acts, .ref a_md_actNumbers, .ref a_md_actCounts, .int md_bank, .int md_unaries, .int md_opens, .ref a_md_pile, .int md_piled, .int md_loop, .ref a_md_begins, .ref a_md_goals, .ref a_md_ranks, .ref a_md_choiceCounts, .ref a_md_whens, .ref a_md_becomes, .ref a_md_guessCounts, .ref a_md_guesses, .ref a_md_unaryCounts, .ref a_md_stack, .ref a_md_nexts, .ref a_md_isBegin, .ref a_md_isGoal, .ref a_md_levels, .ref a_md_queue, .ref a_md_hasGuesses, .int md_keptBits, .ref a_md_rounds, .ref a_md_marked, .ref a_md_other, .ref a_md_heights])), (a_md_nexts, .inl (cI, 24576, .inl md_nexts))] → va_S A s.heap H locs → ∀ ls : Array Slot, lv_has ls 7 [(0, .ref a_md), (1, .int x1), (2, .int x2_1), (3, .int x3_2), (5, .int x5_9)] → W p l e (headSpec w_Md_unlikeNexts ({ frames := 0, cells := 0, slots := 0, locals := 0 })).room s m (([.ref a_md, .int x1] : List Value).toArray) below meth c H locs 0 0 QQ (F0 m 79 ls [])) (n : Nat) (x5_6 : Int32) (x6_7 : Int32), wp_Md_unlikeNexts_L38 x1 x2_1 x3_2 x4_5 md_nexts k79 n x5_6 x6_7 → ∀ (H : Heap) (locs : List Loc), va_P (dC, dI) vwCl [(a_md, .inr (11, [.ref a_md_tape, .int md_size, .int md_at, .int md_token, .int md_tokenPlace, .int md_number, .int md_sign, .int md_bad, .int md_faultPlace, .int md_place, .ref a_md_acts, .ref a_md_actNumbers, .ref a_md_actCounts, .int md_bank, .int md_unaries, .int md_opens, .ref a_md_pile, .int md_piled, .int md_loop, .ref a_md_begins, .ref a_md_goals, .ref a_md_ranks, .ref a_md_choiceCounts, .ref a_md_whens, .ref a_md_becomes, .ref a_md_guessCounts, .ref a_md_guesses, .ref a_md_unaryCounts, .ref a_md_stack, .ref a_md_nexts, .ref a_md_isBegin, .ref a_md_isGoal, .ref a_md_levels, .ref a_md_queue, .ref a_md_hasGuesses, .int md_keptBits, .ref a_md_rounds, .ref a_md_marked, .ref a_md_other, .ref a_md_heights])), (a_md_nexts, .inl (cI, 24576, .inl md_nexts))] H → va_D A [(a_md, .inr (11, [.ref a_md_tape, .int md_size, .int md_at, .int md_token, .int md_tokenPlace, .int md_number, .int md_sign, .int md_bad, .int md_faultPlace, .int md_place, .ref a_md_acts, .ref a_md_actNumbers, .ref a_md_actCounts, .int md_bank, .int md_unaries, .int md_opens, .ref a_md_pile, .int md_piled, .int md_loop, .ref a_md_begins, .ref a_md_goals, .ref a_md_ranks, .ref a_md_choiceCounts, .ref a_md_whens, .ref a_md_becomes, .ref a_md_guessCounts, .ref a_md_guesses, .ref a_md_unaryCounts, .ref a_md_stack, .ref a_md_nexts, .ref a_md_isBegin, .ref a_md_isGoal, .ref a_md_levels, .ref a_md_queue, .ref a_md_hasGuesses, .int md_keptBits, .ref a_md_rounds, .ref a_md_marked, .ref a_md_other, .ref a_md_heights])), (a_md_nexts, .inl (cI, 24576, .inl md_nexts))] → va_S A s.heap H locs → ∀ ls : Array Slot, lv_has ls 7 [(0, .ref a_md), (1, .int x1), (2, .int x2_1), (3, .int x3_2), (4, .int x4_5), (5, .int x5_6), (6, .int x6_7)] → W p l e (headSpec w_Md_unlikeNexts ({ frames := 0, cells := 0, slots := 0, locals := 0 })).room s m (([.ref a_md, .int x1] : List Value).toArray) below meth c H locs 0 0 QQ (F0 m 38 ls []) := by
            intro k79 hk79 n
            induction n with
            | zero => intro x5_6 x6_7 h; exact (show False from h).elim
            | succ n il =>
              intro x5_6 x6_7 h
              intro H locs hP hD hS ls hl
              refine lv_iload hx hb d_Md_unlikeNexts_38 (lv_at hl 6 rfl) ?_
              refine lv_iload_n hx hb d_Md_unlikeNexts_40 rfl (lv_at hl 3 rfl) ?_
              refine lv_icmp_ge (tgt := 79) hx hb d_Md_unlikeNexts_41 (by decide) (fun c_41 => ?_) (fun c_41 => ?_)
              · have h := And.left h c_41
                exact hk79 _ h _ _ hP hD hS _ (lv_sub hl [0, 1, 2, 3, 5] rfl)
              · have h := And.right h c_41
                refine lv_iload hx hb d_Md_unlikeNexts_44 (lv_at hl 5 rfl) ?_
                refine lv_if_eq (tgt := 70) hx hb d_Md_unlikeNexts_46 (by decide) (fun c_46 => ?_) (fun c_46 => ?_)
                · have h := And.left h c_46
                  refine lv_iconst (v := 0) hx hb d_Md_unlikeNexts_70 (by decide) ?_
                  refine lv_istore (lv' := [(5, .int 0), (0, .ref a_md), (1, .int x1), (2, .int x2_1), (3, .int x3_2), (4, .int x4_5), (6, .int x6_7)]) hx hb d_Md_unlikeNexts_71 hl (by decide) rfl (fun ls hl => ?_)
                  refine lv_iinc (v := x6_7 + 1) (lv' := [(6, .int (x6_7 + 1)), (5, .int 0), (0, .ref a_md), (1, .int x1), (2, .int x2_1), (3, .int x3_2), (4, .int x4_5)]) hx hb d_Md_unlikeNexts_73 hl (k := 6) rfl rfl (by decide) rfl (fun ls hl => ?_)
                  refine lv_goto (tgt := 38) hx hb d_Md_unlikeNexts_76 (by decide) ?_
                  exact il _ _ h _ _ hP hD hS _ (lv_sub hl [2, 3, 4, 5, 6, 1, 0] rfl)
                · have h := And.right h c_46
                  refine lv_aload_n hx hb d_Md_unlikeNexts_49 rfl (lv_at hl 0 rfl) ?_
                  refine va_get (D := (dC, dI)) (ci := 11) (v := .ref a_md_nexts) (C := "LoopInductionModel") (T := F_Md) (N := 40) hx hb hts iC_Md hown hK hP 0 rfl rfl 29 (by decide) fl_63 (fun _ h9 => h9) rfl d_Md_unlikeNexts_50 ?_
                  refine lv_bipush (v := 6) hx hb d_Md_unlikeNexts_53 (by decide) ?_
                  refine lv_iload_n hx hb d_Md_unlikeNexts_55 rfl (lv_at hl 1 rfl) ?_
                  refine lv_imul hx hb d_Md_unlikeNexts_56 ?_
                  refine lv_iload hx hb d_Md_unlikeNexts_57 (lv_at hl 6 rfl) ?_
                  refine lv_iadd hx hb d_Md_unlikeNexts_59 ?_
                  obtain ⟨hin_60, h⟩ := h
                  refine va_iald hx hb hK hP 1 0 rfl rfl hin_60 d_Md_unlikeNexts_60 ?_
                  refine lv_iload hx hb d_Md_unlikeNexts_61 (lv_at hl 4 rfl) ?_
                  refine lv_icmp_eq (tgt := 70) hx hb d_Md_unlikeNexts_63 (by decide) (fun c_63 => ?_) (fun c_63 => ?_)
                  · have h := And.left h c_63
                    refine lv_iconst (v := 0) hx hb d_Md_unlikeNexts_70 (by decide) ?_
                    refine lv_istore (lv' := [(5, .int 0), (0, .ref a_md), (1, .int x1), (2, .int x2_1), (3, .int x3_2), (4, .int x4_5), (6, .int x6_7)]) hx hb d_Md_unlikeNexts_71 hl (by decide) rfl (fun ls hl => ?_)
                    refine lv_iinc (v := x6_7 + 1) (lv' := [(6, .int (x6_7 + 1)), (5, .int 0), (0, .ref a_md), (1, .int x1), (2, .int x2_1), (3, .int x3_2), (4, .int x4_5)]) hx hb d_Md_unlikeNexts_73 hl (k := 6) rfl rfl (by decide) rfl (fun ls hl => ?_)
                    refine lv_goto (tgt := 38) hx hb d_Md_unlikeNexts_76 (by decide) ?_
                    exact il _ _ h _ _ hP hD hS _ (lv_sub hl [2, 3, 4, 5, 6, 1, 0] rfl)
                  · have h := And.right h c_63
                    refine lv_iconst (v := 1) hx hb d_Md_unlikeNexts_66 (by decide) ?_
                    refine lv_goto (tgt := 71) hx hb d_Md_unlikeNexts_67 (by decide) ?_
                    refine lv_istore (lv' := [(5, .int 1), (0, .ref a_md), (1, .int x1), (2, .int x2_1), (3, .int x3_2), (4, .int x4_5), (6, .int x6_7)]) hx hb d_Md_unlikeNexts_71 hl (by decide) rfl (fun ls hl => ?_)
                    refine lv_iinc (v := x6_7 + 1) (lv' := [(6, .int (x6_7 + 1)), (5, .int 1), (0, .ref a_md), (1, .int x1), (2, .int x2_1), (3, .int x3_2), (4, .int x4_5)]) hx hb d_Md_unlikeNexts_73 hl (k := 6) rfl rfl (by decide) rfl (fun ls hl => ?_)
                    refine lv_goto (tgt := 38) hx hb d_Md_unlikeNexts_76 (by decide) ?_
                    exact il _ _ h _ _ hP hD hS _ (lv_sub hl [2, 3, 4, 5, 6, 1, 0] rfl)
          obtain ⟨n_, h⟩ := h
          refine L38_q_8 _ ?_ n_ _ _ h _ _ hP hD hS _ (lv_sub hl [3, 4, 5, 6, 2, 1, 0] rfl)
          intro x5_10 h
          intro H locs hP hD hS ls hl
          refine lv_iload_n hx hb d_Md_unlikeNexts_79 rfl (lv_at hl 2 rfl) ?_
          refine lv_iload hx hb d_Md_unlikeNexts_80 (lv_at hl 4 rfl) ?_
          refine lv_if_eq (tgt := 89) hx hb d_Md_unlikeNexts_82 (by decide) (fun c_82 => ?_) (fun c_82 => ?_)
          · have h := And.left h c_82
            refine lv_iconst (v := 0) hx hb d_Md_unlikeNexts_89 (by decide) ?_
            refine lv_iadd hx hb d_Md_unlikeNexts_90 ?_
            refine lv_topi (fun x2_11 ex2_11 => ?_)
            have h := h x2_11 ex2_11
            refine lv_istore_n (lv' := [(2, .int x2_11), (0, .ref a_md), (1, .int x1), (3, .int x3_2), (5, .int x5_10)]) hx hb d_Md_unlikeNexts_91 rfl hl (by decide) rfl (fun ls hl => ?_)
            refine lv_iinc (v := x3_2 + 1) (lv' := [(3, .int (x3_2 + 1)), (2, .int x2_11), (0, .ref a_md), (1, .int x1), (5, .int x5_10)]) hx hb d_Md_unlikeNexts_92 hl (k := 3) rfl rfl (by decide) rfl (fun ls hl => ?_)
            refine lv_goto (tgt := 4) hx hb d_Md_unlikeNexts_95 (by decide) ?_
            exact il _ _ h _ _ hP hD hS _ (lv_sub hl [2, 3, 1, 0] rfl)
          · have h := And.right h c_82
            refine lv_iconst (v := 1) hx hb d_Md_unlikeNexts_85 (by decide) ?_
            refine lv_goto (tgt := 90) hx hb d_Md_unlikeNexts_86 (by decide) ?_
            refine lv_iadd hx hb d_Md_unlikeNexts_90 ?_
            refine lv_topi (fun x2_12 ex2_12 => ?_)
            have h := h x2_12 ex2_12
            refine lv_istore_n (lv' := [(2, .int x2_12), (0, .ref a_md), (1, .int x1), (3, .int x3_2), (5, .int x5_10)]) hx hb d_Md_unlikeNexts_91 rfl hl (by decide) rfl (fun ls hl => ?_)
            refine lv_iinc (v := x3_2 + 1) (lv' := [(3, .int (x3_2 + 1)), (2, .int x2_12), (0, .ref a_md), (1, .int x1), (5, .int x5_10)]) hx hb d_Md_unlikeNexts_92 hl (k := 3) rfl rfl (by decide) rfl (fun ls hl => ?_)
            refine lv_goto (tgt := 4) hx hb d_Md_unlikeNexts_95 (by decide) ?_
            exact il _ _ h _ _ hP hD hS _ (lv_sub hl [2, 3, 1, 0] rfl)
        · have h := And.right h c_25
          refine lv_iconst (v := 1) hx hb d_Md_unlikeNexts_28 (by decide) ?_
          refine lv_goto (tgt := 33) hx hb d_Md_unlikeNexts_29 (by decide) ?_
          refine lv_istore (lv' := [(5, .int 1), (4, .int x4_5), (0, .ref a_md), (1, .int x1), (2, .int x2_1), (3, .int x3_2)]) hx hb d_Md_unlikeNexts_33 hl (by decide) rfl (fun ls hl => ?_)
          refine lv_iconst (v := 0) hx hb d_Md_unlikeNexts_35 (by decide) ?_
          refine lv_istore (lv' := [(6, .int 0), (5, .int 1), (4, .int x4_5), (0, .ref a_md), (1, .int x1), (2, .int x2_1), (3, .int x3_2)]) hx hb d_Md_unlikeNexts_36 hl (by decide) rfl (fun ls hl => ?_)
          have L38_q_15 : ∀ (k79 : Int32 → Prop) (hk79 : ∀ (x5_16 : Int32), k79 x5_16 → ∀ (H : Heap) (locs : List Loc), va_P (dC, dI) vwCl [(a_md, .inr (11, [.ref a_md_tape, .int md_size, .int md_at, .int md_token, .int md_tokenPlace, .int md_number, .int md_sign, .int md_bad, .int md_faultPlace, .int md_place, .ref a_md_acts, .ref a_md_actNumbers, .ref a_md_actCounts, .int md_bank, .int md_unaries, .int md_opens, .ref a_md_pile, .int md_piled, .int md_loop, .ref a_md_begins, .ref a_md_goals, .ref a_md_ranks, .ref a_md_choiceCounts, .ref a_md_whens, .ref a_md_becomes, .ref a_md_guessCounts, .ref a_md_guesses, .ref a_md_unaryCounts, .ref a_md_stack, .ref a_md_nexts, .ref a_md_isBegin, .ref a_md_isGoal, .ref a_md_levels, .ref a_md_queue, .ref a_md_hasGuesses, .int md_keptBits, .ref a_md_rounds, .ref a_md_marked, .ref a_md_other, .ref a_md_heights])), (a_md_nexts, .inl (cI, 24576, .inl md_nexts))] H → va_D A [(a_md, .inr (11, [.ref a_md_tape, .int md_size, .int md_at, .int md_token, .int md_tokenPlace, .int md_number, .int md_sign, .int md_bad, .int md_faultPlace, .int md_place, .ref a_md_acts, .ref a_md_actNumbers, .ref a_md_actCounts, .int md_bank, .int md_unaries, .int md_opens, .ref a_md_pile, .int md_piled, .int md_loop, .ref a_md_begins, .ref a_md_goals, .ref a_md_ranks, .ref a_md_choiceCounts, .ref a_md_whens, .ref a_md_becomes, .ref a_md_guessCounts, .ref a_md_guesses, .ref a_md_unaryCounts, .ref a_md_stack, .ref a_md_nexts, .ref a_md_isBegin, .ref a_md_isGoal, .ref a_md_levels, .ref a_md_queue, .ref a_md_hasGuesses, .int md_keptBits, .ref a_md_rounds, .ref a_md_marked, .ref a_md_other, .ref a_md_heights])), (a_md_nexts, .inl (cI, 24576, .inl md_nexts))] → va_S A s.heap H locs → ∀ ls : Array Slot, lv_has ls 7 [(0, .ref a_md), (1, .int x1), (2, .int x2_1), (3, .int x3_2), (5, .int x5_16)] → W p l e (headSpec w_Md_unlikeNexts ({ frames := 0, cells := 0, slots := 0, locals := 0 })).room s m (([.ref a_md, .int x1] : List Value).toArray) below meth c H locs 0 0 QQ (F0 m 79 ls [])) (n : Nat) (x5_13 : Int32) (x6_14 : Int32), wp_Md_unlikeNexts_L38 x1 x2_1 x3_2 x4_5 md_nexts k79 n x5_13 x6_14 → ∀ (H : Heap) (locs : List Loc), va_P (dC, dI) vwCl [(a_md, .inr (11, [.ref a_md_tape, .int md_size, .int md_at, .int md_token, .int md_tokenPlace, .int md_number, .int md_sign, .int md_bad, .int md_faultPlace, .int md_place, .ref a_md_acts, .ref a_md_actNumbers, .ref a_md_actCounts, .int md_bank, .int md_unaries, .int md_opens, .ref a_md_pile, .int md_piled, .int md_loop, .ref a_md_begins, .ref a_md_goals, .ref a_md_ranks, .ref a_md_choiceCounts, .ref a_md_whens, .ref a_md_becomes, .ref a_md_guessCounts, .ref a_md_guesses, .ref a_md_unaryCounts, .ref a_md_stack, .ref a_md_nexts, .ref a_md_isBegin, .ref a_md_isGoal, .ref a_md_levels, .ref a_md_queue, .ref a_md_hasGuesses, .int md_keptBits, .ref a_md_rounds, .ref a_md_marked, .ref a_md_other, .ref a_md_heights])), (a_md_nexts, .inl (cI, 24576, .inl md_nexts))] H → va_D A [(a_md, .inr (11, [.ref a_md_tape, .int md_size, .int md_at, .int md_token, .int md_tokenPlace, .int md_number, .int md_sign, .int md_bad, .int md_faultPlace, .int md_place, .ref a_md_acts, .ref a_md_actNumbers, .ref a_md_actCounts, .int md_bank, .int md_unaries, .int md_opens, .ref a_md_pile, .int md_piled, .int md_loop, .ref a_md_begins, .ref a_md_goals, .ref a_md_ranks, .ref a_md_choiceCounts, .ref a_md_whens, .ref a_md_becomes, .ref a_md_guessCounts, .ref a_md_guesses, .ref a_md_unaryCounts, .ref a_md_stack, .ref a_md_nexts, .ref a_md_isBegin, .ref a_md_isGoal, .ref a_md_levels, .ref a_md_queue, .ref a_md_hasGuesses, .int md_keptBits, .ref a_md_rounds, .ref a_md_marked, .ref a_md_other, .ref a_md_heights])), (a_md_nexts, .inl (cI, 24576, .inl md_nexts))] → va_S A s.heap H locs → ∀ ls : Array Slot, lv_has ls 7 [(0, .ref a_md), (1, .int x1), (2, .int x2_1), (3, .int x3_2), (4, .int x4_5), (5, .int x5_13), (6, .int x6_14)] → W p l e (headSpec w_Md_unlikeNexts ({ frames := 0, cells := 0, slots := 0, locals := 0 })).room s m (([.ref a_md, .int x1] : List Value).toArray) below meth c H locs 0 0 QQ (F0 m 38 ls []) := by
            intro k79 hk79 n
            induction n with
            | zero => intro x5_13 x6_14 h; exact (show False from h).elim
            | succ n il =>
              intro x5_13 x6_14 h
              intro H locs hP hD hS ls hl
              refine lv_iload hx hb d_Md_unlikeNexts_38 (lv_at hl 6 rfl) ?_
              refine lv_iload_n hx hb d_Md_unlikeNexts_40 rfl (lv_at hl 3 rfl) ?_
              refine lv_icmp_ge (tgt := 79) hx hb d_Md_unlikeNexts_41 (by decide) (fun c_41 => ?_) (fun c_41 => ?_)
              · have h := And.left h c_41
                exact hk79 _ h _ _ hP hD hS _ (lv_sub hl [0, 1, 2, 3, 5] rfl)
              · have h := And.right h c_41
                refine lv_iload hx hb d_Md_unlikeNexts_44 (lv_at hl 5 rfl) ?_
                refine lv_if_eq (tgt := 70) hx hb d_Md_unlikeNexts_46 (by decide) (fun c_46 => ?_) (fun c_46 => ?_)
                · have h := And.left h c_46
                  refine lv_iconst (v := 0) hx hb d_Md_unlikeNexts_70 (by decide) ?_
                  refine lv_istore (lv' := [(5, .int 0), (0, .ref a_md), (1, .int x1), (2, .int x2_1), (3, .int x3_2), (4, .int x4_5), (6, .int x6_14)]) hx hb d_Md_unlikeNexts_71 hl (by decide) rfl (fun ls hl => ?_)
                  refine lv_iinc (v := x6_14 + 1) (lv' := [(6, .int (x6_14 + 1)), (5, .int 0), (0, .ref a_md), (1, .int x1), (2, .int x2_1), (3, .int x3_2), (4, .int x4_5)]) hx hb d_Md_unlikeNexts_73 hl (k := 6) rfl rfl (by decide) rfl (fun ls hl => ?_)
                  refine lv_goto (tgt := 38) hx hb d_Md_unlikeNexts_76 (by decide) ?_
                  exact il _ _ h _ _ hP hD hS _ (lv_sub hl [2, 3, 4, 5, 6, 1, 0] rfl)
                · have h := And.right h c_46
                  refine lv_aload_n hx hb d_Md_unlikeNexts_49 rfl (lv_at hl 0 rfl) ?_
                  refine va_get (D := (dC, dI)) (ci := 11) (v := .ref a_md_nexts) (C := "LoopInductionModel") (T := F_Md) (N := 40) hx hb hts iC_Md hown hK hP 0 rfl rfl 29 (by decide) fl_63 (fun _ h9 => h9) rfl d_Md_unlikeNexts_50 ?_
                  refine lv_bipush (v := 6) hx hb d_Md_unlikeNexts_53 (by decide) ?_
                  refine lv_iload_n hx hb d_Md_unlikeNexts_55 rfl (lv_at hl 1 rfl) ?_
                  refine lv_imul hx hb d_Md_unlikeNexts_56 ?_
                  refine lv_iload hx hb d_Md_unlikeNexts_57 (lv_at hl 6 rfl) ?_
                  refine lv_iadd hx hb d_Md_unlikeNexts_59 ?_
                  obtain ⟨hin_60, h⟩ := h
                  refine va_iald hx hb hK hP 1 0 rfl rfl hin_60 d_Md_unlikeNexts_60 ?_
                  refine lv_iload hx hb d_Md_unlikeNexts_61 (lv_at hl 4 rfl) ?_
                  refine lv_icmp_eq (tgt := 70) hx hb d_Md_unlikeNexts_63 (by decide) (fun c_63 => ?_) (fun c_63 => ?_)
                  · have h := And.left h c_63
                    refine lv_iconst (v := 0) hx hb d_Md_unlikeNexts_70 (by decide) ?_
                    refine lv_istore (lv' := [(5, .int 0), (0, .ref a_md), (1, .int x1), (2, .int x2_1), (3, .int x3_2), (4, .int x4_5), (6, .int x6_14)]) hx hb d_Md_unlikeNexts_71 hl (by decide) rfl (fun ls hl => ?_)
                    refine lv_iinc (v := x6_14 + 1) (lv' := [(6, .int (x6_14 + 1)), (5, .int 0), (0, .ref a_md), (1, .int x1), (2, .int x2_1), (3, .int x3_2), (4, .int x4_5)]) hx hb d_Md_unlikeNexts_73 hl (k := 6) rfl rfl (by decide) rfl (fun ls hl => ?_)
                    refine lv_goto (tgt := 38) hx hb d_Md_unlikeNexts_76 (by decide) ?_
                    exact il _ _ h _ _ hP hD hS _ (lv_sub hl [2, 3, 4, 5, 6, 1, 0] rfl)
                  · have h := And.right h c_63
                    refine lv_iconst (v := 1) hx hb d_Md_unlikeNexts_66 (by decide) ?_
                    refine lv_goto (tgt := 71) hx hb d_Md_unlikeNexts_67 (by decide) ?_
                    refine lv_istore (lv' := [(5, .int 1), (0, .ref a_md), (1, .int x1), (2, .int x2_1), (3, .int x3_2), (4, .int x4_5), (6, .int x6_14)]) hx hb d_Md_unlikeNexts_71 hl (by decide) rfl (fun ls hl => ?_)
                    refine lv_iinc (v := x6_14 + 1) (lv' := [(6, .int (x6_14 + 1)), (5, .int 1), (0, .ref a_md), (1, .int x1), (2, .int x2_1), (3, .int x3_2), (4, .int x4_5)]) hx hb d_Md_unlikeNexts_73 hl (k := 6) rfl rfl (by decide) rfl (fun ls hl => ?_)
                    refine lv_goto (tgt := 38) hx hb d_Md_unlikeNexts_76 (by decide) ?_
                    exact il _ _ h _ _ hP hD hS _ (lv_sub hl [2, 3, 4, 5, 6, 1, 0] rfl)
          obtain ⟨n_, h⟩ := h
          refine L38_q_15 _ ?_ n_ _ _ h _ _ hP hD hS _ (lv_sub hl [3, 4, 5, 6, 2, 1, 0] rfl)
          intro x5_17 h
          intro H locs hP hD hS ls hl
          refine lv_iload_n hx hb d_Md_unlikeNexts_79 rfl (lv_at hl 2 rfl) ?_
          refine lv_iload hx hb d_Md_unlikeNexts_80 (lv_at hl 4 rfl) ?_
          refine lv_if_eq (tgt := 89) hx hb d_Md_unlikeNexts_82 (by decide) (fun c_82 => ?_) (fun c_82 => ?_)
          · have h := And.left h c_82
            refine lv_iconst (v := 0) hx hb d_Md_unlikeNexts_89 (by decide) ?_
            refine lv_iadd hx hb d_Md_unlikeNexts_90 ?_
            refine lv_topi (fun x2_18 ex2_18 => ?_)
            have h := h x2_18 ex2_18
            refine lv_istore_n (lv' := [(2, .int x2_18), (0, .ref a_md), (1, .int x1), (3, .int x3_2), (5, .int x5_17)]) hx hb d_Md_unlikeNexts_91 rfl hl (by decide) rfl (fun ls hl => ?_)
            refine lv_iinc (v := x3_2 + 1) (lv' := [(3, .int (x3_2 + 1)), (2, .int x2_18), (0, .ref a_md), (1, .int x1), (5, .int x5_17)]) hx hb d_Md_unlikeNexts_92 hl (k := 3) rfl rfl (by decide) rfl (fun ls hl => ?_)
            refine lv_goto (tgt := 4) hx hb d_Md_unlikeNexts_95 (by decide) ?_
            exact il _ _ h _ _ hP hD hS _ (lv_sub hl [2, 3, 1, 0] rfl)
          · have h := And.right h c_82
            refine lv_iconst (v := 1) hx hb d_Md_unlikeNexts_85 (by decide) ?_
            refine lv_goto (tgt := 90) hx hb d_Md_unlikeNexts_86 (by decide) ?_
            refine lv_iadd hx hb d_Md_unlikeNexts_90 ?_
            refine lv_topi (fun x2_19 ex2_19 => ?_)
            have h := h x2_19 ex2_19
            refine lv_istore_n (lv' := [(2, .int x2_19), (0, .ref a_md), (1, .int x1), (3, .int x3_2), (5, .int x5_17)]) hx hb d_Md_unlikeNexts_91 rfl hl (by decide) rfl (fun ls hl => ?_)
            refine lv_iinc (v := x3_2 + 1) (lv' := [(3, .int (x3_2 + 1)), (2, .int x2_19), (0, .ref a_md), (1, .int x1), (5, .int x5_17)]) hx hb d_Md_unlikeNexts_92 hl (k := 3) rfl rfl (by decide) rfl (fun ls hl => ?_)
            refine lv_goto (tgt := 4) hx hb d_Md_unlikeNexts_95 (by decide) ?_
            exact il _ _ h _ _ hP hD hS _ (lv_sub hl [2, 3, 1, 0] rfl)
  obtain ⟨n_, h⟩ := h
  refine L4_q_3 _ ?_ n_ _ _ h _ _ hP hD hS _ (lv_sub hl [2, 3, 1, 0] rfl)
  intro x2_20 h
  intro H locs hP hD hS ls hl
  refine lv_iload_n hx hb d_Md_unlikeNexts_98 rfl (lv_at hl 0 rfl) ?_
  rw [← hQ]
  have hP9 := hP
  have hD9 := hD
  exact W.iret (v := x2_20) hx hb hr (fun t ht hW => ⟨⟨x2_20, (), rfl, h, by rw [ht]; exact hP9, va_K.moved hW.alike hK, hD9⟩, hS.F ht⟩) hS.2.2 d_Md_unlikeNexts_99
