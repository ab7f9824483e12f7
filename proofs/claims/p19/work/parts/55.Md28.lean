abbrev b_Md_spread : ByteArray := prog_13_method_57_code
abbrev y_Md_spread : MethodName := ⟨"LoopInductionModel", "spread", "()V"⟩
abbrev w_Md_spread : List Cond := .code y_Md_spread b_Md_spread 5 none :: allW
theorem pn_Md_spread : y_Md_spread.cls ≠ "java/lang/invoke/MethodHandle" ∧ y_Md_spread.cls ≠ "java/lang/invoke/VarHandle" ∧ (parseMethodDescriptor y_Md_spread.desc).map (fun d => d.parameters.length) = some 0 := by decide +kernel
theorem pd_Md_spread : y_Md_spread.cls = "LoopInductionModel" ∧ y_Md_spread.cls ≠ "java/lang/invoke/MethodHandle" ∧ y_Md_spread.cls ≠ "java/lang/invoke/VarHandle" ∧ (parseMethodDescriptor y_Md_spread.desc).map (fun d => d.parameters.length) = some 0 := by decide +kernel
abbrev b_Md_spreadAll : ByteArray := prog_13_method_58_code
abbrev y_Md_spreadAll : MethodName := ⟨"LoopInductionModel", "spreadAll", "()V"⟩
abbrev w_Md_spreadAll : List Cond := .code y_Md_spreadAll b_Md_spreadAll 6 none :: allW
theorem pn_Md_spreadAll : y_Md_spreadAll.cls ≠ "java/lang/invoke/MethodHandle" ∧ y_Md_spreadAll.cls ≠ "java/lang/invoke/VarHandle" ∧ (parseMethodDescriptor y_Md_spreadAll.desc).map (fun d => d.parameters.length) = some 0 := by decide +kernel
theorem pd_Md_spreadAll : y_Md_spreadAll.cls = "LoopInductionModel" ∧ y_Md_spreadAll.cls ≠ "java/lang/invoke/MethodHandle" ∧ y_Md_spreadAll.cls ≠ "java/lang/invoke/VarHandle" ∧ (parseMethodDescriptor y_Md_spreadAll.desc).map (fun d => d.parameters.length) = some 0 := by decide +kernel
theorem d_Md_spread_0 : decode b_Md_spread 0 = .ok (.iconst 1, 1) := by decide +kernel
theorem d_Md_spread_1 : decode b_Md_spread 1 = .ok (.istore_n 1, 1) := by decide +kernel
theorem d_Md_spread_2 : decode b_Md_spread 2 = .ok (.iload_n 1, 1) := by decide +kernel
theorem d_Md_spread_3 : decode b_Md_spread 3 = .ok (.ifCond .eq 83, 3) := by decide +kernel
theorem d_Md_spread_6 : decode b_Md_spread 6 = .ok (.iconst 0, 1) := by decide +kernel
theorem d_Md_spread_7 : decode b_Md_spread 7 = .ok (.istore_n 1, 1) := by decide +kernel
theorem d_Md_spread_8 : decode b_Md_spread 8 = .ok (.iconst 0, 1) := by decide +kernel
theorem d_Md_spread_9 : decode b_Md_spread 9 = .ok (.istore_n 2, 1) := by decide +kernel
theorem d_Md_spread_10 : decode b_Md_spread 10 = .ok (.iload_n 2, 1) := by decide +kernel
theorem d_Md_spread_11 : decode b_Md_spread 11 = .ok (.sipush 4096, 3) := by decide +kernel
theorem d_Md_spread_14 : decode b_Md_spread 14 = .ok (.if_icmp .ge 69, 3) := by decide +kernel
theorem d_Md_spread_17 : decode b_Md_spread 17 = .ok (.iconst 0, 1) := by decide +kernel
theorem d_Md_spread_18 : decode b_Md_spread 18 = .ok (.istore_n 3, 1) := by decide +kernel
theorem d_Md_spread_19 : decode b_Md_spread 19 = .ok (.iload_n 3, 1) := by decide +kernel
theorem d_Md_spread_20 : decode b_Md_spread 20 = .ok (.bipush 6, 2) := by decide +kernel
theorem d_Md_spread_22 : decode b_Md_spread 22 = .ok (.if_icmp .ge 55, 3) := by decide +kernel
theorem d_Md_spread_25 : decode b_Md_spread 25 = .ok (.aload_n 0, 1) := by decide +kernel
theorem d_Md_spread_26 : decode b_Md_spread 26 = .ok (.getfield 85, 3) := by decide +kernel
theorem d_Md_spread_29 : decode b_Md_spread 29 = .ok (.iload_n 2, 1) := by decide +kernel
theorem d_Md_spread_30 : decode b_Md_spread 30 = .ok (.baload, 1) := by decide +kernel
theorem d_Md_spread_31 : decode b_Md_spread 31 = .ok (.ifCond .ne 46, 3) := by decide +kernel
theorem d_Md_spread_34 : decode b_Md_spread 34 = .ok (.aload_n 0, 1) := by decide +kernel
theorem d_Md_spread_35 : decode b_Md_spread 35 = .ok (.getfield 63, 3) := by decide +kernel
theorem d_Md_spread_38 : decode b_Md_spread 38 = .ok (.bipush 6, 2) := by decide +kernel
theorem d_Md_spread_40 : decode b_Md_spread 40 = .ok (.iload_n 2, 1) := by decide +kernel
theorem d_Md_spread_41 : decode b_Md_spread 41 = .ok (.imul, 1) := by decide +kernel
theorem d_Md_spread_42 : decode b_Md_spread 42 = .ok (.iload_n 3, 1) := by decide +kernel
theorem d_Md_spread_43 : decode b_Md_spread 43 = .ok (.iadd, 1) := by decide +kernel
theorem d_Md_spread_44 : decode b_Md_spread 44 = .ok (.iaload, 1) := by decide +kernel
theorem d_Md_spread_45 : decode b_Md_spread 45 = .ok (.istore 4, 2) := by decide +kernel
theorem d_Md_spread_47 : decode b_Md_spread 47 = .ok (.iload 4, 2) := by decide +kernel
theorem d_Md_spread_49 : decode b_Md_spread 49 = .ok (.ifCond .lt 22, 3) := by decide +kernel
theorem d_Md_spread_52 : decode b_Md_spread 52 = .ok (.aload_n 0, 1) := by decide +kernel
theorem d_Md_spread_53 : decode b_Md_spread 53 = .ok (.getfield 85, 3) := by decide +kernel
theorem d_Md_spread_56 : decode b_Md_spread 56 = .ok (.iload 4, 2) := by decide +kernel
theorem d_Md_spread_58 : decode b_Md_spread 58 = .ok (.baload, 1) := by decide +kernel
theorem d_Md_spread_59 : decode b_Md_spread 59 = .ok (.ifCond .eq 12, 3) := by decide +kernel
theorem d_Md_spread_62 : decode b_Md_spread 62 = .ok (.aload_n 0, 1) := by decide +kernel
theorem d_Md_spread_63 : decode b_Md_spread 63 = .ok (.getfield 85, 3) := by decide +kernel
theorem d_Md_spread_66 : decode b_Md_spread 66 = .ok (.iload_n 2, 1) := by decide +kernel
theorem d_Md_spread_67 : decode b_Md_spread 67 = .ok (.iconst 1, 1) := by decide +kernel
theorem d_Md_spread_68 : decode b_Md_spread 68 = .ok (.bastore, 1) := by decide +kernel
theorem d_Md_spread_69 : decode b_Md_spread 69 = .ok (.iconst 1, 1) := by decide +kernel
theorem d_Md_spread_70 : decode b_Md_spread 70 = .ok (.istore_n 1, 1) := by decide +kernel
theorem d_Md_spread_71 : decode b_Md_spread 71 = .ok (.iinc 3 1, 3) := by decide +kernel
theorem d_Md_spread_74 : decode b_Md_spread 74 = .ok (.goto (-55), 3) := by decide +kernel
theorem d_Md_spread_77 : decode b_Md_spread 77 = .ok (.iinc 2 1, 3) := by decide +kernel
theorem d_Md_spread_80 : decode b_Md_spread 80 = .ok (.goto (-70), 3) := by decide +kernel
theorem d_Md_spread_83 : decode b_Md_spread 83 = .ok (.goto (-81), 3) := by decide +kernel
theorem d_Md_spread_86 : decode b_Md_spread 86 = .ok (.return_, 1) := by decide +kernel
theorem d_Md_spreadAll_0 : decode b_Md_spreadAll 0 = .ok (.iconst 1, 1) := by decide +kernel
theorem d_Md_spreadAll_1 : decode b_Md_spreadAll 1 = .ok (.istore_n 1, 1) := by decide +kernel
theorem d_Md_spreadAll_2 : decode b_Md_spreadAll 2 = .ok (.iload_n 1, 1) := by decide +kernel
theorem d_Md_spreadAll_3 : decode b_Md_spreadAll 3 = .ok (.ifCond .eq 118, 3) := by decide +kernel
theorem d_Md_spreadAll_6 : decode b_Md_spreadAll 6 = .ok (.iconst 0, 1) := by decide +kernel
theorem d_Md_spreadAll_7 : decode b_Md_spreadAll 7 = .ok (.istore_n 1, 1) := by decide +kernel
theorem d_Md_spreadAll_8 : decode b_Md_spreadAll 8 = .ok (.iconst 0, 1) := by decide +kernel
theorem d_Md_spreadAll_9 : decode b_Md_spreadAll 9 = .ok (.istore_n 2, 1) := by decide +kernel
theorem d_Md_spreadAll_10 : decode b_Md_spreadAll 10 = .ok (.iload_n 2, 1) := by decide +kernel
theorem d_Md_spreadAll_11 : decode b_Md_spreadAll 11 = .ok (.sipush 4096, 3) := by decide +kernel
theorem d_Md_spreadAll_14 : decode b_Md_spreadAll 14 = .ok (.if_icmp .ge 104, 3) := by decide +kernel
theorem d_Md_spreadAll_17 : decode b_Md_spreadAll 17 = .ok (.aload_n 0, 1) := by decide +kernel
theorem d_Md_spreadAll_18 : decode b_Md_spreadAll 18 = .ok (.getfield 85, 3) := by decide +kernel
theorem d_Md_spreadAll_21 : decode b_Md_spreadAll 21 = .ok (.iload_n 2, 1) := by decide +kernel
theorem d_Md_spreadAll_22 : decode b_Md_spreadAll 22 = .ok (.baload, 1) := by decide +kernel
theorem d_Md_spreadAll_23 : decode b_Md_spreadAll 23 = .ok (.ifCond .ne 89, 3) := by decide +kernel
theorem d_Md_spreadAll_26 : decode b_Md_spreadAll 26 = .ok (.aload_n 0, 1) := by decide +kernel
theorem d_Md_spreadAll_27 : decode b_Md_spreadAll 27 = .ok (.iload_n 2, 1) := by decide +kernel
theorem d_Md_spreadAll_28 : decode b_Md_spreadAll 28 = .ok (.invokevirtual 270, 3) := by decide +kernel
theorem d_Md_spreadAll_31 : decode b_Md_spreadAll 31 = .ok (.ifCond .ne 81, 3) := by decide +kernel
theorem d_Md_spreadAll_34 : decode b_Md_spreadAll 34 = .ok (.iconst 1, 1) := by decide +kernel
theorem d_Md_spreadAll_35 : decode b_Md_spreadAll 35 = .ok (.istore_n 3, 1) := by decide +kernel
theorem d_Md_spreadAll_36 : decode b_Md_spreadAll 36 = .ok (.iconst 0, 1) := by decide +kernel
theorem d_Md_spreadAll_37 : decode b_Md_spreadAll 37 = .ok (.istore 4, 2) := by decide +kernel
theorem d_Md_spreadAll_39 : decode b_Md_spreadAll 39 = .ok (.iload 4, 2) := by decide +kernel
theorem d_Md_spreadAll_41 : decode b_Md_spreadAll 41 = .ok (.bipush 6, 2) := by decide +kernel
theorem d_Md_spreadAll_43 : decode b_Md_spreadAll 43 = .ok (.if_icmp .ge 48, 3) := by decide +kernel
theorem d_Md_spreadAll_46 : decode b_Md_spreadAll 46 = .ok (.aload_n 0, 1) := by decide +kernel
theorem d_Md_spreadAll_47 : decode b_Md_spreadAll 47 = .ok (.getfield 63, 3) := by decide +kernel
theorem d_Md_spreadAll_50 : decode b_Md_spreadAll 50 = .ok (.bipush 6, 2) := by decide +kernel
theorem d_Md_spreadAll_52 : decode b_Md_spreadAll 52 = .ok (.iload_n 2, 1) := by decide +kernel
theorem d_Md_spreadAll_53 : decode b_Md_spreadAll 53 = .ok (.imul, 1) := by decide +kernel
theorem d_Md_spreadAll_54 : decode b_Md_spreadAll 54 = .ok (.iload 4, 2) := by decide +kernel
theorem d_Md_spreadAll_56 : decode b_Md_spreadAll 56 = .ok (.iadd, 1) := by decide +kernel
theorem d_Md_spreadAll_57 : decode b_Md_spreadAll 57 = .ok (.iaload, 1) := by decide +kernel
theorem d_Md_spreadAll_58 : decode b_Md_spreadAll 58 = .ok (.istore 5, 2) := by decide +kernel
theorem d_Md_spreadAll_60 : decode b_Md_spreadAll 60 = .ok (.iload_n 3, 1) := by decide +kernel
theorem d_Md_spreadAll_61 : decode b_Md_spreadAll 61 = .ok (.ifCond .eq 22, 3) := by decide +kernel
theorem d_Md_spreadAll_64 : decode b_Md_spreadAll 64 = .ok (.iload 5, 2) := by decide +kernel
theorem d_Md_spreadAll_66 : decode b_Md_spreadAll 66 = .ok (.ifCond .lt 13, 3) := by decide +kernel
theorem d_Md_spreadAll_69 : decode b_Md_spreadAll 69 = .ok (.aload_n 0, 1) := by decide +kernel
theorem d_Md_spreadAll_70 : decode b_Md_spreadAll 70 = .ok (.getfield 85, 3) := by decide +kernel
theorem d_Md_spreadAll_73 : decode b_Md_spreadAll 73 = .ok (.iload 5, 2) := by decide +kernel
theorem d_Md_spreadAll_75 : decode b_Md_spreadAll 75 = .ok (.baload, 1) := by decide +kernel
theorem d_Md_spreadAll_76 : decode b_Md_spreadAll 76 = .ok (.ifCond .eq 7, 3) := by decide +kernel
theorem d_Md_spreadAll_79 : decode b_Md_spreadAll 79 = .ok (.iconst 1, 1) := by decide +kernel
theorem d_Md_spreadAll_80 : decode b_Md_spreadAll 80 = .ok (.goto 4, 3) := by decide +kernel
theorem d_Md_spreadAll_83 : decode b_Md_spreadAll 83 = .ok (.iconst 0, 1) := by decide +kernel
theorem d_Md_spreadAll_84 : decode b_Md_spreadAll 84 = .ok (.istore_n 3, 1) := by decide +kernel
theorem d_Md_spreadAll_85 : decode b_Md_spreadAll 85 = .ok (.iinc 4 1, 3) := by decide +kernel
theorem d_Md_spreadAll_88 : decode b_Md_spreadAll 88 = .ok (.goto (-49), 3) := by decide +kernel
theorem d_Md_spreadAll_91 : decode b_Md_spreadAll 91 = .ok (.aload_n 0, 1) := by decide +kernel
theorem d_Md_spreadAll_92 : decode b_Md_spreadAll 92 = .ok (.getfield 85, 3) := by decide +kernel
theorem d_Md_spreadAll_95 : decode b_Md_spreadAll 95 = .ok (.iload_n 2, 1) := by decide +kernel
theorem d_Md_spreadAll_96 : decode b_Md_spreadAll 96 = .ok (.iload_n 3, 1) := by decide +kernel
theorem d_Md_spreadAll_97 : decode b_Md_spreadAll 97 = .ok (.bastore, 1) := by decide +kernel
theorem d_Md_spreadAll_98 : decode b_Md_spreadAll 98 = .ok (.iload_n 1, 1) := by decide +kernel
theorem d_Md_spreadAll_99 : decode b_Md_spreadAll 99 = .ok (.ifCond .ne 7, 3) := by decide +kernel
theorem d_Md_spreadAll_102 : decode b_Md_spreadAll 102 = .ok (.iload_n 3, 1) := by decide +kernel
theorem d_Md_spreadAll_103 : decode b_Md_spreadAll 103 = .ok (.ifCond .eq 7, 3) := by decide +kernel
theorem d_Md_spreadAll_106 : decode b_Md_spreadAll 106 = .ok (.iconst 1, 1) := by decide +kernel
theorem d_Md_spreadAll_107 : decode b_Md_spreadAll 107 = .ok (.goto 4, 3) := by decide +kernel
theorem d_Md_spreadAll_110 : decode b_Md_spreadAll 110 = .ok (.iconst 0, 1) := by decide +kernel
theorem d_Md_spreadAll_111 : decode b_Md_spreadAll 111 = .ok (.istore_n 1, 1) := by decide +kernel
theorem d_Md_spreadAll_112 : decode b_Md_spreadAll 112 = .ok (.iinc 2 1, 3) := by decide +kernel
theorem d_Md_spreadAll_115 : decode b_Md_spreadAll 115 = .ok (.goto (-105), 3) := by decide +kernel
theorem d_Md_spreadAll_118 : decode b_Md_spreadAll 118 = .ok (.goto (-116), 3) := by decide +kernel
theorem d_Md_spreadAll_121 : decode b_Md_spreadAll 121 = .ok (.return_, 1) := by decide +kernel
set_option maxHeartbeats 4000000 in
set_option maxRecDepth 100000 in
theorem c_Md_spread (l : Launch) (dC : Nat → ClassId) (dI : Nat → Nat → Nat) (cI cB cZ : ClassId) (adK adV : Nat → Nat) (sz : Nat) (a_md a_md_tape a_md_acts a_md_actNumbers a_md_actCounts a_md_pile a_md_begins a_md_goals a_md_ranks a_md_choiceCounts a_md_whens a_md_becomes a_md_guessCounts a_md_guesses a_md_unaryCounts a_md_stack a_md_nexts a_md_isBegin a_md_isGoal a_md_levels a_md_queue a_md_hasGuesses a_md_rounds a_md_marked a_md_other a_md_heights : Nat) (md_size : Int32) (md_at : Int32) (md_token : Int32) (md_tokenPlace : Int32) (md_number : Int32) (md_sign : Int32) (md_bad : Int32) (md_faultPlace : Int32) (md_place : Int32) (md_bank : Int32) (md_unaries : Int32) (md_opens : Int32) (md_piled : Int32) (md_loop : Int32) (md_keptBits : Int32) (md_nexts : Nat → Int32) (md_marked : Nat → Int32) (post : (Nat → Int32) → Prop) (h : wp_Md_spread md_nexts md_marked post) : Met l y_Md_spread w_Md_spread ({ frames := 0, cells := 0, slots := 0, locals := 0 }) (pc_ (dC, dI) [(cI, .int), (cB, .byte), (cZ, .boolean)] [(a_md, .inr (11, [.ref a_md_tape, .int md_size, .int md_at, .int md_token, .int md_tokenPlace, .int md_number, .int md_sign, .int md_bad, .int md_faultPlace, .int md_place, .ref a_md_acts, .ref a_md_actNumbers, .ref a_md_actCounts, .int md_bank, .int md_unaries, .int md_opens, .ref a_md_pile, .int md_piled, .int md_loop, .ref a_md_begins, .ref a_md_goals, .ref a_md_ranks, .ref a_md_choiceCounts, .ref a_md_whens, .ref a_md_becomes, .ref a_md_guessCounts, .ref a_md_guesses, .ref a_md_unaryCounts, .ref a_md_stack, .ref a_md_nexts, .ref a_md_isBegin, .ref a_md_isGoal, .ref a_md_levels, .ref a_md_queue, .ref a_md_hasGuesses, .int md_keptBits, .ref a_md_rounds, .ref a_md_marked, .ref a_md_other, .ref a_md_heights])), (a_md_nexts, .inl (cI, 24576, .inl md_nexts)), (a_md_marked, .inl (cZ, 4096, .inl md_marked))] sz adK adV [.ref a_md]) (va_Qv (fun (u : (Nat → Int32)) => post u) (fun (u : (Nat → Int32)) t => bw_ (dC, dI) [(cI, .int), (cB, .byte), (cZ, .boolean)] (va_A [(a_md, .inr (11, [.ref a_md_tape, .int md_size, .int md_at, .int md_token, .int md_tokenPlace, .int md_number, .int md_sign, .int md_bad, .int md_faultPlace, .int md_place, .ref a_md_acts, .ref a_md_actNumbers, .ref a_md_actCounts, .int md_bank, .int md_unaries, .int md_opens, .ref a_md_pile, .int md_piled, .int md_loop, .ref a_md_begins, .ref a_md_goals, .ref a_md_ranks, .ref a_md_choiceCounts, .ref a_md_whens, .ref a_md_becomes, .ref a_md_guessCounts, .ref a_md_guesses, .ref a_md_unaryCounts, .ref a_md_stack, .ref a_md_nexts, .ref a_md_isBegin, .ref a_md_isGoal, .ref a_md_levels, .ref a_md_queue, .ref a_md_hasGuesses, .int md_keptBits, .ref a_md_rounds, .ref a_md_marked, .ref a_md_other, .ref a_md_heights])), (a_md_nexts, .inl (cI, 24576, .inl md_nexts)), (a_md_marked, .inl (cZ, 4096, .inl md_marked))] sz) [(a_md, .inr (11, [.ref a_md_tape, .int md_size, .int md_at, .int md_token, .int md_tokenPlace, .int md_number, .int md_sign, .int md_bad, .int md_faultPlace, .int md_place, .ref a_md_acts, .ref a_md_actNumbers, .ref a_md_actCounts, .int md_bank, .int md_unaries, .int md_opens, .ref a_md_pile, .int md_piled, .int md_loop, .ref a_md_begins, .ref a_md_goals, .ref a_md_ranks, .ref a_md_choiceCounts, .ref a_md_whens, .ref a_md_becomes, .ref a_md_guessCounts, .ref a_md_guesses, .ref a_md_unaryCounts, .ref a_md_stack, .ref a_md_nexts, .ref a_md_isBegin, .ref a_md_isGoal, .ref a_md_levels, .ref a_md_queue, .ref a_md_hasGuesses, .int md_keptBits, .ref a_md_rounds, .ref a_md_marked, .ref a_md_other, .ref a_md_heights])), (a_md_nexts, .inl (cI, 24576, .inl md_nexts)), (a_md_marked, .inl (cZ, 4096, .inl u))] t) (va_A [(a_md, .inr (11, [.ref a_md_tape, .int md_size, .int md_at, .int md_token, .int md_tokenPlace, .int md_number, .int md_sign, .int md_bad, .int md_faultPlace, .int md_place, .ref a_md_acts, .ref a_md_actNumbers, .ref a_md_actCounts, .int md_bank, .int md_unaries, .int md_opens, .ref a_md_pile, .int md_piled, .int md_loop, .ref a_md_begins, .ref a_md_goals, .ref a_md_ranks, .ref a_md_choiceCounts, .ref a_md_whens, .ref a_md_becomes, .ref a_md_guessCounts, .ref a_md_guesses, .ref a_md_unaryCounts, .ref a_md_stack, .ref a_md_nexts, .ref a_md_isBegin, .ref a_md_isGoal, .ref a_md_levels, .ref a_md_queue, .ref a_md_hasGuesses, .int md_keptBits, .ref a_md_rounds, .ref a_md_marked, .ref a_md_other, .ref a_md_heights])), (a_md_nexts, .inl (cI, 24576, .inl md_nexts)), (a_md_marked, .inl (cZ, 4096, .inl md_marked))] sz)) 0 0 (va_A [(a_md, .inr (11, [.ref a_md_tape, .int md_size, .int md_at, .int md_token, .int md_tokenPlace, .int md_number, .int md_sign, .int md_bad, .int md_faultPlace, .int md_place, .ref a_md_acts, .ref a_md_actNumbers, .ref a_md_actCounts, .int md_bank, .int md_unaries, .int md_opens, .ref a_md_pile, .int md_piled, .int md_loop, .ref a_md_begins, .ref a_md_goals, .ref a_md_ranks, .ref a_md_choiceCounts, .ref a_md_whens, .ref a_md_becomes, .ref a_md_guessCounts, .ref a_md_guesses, .ref a_md_unaryCounts, .ref a_md_stack, .ref a_md_nexts, .ref a_md_isBegin, .ref a_md_isGoal, .ref a_md_levels, .ref a_md_queue, .ref a_md_hasGuesses, .int md_keptBits, .ref a_md_rounds, .ref a_md_marked, .ref a_md_other, .ref a_md_heights])), (a_md_nexts, .inl (cI, 24576, .inl md_nexts)), (a_md_marked, .inl (cZ, 4096, .inl md_marked))] sz) := by
  refine Met.ofW (cc := b_Md_spread) (maxL := 5) (ret := none) (by decide) rfl ?_
  intro p e s m args below meth c s₁ B hml hv
  obtain ⟨rfl, hsz, hP, hK, hD0, hN, hT⟩ := hv
  have hx := B.exec
  have hb := B.bytes
  have hr := B.returns
  have hts := atoms_spec (ws := w_Md_spread) B.pre
  have hown : s.vm.findClass "LoopInductionModel" = some m.cls := findClass_of_methodNamed B.named
  have hlocks := B.notSynchronized
  subst hsz
  have hD := hD0.self (sz := s.heap.size)
  generalize hAe : va_A [(a_md, .inr (11, [.ref a_md_tape, .int md_size, .int md_at, .int md_token, .int md_tokenPlace, .int md_number, .int md_sign, .int md_bad, .int md_faultPlace, .int md_place, .ref a_md_acts, .ref a_md_actNumbers, .ref a_md_actCounts, .int md_bank, .int md_unaries, .int md_opens, .ref a_md_pile, .int md_piled, .int md_loop, .ref a_md_begins, .ref a_md_goals, .ref a_md_ranks, .ref a_md_choiceCounts, .ref a_md_whens, .ref a_md_becomes, .ref a_md_guessCounts, .ref a_md_guesses, .ref a_md_unaryCounts, .ref a_md_stack, .ref a_md_nexts, .ref a_md_isBegin, .ref a_md_isGoal, .ref a_md_levels, .ref a_md_queue, .ref a_md_hasGuesses, .int md_keptBits, .ref a_md_rounds, .ref a_md_marked, .ref a_md_other, .ref a_md_heights])), (a_md_nexts, .inl (cI, 24576, .inl md_nexts)), (a_md_marked, .inl (cZ, 4096, .inl md_marked))] s.heap.size = A at hD hT ⊢
  have hA : ∀ q : Nat, s.heap.size ≤ q → A q := fun q h => by rw [← hAe]; exact Or.inr h
  have hS : va_S A s.heap s.heap [] := va_S.rf
  generalize hQ : MQ below _ _ s 0 0 _ = QQ
  have hl := lv_entry ([.ref a_md]) (n := 5) (Nat.le_of_ble_eq_true rfl)
  rw [lg_entry_eq]
  generalize (lg_sl ([.ref a_md]) ++ List.replicate (5 - (lg_sl ([.ref a_md])).length) Slot.unset).toArray = ls at hl ⊢
  have hl : lv_has ls 5 [(0, .ref a_md)] := hl
  have fl_63 := (hts _ (List.mem_cons_of_mem _ m_1119))
  have fl_85 := (hts _ (List.mem_cons_of_mem _ m_1127))
  refine lv_iconst (v := 1) hx hb d_Md_spread_0 (by decide) ?_
  refine lv_istore_n (lv' := [(1, .int 1), (0, .ref a_md)]) hx hb d_Md_spread_1 rfl hl (by decide) rfl (fun ls hl => ?_)
  have L2_q_3 : ∀ (k86 : (Nat → Int32) → Prop) (hk86 : ∀ (md_marked_4 : Nat → Int32), k86 md_marked_4 → ∀ (H : Heap) (locs : List Loc), va_P (dC, dI) vwCl [(a_md, .inr (11, [.ref a_md_tape, .int md_size, .int md_at, .int md_token, .int md_tokenPlace, .int md_number, .int md_sign, .int md_bad, .int md_faultPlace, .int md_place, .ref a_md_acts, .ref a_md_actNumbers, .ref a_md_actCounts, .int md_bank, .int md_unaries, .int md_opens, .ref a_md_pile, .int md_piled, .int md_loop, .ref a_md_begins, .ref a_md_goals, .ref a_md_ranks, .ref a_md_choiceCounts, .ref a_md_whens, .ref a_md_becomes, .ref a_md_guessCounts, .ref a_md_guesses, .ref a_md_unaryCounts, .ref a_md_stack, .ref a_md_nexts, .ref a_md_isBegin, .ref a_md_isGoal, .ref a_md_levels, .ref a_md_queue, .ref a_md_hasGuesses, .int md_keptBits, .ref a_md_rounds, .ref a_md_marked, .ref a_md_other, .ref a_md_heights])), (a_md_nexts, .inl (cI, 24576, .inl md_nexts)), (a_md_marked, .inl (cZ, 4096, .inl md_marked_4))] H → va_D A [(a_md, .inr (11, [.ref a_md_tape, .int md_size, .int md_at, .int md_token, .int md_tokenPlace, .int md_number, .int md_sign, .int md_bad, .int md_faultPlace, .int md_place, .ref a_md_acts, .ref a_md_actNumbers, .ref a_md_actCounts, .int md_bank, .int md_unaries, .int md_opens, .ref a_md_pile, .int md_piled, .int md_loop, .ref a_md_begins, .ref a_md_goals, .ref a_md_ranks, .ref a_md_choiceCounts, .ref a_md_whens, .ref a_md_becomes, .ref a_md_guessCounts, .ref a_md_guesses, .ref a_md_unaryCounts, .ref a_md_stack, .ref a_md_nexts, .ref a_md_isBegin, .ref a_md_isGoal, .ref a_md_levels, .ref a_md_queue, .ref a_md_hasGuesses, .int md_keptBits, .ref a_md_rounds, .ref a_md_marked, .ref a_md_other, .ref a_md_heights])), (a_md_nexts, .inl (cI, 24576, .inl md_nexts)), (a_md_marked, .inl (cZ, 4096, .inl md_marked_4))] → va_S A s.heap H locs → ∀ ls : Array Slot, lv_has ls 5 [] → W p l e (headSpec w_Md_spread ({ frames := 0, cells := 0, slots := 0, locals := 0 })).room s m (([.ref a_md] : List Value).toArray) below meth c H locs 0 0 QQ (F0 m 86 ls [])) (n : Nat) (x1_1 : Int32) (md_marked_2 : Nat → Int32), wp_Md_spread_L2 md_nexts k86 n x1_1 md_marked_2 → ∀ (H : Heap) (locs : List Loc), va_P (dC, dI) vwCl [(a_md, .inr (11, [.ref a_md_tape, .int md_size, .int md_at, .int md_token, .int md_tokenPlace, .int md_number, .int md_sign, .int md_bad, .int md_faultPlace, .int md_place, .ref a_md_acts, .ref a_md_actNumbers, .ref a_md_actCounts, .int md_bank, .int md_unaries, .int md_opens, .ref a_md_pile, .int md_piled, .int md_loop, .ref a_md_begins, .ref a_md_goals, .ref a_md_ranks, .ref a_md_choiceCounts, .ref a_md_whens, .ref a_md_becomes, .ref a_md_guessCounts, .ref a_md_guesses, .ref a_md_unaryCounts, .ref a_md_stack, .ref a_md_nexts, .ref a_md_isBegin, .ref a_md_isGoal, .ref a_md_levels, .ref a_md_queue, .ref a_md_hasGuesses, .int md_keptBits, .ref a_md_rounds, .ref a_md_marked, .ref a_md_other, .ref a_md_heights])), (a_md_nexts, .inl (cI, 24576, .inl md_nexts)), (a_md_marked, .inl (cZ, 4096, .inl md_marked_2))] H → va_D A [(a_md, .inr (11, [.ref a_md_tape, .int md_size, .int md_at, .int md_token, .int md_tokenPlace, .int md_number, .int md_sign, .int md_bad, .int md_faultPlace, .int md_place, .ref a_md_acts, .ref a_md_actNumbers, .ref a_md_actCounts, .int md_bank, .int md_unaries, .int md_opens, .ref a_md_pile, .int md_piled, .int md_loop, .ref a_md_begins, .ref a_md_goals, .ref a_md_ranks, .ref a_md_choiceCounts, .ref a_md_whens, .ref a_md_becomes, .ref a_md_guessCounts, .ref a_md_guesses, .ref a_md_unaryCounts, .ref a_md_stack, .ref a_md_nexts, .ref a_md_isBegin, .ref a_md_isGoal, .ref a_md_levels, .ref a_md_queue, .ref a_md_hasGuesses, .int md_keptBits, .ref a_md_rounds, .ref a_md_marked, .ref a_md_other, .ref a_md_heights])), (a_md_nexts, .inl (cI, 24576, .inl md_nexts)), (a_md_marked, .inl (cZ, 4096, .inl md_marked_2))] → va_S A s.heap H locs → ∀ ls : Array Slot, lv_has ls 5 [(0, .ref a_md), (1, .int x1_1)] → W p l e (headSpec w_Md_spread ({ frames := 0, cells := 0, slots := 0, locals := 0 })).room s m (([.ref a_md] : List Value).toArray) below meth c H locs 0 0 QQ (F0 m 2 ls []) := by
    intro k86 hk86 n
    induction n with
    | zero => intro x1_1 md_marked_2 h; exact (show False from h).elim
    | succ n il =>
      intro x1_1 md_marked_2 h
      intro H locs hP hD hS ls hl
      refine lv_iload_n hx hb d_Md_spread_2 rfl (lv_at hl 1 rfl) ?_
      refine lv_if_eq (tgt := 86) hx hb d_Md_spread_3 (by decide) (fun c_3 => ?_) (fun c_3 => ?_)
      · have h := And.left h c_3
        exact hk86 _ h _ _ hP hD hS _ (lv_sub hl [] rfl)
      · have h := And.right h c_3
        refine lv_iconst (v := 0) hx hb d_Md_spread_6 (by decide) ?_
        refine lv_istore_n (lv' := [(1, .int 0), (0, .ref a_md)]) hx hb d_Md_spread_7 rfl hl (by decide) rfl (fun ls hl => ?_)
        refine lv_iconst (v := 0) hx hb d_Md_spread_8 (by decide) ?_
        refine lv_istore_n (lv' := [(2, .int 0), (1, .int 0), (0, .ref a_md)]) hx hb d_Md_spread_9 rfl hl (by decide) rfl (fun ls hl => ?_)
        have L10_q_8 : ∀ (k83 : Int32 → (Nat → Int32) → Prop) (hk83 : ∀ (x1_9 : Int32) (md_marked_10 : Nat → Int32), k83 x1_9 md_marked_10 → ∀ (H : Heap) (locs : List Loc), va_P (dC, dI) vwCl [(a_md, .inr (11, [.ref a_md_tape, .int md_size, .int md_at, .int md_token, .int md_tokenPlace, .int md_number, .int md_sign, .int md_bad, .int md_faultPlace, .int md_place, .ref a_md_acts, .ref a_md_actNumbers, .ref a_md_actCounts, .int md_bank, .int md_unaries, .int md_opens, .ref a_md_pile, .int md_piled, .int md_loop, .ref a_md_begins, .ref a_md_goals, .ref a_md_ranks, .ref a_md_choiceCounts, .ref a_md_whens, .ref a_md_becomes, .ref a_md_guessCounts, .ref a_md_guesses, .ref a_md_unaryCounts, .ref a_md_stack, .ref a_md_nexts, .ref a_md_isBegin, .ref a_md_isGoal, .ref a_md_levels, .ref a_md_queue, .ref a_md_hasGuesses, .int md_keptBits, .ref a_md_rounds, .ref a_md_marked, .ref a_md_other, .ref a_md_heights])), (a_md_nexts, .inl (cI, 24576, .inl md_nexts)), (a_md_marked, .inl (cZ, 4096, .inl md_marked_10))] H → va_D A [(a_md, .inr (11, [.ref a_md_tape, .int md_size, .int md_at, .int md_token, .int md_tokenPlace, .int md_number, .int md_sign, .int md_bad, .int md_faultPlace, .int md_place, .ref a_md_acts, .ref a_md_actNumbers, .ref a_md_actCounts, .int md_bank, .int md_unaries, .int md_opens, .ref a_md_pile, .int md_piled, .int md_loop, .ref a_md_begins, .ref a_md_goals, .ref a_md_ranks, .ref a_md_choiceCounts, .ref a_md_whens, .ref a_md_becomes, .ref a_md_guessCounts, .ref a_md_guesses, .ref a_md_unaryCounts, .ref a_md_stack, .ref a_md_nexts, .ref a_md_isBegin, .ref a_md_isGoal, .ref a_md_levels, .ref a_md_queue, .ref a_md_hasGuesses, .int md_keptBits, .ref a_md_rounds, .ref a_md_marked, .ref a_md_other, .ref a_md_heights])), (a_md_nexts, .inl (cI, 24576, .inl md_nexts)), (a_md_marked, .inl (cZ, 4096, .inl md_marked_10))] → va_S A s.heap H locs → ∀ ls : Array Slot, lv_has ls 5 [(0, .ref a_md), (1, .int x1_9)] → W p l e (headSpec w_Md_spread ({ frames := 0, cells := 0, slots := 0, locals := 0 })).room s m (([.ref a_md] : List Value).toArray) below meth c H locs 0 0 QQ (F0 m 83 ls [])) (n : Nat) (x1_5 : Int32) (x2_6 : Int32) (md_marked_7 : Nat → Int32), wp_Md_spread_L10 md_nexts k83 n x1_5 x2_6 md_marked_7 → ∀ (H : Heap) (locs : List Loc), va_P (dC, dI) vwCl [(a_md, .inr (11, [.ref a_md_tape, .int md_size, .int md_at, .int md_token, .int md_tokenPlace, .int md_number, .int md_sign, .int md_bad, .int md_faultPlace, .int md_place, .ref a_md_acts, .ref a_md_actNumbers, .ref a_md_actCounts, .int md_bank, .int md_unaries, .int md_opens, .ref a_md_pile, .int md_piled, .int md_loop, .ref a_md_begins, .ref a_md_goals, .ref a_md_ranks, .ref a_md_choiceCounts, .ref a_md_whens, .ref a_md_becomes, .ref a_md_guessCounts, .ref a_md_guesses, .ref a_md_unaryCounts, .ref a_md_stack, .ref a_md_nexts, .ref a_md_isBegin, .ref a_md_isGoal, .ref a_md_levels, .ref a_md_queue, .ref a_md_hasGuesses, .int md_keptBits, .ref a_md_rounds, .ref a_md_marked, .ref a_md_other, .ref a_md_heights])), (a_md_nexts, .inl (cI, 24576, .inl md_nexts)), (a_md_marked, .inl (cZ, 4096, .inl md_marked_7))] H → va_D A [(a_md, .inr (11, [.ref a_md_tape, .int md_size, .int md_at, .int md_token, .int md_tokenPlace, .int md_number, .int md_sign, .int md_bad, .int md_faultPlace, .int md_place, .ref a_md_acts, .ref a_md_actNumbers, .ref a_md_actCounts, .int md_bank, .int md_unaries, .int md_opens, .ref a_md_pile, .int md_piled, .int md_loop, .ref a_md_begins, .ref a_md_goals, .ref a_md_ranks, .ref a_md_choiceCounts, .ref a_md_whens, .ref a_md_becomes, .ref a_md_guessCounts, .ref a_md_guesses, .ref a_md_unaryCounts, .ref a_md_stack, .ref a_md_nexts, .ref a_md_isBegin, .ref a_md_isGoal, .ref a_md_levels, .ref a_md_queue, .ref a_md_hasGuesses, .int md_keptBits, .ref a_md_rounds, .ref a_md_marked, .ref a_md_other, .ref a_md_heights])), (a_md_nexts, .inl (cI, 24576, .inl md_nexts)), (a_md_marked, .inl (cZ, 4096, .inl md_marked_7))] → va_S A s.heap H locs → ∀ ls : Array Slot, lv_has ls 5 [(0, .ref a_md), (1, .int x1_5), (2, .int x2_6)] → W p l e (headSpec w_Md_spread ({ frames := 0, cells := 0, slots := 0, locals := 0 })).room s m (([.ref a_md] : List Value).toArray) below meth c H locs 0 0 QQ (F0 m 10 ls []) := by
          intro k83 hk83 n
          induction n with
          | zero => intro x1_5 x2_6 md_marked_7 h; exact (show False from h).elim
          | succ n il =>
            intro x1_5 x2_6 md_marked_7 h
            intro H locs hP hD hS ls hl
            refine lv_iload_n hx hb d_Md_spread_10 rfl (lv_at hl 2 rfl) ?_
            refine lv_sipush (v := 4096) hx hb d_Md_spread_11 (by decide) ?_
            refine lv_icmp_ge (tgt := 83) hx hb d_Md_spread_14 (by decide) (fun c_14 => ?_) (fun c_14 => ?_)
            · have h := And.left h c_14
              exact hk83 _ _ h _ _ hP hD hS _ (lv_sub hl [0, 1] rfl)
            · have h := And.right h c_14
              refine lv_iconst (v := 0) hx hb d_Md_spread_17 (by decide) ?_
              refine lv_istore_n (lv' := [(3, .int 0), (0, .ref a_md), (1, .int x1_5), (2, .int x2_6)]) hx hb d_Md_spread_18 rfl hl (by decide) rfl (fun ls hl => ?_)
              have L19_q_14 : ∀ (k77 : Int32 → (Nat → Int32) → Prop) (hk77 : ∀ (x1_15 : Int32) (md_marked_16 : Nat → Int32), k77 x1_15 md_marked_16 → ∀ (H : Heap) (locs : List Loc), va_P (dC, dI) vwCl [(a_md, .inr (11, [.ref a_md_tape, .int md_size, .int md_at, .int md_token, .int md_tokenPlace, .int md_number, .int md_sign, .int md_bad, .int md_faultPlace, .int md_place, .ref a_md_acts, .ref a_md_actNumbers, .ref a_md_actCounts, .int md_bank, .int md_unaries, .int md_opens, .ref a_md_pile, .int md_piled, .int md_loop, .ref a_md_begins, .ref a_md_goals, .ref a_md_ranks, .ref a_md_choiceCounts, .ref a_md_whens, .ref a_md_becomes, .ref a_md_guessCounts, .ref a_md_guesses, .ref a_md_unaryCounts, .ref a_md_stack, .ref a_md_nexts, .ref a_md_isBegin, .ref a_md_isGoal, .ref a_md_levels, .ref a_md_queue, .ref a_md_hasGuesses, .int md_keptBits, .ref a_md_rounds, .ref a_md_marked, .ref a_md_other, .ref a_md_heights])), (a_md_nexts, .inl (cI, 24576, .inl md_nexts)), (a_md_marked, .inl (cZ, 4096, .inl md_marked_16))] H → va_D A [(a_md, .inr (11, [.ref a_md_tape, .int md_size, .int md_at, .int md_token, .int md_tokenPlace, .int md_number, .int md_sign, .int md_bad, .int md_faultPlace, .int md_place, .ref a_md_acts, .ref a_md_actNumbers, .ref a_md_actCounts, .int md_bank, .int md_unaries, .int md_opens, .ref a_md_pile, .int md_piled, .int md_loop, .ref a_md_begins, .ref a_md_goals, .ref a_md_ranks, .ref a_md_choiceCounts, .ref a_md_whens, .ref a_md_becomes, .ref a_md_guessCounts, .ref a_md_guesses, .ref a_md_unaryCounts, .ref a_md_stack, .ref a_md_nexts, .ref a_md_isBegin, .ref a_md_isGoal, .ref a_md_levels, .ref a_md_queue, .ref a_md_hasGuesses, .int md_keptBits, .ref a_md_rounds, .ref a_md_marked, .ref a_md_other, .ref a_md_heights])), (a_md_nexts, .inl (cI, 24576, .inl md_nexts)), (a_md_marked, .inl (cZ, 4096, .inl md_marked_16))] → va_S A s.heap H locs → ∀ ls : Array Slot, lv_has ls 5 [(0, .ref a_md), (1, .int x1_15), (2, .int x2_6)] → W p l e (headSpec w_Md_spread ({ frames := 0, cells := 0, slots := 0, locals := 0 })).room s m (([.ref a_md] : List Value).toArray) below meth c H locs 0 0 QQ (F0 m 77 ls [])) (n : Nat) (x1_11 : Int32) (x3_12 : Int32) (md_marked_13 : Nat → Int32), wp_Md_spread_L19 x2_6 md_nexts k77 n x1_11 x3_12 md_marked_13 → ∀ (H : Heap) (locs : List Loc), va_P (dC, dI) vwCl [(a_md, .inr (11, [.ref a_md_tape, .int md_size, .int md_at, .int md_token, .int md_tokenPlace, .int md_number, .int md_sign, .int md_bad, .int md_faultPlace, .int md_place, .ref a_md_acts, .ref a_md_actNumbers, .ref a_md_actCounts, .int md_bank, .int md_unaries, .int md_opens, .ref a_md_pile, .int md_piled, .int md_loop, .ref a_md_begins, .ref a_md_goals, .ref a_md_ranks, .ref a_md_choiceCounts, .ref a_md_whens, .ref a_md_becomes, .ref a_md_guessCounts, .ref a_md_guesses, .ref a_md_unaryCounts, .ref a_md_stack, .ref a_md_nexts, .ref a_md_isBegin, .ref a_md_isGoal, .ref a_md_levels, .ref a_md_queue, .ref a_md_hasGuesses, .int md_keptBits, .ref a_md_rounds, .ref a_md_marked, .ref a_md_other, .ref a_md_heights])), (a_md_nexts, .inl (cI, 24576, .inl md_nexts)), (a_md_marked, .inl (cZ, 4096, .inl md_marked_13))] H → va_D A [(a_md, .inr (11, [.ref a_md_tape, .int md_size, .int md_at, .int md_token, .int md_tokenPlace, .int md_number, .int md_sign, .int md_bad, .int md_faultPlace, .int md_place, .ref a_md_acts, .ref a_md_actNumbers, .ref a_md_actCounts, .int md_bank, .int md_unaries, .int md_opens, .ref a_md_pile, .int md_piled, .int md_loop, .ref a_md_begins, .ref a_md_goals, .ref a_md_ranks, .ref a_md_choiceCounts, .ref a_md_whens, .ref a_md_becomes, .ref a_md_guessCounts, .ref a_md_guesses, .ref a_md_unaryCounts, .ref a_md_stack, .ref a_md_nexts, .ref a_md_isBegin, .ref a_md_isGoal, .ref a_md_levels, .ref a_md_queue, .ref a_md_hasGuesses, .int md_keptBits, .ref a_md_rounds, .ref a_md_marked, .ref a_md_other, .ref a_md_heights])), (a_md_nexts, .inl (cI, 24576, .inl md_nexts)), (a_md_marked, .inl (cZ, 4096, .inl md_marked_13))] → va_S A s.heap H locs → ∀ ls : Array Slot, lv_has ls 5 [(0, .ref a_md), (1, .int x1_11), (2, .int x2_6), (3, .int x3_12)] → W p l e (headSpec w_Md_spread ({ frames := 0, cells := 0, slots := 0, locals := 0 })).room s m (([.ref a_md] : List Value).toArray) below meth c H locs 0 0 QQ (F0 m 19 ls []) := by
                intro k77 hk77 n
                induction n with
                | zero => intro x1_11 x3_12 md_marked_13 h; exact (show False from h).elim
                | succ n il =>
                  intro x1_11 x3_12 md_marked_13 h
                  intro H locs hP hD hS ls hl
                  refine lv_iload_n hx hb d_Md_spread_19 rfl (lv_at hl 3 rfl) ?_
                  refine lv_bipush (v := 6) hx hb d_Md_spread_20 (by decide) ?_
                  refine lv_icmp_ge (tgt := 77) hx hb d_Md_spread_22 (by decide) (fun c_22 => ?_) (fun c_22 => ?_)
                  · have h := And.left h c_22
                    exact hk77 _ _ h _ _ hP hD hS _ (lv_sub hl [0, 1, 2] rfl)
                  · have h := And.right h c_22
                    refine lv_aload_n hx hb d_Md_spread_25 rfl (lv_at hl 0 rfl) ?_
                    refine va_get (D := (dC, dI)) (ci := 11) (v := .ref a_md_marked) (C := "LoopInductionModel") (T := F_Md) (N := 40) hx hb hts iC_Md hown hK hP 0 rfl rfl 37 (by decide) fl_85 (fun _ h9 => h9) rfl d_Md_spread_26 ?_
                    refine lv_iload_n hx hb d_Md_spread_29 rfl (lv_at hl 2 rfl) ?_
                    obtain ⟨hin_30, h⟩ := h
                    refine va_zald hx hb hK hP 2 2 rfl rfl hin_30 d_Md_spread_30 ?_
                    refine lv_if_ne (tgt := 77) hx hb d_Md_spread_31 (by decide) (fun c_31 => ?_) (fun c_31 => ?_)
                    · have h := And.left h c_31
                      exact hk77 _ _ h _ _ hP hD hS _ (lv_sub hl [0, 1, 2] rfl)
                    · have h := And.right h c_31
                      refine lv_aload_n hx hb d_Md_spread_34 rfl (lv_at hl 0 rfl) ?_
                      refine va_get (D := (dC, dI)) (ci := 11) (v := .ref a_md_nexts) (C := "LoopInductionModel") (T := F_Md) (N := 40) hx hb hts iC_Md hown hK hP 0 rfl rfl 29 (by decide) fl_63 (fun _ h9 => h9) rfl d_Md_spread_35 ?_
                      refine lv_bipush (v := 6) hx hb d_Md_spread_38 (by decide) ?_
                      refine lv_iload_n hx hb d_Md_spread_40 rfl (lv_at hl 2 rfl) ?_
                      refine lv_imul hx hb d_Md_spread_41 ?_
                      refine lv_iload_n hx hb d_Md_spread_42 rfl (lv_at hl 3 rfl) ?_
                      refine lv_iadd hx hb d_Md_spread_43 ?_
                      obtain ⟨hin_44, h⟩ := h
                      refine va_iald hx hb hK hP 1 0 rfl rfl hin_44 d_Md_spread_44 ?_
                      refine lv_topi (fun x4_17 ex4_17 => ?_)
                      have h := h x4_17 ex4_17
                      refine lv_istore (lv' := [(4, .int x4_17), (0, .ref a_md), (1, .int x1_11), (2, .int x2_6), (3, .int x3_12)]) hx hb d_Md_spread_45 hl (by decide) rfl (fun ls hl => ?_)
                      refine lv_iload hx hb d_Md_spread_47 (lv_at hl 0 rfl) ?_
                      refine lv_if_lt (tgt := 71) hx hb d_Md_spread_49 (by decide) (fun c_49 => ?_) (fun c_49 => ?_)
                      · have h := And.left h c_49
                        refine lv_iinc (v := x3_12 + 1) (lv' := [(3, .int (x3_12 + 1)), (4, .int x4_17), (0, .ref a_md), (1, .int x1_11), (2, .int x2_6)]) hx hb d_Md_spread_71 hl (k := 4) rfl rfl (by decide) rfl (fun ls hl => ?_)
                        refine lv_goto (tgt := 19) hx hb d_Md_spread_74 (by decide) ?_
                        exact il _ _ _ h _ _ hP hD hS _ (lv_sub hl [2, 3, 4, 0] rfl)
                      · have h := And.right h c_49
                        refine lv_aload_n hx hb d_Md_spread_52 rfl (lv_at hl 1 rfl) ?_
                        refine va_get (D := (dC, dI)) (ci := 11) (v := .ref a_md_marked) (C := "LoopInductionModel") (T := F_Md) (N := 40) hx hb hts iC_Md hown hK hP 0 rfl rfl 37 (by decide) fl_85 (fun _ h9 => h9) rfl d_Md_spread_53 ?_
                        refine lv_iload hx hb d_Md_spread_56 (lv_at hl 0 rfl) ?_
                        obtain ⟨hin_58, h⟩ := h
                        refine va_zald hx hb hK hP 2 2 rfl rfl hin_58 d_Md_spread_58 ?_
                        refine lv_if_eq (tgt := 71) hx hb d_Md_spread_59 (by decide) (fun c_59 => ?_) (fun c_59 => ?_)
                        · have h := And.left h c_59
                          refine lv_iinc (v := x3_12 + 1) (lv' := [(3, .int (x3_12 + 1)), (4, .int x4_17), (0, .ref a_md), (1, .int x1_11), (2, .int x2_6)]) hx hb d_Md_spread_71 hl (k := 4) rfl rfl (by decide) rfl (fun ls hl => ?_)
                          refine lv_goto (tgt := 19) hx hb d_Md_spread_74 (by decide) ?_
                          exact il _ _ _ h _ _ hP hD hS _ (lv_sub hl [2, 3, 4, 0] rfl)
                        · have h := And.right h c_59
                          refine lv_aload_n hx hb d_Md_spread_62 rfl (lv_at hl 1 rfl) ?_
                          refine va_get (D := (dC, dI)) (ci := 11) (v := .ref a_md_marked) (C := "LoopInductionModel") (T := F_Md) (N := 40) hx hb hts iC_Md hown hK hP 0 rfl rfl 37 (by decide) fl_85 (fun _ h9 => h9) rfl d_Md_spread_63 ?_
                          refine lv_iload_n hx hb d_Md_spread_66 rfl (lv_at hl 3 rfl) ?_
                          refine lv_iconst (v := 1) hx hb d_Md_spread_67 (by decide) ?_
                          obtain ⟨hin_68, h⟩ := h
                          refine va_zast hx hb hK hP hD hS 2 2 rfl rfl hin_68 d_Md_spread_68 (fun H locs hP hD hS => ?_)
                          have hP : va_P (dC, dI) vwCl [(a_md, .inr (11, [.ref a_md_tape, .int md_size, .int md_at, .int md_token, .int md_tokenPlace, .int md_number, .int md_sign, .int md_bad, .int md_faultPlace, .int md_place, .ref a_md_acts, .ref a_md_actNumbers, .ref a_md_actCounts, .int md_bank, .int md_unaries, .int md_opens, .ref a_md_pile, .int md_piled, .int md_loop, .ref a_md_begins, .ref a_md_goals, .ref a_md_ranks, .ref a_md_choiceCounts, .ref a_md_whens, .ref a_md_becomes, .ref a_md_guessCounts, .ref a_md_guesses, .ref a_md_unaryCounts, .ref a_md_stack, .ref a_md_nexts, .ref a_md_isBegin, .ref a_md_isGoal, .ref a_md_levels, .ref a_md_queue, .ref a_md_hasGuesses, .int md_keptBits, .ref a_md_rounds, .ref a_md_marked, .ref a_md_other, .ref a_md_heights])), (a_md_nexts, .inl (cI, 24576, .inl md_nexts)), (a_md_marked, .inl (cZ, 4096, .inl (upd md_marked_13 (x2_6 : Int32).toNatClampNeg (vp_nar .boolean 1))))] H := hP
                          have hD : va_D A [(a_md, .inr (11, [.ref a_md_tape, .int md_size, .int md_at, .int md_token, .int md_tokenPlace, .int md_number, .int md_sign, .int md_bad, .int md_faultPlace, .int md_place, .ref a_md_acts, .ref a_md_actNumbers, .ref a_md_actCounts, .int md_bank, .int md_unaries, .int md_opens, .ref a_md_pile, .int md_piled, .int md_loop, .ref a_md_begins, .ref a_md_goals, .ref a_md_ranks, .ref a_md_choiceCounts, .ref a_md_whens, .ref a_md_becomes, .ref a_md_guessCounts, .ref a_md_guesses, .ref a_md_unaryCounts, .ref a_md_stack, .ref a_md_nexts, .ref a_md_isBegin, .ref a_md_isGoal, .ref a_md_levels, .ref a_md_queue, .ref a_md_hasGuesses, .int md_keptBits, .ref a_md_rounds, .ref a_md_marked, .ref a_md_other, .ref a_md_heights])), (a_md_nexts, .inl (cI, 24576, .inl md_nexts)), (a_md_marked, .inl (cZ, 4096, .inl (upd md_marked_13 (x2_6 : Int32).toNatClampNeg (vp_nar .boolean 1))))] := hD
                          refine lv_iconst (v := 1) hx hb d_Md_spread_69 (by decide) ?_
                          refine lv_istore_n (lv' := [(1, .int 1), (4, .int x4_17), (0, .ref a_md), (2, .int x2_6), (3, .int x3_12)]) hx hb d_Md_spread_70 rfl hl (by decide) rfl (fun ls hl => ?_)
                          refine lv_iinc (v := x3_12 + 1) (lv' := [(3, .int (x3_12 + 1)), (1, .int 1), (4, .int x4_17), (0, .ref a_md), (2, .int x2_6)]) hx hb d_Md_spread_71 hl (k := 4) rfl rfl (by decide) rfl (fun ls hl => ?_)
                          refine lv_goto (tgt := 19) hx hb d_Md_spread_74 (by decide) ?_
                          exact il _ _ _ h _ _ hP hD hS _ (lv_sub hl [3, 1, 4, 0] rfl)
              obtain ⟨n_, h⟩ := h
              refine L19_q_14 _ ?_ n_ _ _ _ h _ _ hP hD hS _ (lv_sub hl [1, 2, 3, 0] rfl)
              intro x1_18 md_marked_19 h
              intro H locs hP hD hS ls hl
              refine lv_iinc (v := x2_6 + 1) (lv' := [(2, .int (x2_6 + 1)), (0, .ref a_md), (1, .int x1_18)]) hx hb d_Md_spread_77 hl (k := 2) rfl rfl (by decide) rfl (fun ls hl => ?_)
              refine lv_goto (tgt := 10) hx hb d_Md_spread_80 (by decide) ?_
              exact il _ _ _ h _ _ hP hD hS _ (lv_sub hl [1, 2, 0] rfl)
        obtain ⟨n_, h⟩ := h
        refine L10_q_8 _ ?_ n_ _ _ _ h _ _ hP hD hS _ (lv_sub hl [2, 1, 0] rfl)
        intro x1_20 md_marked_21 h
        intro H locs hP hD hS ls hl
        refine lv_goto (tgt := 2) hx hb d_Md_spread_83 (by decide) ?_
        exact il _ _ h _ _ hP hD hS _ hl
  obtain ⟨n_, h⟩ := h
  refine L2_q_3 _ ?_ n_ _ _ h _ _ hP hD hS _ (lv_sub hl [1, 0] rfl)
  intro md_marked_22 h
  intro H locs hP hD hS ls hl
  rw [← hQ]
  have hP9 := hP
  have hD9 := hD
  exact W.vret hx hb hr (fun t ht hW => ⟨⟨(md_marked_22), rfl, h, by rw [ht]; exact hP9, va_K.moved hW.alike hK, hD9⟩, hS.F ht⟩) hS.2.2 d_Md_spread_86
set_option maxHeartbeats 4000000 in
set_option maxRecDepth 100000 in
theorem c_Md_spreadAll (l : Launch) (dC : Nat → ClassId) (dI : Nat → Nat → Nat) (cI cB cZ : ClassId) (adK adV : Nat → Nat) (sz : Nat) (a_md a_md_tape a_md_acts a_md_actNumbers a_md_actCounts a_md_pile a_md_begins a_md_goals a_md_ranks a_md_choiceCounts a_md_whens a_md_becomes a_md_guessCounts a_md_guesses a_md_unaryCounts a_md_stack a_md_nexts a_md_isBegin a_md_isGoal a_md_levels a_md_queue a_md_hasGuesses a_md_rounds a_md_marked a_md_other a_md_heights : Nat) (md_size : Int32) (md_at : Int32) (md_token : Int32) (md_tokenPlace : Int32) (md_number : Int32) (md_sign : Int32) (md_bad : Int32) (md_faultPlace : Int32) (md_place : Int32) (md_bank : Int32) (md_unaries : Int32) (md_opens : Int32) (md_piled : Int32) (md_loop : Int32) (md_keptBits : Int32) (md_nexts : Nat → Int32) (md_marked : Nat → Int32) (post : (Nat → Int32) → Prop) (h : wp_Md_spreadAll md_nexts md_marked post) : Met l y_Md_spreadAll w_Md_spreadAll ({ frames := 1, cells := 0, slots := 0, locals := 23 }) (pc_ (dC, dI) [(cI, .int), (cB, .byte), (cZ, .boolean)] [(a_md, .inr (11, [.ref a_md_tape, .int md_size, .int md_at, .int md_token, .int md_tokenPlace, .int md_number, .int md_sign, .int md_bad, .int md_faultPlace, .int md_place, .ref a_md_acts, .ref a_md_actNumbers, .ref a_md_actCounts, .int md_bank, .int md_unaries, .int md_opens, .ref a_md_pile, .int md_piled, .int md_loop, .ref a_md_begins, .ref a_md_goals, .ref a_md_ranks, .ref a_md_choiceCounts, .ref a_md_whens, .ref a_md_becomes, .ref a_md_guessCounts, .ref a_md_guesses, .ref a_md_unaryCounts, .ref a_md_stack, .ref a_md_nexts, .ref a_md_isBegin, .ref a_md_isGoal, .ref a_md_levels, .ref a_md_queue, .ref a_md_hasGuesses, .int md_keptBits, .ref a_md_rounds, .ref a_md_marked, .ref a_md_other, .ref a_md_heights])), (a_md_nexts, .inl (cI, 24576, .inl md_nexts)), (a_md_marked, .inl (cZ, 4096, .inl md_marked))] sz adK adV [.ref a_md]) (va_Qv (fun (u : (Nat → Int32)) => post u) (fun (u : (Nat → Int32)) t => bw_ (dC, dI) [(cI, .int), (cB, .byte), (cZ, .boolean)] (va_A [(a_md, .inr (11, [.ref a_md_tape, .int md_size, .int md_at, .int md_token, .int md_tokenPlace, .int md_number, .int md_sign, .int md_bad, .int md_faultPlace, .int md_place, .ref a_md_acts, .ref a_md_actNumbers, .ref a_md_actCounts, .int md_bank, .int md_unaries, .int md_opens, .ref a_md_pile, .int md_piled, .int md_loop, .ref a_md_begins, .ref a_md_goals, .ref a_md_ranks, .ref a_md_choiceCounts, .ref a_md_whens, .ref a_md_becomes, .ref a_md_guessCounts, .ref a_md_guesses, .ref a_md_unaryCounts, .ref a_md_stack, .ref a_md_nexts, .ref a_md_isBegin, .ref a_md_isGoal, .ref a_md_levels, .ref a_md_queue, .ref a_md_hasGuesses, .int md_keptBits, .ref a_md_rounds, .ref a_md_marked, .ref a_md_other, .ref a_md_heights])), (a_md_nexts, .inl (cI, 24576, .inl md_nexts)), (a_md_marked, .inl (cZ, 4096, .inl md_marked))] sz) [(a_md, .inr (11, [.ref a_md_tape, .int md_size, .int md_at, .int md_token, .int md_tokenPlace, .int md_number, .int md_sign, .int md_bad, .int md_faultPlace, .int md_place, .ref a_md_acts, .ref a_md_actNumbers, .ref a_md_actCounts, .int md_bank, .int md_unaries, .int md_opens, .ref a_md_pile, .int md_piled, .int md_loop, .ref a_md_begins, .ref a_md_goals, .ref a_md_ranks, .ref a_md_choiceCounts, .ref a_md_whens, .ref a_md_becomes, .ref a_md_guessCounts, .ref a_md_guesses, .ref a_md_unaryCounts, .ref a_md_stack, .ref a_md_nexts, .ref a_md_isBegin, .ref a_md_isGoal, .ref a_md_levels, .ref a_md_queue, .ref a_md_hasGuesses, .int md_keptBits, .ref a_md_rounds, .ref a_md_marked, .ref a_md_other, .ref a_md_heights])), (a_md_nexts, .inl (cI, 24576, .inl md_nexts)), (a_md_marked, .inl (cZ, 4096, .inl u))] t) (va_A [(a_md, .inr (11, [.ref a_md_tape, .int md_size, .int md_at, .int md_token, .int md_tokenPlace, .int md_number, .int md_sign, .int md_bad, .int md_faultPlace, .int md_place, .ref a_md_acts, .ref a_md_actNumbers, .ref a_md_actCounts, .int md_bank, .int md_unaries, .int md_opens, .ref a_md_pile, .int md_piled, .int md_loop, .ref a_md_begins, .ref a_md_goals, .ref a_md_ranks, .ref a_md_choiceCounts, .ref a_md_whens, .ref a_md_becomes, .ref a_md_guessCounts, .ref a_md_guesses, .ref a_md_unaryCounts, .ref a_md_stack, .ref a_md_nexts, .ref a_md_isBegin, .ref a_md_isGoal, .ref a_md_levels, .ref a_md_queue, .ref a_md_hasGuesses, .int md_keptBits, .ref a_md_rounds, .ref a_md_marked, .ref a_md_other, .ref a_md_heights])), (a_md_nexts, .inl (cI, 24576, .inl md_nexts)), (a_md_marked, .inl (cZ, 4096, .inl md_marked))] sz)) 0 0 (va_A [(a_md, .inr (11, [.ref a_md_tape, .int md_size, .int md_at, .int md_token, .int md_tokenPlace, .int md_number, .int md_sign, .int md_bad, .int md_faultPlace, .int md_place, .ref a_md_acts, .ref a_md_actNumbers, .ref a_md_actCounts, .int md_bank, .int md_unaries, .int md_opens, .ref a_md_pile, .int md_piled, .int md_loop, .ref a_md_begins, .ref a_md_goals, .ref a_md_ranks, .ref a_md_choiceCounts, .ref a_md_whens, .ref a_md_becomes, .ref a_md_guessCounts, .ref a_md_guesses, .ref a_md_unaryCounts, .ref a_md_stack, .ref a_md_nexts, .ref a_md_isBegin, .ref a_md_isGoal, .ref a_md_levels, .ref a_md_queue, .ref a_md_hasGuesses, .int md_keptBits, .ref a_md_rounds, .ref a_md_marked, .ref a_md_other, .ref a_md_heights])), (a_md_nexts, .inl (cI, 24576, .inl md_nexts)), (a_md_marked, .inl (cZ, 4096, .inl md_marked))] sz) := by
  refine Met.ofW (cc := b_Md_spreadAll) (maxL := 6) (ret := none) (by decide) rfl ?_
  intro p e s m args below meth c s₁ B hml hv
  obtain ⟨rfl, hsz, hP, hK, hD0, hN, hT⟩ := hv
  have hx := B.exec
  have hb := B.bytes
  have hr := B.returns
  have hts := atoms_spec (ws := w_Md_spreadAll) B.pre
  have hown : s.vm.findClass "LoopInductionModel" = some m.cls := findClass_of_methodNamed B.named
  have hlocks := B.notSynchronized
  subst hsz
  have hD := hD0.self (sz := s.heap.size)
  generalize hAe : va_A [(a_md, .inr (11, [.ref a_md_tape, .int md_size, .int md_at, .int md_token, .int md_tokenPlace, .int md_number, .int md_sign, .int md_bad, .int md_faultPlace, .int md_place, .ref a_md_acts, .ref a_md_actNumbers, .ref a_md_actCounts, .int md_bank, .int md_unaries, .int md_opens, .ref a_md_pile, .int md_piled, .int md_loop, .ref a_md_begins, .ref a_md_goals, .ref a_md_ranks, .ref a_md_choiceCounts, .ref a_md_whens, .ref a_md_becomes, .ref a_md_guessCounts, .ref a_md_guesses, .ref a_md_unaryCounts, .ref a_md_stack, .ref a_md_nexts, .ref a_md_isBegin, .ref a_md_isGoal, .ref a_md_levels, .ref a_md_queue, .ref a_md_hasGuesses, .int md_keptBits, .ref a_md_rounds, .ref a_md_marked, .ref a_md_other, .ref a_md_heights])), (a_md_nexts, .inl (cI, 24576, .inl md_nexts)), (a_md_marked, .inl (cZ, 4096, .inl md_marked))] s.heap.size = A at hD hT ⊢
  have hA : ∀ q : Nat, s.heap.size ≤ q → A q := fun q h => by rw [← hAe]; exact Or.inr h
  have hS : va_S A s.heap s.heap [] := va_S.rf
  generalize hQ : MQ below _ _ s 0 0 _ = QQ
  have hl := lv_entry ([.ref a_md]) (n := 6) (Nat.le_of_ble_eq_true rfl)
  rw [lg_entry_eq]
  generalize (lg_sl ([.ref a_md]) ++ List.replicate (6 - (lg_sl ([.ref a_md])).length) Slot.unset).toArray = ls at hl ⊢
  have hl : lv_has ls 6 [(0, .ref a_md)] := hl
  have fl_63 := (hts _ (List.mem_cons_of_mem _ m_1119))
  have fl_85 := (hts _ (List.mem_cons_of_mem _ m_1127))
  refine lv_iconst (v := 1) hx hb d_Md_spreadAll_0 (by decide) ?_
  refine lv_istore_n (lv' := [(1, .int 1), (0, .ref a_md)]) hx hb d_Md_spreadAll_1 rfl hl (by decide) rfl (fun ls hl => ?_)
  have L2_q_3 : ∀ (k121 : (Nat → Int32) → Prop) (hk121 : ∀ (md_marked_4 : Nat → Int32), k121 md_marked_4 → ∀ (H : Heap) (locs : List Loc), va_P (dC, dI) vwCl [(a_md, .inr (11, [.ref a_md_tape, .int md_size, .int md_at, .int md_token, .int md_tokenPlace, .int md_number, .int md_sign, .int md_bad, .int md_faultPlace, .int md_place, .ref a_md_acts, .ref a_md_actNumbers, .ref a_md_actCounts, .int md_bank, .int md_unaries, .int md_opens, .ref a_md_pile, .int md_piled, .int md_loop, .ref a_md_begins, .ref a_md_goals, .ref a_md_ranks, .ref a_md_choiceCounts, .ref a_md_whens, .ref a_md_becomes, .ref a_md_guessCounts, .ref a_md_guesses, .ref a_md_unaryCounts, .ref a_md_stack, .ref a_md_nexts, .ref a_md_isBegin, .ref a_md_isGoal, .ref a_md_levels, .ref a_md_queue, .ref a_md_hasGuesses, .int md_keptBits, .ref a_md_rounds, .ref a_md_marked, .ref a_md_other, .ref a_md_heights])), (a_md_nexts, .inl (cI, 24576, .inl md_nexts)), (a_md_marked, .inl (cZ, 4096, .inl md_marked_4))] H → va_D A [(a_md, .inr (11, [.ref a_md_tape, .int md_size, .int md_at, .int md_token, .int md_tokenPlace, .int md_number, .int md_sign, .int md_bad, .int md_faultPlace, .int md_place, .ref a_md_acts, .ref a_md_actNumbers, .ref a_md_actCounts, .int md_bank, .int md_unaries, .int md_opens, .ref a_md_pile, .int md_piled, .int md_loop, .ref a_md_begins, .ref a_md_goals, .ref a_md_ranks, .ref a_md_choiceCounts, .ref a_md_whens, .ref a_md_becomes, .ref a_md_guessCounts, .ref a_md_guesses, .ref a_md_unaryCounts, .ref a_md_stack, .ref a_md_nexts, .ref a_md_isBegin, .ref a_md_isGoal, .ref a_md_levels, .ref a_md_queue, .ref a_md_hasGuesses, .int md_keptBits, .ref a_md_rounds, .ref a_md_marked, .ref a_md_other, .ref a_md_heights])), (a_md_nexts, .inl (cI, 24576, .inl md_nexts)), (a_md_marked, .inl (cZ, 4096, .inl md_marked_4))] → va_S A s.heap H locs → ∀ ls : Array Slot, lv_has ls 6 [] → W p l e (headSpec w_Md_spreadAll ({ frames := 1, cells := 0, slots := 0, locals := 23 })).room s m (([.ref a_md] : List Value).toArray) below meth c H locs 0 0 QQ (F0 m 121 ls [])) (n : Nat) (x1_1 : Int32) (md_marked_2 : Nat → Int32), wp_Md_spreadAll_L2 md_nexts k121 n x1_1 md_marked_2 → ∀ (H : Heap) (locs : List Loc), va_P (dC, dI) vwCl [(a_md, .inr (11, [.ref a_md_tape, .int md_size, .int md_at, .int md_token, .int md_tokenPlace, .int md_number, .int md_sign, .int md_bad, .int md_faultPlace, .int md_place, .ref a_md_acts, .ref a_md_actNumbers, .ref a_md_actCounts, .int md_bank, .int md_unaries, .int md_opens, .ref a_md_pile, .int md_piled, .int md_loop, .ref a_md_begins, .ref a_md_goals, .ref a_md_ranks, .ref a_md_choiceCounts, .ref a_md_whens, .ref a_md_becomes, .ref a_md_guessCounts, .ref a_md_guesses, .ref a_md_unaryCounts, .ref a_md_stack, .ref a_md_nexts, .ref a_md_isBegin, .ref a_md_isGoal, .ref a_md_levels, .ref a_md_queue, .ref a_md_hasGuesses, .int md_keptBits, .ref a_md_rounds, .ref a_md_marked, .ref a_md_other, .ref a_md_heights])), (a_md_nexts, .inl (cI, 24576, .inl md_nexts)), (a_md_marked, .inl (cZ, 4096, .inl md_marked_2))] H → va_D A [(a_md, .inr (11, [.ref a_md_tape, .int md_size, .int md_at, .int md_token, .int md_tokenPlace, .int md_number, .int md_sign, .int md_bad, .int md_faultPlace, .int md_place, .ref a_md_acts, .ref a_md_actNumbers, .ref a_md_actCounts, .int md_bank, .int md_unaries, .int md_opens, .ref a_md_pile, .int md_piled, .int md_loop, .ref a_md_begins, .ref a_md_goals, .ref a_md_ranks, .ref a_md_choiceCounts, .ref a_md_whens, .ref a_md_becomes, .ref a_md_guessCounts, .ref a_md_guesses, .ref a_md_unaryCounts, .ref a_md_stack, .ref a_md_nexts, .ref a_md_isBegin, .ref a_md_isGoal, .ref a_md_levels, .ref a_md_queue, .ref a_md_hasGuesses, .int md_keptBits, .ref a_md_rounds, .ref a_md_marked, .ref a_md_other, .ref a_md_heights])), (a_md_nexts, .inl (cI, 24576, .inl md_nexts)), (a_md_marked, .inl (cZ, 4096, .inl md_marked_2))] → va_S A s.heap H locs → ∀ ls : Array Slot, lv_has ls 6 [(0, .ref a_md), (1, .int x1_1)] → W p l e (headSpec w_Md_spreadAll ({ frames := 1, cells := 0, slots := 0, locals := 23 })).room s m (([.ref a_md] : List Value).toArray) below meth c H locs 0 0 QQ (F0 m 2 ls []) := by
    intro k121 hk121 n
    induction n with
    | zero => intro x1_1 md_marked_2 h; exact (show False from h).elim
    | succ n il =>
      intro x1_1 md_marked_2 h
      intro H locs hP hD hS ls hl
      refine lv_iload_n hx hb d_Md_spreadAll_2 rfl (lv_at hl 1 rfl) ?_
      refine lv_if_eq (tgt := 121) hx hb d_Md_spreadAll_3 (by decide) (fun c_3 => ?_) (fun c_3 => ?_)
      · have h := And.left h c_3
        exact hk121 _ h _ _ hP hD hS _ (lv_sub hl [] rfl)
      · have h := And.right h c_3
        refine lv_iconst (v := 0) hx hb d_Md_spreadAll_6 (by decide) ?_
        refine lv_istore_n (lv' := [(1, .int 0), (0, .ref a_md)]) hx hb d_Md_spreadAll_7 rfl hl (by decide) rfl (fun ls hl => ?_)
        refine lv_iconst (v := 0) hx hb d_Md_spreadAll_8 (by decide) ?_
        refine lv_istore_n (lv' := [(2, .int 0), (1, .int 0), (0, .ref a_md)]) hx hb d_Md_spreadAll_9 rfl hl (by decide) rfl (fun ls hl => ?_)
        have L10_q_8 : ∀ (k118 : Int32 → (Nat → Int32) → Prop) (hk118 : ∀ (x1_9 : Int32) (md_marked_10 : Nat → Int32), k118 x1_9 md_marked_10 → ∀ (H : Heap) (locs : List Loc), va_P (dC, dI) vwCl [(a_md, .inr (11, [.ref a_md_tape, .int md_size, .int md_at, .int md_token, .int md_tokenPlace, .int md_number, .int md_sign, .int md_bad, .int md_faultPlace, .int md_place, .ref a_md_acts, .ref a_md_actNumbers, .ref a_md_actCounts, .int md_bank, .int md_unaries, .int md_opens, .ref a_md_pile, .int md_piled, .int md_loop, .ref a_md_begins, .ref a_md_goals, .ref a_md_ranks, .ref a_md_choiceCounts, .ref a_md_whens, .ref a_md_becomes, .ref a_md_guessCounts, .ref a_md_guesses, .ref a_md_unaryCounts, .ref a_md_stack, .ref a_md_nexts, .ref a_md_isBegin, .ref a_md_isGoal, .ref a_md_levels, .ref a_md_queue, .ref a_md_hasGuesses, .int md_keptBits, .ref a_md_rounds, .ref a_md_marked, .ref a_md_other, .ref a_md_heights])), (a_md_nexts, .inl (cI, 24576, .inl md_nexts)), (a_md_marked, .inl (cZ, 4096, .inl md_marked_10))] H → va_D A [(a_md, .inr (11, [.ref a_md_tape, .int md_size, .int md_at, .int md_token, .int md_tokenPlace, .int md_number, .int md_sign, .int md_bad, .int md_faultPlace, .int md_place, .ref a_md_acts, .ref a_md_actNumbers, .ref a_md_actCounts, .int md_bank, .int md_unaries, .int md_opens, .ref a_md_pile, .int md_piled, .int md_loop, .ref a_md_begins, .ref a_md_goals, .ref a_md_ranks, .ref a_md_choiceCounts, .ref a_md_whens, .ref a_md_becomes, .ref a_md_guessCounts, .ref a_md_guesses, .ref a_md_unaryCounts, .ref a_md_stack, .ref a_md_nexts, .ref a_md_isBegin, .ref a_md_isGoal, .ref a_md_levels, .ref a_md_queue, .ref a_md_hasGuesses, .int md_keptBits, .ref a_md_rounds, .ref a_md_marked, .ref a_md_other, .ref a_md_heights])), (a_md_nexts, .inl (cI, 24576, .inl md_nexts)), (a_md_marked, .inl (cZ, 4096, .inl md_marked_10))] → va_S A s.heap H locs → ∀ ls : Array Slot, lv_has ls 6 [(0, .ref a_md), (1, .int x1_9)] → W p l e (headSpec w_Md_spreadAll ({ frames := 1, cells := 0, slots := 0, locals := 23 })).room s m (([.ref a_md] : List Value).toArray) below meth c H locs 0 0 QQ (F0 m 118 ls [])) (n : Nat) (x1_5 : Int32) (x2_6 : Int32) (md_marked_7 : Nat → Int32), wp_Md_spreadAll_L10 md_nexts k118 n x1_5 x2_6 md_marked_7 → ∀ (H : Heap) (locs : List Loc), va_P (dC, dI) vwCl [(a_md, .inr (11, [.ref a_md_tape, .int md_size, .int md_at, .int md_token, .int md_tokenPlace, .int md_number, .int md_sign, .int md_bad, .int md_faultPlace, .int md_place, .ref a_md_acts, .ref a_md_actNumbers, .ref a_md_actCounts, .int md_bank, .int md_unaries, .int md_opens, .ref a_md_pile, .int md_piled, .int md_loop, .ref a_md_begins, .ref a_md_goals, .ref a_md_ranks, .ref a_md_choiceCounts, .ref a_md_whens, .ref a_md_becomes, .ref a_md_guessCounts, .ref a_md_guesses, .ref a_md_unaryCounts, .ref a_md_stack, .ref a_md_nexts, .ref a_md_isBegin, .ref a_md_isGoal, .ref a_md_levels, .ref a_md_queue, .ref a_md_hasGuesses, .int md_keptBits, .ref a_md_rounds, .ref a_md_marked, .ref a_md_other, .ref a_md_heights])), (a_md_nexts, .inl (cI, 24576, .inl md_nexts)), (a_md_marked, .inl (cZ, 4096, .inl md_marked_7))] H → va_D A [(a_md, .inr (11, [.ref a_md_tape, .int md_size, .int md_at, .int md_token, .int md_tokenPlace, .int md_number, .int md_sign, .int md_bad, .int md_faultPlace, .int md_place, .ref a_md_acts, .ref a_md_actNumbers, .ref a_md_actCounts, .int md_bank, .int md_unaries, .int md_opens, .ref a_md_pile, .int md_piled, .int md_loop, .ref a_md_begins, .ref a_md_goals, .ref a_md_ranks, .ref a_md_choiceCounts, .ref a_md_whens, .ref a_md_becomes, .ref a_md_guessCounts, .ref a_md_guesses, .ref a_md_unaryCounts, .ref a_md_stack, .ref a_md_nexts, .ref a_md_isBegin, .ref a_md_isGoal, .ref a_md_levels, .ref a_md_queue, .ref a_md_hasGuesses, .int md_keptBits, .ref a_md_rounds, .ref a_md_marked, .ref a_md_other, .ref a_md_heights])), (a_md_nexts, .inl (cI, 24576, .inl md_nexts)), (a_md_marked, .inl (cZ, 4096, .inl md_marked_7))] → va_S A s.heap H locs → ∀ ls : Array Slot, lv_has ls 6 [(0, .ref a_md), (1, .int x1_5), (2, .int x2_6)] → W p l e (headSpec w_Md_spreadAll ({ frames := 1, cells := 0, slots := 0, locals := 23 })).room s m (([.ref a_md] : List Value).toArray) below meth c H locs 0 0 QQ (F0 m 10 ls []) := by
          intro k118 hk118 n
          induction n with
          | zero => intro x1_5 x2_6 md_marked_7 h; exact (show False from h).elim
          | succ n il =>
            intro x1_5 x2_6 md_marked_7 h
            intro H locs hP hD hS ls hl
            refine lv_iload_n hx hb d_Md_spreadAll_10 rfl (lv_at hl 2 rfl) ?_
            refine lv_sipush (v := 4096) hx hb d_Md_spreadAll_11 (by decide) ?_
            refine lv_icmp_ge (tgt := 118) hx hb d_Md_spreadAll_14 (by decide) (fun c_14 => ?_) (fun c_14 => ?_)
            · have h := And.left h c_14
              exact hk118 _ _ h _ _ hP hD hS _ (lv_sub hl [0, 1] rfl)
            · have h := And.right h c_14
              refine lv_aload_n hx hb d_Md_spreadAll_17 rfl (lv_at hl 0 rfl) ?_
              refine va_get (D := (dC, dI)) (ci := 11) (v := .ref a_md_marked) (C := "LoopInductionModel") (T := F_Md) (N := 40) hx hb hts iC_Md hown hK hP 0 rfl rfl 37 (by decide) fl_85 (fun _ h9 => h9) rfl d_Md_spreadAll_18 ?_
              refine lv_iload_n hx hb d_Md_spreadAll_21 rfl (lv_at hl 2 rfl) ?_
              obtain ⟨hin_22, h⟩ := h
              refine va_zald hx hb hK hP 2 2 rfl rfl hin_22 d_Md_spreadAll_22 ?_
              refine lv_if_ne (tgt := 112) hx hb d_Md_spreadAll_23 (by decide) (fun c_23 => ?_) (fun c_23 => ?_)
              · have h := And.left h c_23
                refine lv_iinc (v := x2_6 + 1) (lv' := [(2, .int (x2_6 + 1)), (0, .ref a_md), (1, .int x1_5)]) hx hb d_Md_spreadAll_112 hl (k := 2) rfl rfl (by decide) rfl (fun ls hl => ?_)
                refine lv_goto (tgt := 10) hx hb d_Md_spreadAll_115 (by decide) ?_
                exact il _ _ _ h _ _ hP hD hS _ (lv_sub hl [1, 2, 0] rfl)
              · have h := And.right h c_23
                refine lv_aload_n hx hb d_Md_spreadAll_26 rfl (lv_at hl 0 rfl) ?_
                refine lv_iload_n hx hb d_Md_spreadAll_27 rfl (lv_at hl 2 rfl) ?_
                refine jn_i (wr := [(a_md_marked, .inl (cZ, 4096, .inl md_marked_7))]) (va_runV (As := [.int x2_6]) (rest := []) ⟨hx, hb, hml, hown, hts⟩ (c_Md_isEnd l dC dI cI cB cZ adK adV _ a_md a_md_tape a_md_acts a_md_actNumbers a_md_actCounts a_md_pile a_md_begins a_md_goals a_md_ranks a_md_choiceCounts a_md_whens a_md_becomes a_md_guessCounts a_md_guesses a_md_unaryCounts a_md_stack a_md_nexts a_md_isBegin a_md_isGoal a_md_levels a_md_queue a_md_hasGuesses a_md_rounds a_md_marked a_md_other a_md_heights md_size md_at md_token md_tokenPlace md_number md_sign md_bad md_faultPlace md_place md_bank md_unaries md_opens md_piled md_loop md_keptBits md_nexts x2_6 _ h) (cwV 1 hts (gv_ m_1377 m_1379 m_78 m_96 m_1380) rfl rfl rfl pd_Md_isEnd ⟨Nat.le_of_ble_eq_true rfl, Nat.le_of_ble_eq_true rfl⟩) ⟨pc_blind, va_recv hK hP (ci := 11) (q0 := 0) rfl rfl, pc_of (hP.sub [0, 1] rfl) hK (hD.sub [0, 1] (by decide) rfl) hN hT hS hA⟩ rfl rfl hl.1 rfl (lv_room (Nat.le_of_ble_eq_true rfl)) d_Md_spreadAll_28 ⟨Nat.zero_le _, Nat.zero_le _⟩) hP hD hS hA [0, 1] [2] rfl rfl (by decide) (by decide) (fun r_11 u_ H locs h hP hD hS => ?_)
                have hP : va_P (dC, dI) vwCl [(a_md_marked, .inl (cZ, 4096, .inl md_marked_7)), (a_md, .inr (11, [.ref a_md_tape, .int md_size, .int md_at, .int md_token, .int md_tokenPlace, .int md_number, .int md_sign, .int md_bad, .int md_faultPlace, .int md_place, .ref a_md_acts, .ref a_md_actNumbers, .ref a_md_actCounts, .int md_bank, .int md_unaries, .int md_opens, .ref a_md_pile, .int md_piled, .int md_loop, .ref a_md_begins, .ref a_md_goals, .ref a_md_ranks, .ref a_md_choiceCounts, .ref a_md_whens, .ref a_md_becomes, .ref a_md_guessCounts, .ref a_md_guesses, .ref a_md_unaryCounts, .ref a_md_stack, .ref a_md_nexts, .ref a_md_isBegin, .ref a_md_isGoal, .ref a_md_levels, .ref a_md_queue, .ref a_md_hasGuesses, .int md_keptBits, .ref a_md_rounds, .ref a_md_marked, .ref a_md_other, .ref a_md_heights])), (a_md_nexts, .inl (cI, 24576, .inl md_nexts))] H := hP
                have hD : va_D A [(a_md_marked, .inl (cZ, 4096, .inl md_marked_7)), (a_md, .inr (11, [.ref a_md_tape, .int md_size, .int md_at, .int md_token, .int md_tokenPlace, .int md_number, .int md_sign, .int md_bad, .int md_faultPlace, .int md_place, .ref a_md_acts, .ref a_md_actNumbers, .ref a_md_actCounts, .int md_bank, .int md_unaries, .int md_opens, .ref a_md_pile, .int md_piled, .int md_loop, .ref a_md_begins, .ref a_md_goals, .ref a_md_ranks, .ref a_md_choiceCounts, .ref a_md_whens, .ref a_md_becomes, .ref a_md_guessCounts, .ref a_md_guesses, .ref a_md_unaryCounts, .ref a_md_stack, .ref a_md_nexts, .ref a_md_isBegin, .ref a_md_isGoal, .ref a_md_levels, .ref a_md_queue, .ref a_md_hasGuesses, .int md_keptBits, .ref a_md_rounds, .ref a_md_marked, .ref a_md_other, .ref a_md_heights])), (a_md_nexts, .inl (cI, 24576, .inl md_nexts))] := hD
                refine lv_if_ne (tgt := 112) hx hb d_Md_spreadAll_31 (by decide) (fun c_31 => ?_) (fun c_31 => ?_)
                · have h := And.left h c_31
                  refine lv_iinc (v := x2_6 + 1) (lv' := [(2, .int (x2_6 + 1)), (0, .ref a_md), (1, .int x1_5)]) hx hb d_Md_spreadAll_112 hl (k := 2) rfl rfl (by decide) rfl (fun ls hl => ?_)
                  refine lv_goto (tgt := 10) hx hb d_Md_spreadAll_115 (by decide) ?_
                  exact il _ _ _ h _ _ (hP.sub [1, 2, 0] rfl) (hD.sub [1, 2, 0] (by decide) rfl) hS _ (lv_sub hl [1, 2, 0] rfl)
                · have h := And.right h c_31
                  refine lv_iconst (v := 1) hx hb d_Md_spreadAll_34 (by decide) ?_
                  refine lv_istore_n (lv' := [(3, .int 1), (0, .ref a_md), (1, .int x1_5), (2, .int x2_6)]) hx hb d_Md_spreadAll_35 rfl hl (by decide) rfl (fun ls hl => ?_)
                  refine lv_iconst (v := 0) hx hb d_Md_spreadAll_36 (by decide) ?_
                  refine lv_istore (lv' := [(4, .int 0), (3, .int 1), (0, .ref a_md), (1, .int x1_5), (2, .int x2_6)]) hx hb d_Md_spreadAll_37 hl (by decide) rfl (fun ls hl => ?_)
                  have L39_q_14 : ∀ (k91 : Int32 → Prop) (hk91 : ∀ (x3_15 : Int32), k91 x3_15 → ∀ (H : Heap) (locs : List Loc), va_P (dC, dI) vwCl [(a_md_marked, .inl (cZ, 4096, .inl md_marked_7)), (a_md, .inr (11, [.ref a_md_tape, .int md_size, .int md_at, .int md_token, .int md_tokenPlace, .int md_number, .int md_sign, .int md_bad, .int md_faultPlace, .int md_place, .ref a_md_acts, .ref a_md_actNumbers, .ref a_md_actCounts, .int md_bank, .int md_unaries, .int md_opens, .ref a_md_pile, .int md_piled, .int md_loop, .ref a_md_begins, .ref a_md_goals, .ref a_md_ranks, .ref a_md_choiceCounts, .ref a_md_whens, .ref a_md_becomes, .ref a_md_guessCounts, .ref a_md_guesses, .ref a_md_unaryCounts, .ref a_md_stack, .ref a_md_nexts, .ref a_md_isBegin, .ref a_md_isGoal, .ref a_md_levels, .ref a_md_queue, .ref a_md_hasGuesses, .int md_keptBits, .ref a_md_rounds, .ref a_md_marked, .ref a_md_other, .ref a_md_heights])), (a_md_nexts, .inl (cI, 24576, .inl md_nexts))] H → va_D A [(a_md_marked, .inl (cZ, 4096, .inl md_marked_7)), (a_md, .inr (11, [.ref a_md_tape, .int md_size, .int md_at, .int md_token, .int md_tokenPlace, .int md_number, .int md_sign, .int md_bad, .int md_faultPlace, .int md_place, .ref a_md_acts, .ref a_md_actNumbers, .ref a_md_actCounts, .int md_bank, .int md_unaries, .int md_opens, .ref a_md_pile, .int md_piled, .int md_loop, .ref a_md_begins, .ref a_md_goals, .ref a_md_ranks, .ref a_md_choiceCounts, .ref a_md_whens, .ref a_md_becomes, .ref a_md_guessCounts, .ref a_md_guesses, .ref a_md_unaryCounts, .ref a_md_stack, .ref a_md_nexts, .ref a_md_isBegin, .ref a_md_isGoal, .ref a_md_levels, .ref a_md_queue, .ref a_md_hasGuesses, .int md_keptBits, .ref a_md_rounds, .ref a_md_marked, .ref a_md_other, .ref a_md_heights])), (a_md_nexts, .inl (cI, 24576, .inl md_nexts))] → va_S A s.heap H locs → ∀ ls : Array Slot, lv_has ls 6 [(0, .ref a_md), (1, .int x1_5), (2, .int x2_6), (3, .int x3_15)] → W p l e (headSpec w_Md_spreadAll ({ frames := 1, cells := 0, slots := 0, locals := 23 })).room s m (([.ref a_md] : List Value).toArray) below meth c H locs 0 0 QQ (F0 m 91 ls [])) (n : Nat) (x3_12 : Int32) (x4_13 : Int32), wp_Md_spreadAll_L39 x1_5 x2_6 md_nexts md_marked_7 k91 n x3_12 x4_13 → ∀ (H : Heap) (locs : List Loc), va_P (dC, dI) vwCl [(a_md_marked, .inl (cZ, 4096, .inl md_marked_7)), (a_md, .inr (11, [.ref a_md_tape, .int md_size, .int md_at, .int md_token, .int md_tokenPlace, .int md_number, .int md_sign, .int md_bad, .int md_faultPlace, .int md_place, .ref a_md_acts, .ref a_md_actNumbers, .ref a_md_actCounts, .int md_bank, .int md_unaries, .int md_opens, .ref a_md_pile, .int md_piled, .int md_loop, .ref a_md_begins, .ref a_md_goals, .ref a_md_ranks, .ref a_md_choiceCounts, .ref a_md_whens, .ref a_md_becomes, .ref a_md_guessCounts, .ref a_md_guesses, .ref a_md_unaryCounts, .ref a_md_stack, .ref a_md_nexts, .ref a_md_isBegin, .ref a_md_isGoal, .ref a_md_levels, .ref a_md_queue, .ref a_md_hasGuesses, .int md_keptBits, .ref a_md_rounds, .ref a_md_marked, .ref a_md_other, .ref a_md_heights])), (a_md_nexts, .inl (cI, 24576, .inl md_nexts))] H → va_D A [(a_md_marked, .inl (cZ, 4096, .inl md_marked_7)), (a_md, .inr (11, [.ref a_md_tape, .int md_size, .int md_at, .int md_token, .int md_tokenPlace, .int md_number, .int md_sign, .int md_bad, .int md_faultPlace, .int md_place, .ref a_md_acts, .ref a_md_actNumbers, .ref a_md_actCounts, .int md_bank, .int md_unaries, .int md_opens, .ref a_md_pile, .int md_piled, .int md_loop, .ref a_md_begins, .ref a_md_goals, .ref a_md_ranks, .ref a_md_choiceCounts, .ref a_md_whens, .ref a_md_becomes, .ref a_md_guessCounts, .ref a_md_guesses, .ref a_md_unaryCounts, .ref a_md_stack, .ref a_md_nexts, .ref a_md_isBegin, .ref a_md_isGoal, .ref a_md_levels, .ref a_md_queue, .ref a_md_hasGuesses, .int md_keptBits, .ref a_md_rounds, .ref a_md_marked, .ref a_md_other, .ref a_md_heights])), (a_md_nexts, .inl (cI, 24576, .inl md_nexts))] → va_S A s.heap H locs → ∀ ls : Array Slot, lv_has ls 6 [(0, .ref a_md), (1, .int x1_5), (2, .int x2_6), (3, .int x3_12), (4, .int x4_13)] → W p l e (headSpec w_Md_spreadAll ({ frames := 1, cells := 0, slots := 0, locals := 23 })).room s m (([.ref a_md] : List Value).toArray) below meth c H locs 0 0 QQ (F0 m 39 ls []) := by
                    intro k91 hk91 n
                    induction n with
                    | zero => intro x3_12 x4_13 h; exact (show False from h).elim
                    | succ n il =>
                      intro x3_12 x4_13 h
                      intro H locs hP hD hS ls hl
                      refine lv_iload hx hb d_Md_spreadAll_39 (lv_at hl 4 rfl) ?_
                      refine lv_bipush (v := 6) hx hb d_Md_spreadAll_41 (by decide) ?_
                      refine lv_icmp_ge (tgt := 91) hx hb d_Md_spreadAll_43 (by decide) (fun c_43 => ?_) (fun c_43 => ?_)
                      · have h := And.left h c_43
                        exact hk91 _ h _ _ hP hD hS _ (lv_sub hl [0, 1, 2, 3] rfl)
                      · have h := And.right h c_43
                        refine lv_aload_n hx hb d_Md_spreadAll_46 rfl (lv_at hl 0 rfl) ?_
                        refine va_get (D := (dC, dI)) (ci := 11) (v := .ref a_md_nexts) (C := "LoopInductionModel") (T := F_Md) (N := 40) hx hb hts iC_Md hown hK hP 1 rfl rfl 29 (by decide) fl_63 (fun _ h9 => h9) rfl d_Md_spreadAll_47 ?_
                        refine lv_bipush (v := 6) hx hb d_Md_spreadAll_50 (by decide) ?_
                        refine lv_iload_n hx hb d_Md_spreadAll_52 rfl (lv_at hl 2 rfl) ?_
                        refine lv_imul hx hb d_Md_spreadAll_53 ?_
                        refine lv_iload hx hb d_Md_spreadAll_54 (lv_at hl 4 rfl) ?_
                        refine lv_iadd hx hb d_Md_spreadAll_56 ?_
                        obtain ⟨hin_57, h⟩ := h
                        refine va_iald hx hb hK hP 2 0 rfl rfl hin_57 d_Md_spreadAll_57 ?_
                        refine lv_topi (fun x5_16 ex5_16 => ?_)
                        have h := h x5_16 ex5_16
                        refine lv_istore (lv' := [(5, .int x5_16), (0, .ref a_md), (1, .int x1_5), (2, .int x2_6), (3, .int x3_12), (4, .int x4_13)]) hx hb d_Md_spreadAll_58 hl (by decide) rfl (fun ls hl => ?_)
                        refine lv_iload_n hx hb d_Md_spreadAll_60 rfl (lv_at hl 4 rfl) ?_
                        refine lv_if_eq (tgt := 83) hx hb d_Md_spreadAll_61 (by decide) (fun c_61 => ?_) (fun c_61 => ?_)
                        · have h := And.left h c_61
                          refine lv_iconst (v := 0) hx hb d_Md_spreadAll_83 (by decide) ?_
                          refine lv_istore_n (lv' := [(3, .int 0), (5, .int x5_16), (0, .ref a_md), (1, .int x1_5), (2, .int x2_6), (4, .int x4_13)]) hx hb d_Md_spreadAll_84 rfl hl (by decide) rfl (fun ls hl => ?_)
                          refine lv_iinc (v := x4_13 + 1) (lv' := [(4, .int (x4_13 + 1)), (3, .int 0), (5, .int x5_16), (0, .ref a_md), (1, .int x1_5), (2, .int x2_6)]) hx hb d_Md_spreadAll_85 hl (k := 5) rfl rfl (by decide) rfl (fun ls hl => ?_)
                          refine lv_goto (tgt := 39) hx hb d_Md_spreadAll_88 (by decide) ?_
                          exact il _ _ h _ _ hP hD hS _ (lv_sub hl [3, 4, 5, 1, 0] rfl)
                        · have h := And.right h c_61
                          refine lv_iload hx hb d_Md_spreadAll_64 (lv_at hl 0 rfl) ?_
                          refine lv_if_lt (tgt := 79) hx hb d_Md_spreadAll_66 (by decide) (fun c_66 => ?_) (fun c_66 => ?_)
                          · have h := And.left h c_66
                            refine lv_iconst (v := 1) hx hb d_Md_spreadAll_79 (by decide) ?_
                            refine lv_goto (tgt := 84) hx hb d_Md_spreadAll_80 (by decide) ?_
                            refine lv_istore_n (lv' := [(3, .int 1), (5, .int x5_16), (0, .ref a_md), (1, .int x1_5), (2, .int x2_6), (4, .int x4_13)]) hx hb d_Md_spreadAll_84 rfl hl (by decide) rfl (fun ls hl => ?_)
                            refine lv_iinc (v := x4_13 + 1) (lv' := [(4, .int (x4_13 + 1)), (3, .int 1), (5, .int x5_16), (0, .ref a_md), (1, .int x1_5), (2, .int x2_6)]) hx hb d_Md_spreadAll_85 hl (k := 5) rfl rfl (by decide) rfl (fun ls hl => ?_)
                            refine lv_goto (tgt := 39) hx hb d_Md_spreadAll_88 (by decide) ?_
                            exact il _ _ h _ _ hP hD hS _ (lv_sub hl [3, 4, 5, 1, 0] rfl)
                          · have h := And.right h c_66
                            refine lv_aload_n hx hb d_Md_spreadAll_69 rfl (lv_at hl 1 rfl) ?_
                            refine va_get (D := (dC, dI)) (ci := 11) (v := .ref a_md_marked) (C := "LoopInductionModel") (T := F_Md) (N := 40) hx hb hts iC_Md hown hK hP 1 rfl rfl 37 (by decide) fl_85 (fun _ h9 => h9) rfl d_Md_spreadAll_70 ?_
                            refine lv_iload hx hb d_Md_spreadAll_73 (lv_at hl 0 rfl) ?_
                            obtain ⟨hin_75, h⟩ := h
                            refine va_zald hx hb hK hP 0 2 rfl rfl hin_75 d_Md_spreadAll_75 ?_
                            refine lv_if_eq (tgt := 83) hx hb d_Md_spreadAll_76 (by decide) (fun c_76 => ?_) (fun c_76 => ?_)
                            · have h := And.left h c_76
                              refine lv_iconst (v := 0) hx hb d_Md_spreadAll_83 (by decide) ?_
                              refine lv_istore_n (lv' := [(3, .int 0), (5, .int x5_16), (0, .ref a_md), (1, .int x1_5), (2, .int x2_6), (4, .int x4_13)]) hx hb d_Md_spreadAll_84 rfl hl (by decide) rfl (fun ls hl => ?_)
                              refine lv_iinc (v := x4_13 + 1) (lv' := [(4, .int (x4_13 + 1)), (3, .int 0), (5, .int x5_16), (0, .ref a_md), (1, .int x1_5), (2, .int x2_6)]) hx hb d_Md_spreadAll_85 hl (k := 5) rfl rfl (by decide) rfl (fun ls hl => ?_)
                              refine lv_goto (tgt := 39) hx hb d_Md_spreadAll_88 (by decide) ?_
                              exact il _ _ h _ _ hP hD hS _ (lv_sub hl [3, 4, 5, 1, 0] rfl)
                            · have h := And.right h c_76
                              refine lv_iconst (v := 1) hx hb d_Md_spreadAll_79 (by decide) ?_
                              refine lv_goto (tgt := 84) hx hb d_Md_spreadAll_80 (by decide) ?_
                              refine lv_istore_n (lv' := [(3, .int 1), (5, .int x5_16), (0, .ref a_md), (1, .int x1_5), (2, .int x2_6), (4, .int x4_13)]) hx hb d_Md_spreadAll_84 rfl hl (by decide) rfl (fun ls hl => ?_)
                              refine lv_iinc (v := x4_13 + 1) (lv' := [(4, .int (x4_13 + 1)), (3, .int 1), (5, .int x5_16), (0, .ref a_md), (1, .int x1_5), (2, .int x2_6)]) hx hb d_Md_spreadAll_85 hl (k := 5) rfl rfl (by decide) rfl (fun ls hl => ?_)
                              refine lv_goto (tgt := 39) hx hb d_Md_spreadAll_88 (by decide) ?_
                              exact il _ _ h _ _ hP hD hS _ (lv_sub hl [3, 4, 5, 1, 0] rfl)
                  obtain ⟨n_, h⟩ := h
                  refine L39_q_14 _ ?_ n_ _ _ h _ _ hP hD hS _ (lv_sub hl [2, 3, 4, 1, 0] rfl)
                  intro x3_17 h
                  intro H locs hP hD hS ls hl
                  refine lv_aload_n hx hb d_Md_spreadAll_91 rfl (lv_at hl 0 rfl) ?_
                  refine va_get (D := (dC, dI)) (ci := 11) (v := .ref a_md_marked) (C := "LoopInductionModel") (T := F_Md) (N := 40) hx hb hts iC_Md hown hK hP 1 rfl rfl 37 (by decide) fl_85 (fun _ h9 => h9) rfl d_Md_spreadAll_92 ?_
                  refine lv_iload_n hx hb d_Md_spreadAll_95 rfl (lv_at hl 2 rfl) ?_
                  refine lv_iload_n hx hb d_Md_spreadAll_96 rfl (lv_at hl 3 rfl) ?_
                  obtain ⟨hin_97, h⟩ := h
                  refine va_zast hx hb hK hP hD hS 0 2 rfl rfl hin_97 d_Md_spreadAll_97 (fun H locs hP hD hS => ?_)
                  have hP : va_P (dC, dI) vwCl [(a_md_marked, .inl (cZ, 4096, .inl (upd md_marked_7 (x2_6 : Int32).toNatClampNeg (vp_nar .boolean x3_17)))), (a_md, .inr (11, [.ref a_md_tape, .int md_size, .int md_at, .int md_token, .int md_tokenPlace, .int md_number, .int md_sign, .int md_bad, .int md_faultPlace, .int md_place, .ref a_md_acts, .ref a_md_actNumbers, .ref a_md_actCounts, .int md_bank, .int md_unaries, .int md_opens, .ref a_md_pile, .int md_piled, .int md_loop, .ref a_md_begins, .ref a_md_goals, .ref a_md_ranks, .ref a_md_choiceCounts, .ref a_md_whens, .ref a_md_becomes, .ref a_md_guessCounts, .ref a_md_guesses, .ref a_md_unaryCounts, .ref a_md_stack, .ref a_md_nexts, .ref a_md_isBegin, .ref a_md_isGoal, .ref a_md_levels, .ref a_md_queue, .ref a_md_hasGuesses, .int md_keptBits, .ref a_md_rounds, .ref a_md_marked, .ref a_md_other, .ref a_md_heights])), (a_md_nexts, .inl (cI, 24576, .inl md_nexts))] H := hP
                  have hD : va_D A [(a_md_marked, .inl (cZ, 4096, .inl (upd md_marked_7 (x2_6 : Int32).toNatClampNeg (vp_nar .boolean x3_17)))), (a_md, .inr (11, [.ref a_md_tape, .int md_size, .int md_at, .int md_token, .int md_tokenPlace, .int md_number, .int md_sign, .int md_bad, .int md_faultPlace, .int md_place, .ref a_md_acts, .ref a_md_actNumbers, .ref a_md_actCounts, .int md_bank, .int md_unaries, .int md_opens, .ref a_md_pile, .int md_piled, .int md_loop, .ref a_md_begins, .ref a_md_goals, .ref a_md_ranks, .ref a_md_choiceCounts, .ref a_md_whens, .ref a_md_becomes, .ref a_md_guessCounts, .ref a_md_guesses, .ref a_md_unaryCounts, .ref a_md_stack, .ref a_md_nexts, .ref a_md_isBegin, .ref a_md_isGoal, .ref a_md_levels, .ref a_md_queue, .ref a_md_hasGuesses, .int md_keptBits, .ref a_md_rounds, .ref a_md_marked, .ref a_md_other, .ref a_md_heights])), (a_md_nexts, .inl (cI, 24576, .inl md_nexts))] := hD
                  refine lv_iload_n hx hb d_Md_spreadAll_98 rfl (lv_at hl 1 rfl) ?_
                  refine lv_if_ne (tgt := 106) hx hb d_Md_spreadAll_99 (by decide) (fun c_99 => ?_) (fun c_99 => ?_)
                  · have h := And.left h c_99
                    refine lv_iconst (v := 1) hx hb d_Md_spreadAll_106 (by decide) ?_
                    refine lv_goto (tgt := 111) hx hb d_Md_spreadAll_107 (by decide) ?_
                    refine lv_istore_n (lv' := [(1, .int 1), (0, .ref a_md), (2, .int x2_6), (3, .int x3_17)]) hx hb d_Md_spreadAll_111 rfl hl (by decide) rfl (fun ls hl => ?_)
                    refine lv_iinc (v := x2_6 + 1) (lv' := [(2, .int (x2_6 + 1)), (1, .int 1), (0, .ref a_md), (3, .int x3_17)]) hx hb d_Md_spreadAll_112 hl (k := 2) rfl rfl (by decide) rfl (fun ls hl => ?_)
                    refine lv_goto (tgt := 10) hx hb d_Md_spreadAll_115 (by decide) ?_
                    exact il _ _ _ h _ _ (hP.sub [1, 2, 0] rfl) (hD.sub [1, 2, 0] (by decide) rfl) hS _ (lv_sub hl [2, 1, 0] rfl)
                  · have h := And.right h c_99
                    refine lv_iload_n hx hb d_Md_spreadAll_102 rfl (lv_at hl 3 rfl) ?_
                    refine lv_if_eq (tgt := 110) hx hb d_Md_spreadAll_103 (by decide) (fun c_103 => ?_) (fun c_103 => ?_)
                    · have h := And.left h c_103
                      refine lv_iconst (v := 0) hx hb d_Md_spreadAll_110 (by decide) ?_
                      refine lv_istore_n (lv' := [(1, .int 0), (0, .ref a_md), (2, .int x2_6), (3, .int x3_17)]) hx hb d_Md_spreadAll_111 rfl hl (by decide) rfl (fun ls hl => ?_)
                      refine lv_iinc (v := x2_6 + 1) (lv' := [(2, .int (x2_6 + 1)), (1, .int 0), (0, .ref a_md), (3, .int x3_17)]) hx hb d_Md_spreadAll_112 hl (k := 2) rfl rfl (by decide) rfl (fun ls hl => ?_)
                      refine lv_goto (tgt := 10) hx hb d_Md_spreadAll_115 (by decide) ?_
                      exact il _ _ _ h _ _ (hP.sub [1, 2, 0] rfl) (hD.sub [1, 2, 0] (by decide) rfl) hS _ (lv_sub hl [2, 1, 0] rfl)
                    · have h := And.right h c_103
                      refine lv_iconst (v := 1) hx hb d_Md_spreadAll_106 (by decide) ?_
                      refine lv_goto (tgt := 111) hx hb d_Md_spreadAll_107 (by decide) ?_
                      refine lv_istore_n (lv' := [(1, .int 1), (0, .ref a_md), (2, .int x2_6), (3, .int x3_17)]) hx hb d_Md_spreadAll_111 rfl hl (by decide) rfl (fun ls hl => ?_)
                      refine lv_iinc (v := x2_6 + 1) (lv' := [(2, .int (x2_6 + 1)), (1, .int 1), (0, .ref a_md), (3, .int x3_17)]) hx hb d_Md_spreadAll_112 hl (k := 2) rfl rfl (by decide) rfl (fun ls hl => ?_)
                      refine lv_goto (tgt := 10) hx hb d_Md_spreadAll_115 (by decide) ?_
                      exact il _ _ _ h _ _ (hP.sub [1, 2, 0] rfl) (hD.sub [1, 2, 0] (by decide) rfl) hS _ (lv_sub hl [2, 1, 0] rfl)
        obtain ⟨n_, h⟩ := h
        refine L10_q_8 _ ?_ n_ _ _ _ h _ _ hP hD hS _ (lv_sub hl [2, 1, 0] rfl)
        intro x1_18 md_marked_19 h
        intro H locs hP hD hS ls hl
        refine lv_goto (tgt := 2) hx hb d_Md_spreadAll_118 (by decide) ?_
        exact il _ _ h _ _ hP hD hS _ hl
  obtain ⟨n_, h⟩ := h
  refine L2_q_3 _ ?_ n_ _ _ h _ _ hP hD hS _ (lv_sub hl [1, 0] rfl)
  intro md_marked_20 h
  intro H locs hP hD hS ls hl
  rw [← hQ]
  have hP9 := hP
  have hD9 := hD
  exact W.vret hx hb hr (fun t ht hW => ⟨⟨(md_marked_20), rfl, h, by rw [ht]; exact hP9, va_K.moved hW.alike hK, hD9⟩, hS.F ht⟩) hS.2.2 d_Md_spreadAll_121
