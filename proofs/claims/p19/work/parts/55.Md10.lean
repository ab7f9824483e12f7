abbrev b_Md_feed : ByteArray := prog_13_method_28_code
abbrev y_Md_feed : MethodName := ⟨"LoopInductionModel", "feed", "(IIIII)I"⟩
abbrev w_Md_feed : List Cond := .code y_Md_feed b_Md_feed 9 (some .int) :: allW
theorem pn_Md_feed : y_Md_feed.cls ≠ "java/lang/invoke/MethodHandle" ∧ y_Md_feed.cls ≠ "java/lang/invoke/VarHandle" ∧ (parseMethodDescriptor y_Md_feed.desc).map (fun d => d.parameters.length) = some 5 := by decide +kernel
theorem pd_Md_feed : y_Md_feed.cls = "LoopInductionModel" ∧ y_Md_feed.cls ≠ "java/lang/invoke/MethodHandle" ∧ y_Md_feed.cls ≠ "java/lang/invoke/VarHandle" ∧ (parseMethodDescriptor y_Md_feed.desc).map (fun d => d.parameters.length) = some 5 := by decide +kernel
abbrev b_Md_end : ByteArray := prog_13_method_29_code
abbrev y_Md_end : MethodName := ⟨"LoopInductionModel", "end", "(I)I"⟩
abbrev w_Md_end : List Cond := .code y_Md_end b_Md_end 2 (some .int) :: allW
theorem pn_Md_end : y_Md_end.cls ≠ "java/lang/invoke/MethodHandle" ∧ y_Md_end.cls ≠ "java/lang/invoke/VarHandle" ∧ (parseMethodDescriptor y_Md_end.desc).map (fun d => d.parameters.length) = some 1 := by decide +kernel
theorem pd_Md_end : y_Md_end.cls = "LoopInductionModel" ∧ y_Md_end.cls ≠ "java/lang/invoke/MethodHandle" ∧ y_Md_end.cls ≠ "java/lang/invoke/VarHandle" ∧ (parseMethodDescriptor y_Md_end.desc).map (fun d => d.parameters.length) = some 1 := by decide +kernel
abbrev b_Md_variableOf : ByteArray := prog_13_method_32_code
abbrev y_Md_variableOf : MethodName := ⟨"LoopInductionModel", "variableOf", "(II)I"⟩
abbrev w_Md_variableOf : List Cond := .code y_Md_variableOf b_Md_variableOf 2 (some .int) :: allW
theorem pn_Md_variableOf : y_Md_variableOf.cls ≠ "java/lang/invoke/MethodHandle" ∧ y_Md_variableOf.cls ≠ "java/lang/invoke/VarHandle" ∧ (parseMethodDescriptor y_Md_variableOf.desc).map (fun d => d.parameters.length) = some 2 := by decide +kernel
theorem pd_Md_variableOf : y_Md_variableOf.cls = "LoopInductionModel" ∧ y_Md_variableOf.cls ≠ "java/lang/invoke/MethodHandle" ∧ y_Md_variableOf.cls ≠ "java/lang/invoke/VarHandle" ∧ (parseMethodDescriptor y_Md_variableOf.desc).map (fun d => d.parameters.length) = some 2 := by decide +kernel
theorem d_Md_feed_0 : decode b_Md_feed 0 = .ok (.aload_n 0, 1) := by decide +kernel
theorem d_Md_feed_1 : decode b_Md_feed 1 = .ok (.getfield 94, 3) := by decide +kernel
theorem d_Md_feed_4 : decode b_Md_feed 4 = .ok (.bipush 20, 2) := by decide +kernel
theorem d_Md_feed_6 : decode b_Md_feed 6 = .ok (.iadd, 1) := by decide +kernel
theorem d_Md_feed_7 : decode b_Md_feed 7 = .ok (.sipush 1200, 3) := by decide +kernel
theorem d_Md_feed_10 : decode b_Md_feed 10 = .ok (.if_icmp .le 5, 3) := by decide +kernel
theorem d_Md_feed_13 : decode b_Md_feed 13 = .ok (.iconst (-1), 1) := by decide +kernel
theorem d_Md_feed_14 : decode b_Md_feed 14 = .ok (.ireturn, 1) := by decide +kernel
theorem d_Md_feed_15 : decode b_Md_feed 15 = .ok (.iconst 0, 1) := by decide +kernel
theorem d_Md_feed_16 : decode b_Md_feed 16 = .ok (.istore 6, 2) := by decide +kernel
theorem d_Md_feed_18 : decode b_Md_feed 18 = .ok (.iload 6, 2) := by decide +kernel
theorem d_Md_feed_20 : decode b_Md_feed 20 = .ok (.bipush 20, 2) := by decide +kernel
theorem d_Md_feed_22 : decode b_Md_feed 22 = .ok (.if_icmp .ge 92, 3) := by decide +kernel
theorem d_Md_feed_25 : decode b_Md_feed 25 = .ok (.iload 6, 2) := by decide +kernel
theorem d_Md_feed_27 : decode b_Md_feed 27 = .ok (.iconst 4, 1) := by decide +kernel
theorem d_Md_feed_28 : decode b_Md_feed 28 = .ok (.idiv, 1) := by decide +kernel
theorem d_Md_feed_29 : decode b_Md_feed 29 = .ok (.istore 7, 2) := by decide +kernel
theorem d_Md_feed_31 : decode b_Md_feed 31 = .ok (.iload 7, 2) := by decide +kernel
theorem d_Md_feed_33 : decode b_Md_feed 33 = .ok (.ifCond .ne 7, 3) := by decide +kernel
theorem d_Md_feed_36 : decode b_Md_feed 36 = .ok (.iload_n 1, 1) := by decide +kernel
theorem d_Md_feed_37 : decode b_Md_feed 37 = .ok (.goto 36, 3) := by decide +kernel
theorem d_Md_feed_40 : decode b_Md_feed 40 = .ok (.iload 7, 2) := by decide +kernel
theorem d_Md_feed_42 : decode b_Md_feed 42 = .ok (.iconst 1, 1) := by decide +kernel
theorem d_Md_feed_43 : decode b_Md_feed 43 = .ok (.if_icmp .ne 7, 3) := by decide +kernel
theorem d_Md_feed_46 : decode b_Md_feed 46 = .ok (.iload_n 2, 1) := by decide +kernel
theorem d_Md_feed_47 : decode b_Md_feed 47 = .ok (.goto 26, 3) := by decide +kernel
theorem d_Md_feed_50 : decode b_Md_feed 50 = .ok (.iload 7, 2) := by decide +kernel
theorem d_Md_feed_52 : decode b_Md_feed 52 = .ok (.iconst 2, 1) := by decide +kernel
theorem d_Md_feed_53 : decode b_Md_feed 53 = .ok (.if_icmp .ne 7, 3) := by decide +kernel
theorem d_Md_feed_56 : decode b_Md_feed 56 = .ok (.iload_n 3, 1) := by decide +kernel
theorem d_Md_feed_57 : decode b_Md_feed 57 = .ok (.goto 16, 3) := by decide +kernel
theorem d_Md_feed_60 : decode b_Md_feed 60 = .ok (.iload 7, 2) := by decide +kernel
theorem d_Md_feed_62 : decode b_Md_feed 62 = .ok (.iconst 3, 1) := by decide +kernel
theorem d_Md_feed_63 : decode b_Md_feed 63 = .ok (.if_icmp .ne 8, 3) := by decide +kernel
theorem d_Md_feed_66 : decode b_Md_feed 66 = .ok (.iload 4, 2) := by decide +kernel
theorem d_Md_feed_68 : decode b_Md_feed 68 = .ok (.goto 5, 3) := by decide +kernel
theorem d_Md_feed_71 : decode b_Md_feed 71 = .ok (.iload 5, 2) := by decide +kernel
theorem d_Md_feed_73 : decode b_Md_feed 73 = .ok (.istore 8, 2) := by decide +kernel
theorem d_Md_feed_75 : decode b_Md_feed 75 = .ok (.aload_n 0, 1) := by decide +kernel
theorem d_Md_feed_76 : decode b_Md_feed 76 = .ok (.getfield 7, 3) := by decide +kernel
theorem d_Md_feed_79 : decode b_Md_feed 79 = .ok (.aload_n 0, 1) := by decide +kernel
theorem d_Md_feed_80 : decode b_Md_feed 80 = .ok (.getfield 94, 3) := by decide +kernel
theorem d_Md_feed_83 : decode b_Md_feed 83 = .ok (.iload 8, 2) := by decide +kernel
theorem d_Md_feed_85 : decode b_Md_feed 85 = .ok (.bipush 24, 2) := by decide +kernel
theorem d_Md_feed_87 : decode b_Md_feed 87 = .ok (.bipush 8, 2) := by decide +kernel
theorem d_Md_feed_89 : decode b_Md_feed 89 = .ok (.iload 6, 2) := by decide +kernel
theorem d_Md_feed_91 : decode b_Md_feed 91 = .ok (.iconst 4, 1) := by decide +kernel
theorem d_Md_feed_92 : decode b_Md_feed 92 = .ok (.irem, 1) := by decide +kernel
theorem d_Md_feed_93 : decode b_Md_feed 93 = .ok (.imul, 1) := by decide +kernel
theorem d_Md_feed_94 : decode b_Md_feed 94 = .ok (.isub, 1) := by decide +kernel
theorem d_Md_feed_95 : decode b_Md_feed 95 = .ok (.ishr, 1) := by decide +kernel
theorem d_Md_feed_96 : decode b_Md_feed 96 = .ok (.i2b, 1) := by decide +kernel
theorem d_Md_feed_97 : decode b_Md_feed 97 = .ok (.bastore, 1) := by decide +kernel
theorem d_Md_feed_98 : decode b_Md_feed 98 = .ok (.aload_n 0, 1) := by decide +kernel
theorem d_Md_feed_99 : decode b_Md_feed 99 = .ok (.dup, 1) := by decide +kernel
theorem d_Md_feed_100 : decode b_Md_feed 100 = .ok (.getfield 94, 3) := by decide +kernel
theorem d_Md_feed_103 : decode b_Md_feed 103 = .ok (.iconst 1, 1) := by decide +kernel
theorem d_Md_feed_104 : decode b_Md_feed 104 = .ok (.iadd, 1) := by decide +kernel
theorem d_Md_feed_105 : decode b_Md_feed 105 = .ok (.putfield 94, 3) := by decide +kernel
theorem d_Md_feed_108 : decode b_Md_feed 108 = .ok (.iinc 6 1, 3) := by decide +kernel
theorem d_Md_feed_111 : decode b_Md_feed 111 = .ok (.goto (-93), 3) := by decide +kernel
theorem d_Md_feed_114 : decode b_Md_feed 114 = .ok (.aload_n 0, 1) := by decide +kernel
theorem d_Md_feed_115 : decode b_Md_feed 115 = .ok (.getfield 94, 3) := by decide +kernel
theorem d_Md_feed_118 : decode b_Md_feed 118 = .ok (.ireturn, 1) := by decide +kernel
theorem d_Md_end_0 : decode b_Md_end 0 = .ok (.iload_n 1, 1) := by decide +kernel
theorem d_Md_end_1 : decode b_Md_end 1 = .ok (.ifCond .lt 18, 3) := by decide +kernel
theorem d_Md_end_4 : decode b_Md_end 4 = .ok (.iload_n 1, 1) := by decide +kernel
theorem d_Md_end_5 : decode b_Md_end 5 = .ok (.bipush 20, 2) := by decide +kernel
theorem d_Md_end_7 : decode b_Md_end 7 = .ok (.if_icmp .gt 12, 3) := by decide +kernel
theorem d_Md_end_10 : decode b_Md_end 10 = .ok (.aload_n 0, 1) := by decide +kernel
theorem d_Md_end_11 : decode b_Md_end 11 = .ok (.getfield 94, 3) := by decide +kernel
theorem d_Md_end_14 : decode b_Md_end 14 = .ok (.bipush 20, 2) := by decide +kernel
theorem d_Md_end_16 : decode b_Md_end 16 = .ok (.if_icmp .ge 5, 3) := by decide +kernel
theorem d_Md_end_19 : decode b_Md_end 19 = .ok (.iconst (-1), 1) := by decide +kernel
theorem d_Md_end_20 : decode b_Md_end 20 = .ok (.ireturn, 1) := by decide +kernel
theorem d_Md_end_21 : decode b_Md_end 21 = .ok (.aload_n 0, 1) := by decide +kernel
theorem d_Md_end_22 : decode b_Md_end 22 = .ok (.dup, 1) := by decide +kernel
theorem d_Md_end_23 : decode b_Md_end 23 = .ok (.getfield 94, 3) := by decide +kernel
theorem d_Md_end_26 : decode b_Md_end 26 = .ok (.bipush 20, 2) := by decide +kernel
theorem d_Md_end_28 : decode b_Md_end 28 = .ok (.iload_n 1, 1) := by decide +kernel
theorem d_Md_end_29 : decode b_Md_end 29 = .ok (.isub, 1) := by decide +kernel
theorem d_Md_end_30 : decode b_Md_end 30 = .ok (.isub, 1) := by decide +kernel
theorem d_Md_end_31 : decode b_Md_end 31 = .ok (.putfield 94, 3) := by decide +kernel
theorem d_Md_end_34 : decode b_Md_end 34 = .ok (.aload_n 0, 1) := by decide +kernel
theorem d_Md_end_35 : decode b_Md_end 35 = .ok (.getfield 94, 3) := by decide +kernel
theorem d_Md_end_38 : decode b_Md_end 38 = .ok (.ireturn, 1) := by decide +kernel
theorem d_Md_variableOf_0 : decode b_Md_variableOf 0 = .ok (.iload_n 0, 1) := by decide +kernel
theorem d_Md_variableOf_1 : decode b_Md_variableOf 1 = .ok (.iconst 4, 1) := by decide +kernel
theorem d_Md_variableOf_2 : decode b_Md_variableOf 2 = .ok (.iload_n 1, 1) := by decide +kernel
theorem d_Md_variableOf_3 : decode b_Md_variableOf 3 = .ok (.imul, 1) := by decide +kernel
theorem d_Md_variableOf_4 : decode b_Md_variableOf 4 = .ok (.ishr, 1) := by decide +kernel
theorem d_Md_variableOf_5 : decode b_Md_variableOf 5 = .ok (.bipush 15, 2) := by decide +kernel
theorem d_Md_variableOf_7 : decode b_Md_variableOf 7 = .ok (.iand, 1) := by decide +kernel
theorem d_Md_variableOf_8 : decode b_Md_variableOf 8 = .ok (.ireturn, 1) := by decide +kernel
set_option maxHeartbeats 4000000 in
set_option maxRecDepth 100000 in
theorem c_Md_feed (l : Launch) (dC : Nat → ClassId) (dI : Nat → Nat → Nat) (cI cB cZ : ClassId) (adK adV : Nat → Nat) (sz : Nat) (a_md a_md_tape a_md_acts a_md_actNumbers a_md_actCounts a_md_pile a_md_begins a_md_goals a_md_ranks a_md_choiceCounts a_md_whens a_md_becomes a_md_guessCounts a_md_guesses a_md_unaryCounts a_md_stack a_md_nexts a_md_isBegin a_md_isGoal a_md_levels a_md_queue a_md_hasGuesses a_md_rounds a_md_marked a_md_other a_md_heights : Nat) (md_size : Int32) (md_at : Int32) (md_token : Int32) (md_tokenPlace : Int32) (md_number : Int32) (md_sign : Int32) (md_bad : Int32) (md_faultPlace : Int32) (md_place : Int32) (md_bank : Int32) (md_unaries : Int32) (md_opens : Int32) (md_piled : Int32) (md_loop : Int32) (md_keptBits : Int32) (md_tape : Nat → Int32) (x1 : Int32) (x2 : Int32) (x3 : Int32) (x4 : Int32) (x5 : Int32) (post : Int32 → Int32 → (Nat → Int32) → Prop) (h : wp_Md_feed x1 x2 x3 x4 x5 md_size md_tape post) : Met l y_Md_feed w_Md_feed ({ frames := 0, cells := 0, slots := 0, locals := 0 }) (pc_ (dC, dI) [(cI, .int), (cB, .byte), (cZ, .boolean)] [(a_md, .inr (11, [.ref a_md_tape, .int md_size, .int md_at, .int md_token, .int md_tokenPlace, .int md_number, .int md_sign, .int md_bad, .int md_faultPlace, .int md_place, .ref a_md_acts, .ref a_md_actNumbers, .ref a_md_actCounts, .int md_bank, .int md_unaries, .int md_opens, .ref a_md_pile, .int md_piled, .int md_loop, .ref a_md_begins, .ref a_md_goals, .ref a_md_ranks, .ref a_md_choiceCounts, .ref a_md_whens, .ref a_md_becomes, .ref a_md_guessCounts, .ref a_md_guesses, .ref a_md_unaryCounts, .ref a_md_stack, .ref a_md_nexts, .ref a_md_isBegin, .ref a_md_isGoal, .ref a_md_levels, .ref a_md_queue, .ref a_md_hasGuesses, .int md_keptBits, .ref a_md_rounds, .ref a_md_marked, .ref a_md_other, .ref a_md_heights])), (a_md_tape, .inl (cB, 1200, .inl md_tape))] sz adK adV [.ref a_md, .int x1, .int x2, .int x3, .int x4, .int x5]) (va_Qi (fun (r : Int32) (u : Int32 × (Nat → Int32)) => post r u.1 u.2) (fun (u : Int32 × (Nat → Int32)) t => bw_ (dC, dI) [(cI, .int), (cB, .byte), (cZ, .boolean)] (va_A [(a_md, .inr (11, [.ref a_md_tape, .int md_size, .int md_at, .int md_token, .int md_tokenPlace, .int md_number, .int md_sign, .int md_bad, .int md_faultPlace, .int md_place, .ref a_md_acts, .ref a_md_actNumbers, .ref a_md_actCounts, .int md_bank, .int md_unaries, .int md_opens, .ref a_md_pile, .int md_piled, .int md_loop, .ref a_md_begins, .ref a_md_goals, .ref a_md_ranks, .ref a_md_choiceCounts, .ref a_md_whens, .ref a_md_becomes, .ref a_md_guessCounts, .ref a_md_guesses, .ref a_md_unaryCounts, .ref a_md_stack, .ref a_md_nexts, .ref a_md_isBegin, .ref a_md_isGoal, .ref a_md_levels, .ref a_md_queue, .ref a_md_hasGuesses, .int md_keptBits, .ref a_md_rounds, .ref a_md_marked, .ref a_md_other, .ref a_md_heights])), (a_md_tape, .inl (cB, 1200, .inl md_tape))] sz) [(a_md, .inr (11, [.ref a_md_tape, .int u.1, .int md_at, .int md_token, .int md_tokenPlace, .int md_number, .int md_sign, .int md_bad, .int md_faultPlace, .int md_place, .ref a_md_acts, .ref a_md_actNumbers, .ref a_md_actCounts, .int md_bank, .int md_unaries, .int md_opens, .ref a_md_pile, .int md_piled, .int md_loop, .ref a_md_begins, .ref a_md_goals, .ref a_md_ranks, .ref a_md_choiceCounts, .ref a_md_whens, .ref a_md_becomes, .ref a_md_guessCounts, .ref a_md_guesses, .ref a_md_unaryCounts, .ref a_md_stack, .ref a_md_nexts, .ref a_md_isBegin, .ref a_md_isGoal, .ref a_md_levels, .ref a_md_queue, .ref a_md_hasGuesses, .int md_keptBits, .ref a_md_rounds, .ref a_md_marked, .ref a_md_other, .ref a_md_heights])), (a_md_tape, .inl (cB, 1200, .inl u.2))] t) (va_A [(a_md, .inr (11, [.ref a_md_tape, .int md_size, .int md_at, .int md_token, .int md_tokenPlace, .int md_number, .int md_sign, .int md_bad, .int md_faultPlace, .int md_place, .ref a_md_acts, .ref a_md_actNumbers, .ref a_md_actCounts, .int md_bank, .int md_unaries, .int md_opens, .ref a_md_pile, .int md_piled, .int md_loop, .ref a_md_begins, .ref a_md_goals, .ref a_md_ranks, .ref a_md_choiceCounts, .ref a_md_whens, .ref a_md_becomes, .ref a_md_guessCounts, .ref a_md_guesses, .ref a_md_unaryCounts, .ref a_md_stack, .ref a_md_nexts, .ref a_md_isBegin, .ref a_md_isGoal, .ref a_md_levels, .ref a_md_queue, .ref a_md_hasGuesses, .int md_keptBits, .ref a_md_rounds, .ref a_md_marked, .ref a_md_other, .ref a_md_heights])), (a_md_tape, .inl (cB, 1200, .inl md_tape))] sz)) 0 0 (va_A [(a_md, .inr (11, [.ref a_md_tape, .int md_size, .int md_at, .int md_token, .int md_tokenPlace, .int md_number, .int md_sign, .int md_bad, .int md_faultPlace, .int md_place, .ref a_md_acts, .ref a_md_actNumbers, .ref a_md_actCounts, .int md_bank, .int md_unaries, .int md_opens, .ref a_md_pile, .int md_piled, .int md_loop, .ref a_md_begins, .ref a_md_goals, .ref a_md_ranks, .ref a_md_choiceCounts, .ref a_md_whens, .ref a_md_becomes, .ref a_md_guessCounts, .ref a_md_guesses, .ref a_md_unaryCounts, .ref a_md_stack, .ref a_md_nexts, .ref a_md_isBegin, .ref a_md_isGoal, .ref a_md_levels, .ref a_md_queue, .ref a_md_hasGuesses, .int md_keptBits, .ref a_md_rounds, .ref a_md_marked, .ref a_md_other, .ref a_md_heights])), (a_md_tape, .inl (cB, 1200, .inl md_tape))] sz) := by
  refine Met.ofW (cc := b_Md_feed) (maxL := 9) (ret := (some .int)) (by decide) rfl ?_
  intro p e s m args below meth c s₁ B hml hv
  obtain ⟨rfl, hsz, hP, hK, hD0, hN, hT⟩ := hv
  have hx := B.exec
  have hb := B.bytes
  have hr := B.returns
  have hts := atoms_spec (ws := w_Md_feed) B.pre
  have hown : s.vm.findClass "LoopInductionModel" = some m.cls := findClass_of_methodNamed B.named
  have hlocks := B.notSynchronized
  subst hsz
  have hD := hD0.self (sz := s.heap.size)
  generalize hAe : va_A [(a_md, .inr (11, [.ref a_md_tape, .int md_size, .int md_at, .int md_token, .int md_tokenPlace, .int md_number, .int md_sign, .int md_bad, .int md_faultPlace, .int md_place, .ref a_md_acts, .ref a_md_actNumbers, .ref a_md_actCounts, .int md_bank, .int md_unaries, .int md_opens, .ref a_md_pile, .int md_piled, .int md_loop, .ref a_md_begins, .ref a_md_goals, .ref a_md_ranks, .ref a_md_choiceCounts, .ref a_md_whens, .ref a_md_becomes, .ref a_md_guessCounts, .ref a_md_guesses, .ref a_md_unaryCounts, .ref a_md_stack, .ref a_md_nexts, .ref a_md_isBegin, .ref a_md_isGoal, .ref a_md_levels, .ref a_md_queue, .ref a_md_hasGuesses, .int md_keptBits, .ref a_md_rounds, .ref a_md_marked, .ref a_md_other, .ref a_md_heights])), (a_md_tape, .inl (cB, 1200, .inl md_tape))] s.heap.size = A at hD hT ⊢
  have hA : ∀ q : Nat, s.heap.size ≤ q → A q := fun q h => by rw [← hAe]; exact Or.inr h
  have hS : va_S A s.heap s.heap [] := va_S.rf
  generalize hQ : MQ below _ _ s 0 0 _ = QQ
  have hl := lv_entry ([.ref a_md, .int x1, .int x2, .int x3, .int x4, .int x5]) (n := 9) (Nat.le_of_ble_eq_true rfl)
  rw [lg_entry_eq]
  generalize (lg_sl ([.ref a_md, .int x1, .int x2, .int x3, .int x4, .int x5]) ++ List.replicate (9 - (lg_sl ([.ref a_md, .int x1, .int x2, .int x3, .int x4, .int x5])).length) Slot.unset).toArray = ls at hl ⊢
  have hl : lv_has ls 9 [(0, .ref a_md), (1, .int x1), (2, .int x2), (3, .int x3), (4, .int x4), (5, .int x5)] := hl
  have fl_7 := (hts _ (List.mem_cons_of_mem _ m_1090))
  have fl_94 := (hts _ (List.mem_cons_of_mem _ m_1091))
  refine lv_aload_n hx hb d_Md_feed_0 rfl (lv_at hl 0 rfl) ?_
  refine va_get (D := (dC, dI)) (ci := 11) (v := .int md_size) (C := "LoopInductionModel") (T := F_Md) (N := 40) hx hb hts iC_Md hown hK hP 0 rfl rfl 1 (by decide) fl_94 (fun _ h9 => h9) rfl d_Md_feed_1 ?_
  refine lv_bipush (v := 20) hx hb d_Md_feed_4 (by decide) ?_
  refine lv_iadd hx hb d_Md_feed_6 ?_
  refine lv_sipush (v := 1200) hx hb d_Md_feed_7 (by decide) ?_
  refine lv_icmp_le (tgt := 15) hx hb d_Md_feed_10 (by decide) (fun c_10 => ?_) (fun c_10 => ?_)
  · have h := And.left h c_10
    refine lv_iconst (v := 0) hx hb d_Md_feed_15 (by decide) ?_
    refine lv_istore (lv' := [(6, .int 0), (0, .ref a_md), (1, .int x1), (2, .int x2), (3, .int x3), (4, .int x4), (5, .int x5)]) hx hb d_Md_feed_16 hl (by decide) rfl (fun ls hl => ?_)
    have L18_q_4 : ∀ (k114 : (Int32) → (Nat → Int32) → Prop) (hk114 : ∀ (md_size_5 : Int32) (md_tape_6 : Nat → Int32), k114 md_size_5 md_tape_6 → ∀ (H : Heap) (locs : List Loc), va_P (dC, dI) vwCl [(a_md, .inr (11, [.ref a_md_tape, .int md_size_5, .int md_at, .int md_token, .int md_tokenPlace, .int md_number, .int md_sign, .int md_bad, .int md_faultPlace, .int md_place, .ref a_md_acts, .ref a_md_actNumbers, .ref a_md_actCounts, .int md_bank, .int md_unaries, .int md_opens, .ref a_md_pile, .int md_piled, .int md_loop, .ref a_md_begins, .ref a_md_goals, .ref a_md_ranks, .ref a_md_choiceCounts, .ref a_md_whens, .ref a_md_becomes, .ref a_md_guessCounts, .ref a_md_guesses, .ref a_md_unaryCounts, .ref a_md_stack, .ref a_md_nexts, .ref a_md_isBegin, .ref a_md_isGoal, .ref a_md_levels, .ref a_md_queue, .ref a_md_hasGuesses, .int md_keptBits, .ref a_md_rounds, .ref a_md_marked, .ref a_md_other, .ref a_md_heights])), (a_md_tape, .inl (cB, 1200, .inl md_tape_6))] H → va_D A [(a_md, .inr (11, [.ref a_md_tape, .int md_size_5, .int md_at, .int md_token, .int md_tokenPlace, .int md_number, .int md_sign, .int md_bad, .int md_faultPlace, .int md_place, .ref a_md_acts, .ref a_md_actNumbers, .ref a_md_actCounts, .int md_bank, .int md_unaries, .int md_opens, .ref a_md_pile, .int md_piled, .int md_loop, .ref a_md_begins, .ref a_md_goals, .ref a_md_ranks, .ref a_md_choiceCounts, .ref a_md_whens, .ref a_md_becomes, .ref a_md_guessCounts, .ref a_md_guesses, .ref a_md_unaryCounts, .ref a_md_stack, .ref a_md_nexts, .ref a_md_isBegin, .ref a_md_isGoal, .ref a_md_levels, .ref a_md_queue, .ref a_md_hasGuesses, .int md_keptBits, .ref a_md_rounds, .ref a_md_marked, .ref a_md_other, .ref a_md_heights])), (a_md_tape, .inl (cB, 1200, .inl md_tape_6))] → va_S A s.heap H locs → ∀ ls : Array Slot, lv_has ls 9 [(0, .ref a_md)] → W p l e (headSpec w_Md_feed ({ frames := 0, cells := 0, slots := 0, locals := 0 })).room s m (([.ref a_md, .int x1, .int x2, .int x3, .int x4, .int x5] : List Value).toArray) below meth c H locs 0 0 QQ (F0 m 114 ls [])) (n : Nat) (x6_1 : Int32) (md_size_2 : Int32) (md_tape_3 : Nat → Int32), wp_Md_feed_L18 x1 x2 x3 x4 x5 k114 n x6_1 md_size_2 md_tape_3 → ∀ (H : Heap) (locs : List Loc), va_P (dC, dI) vwCl [(a_md, .inr (11, [.ref a_md_tape, .int md_size_2, .int md_at, .int md_token, .int md_tokenPlace, .int md_number, .int md_sign, .int md_bad, .int md_faultPlace, .int md_place, .ref a_md_acts, .ref a_md_actNumbers, .ref a_md_actCounts, .int md_bank, .int md_unaries, .int md_opens, .ref a_md_pile, .int md_piled, .int md_loop, .ref a_md_begins, .ref a_md_goals, .ref a_md_ranks, .ref a_md_choiceCounts, .ref a_md_whens, .ref a_md_becomes, .ref a_md_guessCounts, .ref a_md_guesses, .ref a_md_unaryCounts, .ref a_md_stack, .ref a_md_nexts, .ref a_md_isBegin, .ref a_md_isGoal, .ref a_md_levels, .ref a_md_queue, .ref a_md_hasGuesses, .int md_keptBits, .ref a_md_rounds, .ref a_md_marked, .ref a_md_other, .ref a_md_heights])), (a_md_tape, .inl (cB, 1200, .inl md_tape_3))] H → va_D A [(a_md, .inr (11, [.ref a_md_tape, .int md_size_2, .int md_at, .int md_token, .int md_tokenPlace, .int md_number, .int md_sign, .int md_bad, .int md_faultPlace, .int md_place, .ref a_md_acts, .ref a_md_actNumbers, .ref a_md_actCounts, .int md_bank, .int md_unaries, .int md_opens, .ref a_md_pile, .int md_piled, .int md_loop, .ref a_md_begins, .ref a_md_goals, .ref a_md_ranks, .ref a_md_choiceCounts, .ref a_md_whens, .ref a_md_becomes, .ref a_md_guessCounts, .ref a_md_guesses, .ref a_md_unaryCounts, .ref a_md_stack, .ref a_md_nexts, .ref a_md_isBegin, .ref a_md_isGoal, .ref a_md_levels, .ref a_md_queue, .ref a_md_hasGuesses, .int md_keptBits, .ref a_md_rounds, .ref a_md_marked, .ref a_md_other, .ref a_md_heights])), (a_md_tape, .inl (cB, 1200, .inl md_tape_3))] → va_S A s.heap H locs → ∀ ls : Array Slot, lv_has ls 9 [(0, .ref a_md), (1, .int x1), (2, .int x2), (3, .int x3), (4, .int x4), (5, .int x5), (6, .int x6_1)] → W p l e (headSpec w_Md_feed ({ frames := 0, cells := 0, slots := 0, locals := 0 })).room s m (([.ref a_md, .int x1, .int x2, .int x3, .int x4, .int x5] : List Value).toArray) below meth c H locs 0 0 QQ (F0 m 18 ls []) := by
      intro k114 hk114 n
      induction n with
      | zero => intro x6_1 md_size_2 md_tape_3 h; exact (show False from h).elim
      | succ n il =>
        intro x6_1 md_size_2 md_tape_3 h
        intro H locs hP hD hS ls hl
        refine lv_iload hx hb d_Md_feed_18 (lv_at hl 6 rfl) ?_
        refine lv_bipush (v := 20) hx hb d_Md_feed_20 (by decide) ?_
        refine lv_icmp_ge (tgt := 114) hx hb d_Md_feed_22 (by decide) (fun c_22 => ?_) (fun c_22 => ?_)
        · have h := And.left h c_22
          exact hk114 _ _ h _ _ hP hD hS _ (lv_sub hl [0] rfl)
        · have h := And.right h c_22
          refine lv_iload hx hb d_Md_feed_25 (lv_at hl 6 rfl) ?_
          refine lv_iconst (v := 4) hx hb d_Md_feed_27 (by decide) ?_
          refine lv_idiv hx hb d_Md_feed_28 (by decide) ?_
          refine lv_topi (fun x7_7 ex7_7 => ?_)
          have h := h x7_7 ex7_7
          refine lv_istore (lv' := [(7, .int x7_7), (0, .ref a_md), (1, .int x1), (2, .int x2), (3, .int x3), (4, .int x4), (5, .int x5), (6, .int x6_1)]) hx hb d_Md_feed_29 hl (by decide) rfl (fun ls hl => ?_)
          refine lv_iload hx hb d_Md_feed_31 (lv_at hl 0 rfl) ?_
          refine lv_if_ne (tgt := 40) hx hb d_Md_feed_33 (by decide) (fun c_33 => ?_) (fun c_33 => ?_)
          · have h := And.left h c_33
            refine lv_iload hx hb d_Md_feed_40 (lv_at hl 0 rfl) ?_
            refine lv_iconst (v := 1) hx hb d_Md_feed_42 (by decide) ?_
            refine lv_icmp_ne (tgt := 50) hx hb d_Md_feed_43 (by decide) (fun c_43 => ?_) (fun c_43 => ?_)
            · have h := And.left h c_43
              refine lv_iload hx hb d_Md_feed_50 (lv_at hl 0 rfl) ?_
              refine lv_iconst (v := 2) hx hb d_Md_feed_52 (by decide) ?_
              refine lv_icmp_ne (tgt := 60) hx hb d_Md_feed_53 (by decide) (fun c_53 => ?_) (fun c_53 => ?_)
              · have h := And.left h c_53
                refine lv_iload hx hb d_Md_feed_60 (lv_at hl 0 rfl) ?_
                refine lv_iconst (v := 3) hx hb d_Md_feed_62 (by decide) ?_
                refine lv_icmp_ne (tgt := 71) hx hb d_Md_feed_63 (by decide) (fun c_63 => ?_) (fun c_63 => ?_)
                · have h := And.left h c_63
                  refine lv_iload hx hb d_Md_feed_71 (lv_at hl 6 rfl) ?_
                  refine lv_istore (lv' := [(8, .int x5), (7, .int x7_7), (0, .ref a_md), (1, .int x1), (2, .int x2), (3, .int x3), (4, .int x4), (5, .int x5), (6, .int x6_1)]) hx hb d_Md_feed_73 hl (by decide) rfl (fun ls hl => ?_)
                  refine lv_aload_n hx hb d_Md_feed_75 rfl (lv_at hl 2 rfl) ?_
                  refine va_get (D := (dC, dI)) (ci := 11) (v := .ref a_md_tape) (C := "LoopInductionModel") (T := F_Md) (N := 40) hx hb hts iC_Md hown hK hP 0 rfl rfl 0 (by decide) fl_7 (fun _ h9 => h9) rfl d_Md_feed_76 ?_
                  refine lv_aload_n hx hb d_Md_feed_79 rfl (lv_at hl 2 rfl) ?_
                  refine va_get (D := (dC, dI)) (ci := 11) (v := .int md_size_2) (C := "LoopInductionModel") (T := F_Md) (N := 40) hx hb hts iC_Md hown hK hP 0 rfl rfl 1 (by decide) fl_94 (fun _ h9 => h9) rfl d_Md_feed_80 ?_
                  refine lv_iload hx hb d_Md_feed_83 (lv_at hl 0 rfl) ?_
                  refine lv_bipush (v := 24) hx hb d_Md_feed_85 (by decide) ?_
                  refine lv_bipush (v := 8) hx hb d_Md_feed_87 (by decide) ?_
                  refine lv_iload hx hb d_Md_feed_89 (lv_at hl 8 rfl) ?_
                  refine lv_iconst (v := 4) hx hb d_Md_feed_91 (by decide) ?_
                  refine lv_irem hx hb d_Md_feed_92 (by decide) ?_
                  refine lv_imul hx hb d_Md_feed_93 ?_
                  refine lv_isub hx hb d_Md_feed_94 ?_
                  refine lv_ishr hx hb d_Md_feed_95 ?_
                  refine lv_i2b hx hb d_Md_feed_96 rfl ?_
                  obtain ⟨hin_97, h⟩ := h
                  refine va_bast hx hb hK hP hD hS 1 1 rfl rfl hin_97 d_Md_feed_97 (fun H locs hP hD hS => ?_)
                  have hP : va_P (dC, dI) vwCl [(a_md, .inr (11, [.ref a_md_tape, .int md_size_2, .int md_at, .int md_token, .int md_tokenPlace, .int md_number, .int md_sign, .int md_bad, .int md_faultPlace, .int md_place, .ref a_md_acts, .ref a_md_actNumbers, .ref a_md_actCounts, .int md_bank, .int md_unaries, .int md_opens, .ref a_md_pile, .int md_piled, .int md_loop, .ref a_md_begins, .ref a_md_goals, .ref a_md_ranks, .ref a_md_choiceCounts, .ref a_md_whens, .ref a_md_becomes, .ref a_md_guessCounts, .ref a_md_guesses, .ref a_md_unaryCounts, .ref a_md_stack, .ref a_md_nexts, .ref a_md_isBegin, .ref a_md_isGoal, .ref a_md_levels, .ref a_md_queue, .ref a_md_hasGuesses, .int md_keptBits, .ref a_md_rounds, .ref a_md_marked, .ref a_md_other, .ref a_md_heights])), (a_md_tape, .inl (cB, 1200, .inl (upd md_tape_3 (md_size_2 : Int32).toNatClampNeg (vp_nar .byte ((x5 >>> ((24 - (8 * (x6_1 - x6_1 / 4 * 4))) &&& 31) : Int32).toInt8.toInt32)))))] H := hP
                  have hD : va_D A [(a_md, .inr (11, [.ref a_md_tape, .int md_size_2, .int md_at, .int md_token, .int md_tokenPlace, .int md_number, .int md_sign, .int md_bad, .int md_faultPlace, .int md_place, .ref a_md_acts, .ref a_md_actNumbers, .ref a_md_actCounts, .int md_bank, .int md_unaries, .int md_opens, .ref a_md_pile, .int md_piled, .int md_loop, .ref a_md_begins, .ref a_md_goals, .ref a_md_ranks, .ref a_md_choiceCounts, .ref a_md_whens, .ref a_md_becomes, .ref a_md_guessCounts, .ref a_md_guesses, .ref a_md_unaryCounts, .ref a_md_stack, .ref a_md_nexts, .ref a_md_isBegin, .ref a_md_isGoal, .ref a_md_levels, .ref a_md_queue, .ref a_md_hasGuesses, .int md_keptBits, .ref a_md_rounds, .ref a_md_marked, .ref a_md_other, .ref a_md_heights])), (a_md_tape, .inl (cB, 1200, .inl (upd md_tape_3 (md_size_2 : Int32).toNatClampNeg (vp_nar .byte ((x5 >>> ((24 - (8 * (x6_1 - x6_1 / 4 * 4))) &&& 31) : Int32).toInt8.toInt32)))))] := hD
                  refine lv_aload_n hx hb d_Md_feed_98 rfl (lv_at hl 2 rfl) ?_
                  refine lv_dup hx hb d_Md_feed_99 rfl ?_
                  refine va_get (D := (dC, dI)) (ci := 11) (v := .int md_size_2) (C := "LoopInductionModel") (T := F_Md) (N := 40) hx hb hts iC_Md hown hK hP 0 rfl rfl 1 (by decide) fl_94 (fun _ h9 => h9) rfl d_Md_feed_100 ?_
                  refine lv_iconst (v := 1) hx hb d_Md_feed_103 (by decide) ?_
                  refine lv_iadd hx hb d_Md_feed_104 ?_
                  refine va_put (D := (dC, dI)) (ci := 11) (v := .int (md_size_2 + 1)) (ty := .int) (C := "LoopInductionModel") (T := F_Md) (N := 40) hx hb hts iC_Md t_Md t_Md_ok n_Md hown hK hP hD hS 0 rfl rfl 1 (by decide) fl_94 (fun _ h9 => h9) rfl (by decide +kernel) rfl rfl (Nat.le_of_ble_eq_true rfl) d_Md_feed_105 (fun H locs hP hD hS => ?_)
                  have hP : va_P (dC, dI) vwCl [(a_md, .inr (11, [.ref a_md_tape, .int (md_size_2 + 1), .int md_at, .int md_token, .int md_tokenPlace, .int md_number, .int md_sign, .int md_bad, .int md_faultPlace, .int md_place, .ref a_md_acts, .ref a_md_actNumbers, .ref a_md_actCounts, .int md_bank, .int md_unaries, .int md_opens, .ref a_md_pile, .int md_piled, .int md_loop, .ref a_md_begins, .ref a_md_goals, .ref a_md_ranks, .ref a_md_choiceCounts, .ref a_md_whens, .ref a_md_becomes, .ref a_md_guessCounts, .ref a_md_guesses, .ref a_md_unaryCounts, .ref a_md_stack, .ref a_md_nexts, .ref a_md_isBegin, .ref a_md_isGoal, .ref a_md_levels, .ref a_md_queue, .ref a_md_hasGuesses, .int md_keptBits, .ref a_md_rounds, .ref a_md_marked, .ref a_md_other, .ref a_md_heights])), (a_md_tape, .inl (cB, 1200, .inl (upd md_tape_3 (md_size_2 : Int32).toNatClampNeg (vp_nar .byte ((x5 >>> ((24 - (8 * (x6_1 - x6_1 / 4 * 4))) &&& 31) : Int32).toInt8.toInt32)))))] H := hP
                  have hD : va_D A [(a_md, .inr (11, [.ref a_md_tape, .int (md_size_2 + 1), .int md_at, .int md_token, .int md_tokenPlace, .int md_number, .int md_sign, .int md_bad, .int md_faultPlace, .int md_place, .ref a_md_acts, .ref a_md_actNumbers, .ref a_md_actCounts, .int md_bank, .int md_unaries, .int md_opens, .ref a_md_pile, .int md_piled, .int md_loop, .ref a_md_begins, .ref a_md_goals, .ref a_md_ranks, .ref a_md_choiceCounts, .ref a_md_whens, .ref a_md_becomes, .ref a_md_guessCounts, .ref a_md_guesses, .ref a_md_unaryCounts, .ref a_md_stack, .ref a_md_nexts, .ref a_md_isBegin, .ref a_md_isGoal, .ref a_md_levels, .ref a_md_queue, .ref a_md_hasGuesses, .int md_keptBits, .ref a_md_rounds, .ref a_md_marked, .ref a_md_other, .ref a_md_heights])), (a_md_tape, .inl (cB, 1200, .inl (upd md_tape_3 (md_size_2 : Int32).toNatClampNeg (vp_nar .byte ((x5 >>> ((24 - (8 * (x6_1 - x6_1 / 4 * 4))) &&& 31) : Int32).toInt8.toInt32)))))] := hD
                  refine lv_iinc (v := x6_1 + 1) (lv' := [(6, .int (x6_1 + 1)), (8, .int x5), (7, .int x7_7), (0, .ref a_md), (1, .int x1), (2, .int x2), (3, .int x3), (4, .int x4), (5, .int x5)]) hx hb d_Md_feed_108 hl (k := 8) rfl rfl (by decide) rfl (fun ls hl => ?_)
                  refine lv_goto (tgt := 18) hx hb d_Md_feed_111 (by decide) ?_
                  exact il _ _ _ h _ _ hP hD hS _ (lv_sub hl [3, 4, 5, 6, 7, 8, 0] rfl)
                · have h := And.right h c_63
                  refine lv_iload hx hb d_Md_feed_66 (lv_at hl 5 rfl) ?_
                  refine lv_goto (tgt := 73) hx hb d_Md_feed_68 (by decide) ?_
                  refine lv_istore (lv' := [(8, .int x4), (7, .int x7_7), (0, .ref a_md), (1, .int x1), (2, .int x2), (3, .int x3), (4, .int x4), (5, .int x5), (6, .int x6_1)]) hx hb d_Md_feed_73 hl (by decide) rfl (fun ls hl => ?_)
                  refine lv_aload_n hx hb d_Md_feed_75 rfl (lv_at hl 2 rfl) ?_
                  refine va_get (D := (dC, dI)) (ci := 11) (v := .ref a_md_tape) (C := "LoopInductionModel") (T := F_Md) (N := 40) hx hb hts iC_Md hown hK hP 0 rfl rfl 0 (by decide) fl_7 (fun _ h9 => h9) rfl d_Md_feed_76 ?_
                  refine lv_aload_n hx hb d_Md_feed_79 rfl (lv_at hl 2 rfl) ?_
                  refine va_get (D := (dC, dI)) (ci := 11) (v := .int md_size_2) (C := "LoopInductionModel") (T := F_Md) (N := 40) hx hb hts iC_Md hown hK hP 0 rfl rfl 1 (by decide) fl_94 (fun _ h9 => h9) rfl d_Md_feed_80 ?_
                  refine lv_iload hx hb d_Md_feed_83 (lv_at hl 0 rfl) ?_
                  refine lv_bipush (v := 24) hx hb d_Md_feed_85 (by decide) ?_
                  refine lv_bipush (v := 8) hx hb d_Md_feed_87 (by decide) ?_
                  refine lv_iload hx hb d_Md_feed_89 (lv_at hl 8 rfl) ?_
                  refine lv_iconst (v := 4) hx hb d_Md_feed_91 (by decide) ?_
                  refine lv_irem hx hb d_Md_feed_92 (by decide) ?_
                  refine lv_imul hx hb d_Md_feed_93 ?_
                  refine lv_isub hx hb d_Md_feed_94 ?_
                  refine lv_ishr hx hb d_Md_feed_95 ?_
                  refine lv_i2b hx hb d_Md_feed_96 rfl ?_
                  obtain ⟨hin_97, h⟩ := h
                  refine va_bast hx hb hK hP hD hS 1 1 rfl rfl hin_97 d_Md_feed_97 (fun H locs hP hD hS => ?_)
                  have hP : va_P (dC, dI) vwCl [(a_md, .inr (11, [.ref a_md_tape, .int md_size_2, .int md_at, .int md_token, .int md_tokenPlace, .int md_number, .int md_sign, .int md_bad, .int md_faultPlace, .int md_place, .ref a_md_acts, .ref a_md_actNumbers, .ref a_md_actCounts, .int md_bank, .int md_unaries, .int md_opens, .ref a_md_pile, .int md_piled, .int md_loop, .ref a_md_begins, .ref a_md_goals, .ref a_md_ranks, .ref a_md_choiceCounts, .ref a_md_whens, .ref a_md_becomes, .ref a_md_guessCounts, .ref a_md_guesses, .ref a_md_unaryCounts, .ref a_md_stack, .ref a_md_nexts, .ref a_md_isBegin, .ref a_md_isGoal, .ref a_md_levels, .ref a_md_queue, .ref a_md_hasGuesses, .int md_keptBits, .ref a_md_rounds, .ref a_md_marked, .ref a_md_other, .ref a_md_heights])), (a_md_tape, .inl (cB, 1200, .inl (upd md_tape_3 (md_size_2 : Int32).toNatClampNeg (vp_nar .byte ((x4 >>> ((24 - (8 * (x6_1 - x6_1 / 4 * 4))) &&& 31) : Int32).toInt8.toInt32)))))] H := hP
                  have hD : va_D A [(a_md, .inr (11, [.ref a_md_tape, .int md_size_2, .int md_at, .int md_token, .int md_tokenPlace, .int md_number, .int md_sign, .int md_bad, .int md_faultPlace, .int md_place, .ref a_md_acts, .ref a_md_actNumbers, .ref a_md_actCounts, .int md_bank, .int md_unaries, .int md_opens, .ref a_md_pile, .int md_piled, .int md_loop, .ref a_md_begins, .ref a_md_goals, .ref a_md_ranks, .ref a_md_choiceCounts, .ref a_md_whens, .ref a_md_becomes, .ref a_md_guessCounts, .ref a_md_guesses, .ref a_md_unaryCounts, .ref a_md_stack, .ref a_md_nexts, .ref a_md_isBegin, .ref a_md_isGoal, .ref a_md_levels, .ref a_md_queue, .ref a_md_hasGuesses, .int md_keptBits, .ref a_md_rounds, .ref a_md_marked, .ref a_md_other, .ref a_md_heights])), (a_md_tape, .inl (cB, 1200, .inl (upd md_tape_3 (md_size_2 : Int32).toNatClampNeg (vp_nar .byte ((x4 >>> ((24 - (8 * (x6_1 - x6_1 / 4 * 4))) &&& 31) : Int32).toInt8.toInt32)))))] := hD
                  refine lv_aload_n hx hb d_Md_feed_98 rfl (lv_at hl 2 rfl) ?_
                  refine lv_dup hx hb d_Md_feed_99 rfl ?_
                  refine va_get (D := (dC, dI)) (ci := 11) (v := .int md_size_2) (C := "LoopInductionModel") (T := F_Md) (N := 40) hx hb hts iC_Md hown hK hP 0 rfl rfl 1 (by decide) fl_94 (fun _ h9 => h9) rfl d_Md_feed_100 ?_
                  refine lv_iconst (v := 1) hx hb d_Md_feed_103 (by decide) ?_
                  refine lv_iadd hx hb d_Md_feed_104 ?_
                  refine va_put (D := (dC, dI)) (ci := 11) (v := .int (md_size_2 + 1)) (ty := .int) (C := "LoopInductionModel") (T := F_Md) (N := 40) hx hb hts iC_Md t_Md t_Md_ok n_Md hown hK hP hD hS 0 rfl rfl 1 (by decide) fl_94 (fun _ h9 => h9) rfl (by decide +kernel) rfl rfl (Nat.le_of_ble_eq_true rfl) d_Md_feed_105 (fun H locs hP hD hS => ?_)
                  have hP : va_P (dC, dI) vwCl [(a_md, .inr (11, [.ref a_md_tape, .int (md_size_2 + 1), .int md_at, .int md_token, .int md_tokenPlace, .int md_number, .int md_sign, .int md_bad, .int md_faultPlace, .int md_place, .ref a_md_acts, .ref a_md_actNumbers, .ref a_md_actCounts, .int md_bank, .int md_unaries, .int md_opens, .ref a_md_pile, .int md_piled, .int md_loop, .ref a_md_begins, .ref a_md_goals, .ref a_md_ranks, .ref a_md_choiceCounts, .ref a_md_whens, .ref a_md_becomes, .ref a_md_guessCounts, .ref a_md_guesses, .ref a_md_unaryCounts, .ref a_md_stack, .ref a_md_nexts, .ref a_md_isBegin, .ref a_md_isGoal, .ref a_md_levels, .ref a_md_queue, .ref a_md_hasGuesses, .int md_keptBits, .ref a_md_rounds, .ref a_md_marked, .ref a_md_other, .ref a_md_heights])), (a_md_tape, .inl (cB, 1200, .inl (upd md_tape_3 (md_size_2 : Int32).toNatClampNeg (vp_nar .byte ((x4 >>> ((24 - (8 * (x6_1 - x6_1 / 4 * 4))) &&& 31) : Int32).toInt8.toInt32)))))] H := hP
                  have hD : va_D A [(a_md, .inr (11, [.ref a_md_tape, .int (md_size_2 + 1), .int md_at, .int md_token, .int md_tokenPlace, .int md_number, .int md_sign, .int md_bad, .int md_faultPlace, .int md_place, .ref a_md_acts, .ref a_md_actNumbers, .ref a_md_actCounts, .int md_bank, .int md_unaries, .int md_opens, .ref a_md_pile, .int md_piled, .int md_loop, .ref a_md_begins, .ref a_md_goals, .ref a_md_ranks, .ref a_md_choiceCounts, .ref a_md_whens, .ref a_md_becomes, .ref a_md_guessCounts, .ref a_md_guesses, .ref a_md_unaryCounts, .ref a_md_stack, .ref a_md_nexts, .ref a_md_isBegin, .ref a_md_isGoal, .ref a_md_levels, .ref a_md_queue, .ref a_md_hasGuesses, .int md_keptBits, .ref a_md_rounds, .ref a_md_marked, .ref a_md_other, .ref a_md_heights])), (a_md_tape, .inl (cB, 1200, .inl (upd md_tape_3 (md_size_2 : Int32).toNatClampNeg (vp_nar .byte ((x4 >>> ((24 - (8 * (x6_1 - x6_1 / 4 * 4))) &&& 31) : Int32).toInt8.toInt32)))))] := hD
                  refine lv_iinc (v := x6_1 + 1) (lv' := [(6, .int (x6_1 + 1)), (8, .int x4), (7, .int x7_7), (0, .ref a_md), (1, .int x1), (2, .int x2), (3, .int x3), (4, .int x4), (5, .int x5)]) hx hb d_Md_feed_108 hl (k := 8) rfl rfl (by decide) rfl (fun ls hl => ?_)
                  refine lv_goto (tgt := 18) hx hb d_Md_feed_111 (by decide) ?_
                  exact il _ _ _ h _ _ hP hD hS _ (lv_sub hl [3, 4, 5, 6, 7, 8, 0] rfl)
              · have h := And.right h c_53
                refine lv_iload_n hx hb d_Md_feed_56 rfl (lv_at hl 4 rfl) ?_
                refine lv_goto (tgt := 73) hx hb d_Md_feed_57 (by decide) ?_
                refine lv_istore (lv' := [(8, .int x3), (7, .int x7_7), (0, .ref a_md), (1, .int x1), (2, .int x2), (3, .int x3), (4, .int x4), (5, .int x5), (6, .int x6_1)]) hx hb d_Md_feed_73 hl (by decide) rfl (fun ls hl => ?_)
                refine lv_aload_n hx hb d_Md_feed_75 rfl (lv_at hl 2 rfl) ?_
                refine va_get (D := (dC, dI)) (ci := 11) (v := .ref a_md_tape) (C := "LoopInductionModel") (T := F_Md) (N := 40) hx hb hts iC_Md hown hK hP 0 rfl rfl 0 (by decide) fl_7 (fun _ h9 => h9) rfl d_Md_feed_76 ?_
                refine lv_aload_n hx hb d_Md_feed_79 rfl (lv_at hl 2 rfl) ?_
                refine va_get (D := (dC, dI)) (ci := 11) (v := .int md_size_2) (C := "LoopInductionModel") (T := F_Md) (N := 40) hx hb hts iC_Md hown hK hP 0 rfl rfl 1 (by decide) fl_94 (fun _ h9 => h9) rfl d_Md_feed_80 ?_
                refine lv_iload hx hb d_Md_feed_83 (lv_at hl 0 rfl) ?_
                refine lv_bipush (v := 24) hx hb d_Md_feed_85 (by decide) ?_
                refine lv_bipush (v := 8) hx hb d_Md_feed_87 (by decide) ?_
                refine lv_iload hx hb d_Md_feed_89 (lv_at hl 8 rfl) ?_
                refine lv_iconst (v := 4) hx hb d_Md_feed_91 (by decide) ?_
                refine lv_irem hx hb d_Md_feed_92 (by decide) ?_
                refine lv_imul hx hb d_Md_feed_93 ?_
                refine lv_isub hx hb d_Md_feed_94 ?_
                refine lv_ishr hx hb d_Md_feed_95 ?_
                refine lv_i2b hx hb d_Md_feed_96 rfl ?_
                obtain ⟨hin_97, h⟩ := h
                refine va_bast hx hb hK hP hD hS 1 1 rfl rfl hin_97 d_Md_feed_97 (fun H locs hP hD hS => ?_)
                have hP : va_P (dC, dI) vwCl [(a_md, .inr (11, [.ref a_md_tape, .int md_size_2, .int md_at, .int md_token, .int md_tokenPlace, .int md_number, .int md_sign, .int md_bad, .int md_faultPlace, .int md_place, .ref a_md_acts, .ref a_md_actNumbers, .ref a_md_actCounts, .int md_bank, .int md_unaries, .int md_opens, .ref a_md_pile, .int md_piled, .int md_loop, .ref a_md_begins, .ref a_md_goals, .ref a_md_ranks, .ref a_md_choiceCounts, .ref a_md_whens, .ref a_md_becomes, .ref a_md_guessCounts, .ref a_md_guesses, .ref a_md_unaryCounts, .ref a_md_stack, .ref a_md_nexts, .ref a_md_isBegin, .ref a_md_isGoal, .ref a_md_levels, .ref a_md_queue, .ref a_md_hasGuesses, .int md_keptBits, .ref a_md_rounds, .ref a_md_marked, .ref a_md_other, .ref a_md_heights])), (a_md_tape, .inl (cB, 1200, .inl (upd md_tape_3 (md_size_2 : Int32).toNatClampNeg (vp_nar .byte ((x3 >>> ((24 - (8 * (x6_1 - x6_1 / 4 * 4))) &&& 31) : Int32).toInt8.toInt32)))))] H := hP
                have hD : va_D A [(a_md, .inr (11, [.ref a_md_tape, .int md_size_2, .int md_at, .int md_token, .int md_tokenPlace, .int md_number, .int md_sign, .int md_bad, .int md_faultPlace, .int md_place, .ref a_md_acts, .ref a_md_actNumbers, .ref a_md_actCounts, .int md_bank, .int md_unaries, .int md_opens, .ref a_md_pile, .int md_piled, .int md_loop, .ref a_md_begins, .ref a_md_goals, .ref a_md_ranks, .ref a_md_choiceCounts, .ref a_md_whens, .ref a_md_becomes, .ref a_md_guessCounts, .ref a_md_guesses, .ref a_md_unaryCounts, .ref a_md_stack, .ref a_md_nexts, .ref a_md_isBegin, .ref a_md_isGoal, .ref a_md_levels, .ref a_md_queue, .ref a_md_hasGuesses, .int md_keptBits, .ref a_md_rounds, .ref a_md_marked, .ref a_md_other, .ref a_md_heights])), (a_md_tape, .inl (cB, 1200, .inl (upd md_tape_3 (md_size_2 : Int32).toNatClampNeg (vp_nar .byte ((x3 >>> ((24 - (8 * (x6_1 - x6_1 / 4 * 4))) &&& 31) : Int32).toInt8.toInt32)))))] := hD
                refine lv_aload_n hx hb d_Md_feed_98 rfl (lv_at hl 2 rfl) ?_
                refine lv_dup hx hb d_Md_feed_99 rfl ?_
                refine va_get (D := (dC, dI)) (ci := 11) (v := .int md_size_2) (C := "LoopInductionModel") (T := F_Md) (N := 40) hx hb hts iC_Md hown hK hP 0 rfl rfl 1 (by decide) fl_94 (fun _ h9 => h9) rfl d_Md_feed_100 ?_
                refine lv_iconst (v := 1) hx hb d_Md_feed_103 (by decide) ?_
                refine lv_iadd hx hb d_Md_feed_104 ?_
                refine va_put (D := (dC, dI)) (ci := 11) (v := .int (md_size_2 + 1)) (ty := .int) (C := "LoopInductionModel") (T := F_Md) (N := 40) hx hb hts iC_Md t_Md t_Md_ok n_Md hown hK hP hD hS 0 rfl rfl 1 (by decide) fl_94 (fun _ h9 => h9) rfl (by decide +kernel) rfl rfl (Nat.le_of_ble_eq_true rfl) d_Md_feed_105 (fun H locs hP hD hS => ?_)
                have hP : va_P (dC, dI) vwCl [(a_md, .inr (11, [.ref a_md_tape, .int (md_size_2 + 1), .int md_at, .int md_token, .int md_tokenPlace, .int md_number, .int md_sign, .int md_bad, .int md_faultPlace, .int md_place, .ref a_md_acts, .ref a_md_actNumbers, .ref a_md_actCounts, .int md_bank, .int md_unaries, .int md_opens, .ref a_md_pile, .int md_piled, .int md_loop, .ref a_md_begins, .ref a_md_goals, .ref a_md_ranks, .ref a_md_choiceCounts, .ref a_md_whens, .ref a_md_becomes, .ref a_md_guessCounts, .ref a_md_guesses, .ref a_md_unaryCounts, .ref a_md_stack, .ref a_md_nexts, .ref a_md_isBegin, .ref a_md_isGoal, .ref a_md_levels, .ref a_md_queue, .ref a_md_hasGuesses, .int md_keptBits, .ref a_md_rounds, .ref a_md_marked, .ref a_md_other, .ref a_md_heights])), (a_md_tape, .inl (cB, 1200, .inl (upd md_tape_3 (md_size_2 : Int32).toNatClampNeg (vp_nar .byte ((x3 >>> ((24 - (8 * (x6_1 - x6_1 / 4 * 4))) &&& 31) : Int32).toInt8.toInt32)))))] H := hP
                have hD : va_D A [(a_md, .inr (11, [.ref a_md_tape, .int (md_size_2 + 1), .int md_at, .int md_token, .int md_tokenPlace, .int md_number, .int md_sign, .int md_bad, .int md_faultPlace, .int md_place, .ref a_md_acts, .ref a_md_actNumbers, .ref a_md_actCounts, .int md_bank, .int md_unaries, .int md_opens, .ref a_md_pile, .int md_piled, .int md_loop, .ref a_md_begins, .ref a_md_goals, .ref a_md_ranks, .ref a_md_choiceCounts, .ref a_md_whens, .ref a_md_becomes, .ref a_md_guessCounts, .ref a_md_guesses, .ref a_md_unaryCounts, .ref a_md_stack, .ref a_md_nexts, .ref a_md_isBegin, .ref a_md_isGoal, .ref a_md_levels, .ref a_md_queue, .ref a_md_hasGuesses, .int md_keptBits, .ref a_md_rounds, .ref a_md_marked, .ref a_md_other, .ref a_md_heights])), (a_md_tape, .inl (cB, 1200, .inl (upd md_tape_3 (md_size_2 : Int32).toNatClampNeg (vp_nar .byte ((x3 >>> ((24 - (8 * (x6_1 - x6_1 / 4 * 4))) &&& 31) : Int32).toInt8.toInt32)))))] := hD
                refine lv_iinc (v := x6_1 + 1) (lv' := [(6, .int (x6_1 + 1)), (8, .int x3), (7, .int x7_7), (0, .ref a_md), (1, .int x1), (2, .int x2), (3, .int x3), (4, .int x4), (5, .int x5)]) hx hb d_Md_feed_108 hl (k := 8) rfl rfl (by decide) rfl (fun ls hl => ?_)
                refine lv_goto (tgt := 18) hx hb d_Md_feed_111 (by decide) ?_
                exact il _ _ _ h _ _ hP hD hS _ (lv_sub hl [3, 4, 5, 6, 7, 8, 0] rfl)
            · have h := And.right h c_43
              refine lv_iload_n hx hb d_Md_feed_46 rfl (lv_at hl 3 rfl) ?_
              refine lv_goto (tgt := 73) hx hb d_Md_feed_47 (by decide) ?_
              refine lv_istore (lv' := [(8, .int x2), (7, .int x7_7), (0, .ref a_md), (1, .int x1), (2, .int x2), (3, .int x3), (4, .int x4), (5, .int x5), (6, .int x6_1)]) hx hb d_Md_feed_73 hl (by decide) rfl (fun ls hl => ?_)
              refine lv_aload_n hx hb d_Md_feed_75 rfl (lv_at hl 2 rfl) ?_
              refine va_get (D := (dC, dI)) (ci := 11) (v := .ref a_md_tape) (C := "LoopInductionModel") (T := F_Md) (N := 40) hx hb hts iC_Md hown hK hP 0 rfl rfl 0 (by decide) fl_7 (fun _ h9 => h9) rfl d_Md_feed_76 ?_
              refine lv_aload_n hx hb d_Md_feed_79 rfl (lv_at hl 2 rfl) ?_
              refine va_get (D := (dC, dI)) (ci := 11) (v := .int md_size_2) (C := "LoopInductionModel") (T := F_Md) (N := 40) hx hb hts iC_Md hown hK hP 0 rfl rfl 1 (by decide) fl_94 (fun _ h9 => h9) rfl d_Md_feed_80 ?_
              refine lv_iload hx hb d_Md_feed_83 (lv_at hl 0 rfl) ?_
              refine lv_bipush (v := 24) hx hb d_Md_feed_85 (by decide) ?_
              refine lv_bipush (v := 8) hx hb d_Md_feed_87 (by decide) ?_
              refine lv_iload hx hb d_Md_feed_89 (lv_at hl 8 rfl) ?_
              refine lv_iconst (v := 4) hx hb d_Md_feed_91 (by decide) ?_
              refine lv_irem hx hb d_Md_feed_92 (by decide) ?_
              refine lv_imul hx hb d_Md_feed_93 ?_
              refine lv_isub hx hb d_Md_feed_94 ?_
              refine lv_ishr hx hb d_Md_feed_95 ?_
              refine lv_i2b hx hb d_Md_feed_96 rfl ?_
              obtain ⟨hin_97, h⟩ := h
              refine va_bast hx hb hK hP hD hS 1 1 rfl rfl hin_97 d_Md_feed_97 (fun H locs hP hD hS => ?_)
              have hP : va_P (dC, dI) vwCl [(a_md, .inr (11, [.ref a_md_tape, .int md_size_2, .int md_at, .int md_token, .int md_tokenPlace, .int md_number, .int md_sign, .int md_bad, .int md_faultPlace, .int md_place, .ref a_md_acts, .ref a_md_actNumbers, .ref a_md_actCounts, .int md_bank, .int md_unaries, .int md_opens, .ref a_md_pile, .int md_piled, .int md_loop, .ref a_md_begins, .ref a_md_goals, .ref a_md_ranks, .ref a_md_choiceCounts, .ref a_md_whens, .ref a_md_becomes, .ref a_md_guessCounts, .ref a_md_guesses, .ref a_md_unaryCounts, .ref a_md_stack, .ref a_md_nexts, .ref a_md_isBegin, .ref a_md_isGoal, .ref a_md_levels, .ref a_md_queue, .ref a_md_hasGuesses, .int md_keptBits, .ref a_md_rounds, .ref a_md_marked, .ref a_md_other, .ref a_md_heights])), (a_md_tape, .inl (cB, 1200, .inl (upd md_tape_3 (md_size_2 : Int32).toNatClampNeg (vp_nar .byte ((x2 >>> ((24 - (8 * (x6_1 - x6_1 / 4 * 4))) &&& 31) : Int32).toInt8.toInt32)))))] H := hP
              have hD : va_D A [(a_md, .inr (11, [.ref a_md_tape, .int md_size_2, .int md_at, .int md_token, .int md_tokenPlace, .int md_number, .int md_sign, .int md_bad, .int md_faultPlace, .int md_place, .ref a_md_acts, .ref a_md_actNumbers, .ref a_md_actCounts, .int md_bank, .int md_unaries, .int md_opens, .ref a_md_pile, .int md_piled, .int md_loop, .ref a_md_begins, .ref a_md_goals, .ref a_md_ranks, .ref a_md_choiceCounts, .ref a_md_whens, .ref a_md_becomes, .ref a_md_guessCounts, .ref a_md_guesses, .ref a_md_unaryCounts, .ref a_md_stack, .ref a_md_nexts, .ref a_md_isBegin, .ref a_md_isGoal, .ref a_md_levels, .ref a_md_queue, .ref a_md_hasGuesses, .int md_keptBits, .ref a_md_rounds, .ref a_md_marked, .ref a_md_other, .ref a_md_heights])), (a_md_tape, .inl (cB, 1200, .inl (upd md_tape_3 (md_size_2 : Int32).toNatClampNeg (vp_nar .byte ((x2 >>> ((24 - (8 * (x6_1 - x6_1 / 4 * 4))) &&& 31) : Int32).toInt8.toInt32)))))] := hD
              refine lv_aload_n hx hb d_Md_feed_98 rfl (lv_at hl 2 rfl) ?_
              refine lv_dup hx hb d_Md_feed_99 rfl ?_
              refine va_get (D := (dC, dI)) (ci := 11) (v := .int md_size_2) (C := "LoopInductionModel") (T := F_Md) (N := 40) hx hb hts iC_Md hown hK hP 0 rfl rfl 1 (by decide) fl_94 (fun _ h9 => h9) rfl d_Md_feed_100 ?_
              refine lv_iconst (v := 1) hx hb d_Md_feed_103 (by decide) ?_
              refine lv_iadd hx hb d_Md_feed_104 ?_
              refine va_put (D := (dC, dI)) (ci := 11) (v := .int (md_size_2 + 1)) (ty := .int) (C := "LoopInductionModel") (T := F_Md) (N := 40) hx hb hts iC_Md t_Md t_Md_ok n_Md hown hK hP hD hS 0 rfl rfl 1 (by decide) fl_94 (fun _ h9 => h9) rfl (by decide +kernel) rfl rfl (Nat.le_of_ble_eq_true rfl) d_Md_feed_105 (fun H locs hP hD hS => ?_)
              have hP : va_P (dC, dI) vwCl [(a_md, .inr (11, [.ref a_md_tape, .int (md_size_2 + 1), .int md_at, .int md_token, .int md_tokenPlace, .int md_number, .int md_sign, .int md_bad, .int md_faultPlace, .int md_place, .ref a_md_acts, .ref a_md_actNumbers, .ref a_md_actCounts, .int md_bank, .int md_unaries, .int md_opens, .ref a_md_pile, .int md_piled, .int md_loop, .ref a_md_begins, .ref a_md_goals, .ref a_md_ranks, .ref a_md_choiceCounts, .ref a_md_whens, .ref a_md_becomes, .ref a_md_guessCounts, .ref a_md_guesses, .ref a_md_unaryCounts, .ref a_md_stack, .ref a_md_nexts, .ref a_md_isBegin, .ref a_md_isGoal, .ref a_md_levels, .ref a_md_queue, .ref a_md_hasGuesses, .int md_keptBits, .ref a_md_rounds, .ref a_md_marked, .ref a_md_other, .ref a_md_heights])), (a_md_tape, .inl (cB, 1200, .inl (upd md_tape_3 (md_size_2 : Int32).toNatClampNeg (vp_nar .byte ((x2 >>> ((24 - (8 * (x6_1 - x6_1 / 4 * 4))) &&& 31) : Int32).toInt8.toInt32)))))] H := hP
              have hD : va_D A [(a_md, .inr (11, [.ref a_md_tape, .int (md_size_2 + 1), .int md_at, .int md_token, .int md_tokenPlace, .int md_number, .int md_sign, .int md_bad, .int md_faultPlace, .int md_place, .ref a_md_acts, .ref a_md_actNumbers, .ref a_md_actCounts, .int md_bank, .int md_unaries, .int md_opens, .ref a_md_pile, .int md_piled, .int md_loop, .ref a_md_begins, .ref a_md_goals, .ref a_md_ranks, .ref a_md_choiceCounts, .ref a_md_whens, .ref a_md_becomes, .ref a_md_guessCounts, .ref a_md_guesses, .ref a_md_unaryCounts, .ref a_md_stack, .ref a_md_nexts, .ref a_md_isBegin, .ref a_md_isGoal, .ref a_md_levels, .ref a_md_queue, .ref a_md_hasGuesses, .int md_keptBits, .ref a_md_rounds, .ref a_md_marked, .ref a_md_other, .ref a_md_heights])), (a_md_tape, .inl (cB, 1200, .inl (upd md_tape_3 (md_size_2 : Int32).toNatClampNeg (vp_nar .byte ((x2 >>> ((24 - (8 * (x6_1 - x6_1 / 4 * 4))) &&& 31) : Int32).toInt8.toInt32)))))] := hD
              refine lv_iinc (v := x6_1 + 1) (lv' := [(6, .int (x6_1 + 1)), (8, .int x2), (7, .int x7_7), (0, .ref a_md), (1, .int x1), (2, .int x2), (3, .int x3), (4, .int x4), (5, .int x5)]) hx hb d_Md_feed_108 hl (k := 8) rfl rfl (by decide) rfl (fun ls hl => ?_)
              refine lv_goto (tgt := 18) hx hb d_Md_feed_111 (by decide) ?_
              exact il _ _ _ h _ _ hP hD hS _ (lv_sub hl [3, 4, 5, 6, 7, 8, 0] rfl)
          · have h := And.right h c_33
            refine lv_iload_n hx hb d_Md_feed_36 rfl (lv_at hl 2 rfl) ?_
            refine lv_goto (tgt := 73) hx hb d_Md_feed_37 (by decide) ?_
            refine lv_istore (lv' := [(8, .int x1), (7, .int x7_7), (0, .ref a_md), (1, .int x1), (2, .int x2), (3, .int x3), (4, .int x4), (5, .int x5), (6, .int x6_1)]) hx hb d_Md_feed_73 hl (by decide) rfl (fun ls hl => ?_)
            refine lv_aload_n hx hb d_Md_feed_75 rfl (lv_at hl 2 rfl) ?_
            refine va_get (D := (dC, dI)) (ci := 11) (v := .ref a_md_tape) (C := "LoopInductionModel") (T := F_Md) (N := 40) hx hb hts iC_Md hown hK hP 0 rfl rfl 0 (by decide) fl_7 (fun _ h9 => h9) rfl d_Md_feed_76 ?_
            refine lv_aload_n hx hb d_Md_feed_79 rfl (lv_at hl 2 rfl) ?_
            refine va_get (D := (dC, dI)) (ci := 11) (v := .int md_size_2) (C := "LoopInductionModel") (T := F_Md) (N := 40) hx hb hts iC_Md hown hK hP 0 rfl rfl 1 (by decide) fl_94 (fun _ h9 => h9) rfl d_Md_feed_80 ?_
            refine lv_iload hx hb d_Md_feed_83 (lv_at hl 0 rfl) ?_
            refine lv_bipush (v := 24) hx hb d_Md_feed_85 (by decide) ?_
            refine lv_bipush (v := 8) hx hb d_Md_feed_87 (by decide) ?_
            refine lv_iload hx hb d_Md_feed_89 (lv_at hl 8 rfl) ?_
            refine lv_iconst (v := 4) hx hb d_Md_feed_91 (by decide) ?_
            refine lv_irem hx hb d_Md_feed_92 (by decide) ?_
            refine lv_imul hx hb d_Md_feed_93 ?_
            refine lv_isub hx hb d_Md_feed_94 ?_
            refine lv_ishr hx hb d_Md_feed_95 ?_
            refine lv_i2b hx hb d_Md_feed_96 rfl ?_
            obtain ⟨hin_97, h⟩ := h
            refine va_bast hx hb hK hP hD hS 1 1 rfl rfl hin_97 d_Md_feed_97 (fun H locs hP hD hS => ?_)
            have hP : va_P (dC, dI) vwCl [(a_md, .inr (11, [.ref a_md_tape, .int md_size_2, .int md_at, .int md_token, .int md_tokenPlace, .int md_number, .int md_sign, .int md_bad, .int md_faultPlace, .int md_place, .ref a_md_acts, .ref a_md_actNumbers, .ref a_md_actCounts, .int md_bank, .int md_unaries, .int md_opens, .ref a_md_pile, .int md_piled, .int md_loop, .ref a_md_begins, .ref a_md_goals, .ref a_md_ranks, .ref a_md_choiceCounts, .ref a_md_whens, .ref a_md_becomes, .ref a_md_guessCounts, .ref a_md_guesses, .ref a_md_unaryCounts, .ref a_md_stack, .ref a_md_nexts, .ref a_md_isBegin, .ref a_md_isGoal, .ref a_md_levels, .ref a_md_queue, .ref a_md_hasGuesses, .int md_keptBits, .ref a_md_rounds, .ref a_md_marked, .ref a_md_other, .ref a_md_heights])), (a_md_tape, .inl (cB, 1200, .inl (upd md_tape_3 (md_size_2 : Int32).toNatClampNeg (vp_nar .byte ((x1 >>> ((24 - (8 * (x6_1 - x6_1 / 4 * 4))) &&& 31) : Int32).toInt8.toInt32)))))] H := hP
            have hD : va_D A [(a_md, .inr (11, [.ref a_md_tape, .int md_size_2, .int md_at, .int md_token, .int md_tokenPlace, .int md_number, .int md_sign, .int md_bad, .int md_faultPlace, .int md_place, .ref a_md_acts, .ref a_md_actNumbers, .ref a_md_actCounts, .int md_bank, .int md_unaries, .int md_opens, .ref a_md_pile, .int md_piled, .int md_loop, .ref a_md_begins, .ref a_md_goals, .ref a_md_ranks, .ref a_md_choiceCounts, .ref a_md_whens, .ref a_md_becomes, .ref a_md_guessCounts, .ref a_md_guesses, .ref a_md_unaryCounts, .ref a_md_stack, .ref a_md_nexts, .ref a_md_isBegin, .ref a_md_isGoal, .ref a_md_levels, .ref a_md_queue, .ref a_md_hasGuesses, .int md_keptBits, .ref a_md_rounds, .ref a_md_marked, .ref a_md_other, .ref a_md_heights])), (a_md_tape, .inl (cB, 1200, .inl (upd md_tape_3 (md_size_2 : Int32).toNatClampNeg (vp_nar .byte ((x1 >>> ((24 - (8 * (x6_1 - x6_1 / 4 * 4))) &&& 31) : Int32).toInt8.toInt32)))))] := hD
            refine lv_aload_n hx hb d_Md_feed_98 rfl (lv_at hl 2 rfl) ?_
            refine lv_dup hx hb d_Md_feed_99 rfl ?_
            refine va_get (D := (dC, dI)) (ci := 11) (v := .int md_size_2) (C := "LoopInductionModel") (T := F_Md) (N := 40) hx hb hts iC_Md hown hK hP 0 rfl rfl 1 (by decide) fl_94 (fun _ h9 => h9) rfl d_Md_feed_100 ?_
            refine lv_iconst (v := 1) hx hb d_Md_feed_103 (by decide) ?_
            refine lv_iadd hx hb d_Md_feed_104 ?_
            refine va_put (D := (dC, dI)) (ci := 11) (v := .int (md_size_2 + 1)) (ty := .int) (C := "LoopInductionModel") (T := F_Md) (N := 40) hx hb hts iC_Md t_Md t_Md_ok n_Md hown hK hP hD hS 0 rfl rfl 1 (by decide) fl_94 (fun _ h9 => h9) rfl (by decide +kernel) rfl rfl (Nat.le_of_ble_eq_true rfl) d_Md_feed_105 (fun H locs hP hD hS => ?_)
            have hP : va_P (dC, dI) vwCl [(a_md, .inr (11, [.ref a_md_tape, .int (md_size_2 + 1), .int md_at, .int md_token, .int md_tokenPlace, .int md_number, .int md_sign, .int md_bad, .int md_faultPlace, .int md_place, .ref a_md_acts, .ref a_md_actNumbers, .ref a_md_actCounts, .int md_bank, .int md_unaries, .int md_opens, .ref a_md_pile, .int md_piled, .int md_loop, .ref a_md_begins, .ref a_md_goals, .ref a_md_ranks, .ref a_md_choiceCounts, .ref a_md_whens, .ref a_md_becomes, .ref a_md_guessCounts, .ref a_md_guesses, .ref a_md_unaryCounts, .ref a_md_stack, .ref a_md_nexts, .ref a_md_isBegin, .ref a_md_isGoal, .ref a_md_levels, .ref a_md_queue, .ref a_md_hasGuesses, .int md_keptBits, .ref a_md_rounds, .ref a_md_marked, .ref a_md_other, .ref a_md_heights])), (a_md_tape, .inl (cB, 1200, .inl (upd md_tape_3 (md_size_2 : Int32).toNatClampNeg (vp_nar .byte ((x1 >>> ((24 - (8 * (x6_1 - x6_1 / 4 * 4))) &&& 31) : Int32).toInt8.toInt32)))))] H := hP
            have hD : va_D A [(a_md, .inr (11, [.ref a_md_tape, .int (md_size_2 + 1), .int md_at, .int md_token, .int md_tokenPlace, .int md_number, .int md_sign, .int md_bad, .int md_faultPlace, .int md_place, .ref a_md_acts, .ref a_md_actNumbers, .ref a_md_actCounts, .int md_bank, .int md_unaries, .int md_opens, .ref a_md_pile, .int md_piled, .int md_loop, .ref a_md_begins, .ref a_md_goals, .ref a_md_ranks, .ref a_md_choiceCounts, .ref a_md_whens, .ref a_md_becomes, .ref a_md_guessCounts, .ref a_md_guesses, .ref a_md_unaryCounts, .ref a_md_stack, .ref a_md_nexts, .ref a_md_isBegin, .ref a_md_isGoal, .ref a_md_levels, .ref a_md_queue, .ref a_md_hasGuesses, .int md_keptBits, .ref a_md_rounds, .ref a_md_marked, .ref a_md_other, .ref a_md_heights])), (a_md_tape, .inl (cB, 1200, .inl (upd md_tape_3 (md_size_2 : Int32).toNatClampNeg (vp_nar .byte ((x1 >>> ((24 - (8 * (x6_1 - x6_1 / 4 * 4))) &&& 31) : Int32).toInt8.toInt32)))))] := hD
            refine lv_iinc (v := x6_1 + 1) (lv' := [(6, .int (x6_1 + 1)), (8, .int x1), (7, .int x7_7), (0, .ref a_md), (1, .int x1), (2, .int x2), (3, .int x3), (4, .int x4), (5, .int x5)]) hx hb d_Md_feed_108 hl (k := 8) rfl rfl (by decide) rfl (fun ls hl => ?_)
            refine lv_goto (tgt := 18) hx hb d_Md_feed_111 (by decide) ?_
            exact il _ _ _ h _ _ hP hD hS _ (lv_sub hl [3, 4, 5, 6, 7, 8, 0] rfl)
    obtain ⟨n_, h⟩ := h
    refine L18_q_4 _ ?_ n_ _ _ _ h _ _ hP hD hS _ (lv_sub hl [1, 2, 3, 4, 5, 6, 0] rfl)
    intro md_size_8 md_tape_9 h
    intro H locs hP hD hS ls hl
    refine lv_aload_n hx hb d_Md_feed_114 rfl (lv_at hl 0 rfl) ?_
    refine va_get (D := (dC, dI)) (ci := 11) (v := .int md_size_8) (C := "LoopInductionModel") (T := F_Md) (N := 40) hx hb hts iC_Md hown hK hP 0 rfl rfl 1 (by decide) fl_94 (fun _ h9 => h9) rfl d_Md_feed_115 ?_
    rw [← hQ]
    have hP9 := hP
    have hD9 := hD
    exact W.iret (v := md_size_8) hx hb hr (fun t ht hW => ⟨⟨md_size_8, (md_size_8, md_tape_9), rfl, h, by rw [ht]; exact hP9, va_K.moved hW.alike hK, hD9⟩, hS.F ht⟩) hS.2.2 d_Md_feed_118
  · have h := And.right h c_10
    refine lv_iconst (v := (-1)) hx hb d_Md_feed_13 (by decide) ?_
    rw [← hQ]
    have hP9 := hP
    have hD9 := hD
    exact W.iret (v := (-1)) hx hb hr (fun t ht hW => ⟨⟨(-1), (md_size, md_tape), rfl, h, by rw [ht]; exact hP9, va_K.moved hW.alike hK, hD9⟩, hS.F ht⟩) hS.2.2 d_Md_feed_14
set_option maxHeartbeats 4000000 in
set_option maxRecDepth 100000 in
theorem c_Md_end (l : Launch) (dC : Nat → ClassId) (dI : Nat → Nat → Nat) (cI cB cZ : ClassId) (adK adV : Nat → Nat) (sz : Nat) (a_md a_md_tape a_md_acts a_md_actNumbers a_md_actCounts a_md_pile a_md_begins a_md_goals a_md_ranks a_md_choiceCounts a_md_whens a_md_becomes a_md_guessCounts a_md_guesses a_md_unaryCounts a_md_stack a_md_nexts a_md_isBegin a_md_isGoal a_md_levels a_md_queue a_md_hasGuesses a_md_rounds a_md_marked a_md_other a_md_heights : Nat) (md_size : Int32) (md_at : Int32) (md_token : Int32) (md_tokenPlace : Int32) (md_number : Int32) (md_sign : Int32) (md_bad : Int32) (md_faultPlace : Int32) (md_place : Int32) (md_bank : Int32) (md_unaries : Int32) (md_opens : Int32) (md_piled : Int32) (md_loop : Int32) (md_keptBits : Int32) (x1 : Int32) (post : Int32 → Int32 → Prop) (h : wp_Md_end x1 md_size post) : Met l y_Md_end w_Md_end ({ frames := 0, cells := 0, slots := 0, locals := 0 }) (pc_ (dC, dI) [(cI, .int), (cB, .byte), (cZ, .boolean)] [(a_md, .inr (11, [.ref a_md_tape, .int md_size, .int md_at, .int md_token, .int md_tokenPlace, .int md_number, .int md_sign, .int md_bad, .int md_faultPlace, .int md_place, .ref a_md_acts, .ref a_md_actNumbers, .ref a_md_actCounts, .int md_bank, .int md_unaries, .int md_opens, .ref a_md_pile, .int md_piled, .int md_loop, .ref a_md_begins, .ref a_md_goals, .ref a_md_ranks, .ref a_md_choiceCounts, .ref a_md_whens, .ref a_md_becomes, .ref a_md_guessCounts, .ref a_md_guesses, .ref a_md_unaryCounts, .ref a_md_stack, .ref a_md_nexts, .ref a_md_isBegin, .ref a_md_isGoal, .ref a_md_levels, .ref a_md_queue, .ref a_md_hasGuesses, .int md_keptBits, .ref a_md_rounds, .ref a_md_marked, .ref a_md_other, .ref a_md_heights]))] sz adK adV [.ref a_md, .int x1]) (va_Qi (fun (r : Int32) (u : Int32) => post r u) (fun (u : Int32) t => bw_ (dC, dI) [(cI, .int), (cB, .byte), (cZ, .boolean)] (va_A [(a_md, .inr (11, [.ref a_md_tape, .int md_size, .int md_at, .int md_token, .int md_tokenPlace, .int md_number, .int md_sign, .int md_bad, .int md_faultPlace, .int md_place, .ref a_md_acts, .ref a_md_actNumbers, .ref a_md_actCounts, .int md_bank, .int md_unaries, .int md_opens, .ref a_md_pile, .int md_piled, .int md_loop, .ref a_md_begins, .ref a_md_goals, .ref a_md_ranks, .ref a_md_choiceCounts, .ref a_md_whens, .ref a_md_becomes, .ref a_md_guessCounts, .ref a_md_guesses, .ref a_md_unaryCounts, .ref a_md_stack, .ref a_md_nexts, .ref a_md_isBegin, .ref a_md_isGoal, .ref a_md_levels, .ref a_md_queue, .ref a_md_hasGuesses, .int md_keptBits, .ref a_md_rounds, .ref a_md_marked, .ref a_md_other, .ref a_md_heights]))] sz) [(a_md, .inr (11, [.ref a_md_tape, .int u, .int md_at, .int md_token, .int md_tokenPlace, .int md_number, .int md_sign, .int md_bad, .int md_faultPlace, .int md_place, .ref a_md_acts, .ref a_md_actNumbers, .ref a_md_actCounts, .int md_bank, .int md_unaries, .int md_opens, .ref a_md_pile, .int md_piled, .int md_loop, .ref a_md_begins, .ref a_md_goals, .ref a_md_ranks, .ref a_md_choiceCounts, .ref a_md_whens, .ref a_md_becomes, .ref a_md_guessCounts, .ref a_md_guesses, .ref a_md_unaryCounts, .ref a_md_stack, .ref a_md_nexts, .ref a_md_isBegin, .ref a_md_isGoal, .ref a_md_levels, .ref a_md_queue, .ref a_md_hasGuesses, .int md_keptBits, .ref a_md_rounds, .ref a_md_marked, .ref a_md_other, .ref a_md_heights]))] t) (va_A [(a_md, .inr (11, [.ref a_md_tape, .int md_size, .int md_at, .int md_token, .int md_tokenPlace, .int md_number, .int md_sign, .int md_bad, .int md_faultPlace, .int md_place, .ref a_md_acts, .ref a_md_actNumbers, .ref a_md_actCounts, .int md_bank, .int md_unaries, .int md_opens, .ref a_md_pile, .int md_piled, .int md_loop, .ref a_md_begins, .ref a_md_goals, .ref a_md_ranks, .ref a_md_choiceCounts, .ref a_md_whens, .ref a_md_becomes, .ref a_md_guessCounts, .ref a_md_guesses, .ref a_md_unaryCounts, .ref a_md_stack, .ref a_md_nexts, .ref a_md_isBegin, .ref a_md_isGoal, .ref a_md_levels, .ref a_md_queue, .ref a_md_hasGuesses, .int md_keptBits, .ref a_md_rounds, .ref a_md_marked, .ref a_md_other, .ref a_md_heights]))] sz)) 0 0 (va_A [(a_md, .inr (11, [.ref a_md_tape, .int md_size, .int md_at, .int md_token, .int md_tokenPlace, .int md_number, .int md_sign, .int md_bad, .int md_faultPlace, .int md_place, .ref a_md_acts, .ref a_md_actNumbers, .ref a_md_actCounts, .int md_bank, .int md_unaries, .int md_opens, .ref a_md_pile, .int md_piled, .int md_loop, .ref a_md_begins, .ref a_md_goals, .ref a_md_ranks, .ref a_md_choiceCounts, .ref a_md_whens, .ref a_md_becomes, .ref a_md_guessCounts, .ref a_md_guesses, .ref a_md_unaryCounts, .ref a_md_stack, .ref a_md_nexts, .ref a_md_isBegin, .ref a_md_isGoal, .ref a_md_levels, .ref a_md_queue, .ref a_md_hasGuesses, .int md_keptBits, .ref a_md_rounds, .ref a_md_marked, .ref a_md_other, .ref a_md_heights]))] sz) := by
  refine Met.ofW (cc := b_Md_end) (maxL := 2) (ret := (some .int)) (by decide) rfl ?_
  intro p e s m args below meth c s₁ B hml hv
  obtain ⟨rfl, hsz, hP, hK, hD0, hN, hT⟩ := hv
  have hx := B.exec
  have hb := B.bytes
  have hr := B.returns
  have hts := atoms_spec (ws := w_Md_end) B.pre
  have hown : s.vm.findClass "LoopInductionModel" = some m.cls := findClass_of_methodNamed B.named
  have hlocks := B.notSynchronized
  subst hsz
  have hD := hD0.self (sz := s.heap.size)
  generalize hAe : va_A [(a_md, .inr (11, [.ref a_md_tape, .int md_size, .int md_at, .int md_token, .int md_tokenPlace, .int md_number, .int md_sign, .int md_bad, .int md_faultPlace, .int md_place, .ref a_md_acts, .ref a_md_actNumbers, .ref a_md_actCounts, .int md_bank, .int md_unaries, .int md_opens, .ref a_md_pile, .int md_piled, .int md_loop, .ref a_md_begins, .ref a_md_goals, .ref a_md_ranks, .ref a_md_choiceCounts, .ref a_md_whens, .ref a_md_becomes, .ref a_md_guessCounts, .ref a_md_guesses, .ref a_md_unaryCounts, .ref a_md_stack, .ref a_md_nexts, .ref a_md_isBegin, .ref a_md_isGoal, .ref a_md_levels, .ref a_md_queue, .ref a_md_hasGuesses, .int md_keptBits, .ref a_md_rounds, .ref a_md_marked, .ref a_md_other, .ref a_md_heights]))] s.heap.size = A at hD hT ⊢
  have hA : ∀ q : Nat, s.heap.size ≤ q → A q := fun q h => by rw [← hAe]; exact Or.inr h
  have hS : va_S A s.heap s.heap [] := va_S.rf
  generalize hQ : MQ below _ _ s 0 0 _ = QQ
  have hl := lv_entry ([.ref a_md, .int x1]) (n := 2) (Nat.le_of_ble_eq_true rfl)
  rw [lg_entry_eq]
  generalize (lg_sl ([.ref a_md, .int x1]) ++ List.replicate (2 - (lg_sl ([.ref a_md, .int x1])).length) Slot.unset).toArray = ls at hl ⊢
  have hl : lv_has ls 2 [(0, .ref a_md), (1, .int x1)] := hl
  have fl_94 := (hts _ (List.mem_cons_of_mem _ m_1091))
  refine lv_iload_n hx hb d_Md_end_0 rfl (lv_at hl 1 rfl) ?_
  refine lv_if_lt (tgt := 19) hx hb d_Md_end_1 (by decide) (fun c_1 => ?_) (fun c_1 => ?_)
  · have h := And.left h c_1
    refine lv_iconst (v := (-1)) hx hb d_Md_end_19 (by decide) ?_
    rw [← hQ]
    have hP9 := hP
    have hD9 := hD
    exact W.iret (v := (-1)) hx hb hr (fun t ht hW => ⟨⟨(-1), (md_size), rfl, h, by rw [ht]; exact hP9, va_K.moved hW.alike hK, hD9⟩, hS.F ht⟩) hS.2.2 d_Md_end_20
  · have h := And.right h c_1
    refine lv_iload_n hx hb d_Md_end_4 rfl (lv_at hl 1 rfl) ?_
    refine lv_bipush (v := 20) hx hb d_Md_end_5 (by decide) ?_
    refine lv_icmp_gt (tgt := 19) hx hb d_Md_end_7 (by decide) (fun c_7 => ?_) (fun c_7 => ?_)
    · have h := And.left h c_7
      refine lv_iconst (v := (-1)) hx hb d_Md_end_19 (by decide) ?_
      rw [← hQ]
      have hP9 := hP
      have hD9 := hD
      exact W.iret (v := (-1)) hx hb hr (fun t ht hW => ⟨⟨(-1), (md_size), rfl, h, by rw [ht]; exact hP9, va_K.moved hW.alike hK, hD9⟩, hS.F ht⟩) hS.2.2 d_Md_end_20
    · have h := And.right h c_7
      refine lv_aload_n hx hb d_Md_end_10 rfl (lv_at hl 0 rfl) ?_
      refine va_get (D := (dC, dI)) (ci := 11) (v := .int md_size) (C := "LoopInductionModel") (T := F_Md) (N := 40) hx hb hts iC_Md hown hK hP 0 rfl rfl 1 (by decide) fl_94 (fun _ h9 => h9) rfl d_Md_end_11 ?_
      refine lv_bipush (v := 20) hx hb d_Md_end_14 (by decide) ?_
      refine lv_icmp_ge (tgt := 21) hx hb d_Md_end_16 (by decide) (fun c_16 => ?_) (fun c_16 => ?_)
      · have h := And.left h c_16
        refine lv_aload_n hx hb d_Md_end_21 rfl (lv_at hl 0 rfl) ?_
        refine lv_dup hx hb d_Md_end_22 rfl ?_
        refine va_get (D := (dC, dI)) (ci := 11) (v := .int md_size) (C := "LoopInductionModel") (T := F_Md) (N := 40) hx hb hts iC_Md hown hK hP 0 rfl rfl 1 (by decide) fl_94 (fun _ h9 => h9) rfl d_Md_end_23 ?_
        refine lv_bipush (v := 20) hx hb d_Md_end_26 (by decide) ?_
        refine lv_iload_n hx hb d_Md_end_28 rfl (lv_at hl 1 rfl) ?_
        refine lv_isub hx hb d_Md_end_29 ?_
        refine lv_isub hx hb d_Md_end_30 ?_
        refine va_put (D := (dC, dI)) (ci := 11) (v := .int (md_size - (20 - x1))) (ty := .int) (C := "LoopInductionModel") (T := F_Md) (N := 40) hx hb hts iC_Md t_Md t_Md_ok n_Md hown hK hP hD hS 0 rfl rfl 1 (by decide) fl_94 (fun _ h9 => h9) rfl (by decide +kernel) rfl rfl (Nat.le_of_ble_eq_true rfl) d_Md_end_31 (fun H locs hP hD hS => ?_)
        have hP : va_P (dC, dI) vwCl [(a_md, .inr (11, [.ref a_md_tape, .int (md_size - (20 - x1)), .int md_at, .int md_token, .int md_tokenPlace, .int md_number, .int md_sign, .int md_bad, .int md_faultPlace, .int md_place, .ref a_md_acts, .ref a_md_actNumbers, .ref a_md_actCounts, .int md_bank, .int md_unaries, .int md_opens, .ref a_md_pile, .int md_piled, .int md_loop, .ref a_md_begins, .ref a_md_goals, .ref a_md_ranks, .ref a_md_choiceCounts, .ref a_md_whens, .ref a_md_becomes, .ref a_md_guessCounts, .ref a_md_guesses, .ref a_md_unaryCounts, .ref a_md_stack, .ref a_md_nexts, .ref a_md_isBegin, .ref a_md_isGoal, .ref a_md_levels, .ref a_md_queue, .ref a_md_hasGuesses, .int md_keptBits, .ref a_md_rounds, .ref a_md_marked, .ref a_md_other, .ref a_md_heights]))] H := hP
        have hD : va_D A [(a_md, .inr (11, [.ref a_md_tape, .int (md_size - (20 - x1)), .int md_at, .int md_token, .int md_tokenPlace, .int md_number, .int md_sign, .int md_bad, .int md_faultPlace, .int md_place, .ref a_md_acts, .ref a_md_actNumbers, .ref a_md_actCounts, .int md_bank, .int md_unaries, .int md_opens, .ref a_md_pile, .int md_piled, .int md_loop, .ref a_md_begins, .ref a_md_goals, .ref a_md_ranks, .ref a_md_choiceCounts, .ref a_md_whens, .ref a_md_becomes, .ref a_md_guessCounts, .ref a_md_guesses, .ref a_md_unaryCounts, .ref a_md_stack, .ref a_md_nexts, .ref a_md_isBegin, .ref a_md_isGoal, .ref a_md_levels, .ref a_md_queue, .ref a_md_hasGuesses, .int md_keptBits, .ref a_md_rounds, .ref a_md_marked, .ref a_md_other, .ref a_md_heights]))] := hD
        refine lv_aload_n hx hb d_Md_end_34 rfl (lv_at hl 0 rfl) ?_
        refine va_get (D := (dC, dI)) (ci := 11) (v := .int (md_size - (20 - x1))) (C := "LoopInductionModel") (T := F_Md) (N := 40) hx hb hts iC_Md hown hK hP 0 rfl rfl 1 (by decide) fl_94 (fun _ h9 => h9) rfl d_Md_end_35 ?_
        rw [← hQ]
        have hP9 := hP
        have hD9 := hD
        exact W.iret (v := md_size - (20 - x1)) hx hb hr (fun t ht hW => ⟨⟨(md_size - (20 - x1)), (md_size - (20 - x1)), rfl, h, by rw [ht]; exact hP9, va_K.moved hW.alike hK, hD9⟩, hS.F ht⟩) hS.2.2 d_Md_end_38
      · have h := And.right h c_16
        refine lv_iconst (v := (-1)) hx hb d_Md_end_19 (by decide) ?_
        rw [← hQ]
        have hP9 := hP
        have hD9 := hD
        exact W.iret (v := (-1)) hx hb hr (fun t ht hW => ⟨⟨(-1), (md_size), rfl, h, by rw [ht]; exact hP9, va_K.moved hW.alike hK, hD9⟩, hS.F ht⟩) hS.2.2 d_Md_end_20
set_option maxHeartbeats 4000000 in
set_option maxRecDepth 100000 in
theorem c_Md_variableOf (l : Launch) (dC : Nat → ClassId) (dI : Nat → Nat → Nat) (cI cB cZ : ClassId) (adK adV : Nat → Nat) (sz : Nat) (x0 : Int32) (x1 : Int32) (post : Int32 → Prop) (h : wp_Md_variableOf x0 x1 post) : Met l y_Md_variableOf w_Md_variableOf ({ frames := 0, cells := 0, slots := 0, locals := 0 }) (pc_ (dC, dI) [(cI, .int), (cB, .byte), (cZ, .boolean)] [] sz adK adV [.int x0, .int x1]) (va_Qi (fun (r : Int32) (u : Unit) => post r ) (fun (u : Unit) t => bw_ (dC, dI) [(cI, .int), (cB, .byte), (cZ, .boolean)] (va_A [] sz) [] t) (va_A [] sz)) 0 0 (va_A [] sz) := by
  refine Met.ofW (cc := b_Md_variableOf) (maxL := 2) (ret := (some .int)) (by decide) rfl ?_
  intro p e s m args below meth c s₁ B hml hv
  obtain ⟨rfl, hsz, hP, hK, hD0, hN, hT⟩ := hv
  have hx := B.exec
  have hb := B.bytes
  have hr := B.returns
  have hts := atoms_spec (ws := w_Md_variableOf) B.pre
  have hown : s.vm.findClass "LoopInductionModel" = some m.cls := findClass_of_methodNamed B.named
  have hlocks := B.notSynchronized
  subst hsz
  have hD := hD0.self (sz := s.heap.size)
  generalize hAe : va_A [] s.heap.size = A at hD hT ⊢
  have hA : ∀ q : Nat, s.heap.size ≤ q → A q := fun q h => by rw [← hAe]; exact Or.inr h
  have hS : va_S A s.heap s.heap [] := va_S.rf
  generalize hQ : MQ below _ _ s 0 0 _ = QQ
  have hl := lv_entry ([.int x0, .int x1]) (n := 2) (Nat.le_of_ble_eq_true rfl)
  rw [lg_entry_eq]
  generalize (lg_sl ([.int x0, .int x1]) ++ List.replicate (2 - (lg_sl ([.int x0, .int x1])).length) Slot.unset).toArray = ls at hl ⊢
  have hl : lv_has ls 2 [(0, .int x0), (1, .int x1)] := hl
  refine lv_iload_n hx hb d_Md_variableOf_0 rfl (lv_at hl 0 rfl) ?_
  refine lv_iconst (v := 4) hx hb d_Md_variableOf_1 (by decide) ?_
  refine lv_iload_n hx hb d_Md_variableOf_2 rfl (lv_at hl 1 rfl) ?_
  refine lv_imul hx hb d_Md_variableOf_3 ?_
  refine lv_ishr hx hb d_Md_variableOf_4 ?_
  refine lv_bipush (v := 15) hx hb d_Md_variableOf_5 (by decide) ?_
  refine lv_iand hx hb d_Md_variableOf_7 ?_
  rw [← hQ]
  have hP9 := hP
  have hD9 := hD
  exact W.iret (v := (x0 >>> ((4 * x1) &&& 31)) &&& 15) hx hb hr (fun t ht hW => ⟨⟨((x0 >>> ((4 * x1) &&& 31)) &&& 15), (), rfl, h, by rw [ht]; exact hP9, va_K.moved hW.alike hK, hD9⟩, hS.F ht⟩) hS.2.2 d_Md_variableOf_8
