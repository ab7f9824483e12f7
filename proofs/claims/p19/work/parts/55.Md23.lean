abbrev b_Md_goOn : ByteArray := prog_13_method_51_code
abbrev y_Md_goOn : MethodName := ⟨"LoopInductionModel", "goOn", "(I)V"⟩
abbrev w_Md_goOn : List Cond := .code y_Md_goOn b_Md_goOn 5 none :: allW
theorem pn_Md_goOn : y_Md_goOn.cls ≠ "java/lang/invoke/MethodHandle" ∧ y_Md_goOn.cls ≠ "java/lang/invoke/VarHandle" ∧ (parseMethodDescriptor y_Md_goOn.desc).map (fun d => d.parameters.length) = some 1 := by decide +kernel
theorem pd_Md_goOn : y_Md_goOn.cls = "LoopInductionModel" ∧ y_Md_goOn.cls ≠ "java/lang/invoke/MethodHandle" ∧ y_Md_goOn.cls ≠ "java/lang/invoke/VarHandle" ∧ (parseMethodDescriptor y_Md_goOn.desc).map (fun d => d.parameters.length) = some 1 := by decide +kernel
theorem d_Md_goOn_0 : decode b_Md_goOn 0 = .ok (.iconst 0, 1) := by decide +kernel
theorem d_Md_goOn_1 : decode b_Md_goOn 1 = .ok (.istore_n 2, 1) := by decide +kernel
theorem d_Md_goOn_2 : decode b_Md_goOn 2 = .ok (.iload_n 2, 1) := by decide +kernel
theorem d_Md_goOn_3 : decode b_Md_goOn 3 = .ok (.sipush 4096, 3) := by decide +kernel
theorem d_Md_goOn_6 : decode b_Md_goOn 6 = .ok (.if_icmp .ge 16, 3) := by decide +kernel
theorem d_Md_goOn_9 : decode b_Md_goOn 9 = .ok (.aload_n 0, 1) := by decide +kernel
theorem d_Md_goOn_10 : decode b_Md_goOn 10 = .ok (.getfield 88, 3) := by decide +kernel
theorem d_Md_goOn_13 : decode b_Md_goOn 13 = .ok (.iload_n 2, 1) := by decide +kernel
theorem d_Md_goOn_14 : decode b_Md_goOn 14 = .ok (.iconst 0, 1) := by decide +kernel
theorem d_Md_goOn_15 : decode b_Md_goOn 15 = .ok (.bastore, 1) := by decide +kernel
theorem d_Md_goOn_16 : decode b_Md_goOn 16 = .ok (.iinc 2 1, 3) := by decide +kernel
theorem d_Md_goOn_19 : decode b_Md_goOn 19 = .ok (.goto (-17), 3) := by decide +kernel
theorem d_Md_goOn_22 : decode b_Md_goOn 22 = .ok (.iconst 0, 1) := by decide +kernel
theorem d_Md_goOn_23 : decode b_Md_goOn 23 = .ok (.istore_n 2, 1) := by decide +kernel
theorem d_Md_goOn_24 : decode b_Md_goOn 24 = .ok (.iload_n 2, 1) := by decide +kernel
theorem d_Md_goOn_25 : decode b_Md_goOn 25 = .ok (.sipush 4096, 3) := by decide +kernel
theorem d_Md_goOn_28 : decode b_Md_goOn 28 = .ok (.if_icmp .ge 81, 3) := by decide +kernel
theorem d_Md_goOn_31 : decode b_Md_goOn 31 = .ok (.iconst 0, 1) := by decide +kernel
theorem d_Md_goOn_32 : decode b_Md_goOn 32 = .ok (.istore_n 3, 1) := by decide +kernel
theorem d_Md_goOn_33 : decode b_Md_goOn 33 = .ok (.iload_n 3, 1) := by decide +kernel
theorem d_Md_goOn_34 : decode b_Md_goOn 34 = .ok (.bipush 6, 2) := by decide +kernel
theorem d_Md_goOn_36 : decode b_Md_goOn 36 = .ok (.if_icmp .ge 67, 3) := by decide +kernel
theorem d_Md_goOn_39 : decode b_Md_goOn 39 = .ok (.aload_n 0, 1) := by decide +kernel
theorem d_Md_goOn_40 : decode b_Md_goOn 40 = .ok (.getfield 85, 3) := by decide +kernel
theorem d_Md_goOn_43 : decode b_Md_goOn 43 = .ok (.iload_n 2, 1) := by decide +kernel
theorem d_Md_goOn_44 : decode b_Md_goOn 44 = .ok (.baload, 1) := by decide +kernel
theorem d_Md_goOn_45 : decode b_Md_goOn 45 = .ok (.ifCond .eq 58, 3) := by decide +kernel
theorem d_Md_goOn_48 : decode b_Md_goOn 48 = .ok (.aload_n 0, 1) := by decide +kernel
theorem d_Md_goOn_49 : decode b_Md_goOn 49 = .ok (.getfield 63, 3) := by decide +kernel
theorem d_Md_goOn_52 : decode b_Md_goOn 52 = .ok (.bipush 6, 2) := by decide +kernel
theorem d_Md_goOn_54 : decode b_Md_goOn 54 = .ok (.iload_n 2, 1) := by decide +kernel
theorem d_Md_goOn_55 : decode b_Md_goOn 55 = .ok (.imul, 1) := by decide +kernel
theorem d_Md_goOn_56 : decode b_Md_goOn 56 = .ok (.iload_n 3, 1) := by decide +kernel
theorem d_Md_goOn_57 : decode b_Md_goOn 57 = .ok (.iadd, 1) := by decide +kernel
theorem d_Md_goOn_58 : decode b_Md_goOn 58 = .ok (.iaload, 1) := by decide +kernel
theorem d_Md_goOn_59 : decode b_Md_goOn 59 = .ok (.istore 4, 2) := by decide +kernel
theorem d_Md_goOn_61 : decode b_Md_goOn 61 = .ok (.iload 4, 2) := by decide +kernel
theorem d_Md_goOn_63 : decode b_Md_goOn 63 = .ok (.ifCond .lt 34, 3) := by decide +kernel
theorem d_Md_goOn_66 : decode b_Md_goOn 66 = .ok (.aload_n 0, 1) := by decide +kernel
theorem d_Md_goOn_67 : decode b_Md_goOn 67 = .ok (.getfield 70, 3) := by decide +kernel
theorem d_Md_goOn_70 : decode b_Md_goOn 70 = .ok (.iload 4, 2) := by decide +kernel
theorem d_Md_goOn_72 : decode b_Md_goOn 72 = .ok (.baload, 1) := by decide +kernel
theorem d_Md_goOn_73 : decode b_Md_goOn 73 = .ok (.ifCond .eq 24, 3) := by decide +kernel
theorem d_Md_goOn_76 : decode b_Md_goOn 76 = .ok (.aload_n 0, 1) := by decide +kernel
theorem d_Md_goOn_77 : decode b_Md_goOn 77 = .ok (.getfield 79, 3) := by decide +kernel
theorem d_Md_goOn_80 : decode b_Md_goOn 80 = .ok (.iload 4, 2) := by decide +kernel
theorem d_Md_goOn_82 : decode b_Md_goOn 82 = .ok (.iaload, 1) := by decide +kernel
theorem d_Md_goOn_83 : decode b_Md_goOn 83 = .ok (.iload_n 1, 1) := by decide +kernel
theorem d_Md_goOn_84 : decode b_Md_goOn 84 = .ok (.iand, 1) := by decide +kernel
theorem d_Md_goOn_85 : decode b_Md_goOn 85 = .ok (.iload_n 1, 1) := by decide +kernel
theorem d_Md_goOn_86 : decode b_Md_goOn 86 = .ok (.if_icmp .ne 11, 3) := by decide +kernel
theorem d_Md_goOn_89 : decode b_Md_goOn 89 = .ok (.aload_n 0, 1) := by decide +kernel
theorem d_Md_goOn_90 : decode b_Md_goOn 90 = .ok (.getfield 88, 3) := by decide +kernel
theorem d_Md_goOn_93 : decode b_Md_goOn 93 = .ok (.iload 4, 2) := by decide +kernel
theorem d_Md_goOn_95 : decode b_Md_goOn 95 = .ok (.iconst 1, 1) := by decide +kernel
theorem d_Md_goOn_96 : decode b_Md_goOn 96 = .ok (.bastore, 1) := by decide +kernel
theorem d_Md_goOn_97 : decode b_Md_goOn 97 = .ok (.iinc 3 1, 3) := by decide +kernel
theorem d_Md_goOn_100 : decode b_Md_goOn 100 = .ok (.goto (-67), 3) := by decide +kernel
theorem d_Md_goOn_103 : decode b_Md_goOn 103 = .ok (.iinc 2 1, 3) := by decide +kernel
theorem d_Md_goOn_106 : decode b_Md_goOn 106 = .ok (.goto (-82), 3) := by decide +kernel
theorem d_Md_goOn_109 : decode b_Md_goOn 109 = .ok (.iconst 0, 1) := by decide +kernel
theorem d_Md_goOn_110 : decode b_Md_goOn 110 = .ok (.istore_n 2, 1) := by decide +kernel
theorem d_Md_goOn_111 : decode b_Md_goOn 111 = .ok (.iload_n 2, 1) := by decide +kernel
theorem d_Md_goOn_112 : decode b_Md_goOn 112 = .ok (.sipush 4096, 3) := by decide +kernel
theorem d_Md_goOn_115 : decode b_Md_goOn 115 = .ok (.if_icmp .ge 21, 3) := by decide +kernel
theorem d_Md_goOn_118 : decode b_Md_goOn 118 = .ok (.aload_n 0, 1) := by decide +kernel
theorem d_Md_goOn_119 : decode b_Md_goOn 119 = .ok (.getfield 85, 3) := by decide +kernel
theorem d_Md_goOn_122 : decode b_Md_goOn 122 = .ok (.iload_n 2, 1) := by decide +kernel
theorem d_Md_goOn_123 : decode b_Md_goOn 123 = .ok (.aload_n 0, 1) := by decide +kernel
theorem d_Md_goOn_124 : decode b_Md_goOn 124 = .ok (.getfield 88, 3) := by decide +kernel
theorem d_Md_goOn_127 : decode b_Md_goOn 127 = .ok (.iload_n 2, 1) := by decide +kernel
theorem d_Md_goOn_128 : decode b_Md_goOn 128 = .ok (.baload, 1) := by decide +kernel
theorem d_Md_goOn_129 : decode b_Md_goOn 129 = .ok (.bastore, 1) := by decide +kernel
theorem d_Md_goOn_130 : decode b_Md_goOn 130 = .ok (.iinc 2 1, 3) := by decide +kernel
theorem d_Md_goOn_133 : decode b_Md_goOn 133 = .ok (.goto (-22), 3) := by decide +kernel
theorem d_Md_goOn_136 : decode b_Md_goOn 136 = .ok (.return_, 1) := by decide +kernel
set_option maxHeartbeats 4000000 in
set_option maxRecDepth 100000 in
theorem c_Md_goOn (l : Launch) (dC : Nat → ClassId) (dI : Nat → Nat → Nat) (cI cB cZ : ClassId) (adK adV : Nat → Nat) (sz : Nat) (a_md a_md_tape a_md_acts a_md_actNumbers a_md_actCounts a_md_pile a_md_begins a_md_goals a_md_ranks a_md_choiceCounts a_md_whens a_md_becomes a_md_guessCounts a_md_guesses a_md_unaryCounts a_md_stack a_md_nexts a_md_isBegin a_md_isGoal a_md_levels a_md_queue a_md_hasGuesses a_md_rounds a_md_marked a_md_other a_md_heights : Nat) (md_size : Int32) (md_at : Int32) (md_token : Int32) (md_tokenPlace : Int32) (md_number : Int32) (md_sign : Int32) (md_bad : Int32) (md_faultPlace : Int32) (md_place : Int32) (md_bank : Int32) (md_unaries : Int32) (md_opens : Int32) (md_piled : Int32) (md_loop : Int32) (md_keptBits : Int32) (md_nexts : Nat → Int32) (md_isGoal : Nat → Int32) (md_hasGuesses : Nat → Int32) (md_marked : Nat → Int32) (md_other : Nat → Int32) (x1 : Int32) (post : (Nat → Int32) → (Nat → Int32) → Prop) (h : wp_Md_goOn x1 md_nexts md_isGoal md_hasGuesses md_marked md_other post) : Met l y_Md_goOn w_Md_goOn ({ frames := 0, cells := 0, slots := 0, locals := 0 }) (pc_ (dC, dI) [(cI, .int), (cB, .byte), (cZ, .boolean)] [(a_md, .inr (11, [.ref a_md_tape, .int md_size, .int md_at, .int md_token, .int md_tokenPlace, .int md_number, .int md_sign, .int md_bad, .int md_faultPlace, .int md_place, .ref a_md_acts, .ref a_md_actNumbers, .ref a_md_actCounts, .int md_bank, .int md_unaries, .int md_opens, .ref a_md_pile, .int md_piled, .int md_loop, .ref a_md_begins, .ref a_md_goals, .ref a_md_ranks, .ref a_md_choiceCounts, .ref a_md_whens, .ref a_md_becomes, .ref a_md_guessCounts, .ref a_md_guesses, .ref a_md_unaryCounts, .ref a_md_stack, .ref a_md_nexts, .ref a_md_isBegin, .ref a_md_isGoal, .ref a_md_levels, .ref a_md_queue, .ref a_md_hasGuesses, .int md_keptBits, .ref a_md_rounds, .ref a_md_marked, .ref a_md_other, .ref a_md_heights])), (a_md_nexts, .inl (cI, 24576, .inl md_nexts)), (a_md_isGoal, .inl (cZ, 4096, .inl md_isGoal)), (a_md_hasGuesses, .inl (cI, 4096, .inl md_hasGuesses)), (a_md_marked, .inl (cZ, 4096, .inl md_marked)), (a_md_other, .inl (cZ, 4096, .inl md_other))] sz adK adV [.ref a_md, .int x1]) (va_Qv (fun (u : (Nat → Int32) × (Nat → Int32)) => post u.1 u.2) (fun (u : (Nat → Int32) × (Nat → Int32)) t => bw_ (dC, dI) [(cI, .int), (cB, .byte), (cZ, .boolean)] (va_A [(a_md, .inr (11, [.ref a_md_tape, .int md_size, .int md_at, .int md_token, .int md_tokenPlace, .int md_number, .int md_sign, .int md_bad, .int md_faultPlace, .int md_place, .ref a_md_acts, .ref a_md_actNumbers, .ref a_md_actCounts, .int md_bank, .int md_unaries, .int md_opens, .ref a_md_pile, .int md_piled, .int md_loop, .ref a_md_begins, .ref a_md_goals, .ref a_md_ranks, .ref a_md_choiceCounts, .ref a_md_whens, .ref a_md_becomes, .ref a_md_guessCounts, .ref a_md_guesses, .ref a_md_unaryCounts, .ref a_md_stack, .ref a_md_nexts, .ref a_md_isBegin, .ref a_md_isGoal, .ref a_md_levels, .ref a_md_queue, .ref a_md_hasGuesses, .int md_keptBits, .ref a_md_rounds, .ref a_md_marked, .ref a_md_other, .ref a_md_heights])), (a_md_nexts, .inl (cI, 24576, .inl md_nexts)), (a_md_isGoal, .inl (cZ, 4096, .inl md_isGoal)), (a_md_hasGuesses, .inl (cI, 4096, .inl md_hasGuesses)), (a_md_marked, .inl (cZ, 4096, .inl md_marked)), (a_md_other, .inl (cZ, 4096, .inl md_other))] sz) [(a_md, .inr (11, [.ref a_md_tape, .int md_size, .int md_at, .int md_token, .int md_tokenPlace, .int md_number, .int md_sign, .int md_bad, .int md_faultPlace, .int md_place, .ref a_md_acts, .ref a_md_actNumbers, .ref a_md_actCounts, .int md_bank, .int md_unaries, .int md_opens, .ref a_md_pile, .int md_piled, .int md_loop, .ref a_md_begins, .ref a_md_goals, .ref a_md_ranks, .ref a_md_choiceCounts, .ref a_md_whens, .ref a_md_becomes, .ref a_md_guessCounts, .ref a_md_guesses, .ref a_md_unaryCounts, .ref a_md_stack, .ref a_md_nexts, .ref a_md_isBegin, .ref a_md_isGoal, .ref a_md_levels, .ref a_md_queue, .ref a_md_hasGuesses, .int md_keptBits, .ref a_md_rounds, .ref a_md_marked, .ref a_md_other, .ref a_md_heights])), (a_md_nexts, .inl (cI, 24576, .inl md_nexts)), (a_md_isGoal, .inl (cZ, 4096, .inl md_isGoal)), (a_md_hasGuesses, .inl (cI, 4096, .inl md_hasGuesses)), (a_md_marked, .inl (cZ, 4096, .inl u.1)), (a_md_other, .inl (cZ, 4096, .inl u.2))] t) (va_A [(a_md, .inr (11, [.ref a_md_tape, .int md_size, .int md_at, .int md_token, .int md_tokenPlace, .int md_number, .int md_sign, .int md_bad, .int md_faultPlace, .int md_place, .ref a_md_acts, .ref a_md_actNumbers, .ref a_md_actCounts, .int md_bank, .int md_unaries, .int md_opens, .ref a_md_pile, .int md_piled, .int md_loop, .ref a_md_begins, .ref a_md_goals, .ref a_md_ranks, .ref a_md_choiceCounts, .ref a_md_whens, .ref a_md_becomes, .ref a_md_guessCounts, .ref a_md_guesses, .ref a_md_unaryCounts, .ref a_md_stack, .ref a_md_nexts, .ref a_md_isBegin, .ref a_md_isGoal, .ref a_md_levels, .ref a_md_queue, .ref a_md_hasGuesses, .int md_keptBits, .ref a_md_rounds, .ref a_md_marked, .ref a_md_other, .ref a_md_heights])), (a_md_nexts, .inl (cI, 24576, .inl md_nexts)), (a_md_isGoal, .inl (cZ, 4096, .inl md_isGoal)), (a_md_hasGuesses, .inl (cI, 4096, .inl md_hasGuesses)), (a_md_marked, .inl (cZ, 4096, .inl md_marked)), (a_md_other, .inl (cZ, 4096, .inl md_other))] sz)) 0 0 (va_A [(a_md, .inr (11, [.ref a_md_tape, .int md_size, .int md_at, .int md_token, .int md_tokenPlace, .int md_number, .int md_sign, .int md_bad, .int md_faultPlace, .int md_place, .ref a_md_acts, .ref a_md_actNumbers, .ref a_md_actCounts, .int md_bank, .int md_unaries, .int md_opens, .ref a_md_pile, .int md_piled, .int md_loop, .ref a_md_begins, .ref a_md_goals, .ref a_md_ranks, .ref a_md_choiceCounts, .ref a_md_whens, .ref a_md_becomes, .ref a_md_guessCounts, .ref a_md_guesses, .ref a_md_unaryCounts, .ref a_md_stack, .ref a_md_nexts, .ref a_md_isBegin, .ref a_md_isGoal, .ref a_md_levels, .ref a_md_queue, .ref a_md_hasGuesses, .int md_keptBits, .ref a_md_rounds, .ref a_md_marked, .ref a_md_other, .ref a_md_heights])), (a_md_nexts, .inl (cI, 24576, .inl md_nexts)), (a_md_isGoal, .inl (cZ, 4096, .inl md_isGoal)), (a_md_hasGuesses, .inl (cI, 4096, .inl md_hasGuesses)), (a_md_marked, .inl (cZ, 4096, .inl md_marked)), (a_md_other, .inl (cZ, 4096, .inl md_other))] sz) := by
  refine Met.ofW (cc := b_Md_goOn) (maxL := 5) (ret := none) (by decide) rfl ?_
  intro p e s m args below meth c s₁ B hml hv
  obtain ⟨rfl, hsz, hP, hK, hD0, hN, hT⟩ := hv
  have hx := B.exec
  have hb := B.bytes
  have hr := B.returns
  have hts := atoms_spec (ws := w_Md_goOn) B.pre
  have hown : s.vm.findClass "LoopInductionModel" = some m.cls := findClass_of_methodNamed B.named
  have hlocks := B.notSynchronized
  subst hsz
  have hD := hD0.self (sz := s.heap.size)
  generalize hAe : va_A [(a_md, .inr (11, [.ref a_md_tape, .int md_size, .int md_at, .int md_token, .int md_tokenPlace, .int md_number, .int md_sign, .int md_bad, .int md_faultPlace, .int md_place, .ref a_md_acts, .ref a_md_actNumbers, .ref a_md_actCounts, .int md_bank, .int md_unaries, .int md_opens, .ref a_md_pile, .int md_piled, .int md_loop, .ref a_md_begins, .ref a_md_goals, .ref a_md_ranks, .ref a_md_choiceCounts, .ref a_md_whens, .ref a_md_becomes, .ref a_md_guessCounts, .ref a_md_guesses, .ref a_md_unaryCounts, .ref a_md_stack, .ref a_md_nexts, .ref a_md_isBegin, .ref a_md_isGoal, .ref a_md_levels, .ref a_md_queue, .ref a_md_hasGuesses, .int md_keptBits, .ref a_md_rounds, .ref a_md_marked, .ref a_md_other, .ref a_md_heights])), (a_md_nexts, .inl (cI, 24576, .inl md_nexts)), (a_md_isGoal, .inl (cZ, 4096, .inl md_isGoal)), (a_md_hasGuesses, .inl (cI, 4096, .inl md_hasGuesses)), (a_md_marked, .inl (cZ, 4096, .inl md_marked)), (a_md_other, .inl (cZ, 4096, .inl md_other))] s.heap.size = A at hD hT ⊢
  have hA : ∀ q : Nat, s.heap.size ≤ q → A q := fun q h => by rw [← hAe]; exact Or.inr h
  have hS : va_S A s.heap s.heap [] := va_S.rf
  generalize hQ : MQ below _ _ s 0 0 _ = QQ
  have hl := lv_entry ([.ref a_md, .int x1]) (n := 5) (Nat.le_of_ble_eq_true rfl)
  rw [lg_entry_eq]
  generalize (lg_sl ([.ref a_md, .int x1]) ++ List.replicate (5 - (lg_sl ([.ref a_md, .int x1])).length) Slot.unset).toArray = ls at hl ⊢
  have hl : lv_has ls 5 [(0, .ref a_md), (1, .int x1)] := hl
  have fl_63 := (hts _ (List.mem_cons_of_mem _ m_1119))
  have fl_70 := (hts _ (List.mem_cons_of_mem _ m_1121))
  have fl_79 := (hts _ (List.mem_cons_of_mem _ m_1124))
  have fl_85 := (hts _ (List.mem_cons_of_mem _ m_1127))
  have fl_88 := (hts _ (List.mem_cons_of_mem _ m_1128))
  refine lv_iconst (v := 0) hx hb d_Md_goOn_0 (by decide) ?_
  refine lv_istore_n (lv' := [(2, .int 0), (0, .ref a_md), (1, .int x1)]) hx hb d_Md_goOn_1 rfl hl (by decide) rfl (fun ls hl => ?_)
  have L2_q_3 : ∀ (k22 : (Nat → Int32) → Prop) (hk22 : ∀ (md_other_4 : Nat → Int32), k22 md_other_4 → ∀ (H : Heap) (locs : List Loc), va_P (dC, dI) vwCl [(a_md, .inr (11, [.ref a_md_tape, .int md_size, .int md_at, .int md_token, .int md_tokenPlace, .int md_number, .int md_sign, .int md_bad, .int md_faultPlace, .int md_place, .ref a_md_acts, .ref a_md_actNumbers, .ref a_md_actCounts, .int md_bank, .int md_unaries, .int md_opens, .ref a_md_pile, .int md_piled, .int md_loop, .ref a_md_begins, .ref a_md_goals, .ref a_md_ranks, .ref a_md_choiceCounts, .ref a_md_whens, .ref a_md_becomes, .ref a_md_guessCounts, .ref a_md_guesses, .ref a_md_unaryCounts, .ref a_md_stack, .ref a_md_nexts, .ref a_md_isBegin, .ref a_md_isGoal, .ref a_md_levels, .ref a_md_queue, .ref a_md_hasGuesses, .int md_keptBits, .ref a_md_rounds, .ref a_md_marked, .ref a_md_other, .ref a_md_heights])), (a_md_nexts, .inl (cI, 24576, .inl md_nexts)), (a_md_isGoal, .inl (cZ, 4096, .inl md_isGoal)), (a_md_hasGuesses, .inl (cI, 4096, .inl md_hasGuesses)), (a_md_marked, .inl (cZ, 4096, .inl md_marked)), (a_md_other, .inl (cZ, 4096, .inl md_other_4))] H → va_D A [(a_md, .inr (11, [.ref a_md_tape, .int md_size, .int md_at, .int md_token, .int md_tokenPlace, .int md_number, .int md_sign, .int md_bad, .int md_faultPlace, .int md_place, .ref a_md_acts, .ref a_md_actNumbers, .ref a_md_actCounts, .int md_bank, .int md_unaries, .int md_opens, .ref a_md_pile, .int md_piled, .int md_loop, .ref a_md_begins, .ref a_md_goals, .ref a_md_ranks, .ref a_md_choiceCounts, .ref a_md_whens, .ref a_md_becomes, .ref a_md_guessCounts, .ref a_md_guesses, .ref a_md_unaryCounts, .ref a_md_stack, .ref a_md_nexts, .ref a_md_isBegin, .ref a_md_isGoal, .ref a_md_levels, .ref a_md_queue, .ref a_md_hasGuesses, .int md_keptBits, .ref a_md_rounds, .ref a_md_marked, .ref a_md_other, .ref a_md_heights])), (a_md_nexts, .inl (cI, 24576, .inl md_nexts)), (a_md_isGoal, .inl (cZ, 4096, .inl md_isGoal)), (a_md_hasGuesses, .inl (cI, 4096, .inl md_hasGuesses)), (a_md_marked, .inl (cZ, 4096, .inl md_marked)), (a_md_other, .inl (cZ, 4096, .inl md_other_4))] → va_S A s.heap H locs → ∀ ls : Array Slot, lv_has ls 5 [(0, .ref a_md), (1, .int x1)] → W p l e (headSpec w_Md_goOn ({ frames := 0, cells := 0, slots := 0, locals := 0 })).room s m (([.ref a_md, .int x1] : List Value).toArray) below meth c H locs 0 0 QQ (F0 m 22 ls [])) (n : Nat) (x2_1 : Int32) (md_other_2 : Nat → Int32), wp_Md_goOn_L2 x1 k22 n x2_1 md_other_2 → ∀ (H : Heap) (locs : List Loc), va_P (dC, dI) vwCl [(a_md, .inr (11, [.ref a_md_tape, .int md_size, .int md_at, .int md_token, .int md_tokenPlace, .int md_number, .int md_sign, .int md_bad, .int md_faultPlace, .int md_place, .ref a_md_acts, .ref a_md_actNumbers, .ref a_md_actCounts, .int md_bank, .int md_unaries, .int md_opens, .ref a_md_pile, .int md_piled, .int md_loop, .ref a_md_begins, .ref a_md_goals, .ref a_md_ranks, .ref a_md_choiceCounts, .ref a_md_whens, .ref a_md_becomes, .ref a_md_guessCounts, .ref a_md_guesses, .ref a_md_unaryCounts, .ref a_md_stack, .ref a_md_nexts, .ref a_md_isBegin, .ref a_md_isGoal, .ref a_md_levels, .ref a_md_queue, .ref a_md_hasGuesses, .int md_keptBits, .ref a_md_rounds, .ref a_md_marked, .ref a_md_other, .ref a_md_heights])), (a_md_nexts, .inl (cI, 24576, .inl md_nexts)), (a_md_isGoal, .inl (cZ, 4096, .inl md_isGoal)), (a_md_hasGuesses, .inl (cI, 4096, .inl md_hasGuesses)), (a_md_marked, .inl (cZ, 4096, .inl md_marked)), (a_md_other, .inl (cZ, 4096, .inl md_other_2))] H → va_D A [(a_md, .inr (11, [.ref a_md_tape, .int md_size, .int md_at, .int md_token, .int md_tokenPlace, .int md_number, .int md_sign, .int md_bad, .int md_faultPlace, .int md_place, .ref a_md_acts, .ref a_md_actNumbers, .ref a_md_actCounts, .int md_bank, .int md_unaries, .int md_opens, .ref a_md_pile, .int md_piled, .int md_loop, .ref a_md_begins, .ref a_md_goals, .ref a_md_ranks, .ref a_md_choiceCounts, .ref a_md_whens, .ref a_md_becomes, .ref a_md_guessCounts, .ref a_md_guesses, .ref a_md_unaryCounts, .ref a_md_stack, .ref a_md_nexts, .ref a_md_isBegin, .ref a_md_isGoal, .ref a_md_levels, .ref a_md_queue, .ref a_md_hasGuesses, .int md_keptBits, .ref a_md_rounds, .ref a_md_marked, .ref a_md_other, .ref a_md_heights])), (a_md_nexts, .inl (cI, 24576, .inl md_nexts)), (a_md_isGoal, .inl (cZ, 4096, .inl md_isGoal)), (a_md_hasGuesses, .inl (cI, 4096, .inl md_hasGuesses)), (a_md_marked, .inl (cZ, 4096, .inl md_marked)), (a_md_other, .inl (cZ, 4096, .inl md_other_2))] → va_S A s.heap H locs → ∀ ls : Array Slot, lv_has ls 5 [(0, .ref a_md), (1, .int x1), (2, .int x2_1)] → W p l e (headSpec w_Md_goOn ({ frames := 0, cells := 0, slots := 0, locals := 0 })).room s m (([.ref a_md, .int x1] : List Value).toArray) below meth c H locs 0 0 QQ (F0 m 2 ls []) := by
    intro k22 hk22 n
    induction n with
    | zero => intro x2_1 md_other_2 h; exact (show False from h).elim
    | succ n il =>
      intro x2_1 md_other_2 h
      intro H locs hP hD hS ls hl
      refine lv_iload_n hx hb d_Md_goOn_2 rfl (lv_at hl 2 rfl) ?_
      refine lv_sipush (v := 4096) hx hb d_Md_goOn_3 (by decide) ?_
      refine lv_icmp_ge (tgt := 22) hx hb d_Md_goOn_6 (by decide) (fun c_6 => ?_) (fun c_6 => ?_)
      · have h := And.left h c_6
        exact hk22 _ h _ _ hP hD hS _ (lv_sub hl [0, 1] rfl)
      · have h := And.right h c_6
        refine lv_aload_n hx hb d_Md_goOn_9 rfl (lv_at hl 0 rfl) ?_
        refine va_get (D := (dC, dI)) (ci := 11) (v := .ref a_md_other) (C := "LoopInductionModel") (T := F_Md) (N := 40) hx hb hts iC_Md hown hK hP 0 rfl rfl 38 (by decide) fl_88 (fun _ h9 => h9) rfl d_Md_goOn_10 ?_
        refine lv_iload_n hx hb d_Md_goOn_13 rfl (lv_at hl 2 rfl) ?_
        refine lv_iconst (v := 0) hx hb d_Md_goOn_14 (by decide) ?_
        obtain ⟨hin_15, h⟩ := h
        refine va_zast hx hb hK hP hD hS 5 2 rfl rfl hin_15 d_Md_goOn_15 (fun H locs hP hD hS => ?_)
        have hP : va_P (dC, dI) vwCl [(a_md, .inr (11, [.ref a_md_tape, .int md_size, .int md_at, .int md_token, .int md_tokenPlace, .int md_number, .int md_sign, .int md_bad, .int md_faultPlace, .int md_place, .ref a_md_acts, .ref a_md_actNumbers, .ref a_md_actCounts, .int md_bank, .int md_unaries, .int md_opens, .ref a_md_pile, .int md_piled, .int md_loop, .ref a_md_begins, .ref a_md_goals, .ref a_md_ranks, .ref a_md_choiceCounts, .ref a_md_whens, .ref a_md_becomes, .ref a_md_guessCounts, .ref a_md_guesses, .ref a_md_unaryCounts, .ref a_md_stack, .ref a_md_nexts, .ref a_md_isBegin, .ref a_md_isGoal, .ref a_md_levels, .ref a_md_queue, .ref a_md_hasGuesses, .int md_keptBits, .ref a_md_rounds, .ref a_md_marked, .ref a_md_other, .ref a_md_heights])), (a_md_nexts, .inl (cI, 24576, .inl md_nexts)), (a_md_isGoal, .inl (cZ, 4096, .inl md_isGoal)), (a_md_hasGuesses, .inl (cI, 4096, .inl md_hasGuesses)), (a_md_marked, .inl (cZ, 4096, .inl md_marked)), (a_md_other, .inl (cZ, 4096, .inl (upd md_other_2 (x2_1 : Int32).toNatClampNeg (vp_nar .boolean 0))))] H := hP
        have hD : va_D A [(a_md, .inr (11, [.ref a_md_tape, .int md_size, .int md_at, .int md_token, .int md_tokenPlace, .int md_number, .int md_sign, .int md_bad, .int md_faultPlace, .int md_place, .ref a_md_acts, .ref a_md_actNumbers, .ref a_md_actCounts, .int md_bank, .int md_unaries, .int md_opens, .ref a_md_pile, .int md_piled, .int md_loop, .ref a_md_begins, .ref a_md_goals, .ref a_md_ranks, .ref a_md_choiceCounts, .ref a_md_whens, .ref a_md_becomes, .ref a_md_guessCounts, .ref a_md_guesses, .ref a_md_unaryCounts, .ref a_md_stack, .ref a_md_nexts, .ref a_md_isBegin, .ref a_md_isGoal, .ref a_md_levels, .ref a_md_queue, .ref a_md_hasGuesses, .int md_keptBits, .ref a_md_rounds, .ref a_md_marked, .ref a_md_other, .ref a_md_heights])), (a_md_nexts, .inl (cI, 24576, .inl md_nexts)), (a_md_isGoal, .inl (cZ, 4096, .inl md_isGoal)), (a_md_hasGuesses, .inl (cI, 4096, .inl md_hasGuesses)), (a_md_marked, .inl (cZ, 4096, .inl md_marked)), (a_md_other, .inl (cZ, 4096, .inl (upd md_other_2 (x2_1 : Int32).toNatClampNeg (vp_nar .boolean 0))))] := hD
        refine lv_iinc (v := x2_1 + 1) (lv' := [(2, .int (x2_1 + 1)), (0, .ref a_md), (1, .int x1)]) hx hb d_Md_goOn_16 hl (k := 2) rfl rfl (by decide) rfl (fun ls hl => ?_)
        refine lv_goto (tgt := 2) hx hb d_Md_goOn_19 (by decide) ?_
        exact il _ _ h _ _ hP hD hS _ (lv_sub hl [1, 2, 0] rfl)
  obtain ⟨n_, h⟩ := h
  refine L2_q_3 _ ?_ n_ _ _ h _ _ hP hD hS _ (lv_sub hl [1, 2, 0] rfl)
  intro md_other_5 h
  intro H locs hP hD hS ls hl
  refine lv_iconst (v := 0) hx hb d_Md_goOn_22 (by decide) ?_
  refine lv_istore_n (lv' := [(2, .int 0), (0, .ref a_md), (1, .int x1)]) hx hb d_Md_goOn_23 rfl hl (by decide) rfl (fun ls hl => ?_)
  have L24_q_8 : ∀ (k109 : (Nat → Int32) → Prop) (hk109 : ∀ (md_other_9 : Nat → Int32), k109 md_other_9 → ∀ (H : Heap) (locs : List Loc), va_P (dC, dI) vwCl [(a_md, .inr (11, [.ref a_md_tape, .int md_size, .int md_at, .int md_token, .int md_tokenPlace, .int md_number, .int md_sign, .int md_bad, .int md_faultPlace, .int md_place, .ref a_md_acts, .ref a_md_actNumbers, .ref a_md_actCounts, .int md_bank, .int md_unaries, .int md_opens, .ref a_md_pile, .int md_piled, .int md_loop, .ref a_md_begins, .ref a_md_goals, .ref a_md_ranks, .ref a_md_choiceCounts, .ref a_md_whens, .ref a_md_becomes, .ref a_md_guessCounts, .ref a_md_guesses, .ref a_md_unaryCounts, .ref a_md_stack, .ref a_md_nexts, .ref a_md_isBegin, .ref a_md_isGoal, .ref a_md_levels, .ref a_md_queue, .ref a_md_hasGuesses, .int md_keptBits, .ref a_md_rounds, .ref a_md_marked, .ref a_md_other, .ref a_md_heights])), (a_md_nexts, .inl (cI, 24576, .inl md_nexts)), (a_md_isGoal, .inl (cZ, 4096, .inl md_isGoal)), (a_md_hasGuesses, .inl (cI, 4096, .inl md_hasGuesses)), (a_md_marked, .inl (cZ, 4096, .inl md_marked)), (a_md_other, .inl (cZ, 4096, .inl md_other_9))] H → va_D A [(a_md, .inr (11, [.ref a_md_tape, .int md_size, .int md_at, .int md_token, .int md_tokenPlace, .int md_number, .int md_sign, .int md_bad, .int md_faultPlace, .int md_place, .ref a_md_acts, .ref a_md_actNumbers, .ref a_md_actCounts, .int md_bank, .int md_unaries, .int md_opens, .ref a_md_pile, .int md_piled, .int md_loop, .ref a_md_begins, .ref a_md_goals, .ref a_md_ranks, .ref a_md_choiceCounts, .ref a_md_whens, .ref a_md_becomes, .ref a_md_guessCounts, .ref a_md_guesses, .ref a_md_unaryCounts, .ref a_md_stack, .ref a_md_nexts, .ref a_md_isBegin, .ref a_md_isGoal, .ref a_md_levels, .ref a_md_queue, .ref a_md_hasGuesses, .int md_keptBits, .ref a_md_rounds, .ref a_md_marked, .ref a_md_other, .ref a_md_heights])), (a_md_nexts, .inl (cI, 24576, .inl md_nexts)), (a_md_isGoal, .inl (cZ, 4096, .inl md_isGoal)), (a_md_hasGuesses, .inl (cI, 4096, .inl md_hasGuesses)), (a_md_marked, .inl (cZ, 4096, .inl md_marked)), (a_md_other, .inl (cZ, 4096, .inl md_other_9))] → va_S A s.heap H locs → ∀ ls : Array Slot, lv_has ls 5 [(0, .ref a_md)] → W p l e (headSpec w_Md_goOn ({ frames := 0, cells := 0, slots := 0, locals := 0 })).room s m (([.ref a_md, .int x1] : List Value).toArray) below meth c H locs 0 0 QQ (F0 m 109 ls [])) (n : Nat) (x2_6 : Int32) (md_other_7 : Nat → Int32), wp_Md_goOn_L24 x1 md_nexts md_isGoal md_hasGuesses md_marked k109 n x2_6 md_other_7 → ∀ (H : Heap) (locs : List Loc), va_P (dC, dI) vwCl [(a_md, .inr (11, [.ref a_md_tape, .int md_size, .int md_at, .int md_token, .int md_tokenPlace, .int md_number, .int md_sign, .int md_bad, .int md_faultPlace, .int md_place, .ref a_md_acts, .ref a_md_actNumbers, .ref a_md_actCounts, .int md_bank, .int md_unaries, .int md_opens, .ref a_md_pile, .int md_piled, .int md_loop, .ref a_md_begins, .ref a_md_goals, .ref a_md_ranks, .ref a_md_choiceCounts, .ref a_md_whens, .ref a_md_becomes, .ref a_md_guessCounts, .ref a_md_guesses, .ref a_md_unaryCounts, .ref a_md_stack, .ref a_md_nexts, .ref a_md_isBegin, .ref a_md_isGoal, .ref a_md_levels, .ref a_md_queue, .ref a_md_hasGuesses, .int md_keptBits, .ref a_md_rounds, .ref a_md_marked, .ref a_md_other, .ref a_md_heights])), (a_md_nexts, .inl (cI, 24576, .inl md_nexts)), (a_md_isGoal, .inl (cZ, 4096, .inl md_isGoal)), (a_md_hasGuesses, .inl (cI, 4096, .inl md_hasGuesses)), (a_md_marked, .inl (cZ, 4096, .inl md_marked)), (a_md_other, .inl (cZ, 4096, .inl md_other_7))] H → va_D A [(a_md, .inr (11, [.ref a_md_tape, .int md_size, .int md_at, .int md_token, .int md_tokenPlace, .int md_number, .int md_sign, .int md_bad, .int md_faultPlace, .int md_place, .ref a_md_acts, .ref a_md_actNumbers, .ref a_md_actCounts, .int md_bank, .int md_unaries, .int md_opens, .ref a_md_pile, .int md_piled, .int md_loop, .ref a_md_begins, .ref a_md_goals, .ref a_md_ranks, .ref a_md_choiceCounts, .ref a_md_whens, .ref a_md_becomes, .ref a_md_guessCounts, .ref a_md_guesses, .ref a_md_unaryCounts, .ref a_md_stack, .ref a_md_nexts, .ref a_md_isBegin, .ref a_md_isGoal, .ref a_md_levels, .ref a_md_queue, .ref a_md_hasGuesses, .int md_keptBits, .ref a_md_rounds, .ref a_md_marked, .ref a_md_other, .ref a_md_heights])), (a_md_nexts, .inl (cI, 24576, .inl md_nexts)), (a_md_isGoal, .inl (cZ, 4096, .inl md_isGoal)), (a_md_hasGuesses, .inl (cI, 4096, .inl md_hasGuesses)), (a_md_marked, .inl (cZ, 4096, .inl md_marked)), (a_md_other, .inl (cZ, 4096, .inl md_other_7))] → va_S A s.heap H locs → ∀ ls : Array Slot, lv_has ls 5 [(0, .ref a_md), (1, .int x1), (2, .int x2_6)] → W p l e (headSpec w_Md_goOn ({ frames := 0, cells := 0, slots := 0, locals := 0 })).room s m (([.ref a_md, .int x1] : List Value).toArray) below meth c H locs 0 0 QQ (F0 m 24 ls []) := by
    intro k109 hk109 n
    induction n with
    | zero => intro x2_6 md_other_7 h; exact (show False from h).elim
    | succ n il =>
      intro x2_6 md_other_7 h
      intro H locs hP hD hS ls hl
      refine lv_iload_n hx hb d_Md_goOn_24 rfl (lv_at hl 2 rfl) ?_
      refine lv_sipush (v := 4096) hx hb d_Md_goOn_25 (by decide) ?_
      refine lv_icmp_ge (tgt := 109) hx hb d_Md_goOn_28 (by decide) (fun c_28 => ?_) (fun c_28 => ?_)
      · have h := And.left h c_28
        exact hk109 _ h _ _ hP hD hS _ (lv_sub hl [0] rfl)
      · have h := And.right h c_28
        refine lv_iconst (v := 0) hx hb d_Md_goOn_31 (by decide) ?_
        refine lv_istore_n (lv' := [(3, .int 0), (0, .ref a_md), (1, .int x1), (2, .int x2_6)]) hx hb d_Md_goOn_32 rfl hl (by decide) rfl (fun ls hl => ?_)
        have L33_q_12 : ∀ (k103 : (Nat → Int32) → Prop) (hk103 : ∀ (md_other_13 : Nat → Int32), k103 md_other_13 → ∀ (H : Heap) (locs : List Loc), va_P (dC, dI) vwCl [(a_md, .inr (11, [.ref a_md_tape, .int md_size, .int md_at, .int md_token, .int md_tokenPlace, .int md_number, .int md_sign, .int md_bad, .int md_faultPlace, .int md_place, .ref a_md_acts, .ref a_md_actNumbers, .ref a_md_actCounts, .int md_bank, .int md_unaries, .int md_opens, .ref a_md_pile, .int md_piled, .int md_loop, .ref a_md_begins, .ref a_md_goals, .ref a_md_ranks, .ref a_md_choiceCounts, .ref a_md_whens, .ref a_md_becomes, .ref a_md_guessCounts, .ref a_md_guesses, .ref a_md_unaryCounts, .ref a_md_stack, .ref a_md_nexts, .ref a_md_isBegin, .ref a_md_isGoal, .ref a_md_levels, .ref a_md_queue, .ref a_md_hasGuesses, .int md_keptBits, .ref a_md_rounds, .ref a_md_marked, .ref a_md_other, .ref a_md_heights])), (a_md_nexts, .inl (cI, 24576, .inl md_nexts)), (a_md_isGoal, .inl (cZ, 4096, .inl md_isGoal)), (a_md_hasGuesses, .inl (cI, 4096, .inl md_hasGuesses)), (a_md_marked, .inl (cZ, 4096, .inl md_marked)), (a_md_other, .inl (cZ, 4096, .inl md_other_13))] H → va_D A [(a_md, .inr (11, [.ref a_md_tape, .int md_size, .int md_at, .int md_token, .int md_tokenPlace, .int md_number, .int md_sign, .int md_bad, .int md_faultPlace, .int md_place, .ref a_md_acts, .ref a_md_actNumbers, .ref a_md_actCounts, .int md_bank, .int md_unaries, .int md_opens, .ref a_md_pile, .int md_piled, .int md_loop, .ref a_md_begins, .ref a_md_goals, .ref a_md_ranks, .ref a_md_choiceCounts, .ref a_md_whens, .ref a_md_becomes, .ref a_md_guessCounts, .ref a_md_guesses, .ref a_md_unaryCounts, .ref a_md_stack, .ref a_md_nexts, .ref a_md_isBegin, .ref a_md_isGoal, .ref a_md_levels, .ref a_md_queue, .ref a_md_hasGuesses, .int md_keptBits, .ref a_md_rounds, .ref a_md_marked, .ref a_md_other, .ref a_md_heights])), (a_md_nexts, .inl (cI, 24576, .inl md_nexts)), (a_md_isGoal, .inl (cZ, 4096, .inl md_isGoal)), (a_md_hasGuesses, .inl (cI, 4096, .inl md_hasGuesses)), (a_md_marked, .inl (cZ, 4096, .inl md_marked)), (a_md_other, .inl (cZ, 4096, .inl md_other_13))] → va_S A s.heap H locs → ∀ ls : Array Slot, lv_has ls 5 [(0, .ref a_md), (1, .int x1), (2, .int x2_6)] → W p l e (headSpec w_Md_goOn ({ frames := 0, cells := 0, slots := 0, locals := 0 })).room s m (([.ref a_md, .int x1] : List Value).toArray) below meth c H locs 0 0 QQ (F0 m 103 ls [])) (n : Nat) (x3_10 : Int32) (md_other_11 : Nat → Int32), wp_Md_goOn_L33 x1 x2_6 md_nexts md_isGoal md_hasGuesses md_marked k103 n x3_10 md_other_11 → ∀ (H : Heap) (locs : List Loc), va_P (dC, dI) vwCl [(a_md, .inr (11, [.ref a_md_tape, .int md_size, .int md_at, .int md_token, .int md_tokenPlace, .int md_number, .int md_sign, .int md_bad, .int md_faultPlace, .int md_place, .ref a_md_acts, .ref a_md_actNumbers, .ref a_md_actCounts, .int md_bank, .int md_unaries, .int md_opens, .ref a_md_pile, .int md_piled, .int md_loop, .ref a_md_begins, .ref a_md_goals, .ref a_md_ranks, .ref a_md_choiceCounts, .ref a_md_whens, .ref a_md_becomes, .ref a_md_guessCounts, .ref a_md_guesses, .ref a_md_unaryCounts, .ref a_md_stack, .ref a_md_nexts, .ref a_md_isBegin, .ref a_md_isGoal, .ref a_md_levels, .ref a_md_queue, .ref a_md_hasGuesses, .int md_keptBits, .ref a_md_rounds, .ref a_md_marked, .ref a_md_other, .ref a_md_heights])), (a_md_nexts, .inl (cI, 24576, .inl md_nexts)), (a_md_isGoal, .inl (cZ, 4096, .inl md_isGoal)), (a_md_hasGuesses, .inl (cI, 4096, .inl md_hasGuesses)), (a_md_marked, .inl (cZ, 4096, .inl md_marked)), (a_md_other, .inl (cZ, 4096, .inl md_other_11))] H → va_D A [(a_md, .inr (11, [.ref a_md_tape, .int md_size, .int md_at, .int md_token, .int md_tokenPlace, .int md_number, .int md_sign, .int md_bad, .int md_faultPlace, .int md_place, .ref a_md_acts, .ref a_md_actNumbers, .ref a_md_actCounts, .int md_bank, .int md_unaries, .int md_opens, .ref a_md_pile, .int md_piled, .int md_loop, .ref a_md_begins, .ref a_md_goals, .ref a_md_ranks, .ref a_md_choiceCounts, .ref a_md_whens, .ref a_md_becomes, .ref a_md_guessCounts, .ref a_md_guesses, .ref a_md_unaryCounts, .ref a_md_stack, .ref a_md_nexts, .ref a_md_isBegin, .ref a_md_isGoal, .ref a_md_levels, .ref a_md_queue, .ref a_md_hasGuesses, .int md_keptBits, .ref a_md_rounds, .ref a_md_marked, .ref a_md_other, .ref a_md_heights])), (a_md_nexts, .inl (cI, 24576, .inl md_nexts)), (a_md_isGoal, .inl (cZ, 4096, .inl md_isGoal)), (a_md_hasGuesses, .inl (cI, 4096, .inl md_hasGuesses)), (a_md_marked, .inl (cZ, 4096, .inl md_marked)), (a_md_other, .inl (cZ, 4096, .inl md_other_11))] → va_S A s.heap H locs → ∀ ls : Array Slot, lv_has ls 5 [(0, .ref a_md), (1, .int x1), (2, .int x2_6), (3, .int x3_10)] → W p l e (headSpec w_Md_goOn ({ frames := 0, cells := 0, slots := 0, locals := 0 })).room s m (([.ref a_md, .int x1] : List Value).toArray) below meth c H locs 0 0 QQ (F0 m 33 ls []) := by
          intro k103 hk103 n
          induction n with
          | zero => intro x3_10 md_other_11 h; exact (show False from h).elim
          | succ n il =>
            intro x3_10 md_other_11 h
            intro H locs hP hD hS ls hl
            refine lv_iload_n hx hb d_Md_goOn_33 rfl (lv_at hl 3 rfl) ?_
            refine lv_bipush (v := 6) hx hb d_Md_goOn_34 (by decide) ?_
            refine lv_icmp_ge (tgt := 103) hx hb d_Md_goOn_36 (by decide) (fun c_36 => ?_) (fun c_36 => ?_)
            · have h := And.left h c_36
              exact hk103 _ h _ _ hP hD hS _ (lv_sub hl [0, 1, 2] rfl)
            · have h := And.right h c_36
              refine lv_aload_n hx hb d_Md_goOn_39 rfl (lv_at hl 0 rfl) ?_
              refine va_get (D := (dC, dI)) (ci := 11) (v := .ref a_md_marked) (C := "LoopInductionModel") (T := F_Md) (N := 40) hx hb hts iC_Md hown hK hP 0 rfl rfl 37 (by decide) fl_85 (fun _ h9 => h9) rfl d_Md_goOn_40 ?_
              refine lv_iload_n hx hb d_Md_goOn_43 rfl (lv_at hl 2 rfl) ?_
              obtain ⟨hin_44, h⟩ := h
              refine va_zald hx hb hK hP 4 2 rfl rfl hin_44 d_Md_goOn_44 ?_
              refine lv_if_eq (tgt := 103) hx hb d_Md_goOn_45 (by decide) (fun c_45 => ?_) (fun c_45 => ?_)
              · have h := And.left h c_45
                exact hk103 _ h _ _ hP hD hS _ (lv_sub hl [0, 1, 2] rfl)
              · have h := And.right h c_45
                refine lv_aload_n hx hb d_Md_goOn_48 rfl (lv_at hl 0 rfl) ?_
                refine va_get (D := (dC, dI)) (ci := 11) (v := .ref a_md_nexts) (C := "LoopInductionModel") (T := F_Md) (N := 40) hx hb hts iC_Md hown hK hP 0 rfl rfl 29 (by decide) fl_63 (fun _ h9 => h9) rfl d_Md_goOn_49 ?_
                refine lv_bipush (v := 6) hx hb d_Md_goOn_52 (by decide) ?_
                refine lv_iload_n hx hb d_Md_goOn_54 rfl (lv_at hl 2 rfl) ?_
                refine lv_imul hx hb d_Md_goOn_55 ?_
                refine lv_iload_n hx hb d_Md_goOn_56 rfl (lv_at hl 3 rfl) ?_
                refine lv_iadd hx hb d_Md_goOn_57 ?_
                obtain ⟨hin_58, h⟩ := h
                refine va_iald hx hb hK hP 1 0 rfl rfl hin_58 d_Md_goOn_58 ?_
                refine lv_topi (fun x4_14 ex4_14 => ?_)
                have h := h x4_14 ex4_14
                refine lv_istore (lv' := [(4, .int x4_14), (0, .ref a_md), (1, .int x1), (2, .int x2_6), (3, .int x3_10)]) hx hb d_Md_goOn_59 hl (by decide) rfl (fun ls hl => ?_)
                refine lv_iload hx hb d_Md_goOn_61 (lv_at hl 0 rfl) ?_
                refine lv_if_lt (tgt := 97) hx hb d_Md_goOn_63 (by decide) (fun c_63 => ?_) (fun c_63 => ?_)
                · have h := And.left h c_63
                  refine lv_iinc (v := x3_10 + 1) (lv' := [(3, .int (x3_10 + 1)), (4, .int x4_14), (0, .ref a_md), (1, .int x1), (2, .int x2_6)]) hx hb d_Md_goOn_97 hl (k := 4) rfl rfl (by decide) rfl (fun ls hl => ?_)
                  refine lv_goto (tgt := 33) hx hb d_Md_goOn_100 (by decide) ?_
                  exact il _ _ h _ _ hP hD hS _ (lv_sub hl [2, 3, 4, 0] rfl)
                · have h := And.right h c_63
                  refine lv_aload_n hx hb d_Md_goOn_66 rfl (lv_at hl 1 rfl) ?_
                  refine va_get (D := (dC, dI)) (ci := 11) (v := .ref a_md_isGoal) (C := "LoopInductionModel") (T := F_Md) (N := 40) hx hb hts iC_Md hown hK hP 0 rfl rfl 31 (by decide) fl_70 (fun _ h9 => h9) rfl d_Md_goOn_67 ?_
                  refine lv_iload hx hb d_Md_goOn_70 (lv_at hl 0 rfl) ?_
                  obtain ⟨hin_72, h⟩ := h
                  refine va_zald hx hb hK hP 2 2 rfl rfl hin_72 d_Md_goOn_72 ?_
                  refine lv_if_eq (tgt := 97) hx hb d_Md_goOn_73 (by decide) (fun c_73 => ?_) (fun c_73 => ?_)
                  · have h := And.left h c_73
                    refine lv_iinc (v := x3_10 + 1) (lv' := [(3, .int (x3_10 + 1)), (4, .int x4_14), (0, .ref a_md), (1, .int x1), (2, .int x2_6)]) hx hb d_Md_goOn_97 hl (k := 4) rfl rfl (by decide) rfl (fun ls hl => ?_)
                    refine lv_goto (tgt := 33) hx hb d_Md_goOn_100 (by decide) ?_
                    exact il _ _ h _ _ hP hD hS _ (lv_sub hl [2, 3, 4, 0] rfl)
                  · have h := And.right h c_73
                    refine lv_aload_n hx hb d_Md_goOn_76 rfl (lv_at hl 1 rfl) ?_
                    refine va_get (D := (dC, dI)) (ci := 11) (v := .ref a_md_hasGuesses) (C := "LoopInductionModel") (T := F_Md) (N := 40) hx hb hts iC_Md hown hK hP 0 rfl rfl 34 (by decide) fl_79 (fun _ h9 => h9) rfl d_Md_goOn_77 ?_
                    refine lv_iload hx hb d_Md_goOn_80 (lv_at hl 0 rfl) ?_
                    obtain ⟨hin_82, h⟩ := h
                    refine va_iald hx hb hK hP 3 0 rfl rfl hin_82 d_Md_goOn_82 ?_
                    refine lv_iload_n hx hb d_Md_goOn_83 rfl (lv_at hl 2 rfl) ?_
                    refine lv_iand hx hb d_Md_goOn_84 ?_
                    refine lv_iload_n hx hb d_Md_goOn_85 rfl (lv_at hl 2 rfl) ?_
                    refine lv_icmp_ne (tgt := 97) hx hb d_Md_goOn_86 (by decide) (fun c_86 => ?_) (fun c_86 => ?_)
                    · have h := And.left h c_86
                      refine lv_iinc (v := x3_10 + 1) (lv' := [(3, .int (x3_10 + 1)), (4, .int x4_14), (0, .ref a_md), (1, .int x1), (2, .int x2_6)]) hx hb d_Md_goOn_97 hl (k := 4) rfl rfl (by decide) rfl (fun ls hl => ?_)
                      refine lv_goto (tgt := 33) hx hb d_Md_goOn_100 (by decide) ?_
                      exact il _ _ h _ _ hP hD hS _ (lv_sub hl [2, 3, 4, 0] rfl)
                    · have h := And.right h c_86
                      refine lv_aload_n hx hb d_Md_goOn_89 rfl (lv_at hl 1 rfl) ?_
                      refine va_get (D := (dC, dI)) (ci := 11) (v := .ref a_md_other) (C := "LoopInductionModel") (T := F_Md) (N := 40) hx hb hts iC_Md hown hK hP 0 rfl rfl 38 (by decide) fl_88 (fun _ h9 => h9) rfl d_Md_goOn_90 ?_
                      refine lv_iload hx hb d_Md_goOn_93 (lv_at hl 0 rfl) ?_
                      refine lv_iconst (v := 1) hx hb d_Md_goOn_95 (by decide) ?_
                      obtain ⟨hin_96, h⟩ := h
                      refine va_zast hx hb hK hP hD hS 5 2 rfl rfl hin_96 d_Md_goOn_96 (fun H locs hP hD hS => ?_)
                      have hP : va_P (dC, dI) vwCl [(a_md, .inr (11, [.ref a_md_tape, .int md_size, .int md_at, .int md_token, .int md_tokenPlace, .int md_number, .int md_sign, .int md_bad, .int md_faultPlace, .int md_place, .ref a_md_acts, .ref a_md_actNumbers, .ref a_md_actCounts, .int md_bank, .int md_unaries, .int md_opens, .ref a_md_pile, .int md_piled, .int md_loop, .ref a_md_begins, .ref a_md_goals, .ref a_md_ranks, .ref a_md_choiceCounts, .ref a_md_whens, .ref a_md_becomes, .ref a_md_guessCounts, .ref a_md_guesses, .ref a_md_unaryCounts, .ref a_md_stack, .ref a_md_nexts, .ref a_md_isBegin, .ref a_md_isGoal, .ref a_md_levels, .ref a_md_queue, .ref a_md_hasGuesses, .int md_keptBits, .ref a_md_rounds, .ref a_md_marked, .ref a_md_other, .ref a_md_heights])), (a_md_nexts, .inl (cI, 24576, .inl md_nexts)), (a_md_isGoal, .inl (cZ, 4096, .inl md_isGoal)), (a_md_hasGuesses, .inl (cI, 4096, .inl md_hasGuesses)), (a_md_marked, .inl (cZ, 4096, .inl md_marked)), (a_md_other, .inl (cZ, 4096, .inl (upd md_other_11 (x4_14 : Int32).toNatClampNeg (vp_nar .boolean 1))))] H := hP
                      have hD : va_D A [(a_md, .inr (11, [.ref a_md_tape, .int md_size, .int md_at, .int md_token, .int md_tokenPlace, .int md_number, .int md_sign, .int md_bad, .int md_faultPlace, .int md_place, .ref a_md_acts, .ref a_md_actNumbers, .ref a_md_actCounts, .int md_bank, .int md_unaries, .int md_opens, .ref a_md_pile, .int md_piled, .int md_loop, .ref a_md_begins, .ref a_md_goals, .ref a_md_ranks, .ref a_md_choiceCounts, .ref a_md_whens, .ref a_md_becomes, .ref a_md_guessCounts, .ref a_md_guesses, .ref a_md_unaryCounts, .ref a_md_stack, .ref a_md_nexts, .ref a_md_isBegin, .ref a_md_isGoal, .ref a_md_levels, .ref a_md_queue, .ref a_md_hasGuesses, .int md_keptBits, .ref a_md_rounds, .ref a_md_marked, .ref a_md_other, .ref a_md_heights])), (a_md_nexts, .inl (cI, 24576, .inl md_nexts)), (a_md_isGoal, .inl (cZ, 4096, .inl md_isGoal)), (a_md_hasGuesses, .inl (cI, 4096, .inl md_hasGuesses)), (a_md_marked, .inl (cZ, 4096, .inl md_marked)), (a_md_other, .inl (cZ, 4096, .inl (upd md_other_11 (x4_14 : Int32).toNatClampNeg (vp_nar .boolean 1))))] := hD
                      refine lv_iinc (v := x3_10 + 1) (lv' := [(3, .int (x3_10 + 1)), (4, .int x4_14), (0, .ref a_md), (1, .int x1), (2, .int x2_6)]) hx hb d_Md_goOn_97 hl (k := 4) rfl rfl (by decide) rfl (fun ls hl => ?_)
                      refine lv_goto (tgt := 33) hx hb d_Md_goOn_100 (by decide) ?_
                      exact il _ _ h _ _ hP hD hS _ (lv_sub hl [2, 3, 4, 0] rfl)
        obtain ⟨n_, h⟩ := h
        refine L33_q_12 _ ?_ n_ _ _ h _ _ hP hD hS _ (lv_sub hl [1, 2, 3, 0] rfl)
        intro md_other_15 h
        intro H locs hP hD hS ls hl
        refine lv_iinc (v := x2_6 + 1) (lv' := [(2, .int (x2_6 + 1)), (0, .ref a_md), (1, .int x1)]) hx hb d_Md_goOn_103 hl (k := 2) rfl rfl (by decide) rfl (fun ls hl => ?_)
        refine lv_goto (tgt := 24) hx hb d_Md_goOn_106 (by decide) ?_
        exact il _ _ h _ _ hP hD hS _ (lv_sub hl [1, 2, 0] rfl)
  obtain ⟨n_, h⟩ := h
  refine L24_q_8 _ ?_ n_ _ _ h _ _ hP hD hS _ (lv_sub hl [1, 2, 0] rfl)
  intro md_other_16 h
  intro H locs hP hD hS ls hl
  refine lv_iconst (v := 0) hx hb d_Md_goOn_109 (by decide) ?_
  refine lv_istore_n (lv' := [(2, .int 0), (0, .ref a_md)]) hx hb d_Md_goOn_110 rfl hl (by decide) rfl (fun ls hl => ?_)
  have L111_q_19 : ∀ (k136 : (Nat → Int32) → Prop) (hk136 : ∀ (md_marked_20 : Nat → Int32), k136 md_marked_20 → ∀ (H : Heap) (locs : List Loc), va_P (dC, dI) vwCl [(a_md, .inr (11, [.ref a_md_tape, .int md_size, .int md_at, .int md_token, .int md_tokenPlace, .int md_number, .int md_sign, .int md_bad, .int md_faultPlace, .int md_place, .ref a_md_acts, .ref a_md_actNumbers, .ref a_md_actCounts, .int md_bank, .int md_unaries, .int md_opens, .ref a_md_pile, .int md_piled, .int md_loop, .ref a_md_begins, .ref a_md_goals, .ref a_md_ranks, .ref a_md_choiceCounts, .ref a_md_whens, .ref a_md_becomes, .ref a_md_guessCounts, .ref a_md_guesses, .ref a_md_unaryCounts, .ref a_md_stack, .ref a_md_nexts, .ref a_md_isBegin, .ref a_md_isGoal, .ref a_md_levels, .ref a_md_queue, .ref a_md_hasGuesses, .int md_keptBits, .ref a_md_rounds, .ref a_md_marked, .ref a_md_other, .ref a_md_heights])), (a_md_nexts, .inl (cI, 24576, .inl md_nexts)), (a_md_isGoal, .inl (cZ, 4096, .inl md_isGoal)), (a_md_hasGuesses, .inl (cI, 4096, .inl md_hasGuesses)), (a_md_marked, .inl (cZ, 4096, .inl md_marked_20)), (a_md_other, .inl (cZ, 4096, .inl md_other_16))] H → va_D A [(a_md, .inr (11, [.ref a_md_tape, .int md_size, .int md_at, .int md_token, .int md_tokenPlace, .int md_number, .int md_sign, .int md_bad, .int md_faultPlace, .int md_place, .ref a_md_acts, .ref a_md_actNumbers, .ref a_md_actCounts, .int md_bank, .int md_unaries, .int md_opens, .ref a_md_pile, .int md_piled, .int md_loop, .ref a_md_begins, .ref a_md_goals, .ref a_md_ranks, .ref a_md_choiceCounts, .ref a_md_whens, .ref a_md_becomes, .ref a_md_guessCounts, .ref a_md_guesses, .ref a_md_unaryCounts, .ref a_md_stack, .ref a_md_nexts, .ref a_md_isBegin, .ref a_md_isGoal, .ref a_md_levels, .ref a_md_queue, .ref a_md_hasGuesses, .int md_keptBits, .ref a_md_rounds, .ref a_md_marked, .ref a_md_other, .ref a_md_heights])), (a_md_nexts, .inl (cI, 24576, .inl md_nexts)), (a_md_isGoal, .inl (cZ, 4096, .inl md_isGoal)), (a_md_hasGuesses, .inl (cI, 4096, .inl md_hasGuesses)), (a_md_marked, .inl (cZ, 4096, .inl md_marked_20)), (a_md_other, .inl (cZ, 4096, .inl md_other_16))] → va_S A s.heap H locs → ∀ ls : Array Slot, lv_has ls 5 [] → W p l e (headSpec w_Md_goOn ({ frames := 0, cells := 0, slots := 0, locals := 0 })).room s m (([.ref a_md, .int x1] : List Value).toArray) below meth c H locs 0 0 QQ (F0 m 136 ls [])) (n : Nat) (x2_17 : Int32) (md_marked_18 : Nat → Int32), wp_Md_goOn_L111 md_other_16 k136 n x2_17 md_marked_18 → ∀ (H : Heap) (locs : List Loc), va_P (dC, dI) vwCl [(a_md, .inr (11, [.ref a_md_tape, .int md_size, .int md_at, .int md_token, .int md_tokenPlace, .int md_number, .int md_sign, .int md_bad, .int md_faultPlace, .int md_place, .ref a_md_acts, .ref a_md_actNumbers, .ref a_md_actCounts, .int md_bank, .int md_unaries, .int md_opens, .ref a_md_pile, .int md_piled, .int md_loop, .ref a_md_begins, .ref a_md_goals, .ref a_md_ranks, .ref a_md_choiceCounts, .ref a_md_whens, .ref a_md_becomes, .ref a_md_guessCounts, .ref a_md_guesses, .ref a_md_unaryCounts, .ref a_md_stack, .ref a_md_nexts, .ref a_md_isBegin, .ref a_md_isGoal, .ref a_md_levels, .ref a_md_queue, .ref a_md_hasGuesses, .int md_keptBits, .ref a_md_rounds, .ref a_md_marked, .ref a_md_other, .ref a_md_heights])), (a_md_nexts, .inl (cI, 24576, .inl md_nexts)), (a_md_isGoal, .inl (cZ, 4096, .inl md_isGoal)), (a_md_hasGuesses, .inl (cI, 4096, .inl md_hasGuesses)), (a_md_marked, .inl (cZ, 4096, .inl md_marked_18)), (a_md_other, .inl (cZ, 4096, .inl md_other_16))] H → va_D A [(a_md, .inr (11, [.ref a_md_tape, .int md_size, .int md_at, .int md_token, .int md_tokenPlace, .int md_number, .int md_sign, .int md_bad, .int md_faultPlace, .int md_place, .ref a_md_acts, .ref a_md_actNumbers, .ref a_md_actCounts, .int md_bank, .int md_unaries, .int md_opens, .ref a_md_pile, .int md_piled, .int md_loop, .ref a_md_begins, .ref a_md_goals, .ref a_md_ranks, .ref a_md_choiceCounts, .ref a_md_whens, .ref a_md_becomes, .ref a_md_guessCounts, .ref a_md_guesses, .ref a_md_unaryCounts, .ref a_md_stack, .ref a_md_nexts, .ref a_md_isBegin, .ref a_md_isGoal, .ref a_md_levels, .ref a_md_queue, .ref a_md_hasGuesses, .int md_keptBits, .ref a_md_rounds, .ref a_md_marked, .ref a_md_other, .ref a_md_heights])), (a_md_nexts, .inl (cI, 24576, .inl md_nexts)), (a_md_isGoal, .inl (cZ, 4096, .inl md_isGoal)), (a_md_hasGuesses, .inl (cI, 4096, .inl md_hasGuesses)), (a_md_marked, .inl (cZ, 4096, .inl md_marked_18)), (a_md_other, .inl (cZ, 4096, .inl md_other_16))] → va_S A s.heap H locs → ∀ ls : Array Slot, lv_has ls 5 [(0, .ref a_md), (2, .int x2_17)] → W p l e (headSpec w_Md_goOn ({ frames := 0, cells := 0, slots := 0, locals := 0 })).room s m (([.ref a_md, .int x1] : List Value).toArray) below meth c H locs 0 0 QQ (F0 m 111 ls []) := by
    intro k136 hk136 n
    induction n with
    | zero => intro x2_17 md_marked_18 h; exact (show False from h).elim
    | succ n il =>
      intro x2_17 md_marked_18 h
      intro H locs hP hD hS ls hl
      refine lv_iload_n hx hb d_Md_goOn_111 rfl (lv_at hl 1 rfl) ?_
      refine lv_sipush (v := 4096) hx hb d_Md_goOn_112 (by decide) ?_
      refine lv_icmp_ge (tgt := 136) hx hb d_Md_goOn_115 (by decide) (fun c_115 => ?_) (fun c_115 => ?_)
      · have h := And.left h c_115
        exact hk136 _ h _ _ hP hD hS _ (lv_sub hl [] rfl)
      · have h := And.right h c_115
        refine lv_aload_n hx hb d_Md_goOn_118 rfl (lv_at hl 0 rfl) ?_
        refine va_get (D := (dC, dI)) (ci := 11) (v := .ref a_md_marked) (C := "LoopInductionModel") (T := F_Md) (N := 40) hx hb hts iC_Md hown hK hP 0 rfl rfl 37 (by decide) fl_85 (fun _ h9 => h9) rfl d_Md_goOn_119 ?_
        refine lv_iload_n hx hb d_Md_goOn_122 rfl (lv_at hl 1 rfl) ?_
        refine lv_aload_n hx hb d_Md_goOn_123 rfl (lv_at hl 0 rfl) ?_
        refine va_get (D := (dC, dI)) (ci := 11) (v := .ref a_md_other) (C := "LoopInductionModel") (T := F_Md) (N := 40) hx hb hts iC_Md hown hK hP 0 rfl rfl 38 (by decide) fl_88 (fun _ h9 => h9) rfl d_Md_goOn_124 ?_
        refine lv_iload_n hx hb d_Md_goOn_127 rfl (lv_at hl 1 rfl) ?_
        obtain ⟨hin_128, h⟩ := h
        refine va_zald hx hb hK hP 5 2 rfl rfl hin_128 d_Md_goOn_128 ?_
        obtain ⟨hin_129, h⟩ := h
        refine va_zast hx hb hK hP hD hS 4 2 rfl rfl hin_129 d_Md_goOn_129 (fun H locs hP hD hS => ?_)
        have hP : va_P (dC, dI) vwCl [(a_md, .inr (11, [.ref a_md_tape, .int md_size, .int md_at, .int md_token, .int md_tokenPlace, .int md_number, .int md_sign, .int md_bad, .int md_faultPlace, .int md_place, .ref a_md_acts, .ref a_md_actNumbers, .ref a_md_actCounts, .int md_bank, .int md_unaries, .int md_opens, .ref a_md_pile, .int md_piled, .int md_loop, .ref a_md_begins, .ref a_md_goals, .ref a_md_ranks, .ref a_md_choiceCounts, .ref a_md_whens, .ref a_md_becomes, .ref a_md_guessCounts, .ref a_md_guesses, .ref a_md_unaryCounts, .ref a_md_stack, .ref a_md_nexts, .ref a_md_isBegin, .ref a_md_isGoal, .ref a_md_levels, .ref a_md_queue, .ref a_md_hasGuesses, .int md_keptBits, .ref a_md_rounds, .ref a_md_marked, .ref a_md_other, .ref a_md_heights])), (a_md_nexts, .inl (cI, 24576, .inl md_nexts)), (a_md_isGoal, .inl (cZ, 4096, .inl md_isGoal)), (a_md_hasGuesses, .inl (cI, 4096, .inl md_hasGuesses)), (a_md_marked, .inl (cZ, 4096, .inl (upd md_marked_18 (x2_17 : Int32).toNatClampNeg (vp_nar .boolean (md_other_16 (x2_17 : Int32).toNatClampNeg))))), (a_md_other, .inl (cZ, 4096, .inl md_other_16))] H := hP
        have hD : va_D A [(a_md, .inr (11, [.ref a_md_tape, .int md_size, .int md_at, .int md_token, .int md_tokenPlace, .int md_number, .int md_sign, .int md_bad, .int md_faultPlace, .int md_place, .ref a_md_acts, .ref a_md_actNumbers, .ref a_md_actCounts, .int md_bank, .int md_unaries, .int md_opens, .ref a_md_pile, .int md_piled, .int md_loop, .ref a_md_begins, .ref a_md_goals, .ref a_md_ranks, .ref a_md_choiceCounts, .ref a_md_whens, .ref a_md_becomes, .ref a_md_guessCounts, .ref a_md_guesses, .ref a_md_unaryCounts, .ref a_md_stack, .ref a_md_nexts, .ref a_md_isBegin, .ref a_md_isGoal, .ref a_md_levels, .ref a_md_queue, .ref a_md_hasGuesses, .int md_keptBits, .ref a_md_rounds, .ref a_md_marked, .ref a_md_other, .ref a_md_heights])), (a_md_nexts, .inl (cI, 24576, .inl md_nexts)), (a_md_isGoal, .inl (cZ, 4096, .inl md_isGoal)), (a_md_hasGuesses, .inl (cI, 4096, .inl md_hasGuesses)), (a_md_marked, .inl (cZ, 4096, .inl (upd md_marked_18 (x2_17 : Int32).toNatClampNeg (vp_nar .boolean (md_other_16 (x2_17 : Int32).toNatClampNeg))))), (a_md_other, .inl (cZ, 4096, .inl md_other_16))] := hD
        refine lv_iinc (v := x2_17 + 1) (lv' := [(2, .int (x2_17 + 1)), (0, .ref a_md)]) hx hb d_Md_goOn_130 hl (k := 1) rfl rfl (by decide) rfl (fun ls hl => ?_)
        refine lv_goto (tgt := 111) hx hb d_Md_goOn_133 (by decide) ?_
        exact il _ _ h _ _ hP hD hS _ (lv_sub hl [1, 0] rfl)
  obtain ⟨n_, h⟩ := h
  refine L111_q_19 _ ?_ n_ _ _ h _ _ hP hD hS _ (lv_sub hl [1, 0] rfl)
  intro md_marked_21 h
  intro H locs hP hD hS ls hl
  rw [← hQ]
  have hP9 := hP
  have hD9 := hD
  exact W.vret hx hb hr (fun t ht hW => ⟨⟨(md_marked_21, md_other_16), rfl, h, by rw [ht]; exact hP9, va_K.moved hW.alike hK, hD9⟩, hS.F ht⟩) hS.2.2 d_Md_goOn_136
