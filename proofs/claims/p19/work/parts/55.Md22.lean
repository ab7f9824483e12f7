abbrev b_Md_counter : ByteArray := prog_13_method_49_code
abbrev y_Md_counter : MethodName := ⟨"LoopInductionModel", "counter", "(I)I"⟩
abbrev w_Md_counter : List Cond := .code y_Md_counter b_Md_counter 8 (some .int) :: allW
theorem pn_Md_counter : y_Md_counter.cls ≠ "java/lang/invoke/MethodHandle" ∧ y_Md_counter.cls ≠ "java/lang/invoke/VarHandle" ∧ (parseMethodDescriptor y_Md_counter.desc).map (fun d => d.parameters.length) = some 1 := by decide +kernel
theorem pd_Md_counter : y_Md_counter.cls = "LoopInductionModel" ∧ y_Md_counter.cls ≠ "java/lang/invoke/MethodHandle" ∧ y_Md_counter.cls ≠ "java/lang/invoke/VarHandle" ∧ (parseMethodDescriptor y_Md_counter.desc).map (fun d => d.parameters.length) = some 1 := by decide +kernel
theorem d_Md_counter_0 : decode b_Md_counter 0 = .ok (.aload_n 0, 1) := by decide +kernel
theorem d_Md_counter_1 : decode b_Md_counter 1 = .ok (.getfield 30, 3) := by decide +kernel
theorem d_Md_counter_4 : decode b_Md_counter 4 = .ok (.ifCond .ge 5, 3) := by decide +kernel
theorem d_Md_counter_7 : decode b_Md_counter 7 = .ok (.iconst (-1), 1) := by decide +kernel
theorem d_Md_counter_8 : decode b_Md_counter 8 = .ok (.ireturn, 1) := by decide +kernel
theorem d_Md_counter_9 : decode b_Md_counter 9 = .ok (.aload_n 0, 1) := by decide +kernel
theorem d_Md_counter_10 : decode b_Md_counter 10 = .ok (.invokevirtual 276, 3) := by decide +kernel
theorem d_Md_counter_13 : decode b_Md_counter 13 = .ok (.istore_n 2, 1) := by decide +kernel
theorem d_Md_counter_14 : decode b_Md_counter 14 = .ok (.iload_n 1, 1) := by decide +kernel
theorem d_Md_counter_15 : decode b_Md_counter 15 = .ok (.ifCond .lt 8, 3) := by decide +kernel
theorem d_Md_counter_18 : decode b_Md_counter 18 = .ok (.iload_n 1, 1) := by decide +kernel
theorem d_Md_counter_19 : decode b_Md_counter 19 = .ok (.iload_n 2, 1) := by decide +kernel
theorem d_Md_counter_20 : decode b_Md_counter 20 = .ok (.if_icmp .le 5, 3) := by decide +kernel
theorem d_Md_counter_23 : decode b_Md_counter 23 = .ok (.iconst (-1), 1) := by decide +kernel
theorem d_Md_counter_24 : decode b_Md_counter 24 = .ok (.ireturn, 1) := by decide +kernel
theorem d_Md_counter_25 : decode b_Md_counter 25 = .ok (.iconst 0, 1) := by decide +kernel
theorem d_Md_counter_26 : decode b_Md_counter 26 = .ok (.istore_n 3, 1) := by decide +kernel
theorem d_Md_counter_27 : decode b_Md_counter 27 = .ok (.aload_n 0, 1) := by decide +kernel
theorem d_Md_counter_28 : decode b_Md_counter 28 = .ok (.getfield 85, 3) := by decide +kernel
theorem d_Md_counter_31 : decode b_Md_counter 31 = .ok (.iload_n 3, 1) := by decide +kernel
theorem d_Md_counter_32 : decode b_Md_counter 32 = .ok (.baload, 1) := by decide +kernel
theorem d_Md_counter_33 : decode b_Md_counter 33 = .ok (.ifCond .eq 12, 3) := by decide +kernel
theorem d_Md_counter_36 : decode b_Md_counter 36 = .ok (.aload_n 0, 1) := by decide +kernel
theorem d_Md_counter_37 : decode b_Md_counter 37 = .ok (.getfield 73, 3) := by decide +kernel
theorem d_Md_counter_40 : decode b_Md_counter 40 = .ok (.iload_n 3, 1) := by decide +kernel
theorem d_Md_counter_41 : decode b_Md_counter 41 = .ok (.iaload, 1) := by decide +kernel
theorem d_Md_counter_42 : decode b_Md_counter 42 = .ok (.ifCond .eq 9, 3) := by decide +kernel
theorem d_Md_counter_45 : decode b_Md_counter 45 = .ok (.iinc 3 1, 3) := by decide +kernel
theorem d_Md_counter_48 : decode b_Md_counter 48 = .ok (.goto (-21), 3) := by decide +kernel
theorem d_Md_counter_51 : decode b_Md_counter 51 = .ok (.iconst 1, 1) := by decide +kernel
theorem d_Md_counter_52 : decode b_Md_counter 52 = .ok (.istore 4, 2) := by decide +kernel
theorem d_Md_counter_54 : decode b_Md_counter 54 = .ok (.iload 4, 2) := by decide +kernel
theorem d_Md_counter_56 : decode b_Md_counter 56 = .ok (.iload_n 1, 1) := by decide +kernel
theorem d_Md_counter_57 : decode b_Md_counter 57 = .ok (.if_icmp .gt 90, 3) := by decide +kernel
theorem d_Md_counter_60 : decode b_Md_counter 60 = .ok (.sipush 4096, 3) := by decide +kernel
theorem d_Md_counter_63 : decode b_Md_counter 63 = .ok (.istore 5, 2) := by decide +kernel
theorem d_Md_counter_65 : decode b_Md_counter 65 = .ok (.iconst 0, 1) := by decide +kernel
theorem d_Md_counter_66 : decode b_Md_counter 66 = .ok (.istore 6, 2) := by decide +kernel
theorem d_Md_counter_68 : decode b_Md_counter 68 = .ok (.iload 6, 2) := by decide +kernel
theorem d_Md_counter_70 : decode b_Md_counter 70 = .ok (.bipush 6, 2) := by decide +kernel
theorem d_Md_counter_72 : decode b_Md_counter 72 = .ok (.if_icmp .ge 66, 3) := by decide +kernel
theorem d_Md_counter_75 : decode b_Md_counter 75 = .ok (.aload_n 0, 1) := by decide +kernel
theorem d_Md_counter_76 : decode b_Md_counter 76 = .ok (.getfield 63, 3) := by decide +kernel
theorem d_Md_counter_79 : decode b_Md_counter 79 = .ok (.bipush 6, 2) := by decide +kernel
theorem d_Md_counter_81 : decode b_Md_counter 81 = .ok (.iload_n 3, 1) := by decide +kernel
theorem d_Md_counter_82 : decode b_Md_counter 82 = .ok (.imul, 1) := by decide +kernel
theorem d_Md_counter_83 : decode b_Md_counter 83 = .ok (.iload 6, 2) := by decide +kernel
theorem d_Md_counter_85 : decode b_Md_counter 85 = .ok (.iadd, 1) := by decide +kernel
theorem d_Md_counter_86 : decode b_Md_counter 86 = .ok (.iaload, 1) := by decide +kernel
theorem d_Md_counter_87 : decode b_Md_counter 87 = .ok (.istore 7, 2) := by decide +kernel
theorem d_Md_counter_89 : decode b_Md_counter 89 = .ok (.iload 7, 2) := by decide +kernel
theorem d_Md_counter_91 : decode b_Md_counter 91 = .ok (.ifCond .lt 37, 3) := by decide +kernel
theorem d_Md_counter_94 : decode b_Md_counter 94 = .ok (.iload 7, 2) := by decide +kernel
theorem d_Md_counter_96 : decode b_Md_counter 96 = .ok (.iload 5, 2) := by decide +kernel
theorem d_Md_counter_98 : decode b_Md_counter 98 = .ok (.if_icmp .ge 30, 3) := by decide +kernel
theorem d_Md_counter_101 : decode b_Md_counter 101 = .ok (.aload_n 0, 1) := by decide +kernel
theorem d_Md_counter_102 : decode b_Md_counter 102 = .ok (.getfield 85, 3) := by decide +kernel
theorem d_Md_counter_105 : decode b_Md_counter 105 = .ok (.iload 7, 2) := by decide +kernel
theorem d_Md_counter_107 : decode b_Md_counter 107 = .ok (.baload, 1) := by decide +kernel
theorem d_Md_counter_108 : decode b_Md_counter 108 = .ok (.ifCond .eq 20, 3) := by decide +kernel
theorem d_Md_counter_111 : decode b_Md_counter 111 = .ok (.aload_n 0, 1) := by decide +kernel
theorem d_Md_counter_112 : decode b_Md_counter 112 = .ok (.getfield 73, 3) := by decide +kernel
theorem d_Md_counter_115 : decode b_Md_counter 115 = .ok (.iload 7, 2) := by decide +kernel
theorem d_Md_counter_117 : decode b_Md_counter 117 = .ok (.iaload, 1) := by decide +kernel
theorem d_Md_counter_118 : decode b_Md_counter 118 = .ok (.iload 4, 2) := by decide +kernel
theorem d_Md_counter_120 : decode b_Md_counter 120 = .ok (.if_icmp .ne 8, 3) := by decide +kernel
theorem d_Md_counter_123 : decode b_Md_counter 123 = .ok (.iload 7, 2) := by decide +kernel
theorem d_Md_counter_125 : decode b_Md_counter 125 = .ok (.goto 5, 3) := by decide +kernel
theorem d_Md_counter_128 : decode b_Md_counter 128 = .ok (.iload 5, 2) := by decide +kernel
theorem d_Md_counter_130 : decode b_Md_counter 130 = .ok (.istore 5, 2) := by decide +kernel
theorem d_Md_counter_132 : decode b_Md_counter 132 = .ok (.iinc 6 1, 3) := by decide +kernel
theorem d_Md_counter_135 : decode b_Md_counter 135 = .ok (.goto (-67), 3) := by decide +kernel
theorem d_Md_counter_138 : decode b_Md_counter 138 = .ok (.iload 5, 2) := by decide +kernel
theorem d_Md_counter_140 : decode b_Md_counter 140 = .ok (.istore_n 3, 1) := by decide +kernel
theorem d_Md_counter_141 : decode b_Md_counter 141 = .ok (.iinc 4 1, 3) := by decide +kernel
theorem d_Md_counter_144 : decode b_Md_counter 144 = .ok (.goto (-90), 3) := by decide +kernel
theorem d_Md_counter_147 : decode b_Md_counter 147 = .ok (.iload_n 3, 1) := by decide +kernel
theorem d_Md_counter_148 : decode b_Md_counter 148 = .ok (.ireturn, 1) := by decide +kernel
set_option maxHeartbeats 4000000 in
set_option maxRecDepth 100000 in
theorem c_Md_counter (l : Launch) (dC : Nat → ClassId) (dI : Nat → Nat → Nat) (cI cB cZ : ClassId) (adK adV : Nat → Nat) (sz : Nat) (a_md a_md_tape a_md_acts a_md_actNumbers a_md_actCounts a_md_pile a_md_begins a_md_goals a_md_ranks a_md_choiceCounts a_md_whens a_md_becomes a_md_guessCounts a_md_guesses a_md_unaryCounts a_md_stack a_md_nexts a_md_isBegin a_md_isGoal a_md_levels a_md_queue a_md_hasGuesses a_md_rounds a_md_marked a_md_other a_md_heights : Nat) (md_size : Int32) (md_at : Int32) (md_token : Int32) (md_tokenPlace : Int32) (md_number : Int32) (md_sign : Int32) (md_bad : Int32) (md_faultPlace : Int32) (md_place : Int32) (md_bank : Int32) (md_unaries : Int32) (md_opens : Int32) (md_piled : Int32) (md_loop : Int32) (md_keptBits : Int32) (md_nexts : Nat → Int32) (md_isGoal : Nat → Int32) (md_levels : Nat → Int32) (md_marked : Nat → Int32) (x1 : Int32) (post : Int32 → (Nat → Int32) → Prop) (h : wp_Md_counter x1 md_loop md_nexts md_isGoal md_levels md_marked post) : Met l y_Md_counter w_Md_counter ({ frames := 1, cells := 0, slots := 0, locals := 25 }) (pc_ (dC, dI) [(cI, .int), (cB, .byte), (cZ, .boolean)] [(a_md, .inr (11, [.ref a_md_tape, .int md_size, .int md_at, .int md_token, .int md_tokenPlace, .int md_number, .int md_sign, .int md_bad, .int md_faultPlace, .int md_place, .ref a_md_acts, .ref a_md_actNumbers, .ref a_md_actCounts, .int md_bank, .int md_unaries, .int md_opens, .ref a_md_pile, .int md_piled, .int md_loop, .ref a_md_begins, .ref a_md_goals, .ref a_md_ranks, .ref a_md_choiceCounts, .ref a_md_whens, .ref a_md_becomes, .ref a_md_guessCounts, .ref a_md_guesses, .ref a_md_unaryCounts, .ref a_md_stack, .ref a_md_nexts, .ref a_md_isBegin, .ref a_md_isGoal, .ref a_md_levels, .ref a_md_queue, .ref a_md_hasGuesses, .int md_keptBits, .ref a_md_rounds, .ref a_md_marked, .ref a_md_other, .ref a_md_heights])), (a_md_nexts, .inl (cI, 24576, .inl md_nexts)), (a_md_isGoal, .inl (cZ, 4096, .inl md_isGoal)), (a_md_levels, .inl (cI, 4096, .inl md_levels)), (a_md_marked, .inl (cZ, 4096, .inl md_marked))] sz adK adV [.ref a_md, .int x1]) (va_Qi (fun (r : Int32) (u : (Nat → Int32)) => post r u) (fun (u : (Nat → Int32)) t => bw_ (dC, dI) [(cI, .int), (cB, .byte), (cZ, .boolean)] (va_A [(a_md, .inr (11, [.ref a_md_tape, .int md_size, .int md_at, .int md_token, .int md_tokenPlace, .int md_number, .int md_sign, .int md_bad, .int md_faultPlace, .int md_place, .ref a_md_acts, .ref a_md_actNumbers, .ref a_md_actCounts, .int md_bank, .int md_unaries, .int md_opens, .ref a_md_pile, .int md_piled, .int md_loop, .ref a_md_begins, .ref a_md_goals, .ref a_md_ranks, .ref a_md_choiceCounts, .ref a_md_whens, .ref a_md_becomes, .ref a_md_guessCounts, .ref a_md_guesses, .ref a_md_unaryCounts, .ref a_md_stack, .ref a_md_nexts, .ref a_md_isBegin, .ref a_md_isGoal, .ref a_md_levels, .ref a_md_queue, .ref a_md_hasGuesses, .int md_keptBits, .ref a_md_rounds, .ref a_md_marked, .ref a_md_other, .ref a_md_heights])), (a_md_nexts, .inl (cI, 24576, .inl md_nexts)), (a_md_isGoal, .inl (cZ, 4096, .inl md_isGoal)), (a_md_levels, .inl (cI, 4096, .inl md_levels)), (a_md_marked, .inl (cZ, 4096, .inl md_marked))] sz) [(a_md, .inr (11, [.ref a_md_tape, .int md_size, .int md_at, .int md_token, .int md_tokenPlace, .int md_number, .int md_sign, .int md_bad, .int md_faultPlace, .int md_place, .ref a_md_acts, .ref a_md_actNumbers, .ref a_md_actCounts, .int md_bank, .int md_unaries, .int md_opens, .ref a_md_pile, .int md_piled, .int md_loop, .ref a_md_begins, .ref a_md_goals, .ref a_md_ranks, .ref a_md_choiceCounts, .ref a_md_whens, .ref a_md_becomes, .ref a_md_guessCounts, .ref a_md_guesses, .ref a_md_unaryCounts, .ref a_md_stack, .ref a_md_nexts, .ref a_md_isBegin, .ref a_md_isGoal, .ref a_md_levels, .ref a_md_queue, .ref a_md_hasGuesses, .int md_keptBits, .ref a_md_rounds, .ref a_md_marked, .ref a_md_other, .ref a_md_heights])), (a_md_nexts, .inl (cI, 24576, .inl md_nexts)), (a_md_isGoal, .inl (cZ, 4096, .inl md_isGoal)), (a_md_levels, .inl (cI, 4096, .inl md_levels)), (a_md_marked, .inl (cZ, 4096, .inl u))] t) (va_A [(a_md, .inr (11, [.ref a_md_tape, .int md_size, .int md_at, .int md_token, .int md_tokenPlace, .int md_number, .int md_sign, .int md_bad, .int md_faultPlace, .int md_place, .ref a_md_acts, .ref a_md_actNumbers, .ref a_md_actCounts, .int md_bank, .int md_unaries, .int md_opens, .ref a_md_pile, .int md_piled, .int md_loop, .ref a_md_begins, .ref a_md_goals, .ref a_md_ranks, .ref a_md_choiceCounts, .ref a_md_whens, .ref a_md_becomes, .ref a_md_guessCounts, .ref a_md_guesses, .ref a_md_unaryCounts, .ref a_md_stack, .ref a_md_nexts, .ref a_md_isBegin, .ref a_md_isGoal, .ref a_md_levels, .ref a_md_queue, .ref a_md_hasGuesses, .int md_keptBits, .ref a_md_rounds, .ref a_md_marked, .ref a_md_other, .ref a_md_heights])), (a_md_nexts, .inl (cI, 24576, .inl md_nexts)), (a_md_isGoal, .inl (cZ, 4096, .inl md_isGoal)), (a_md_levels, .inl (cI, 4096, .inl md_levels)), (a_md_marked, .inl (cZ, 4096, .inl md_marked))] sz)) 0 0 (va_A [(a_md, .inr (11, [.ref a_md_tape, .int md_size, .int md_at, .int md_token, .int md_tokenPlace, .int md_number, .int md_sign, .int md_bad, .int md_faultPlace, .int md_place, .ref a_md_acts, .ref a_md_actNumbers, .ref a_md_actCounts, .int md_bank, .int md_unaries, .int md_opens, .ref a_md_pile, .int md_piled, .int md_loop, .ref a_md_begins, .ref a_md_goals, .ref a_md_ranks, .ref a_md_choiceCounts, .ref a_md_whens, .ref a_md_becomes, .ref a_md_guessCounts, .ref a_md_guesses, .ref a_md_unaryCounts, .ref a_md_stack, .ref a_md_nexts, .ref a_md_isBegin, .ref a_md_isGoal, .ref a_md_levels, .ref a_md_queue, .ref a_md_hasGuesses, .int md_keptBits, .ref a_md_rounds, .ref a_md_marked, .ref a_md_other, .ref a_md_heights])), (a_md_nexts, .inl (cI, 24576, .inl md_nexts)), (a_md_isGoal, .inl (cZ, 4096, .inl md_isGoal)), (a_md_levels, .inl (cI, 4096, .inl md_levels)), (a_md_marked, .inl (cZ, 4096, .inl md_marked))] sz) := by
  refine Met.ofW (cc := b_Md_counter) (maxL := 8) (ret := (some .int)) (by decide) rfl ?_
  intro p e s m args below meth c s₁ B hml hv
  obtain ⟨rfl, hsz, hP, hK, hD0, hN, hT⟩ := hv
  have hx := B.exec
  have hb := B.bytes
  have hr := B.returns
  have hts := atoms_spec (ws := w_Md_counter) B.pre
  have hown : s.vm.findClass "LoopInductionModel" = some m.cls := findClass_of_methodNamed B.named
  have hlocks := B.notSynchronized
  subst hsz
  have hD := hD0.self (sz := s.heap.size)
  generalize hAe : va_A [(a_md, .inr (11, [.ref a_md_tape, .int md_size, .int md_at, .int md_token, .int md_tokenPlace, .int md_number, .int md_sign, .int md_bad, .int md_faultPlace, .int md_place, .ref a_md_acts, .ref a_md_actNumbers, .ref a_md_actCounts, .int md_bank, .int md_unaries, .int md_opens, .ref a_md_pile, .int md_piled, .int md_loop, .ref a_md_begins, .ref a_md_goals, .ref a_md_ranks, .ref a_md_choiceCounts, .ref a_md_whens, .ref a_md_becomes, .ref a_md_guessCounts, .ref a_md_guesses, .ref a_md_unaryCounts, .ref a_md_stack, .ref a_md_nexts, .ref a_md_isBegin, .ref a_md_isGoal, .ref a_md_levels, .ref a_md_queue, .ref a_md_hasGuesses, .int md_keptBits, .ref a_md_rounds, .ref a_md_marked, .ref a_md_other, .ref a_md_heights])), (a_md_nexts, .inl (cI, 24576, .inl md_nexts)), (a_md_isGoal, .inl (cZ, 4096, .inl md_isGoal)), (a_md_levels, .inl (cI, 4096, .inl md_levels)), (a_md_marked, .inl (cZ, 4096, .inl md_marked))] s.heap.size = A at hD hT ⊢
  have hA : ∀ q : Nat, s.heap.size ≤ q → A q := fun q h => by rw [← hAe]; exact Or.inr h
  have hS : va_S A s.heap s.heap [] := va_S.rf
  generalize hQ : MQ below _ _ s 0 0 _ = QQ
  have hl := lv_entry ([.ref a_md, .int x1]) (n := 8) (Nat.le_of_ble_eq_true rfl)
  rw [lg_entry_eq]
  generalize (lg_sl ([.ref a_md, .int x1]) ++ List.replicate (8 - (lg_sl ([.ref a_md, .int x1])).length) Slot.unset).toArray = ls at hl ⊢
  have hl : lv_has ls 8 [(0, .ref a_md), (1, .int x1)] := hl
  have fl_30 := (hts _ (List.mem_cons_of_mem _ m_1108))
  have fl_63 := (hts _ (List.mem_cons_of_mem _ m_1119))
  have fl_73 := (hts _ (List.mem_cons_of_mem _ m_1122))
  have fl_85 := (hts _ (List.mem_cons_of_mem _ m_1127))
  refine lv_aload_n hx hb d_Md_counter_0 rfl (lv_at hl 0 rfl) ?_
  refine va_get (D := (dC, dI)) (ci := 11) (v := .int md_loop) (C := "LoopInductionModel") (T := F_Md) (N := 40) hx hb hts iC_Md hown hK hP 0 rfl rfl 18 (by decide) fl_30 (fun _ h9 => h9) rfl d_Md_counter_1 ?_
  refine lv_if_ge (tgt := 9) hx hb d_Md_counter_4 (by decide) (fun c_4 => ?_) (fun c_4 => ?_)
  · have h := And.left h c_4
    refine lv_aload_n hx hb d_Md_counter_9 rfl (lv_at hl 0 rfl) ?_
    refine jn_i (wr := []) (va_runV (As := []) (rest := []) ⟨hx, hb, hml, hown, hts⟩ (c_Md_markRuns l dC dI cI cB cZ adK adV _ a_md a_md_tape a_md_acts a_md_actNumbers a_md_actCounts a_md_pile a_md_begins a_md_goals a_md_ranks a_md_choiceCounts a_md_whens a_md_becomes a_md_guessCounts a_md_guesses a_md_unaryCounts a_md_stack a_md_nexts a_md_isBegin a_md_isGoal a_md_levels a_md_queue a_md_hasGuesses a_md_rounds a_md_marked a_md_other a_md_heights md_size md_at md_token md_tokenPlace md_number md_sign md_bad md_faultPlace md_place md_bank md_unaries md_opens md_piled md_loop md_keptBits md_nexts md_isGoal md_levels md_marked _ h) (cwV 0 hts (gv_ m_1405 m_1407 m_80 m_96 m_1408) rfl rfl rfl pd_Md_markRuns ⟨Nat.le_of_ble_eq_true rfl, Nat.le_of_ble_eq_true rfl⟩) ⟨pc_blind, va_recv hK hP (ci := 11) (q0 := 0) rfl rfl, pc_of (hP.sub [0, 1, 2, 3, 4] rfl) hK (hD.sub [0, 1, 2, 3, 4] (by decide) rfl) hN hT hS hA⟩ rfl rfl hl.1 rfl (lv_room (Nat.le_of_ble_eq_true rfl)) d_Md_counter_10 ⟨Nat.zero_le _, Nat.zero_le _⟩) hP hD hS hA [0, 1, 2, 3, 4] [] rfl rfl (by decide) (by decide) (fun r_1 md_marked_2 H locs h hP hD hS => ?_)
    have hP : va_P (dC, dI) vwCl [(a_md, .inr (11, [.ref a_md_tape, .int md_size, .int md_at, .int md_token, .int md_tokenPlace, .int md_number, .int md_sign, .int md_bad, .int md_faultPlace, .int md_place, .ref a_md_acts, .ref a_md_actNumbers, .ref a_md_actCounts, .int md_bank, .int md_unaries, .int md_opens, .ref a_md_pile, .int md_piled, .int md_loop, .ref a_md_begins, .ref a_md_goals, .ref a_md_ranks, .ref a_md_choiceCounts, .ref a_md_whens, .ref a_md_becomes, .ref a_md_guessCounts, .ref a_md_guesses, .ref a_md_unaryCounts, .ref a_md_stack, .ref a_md_nexts, .ref a_md_isBegin, .ref a_md_isGoal, .ref a_md_levels, .ref a_md_queue, .ref a_md_hasGuesses, .int md_keptBits, .ref a_md_rounds, .ref a_md_marked, .ref a_md_other, .ref a_md_heights])), (a_md_nexts, .inl (cI, 24576, .inl md_nexts)), (a_md_isGoal, .inl (cZ, 4096, .inl md_isGoal)), (a_md_levels, .inl (cI, 4096, .inl md_levels)), (a_md_marked, .inl (cZ, 4096, .inl md_marked_2))] H := hP
    have hD : va_D A [(a_md, .inr (11, [.ref a_md_tape, .int md_size, .int md_at, .int md_token, .int md_tokenPlace, .int md_number, .int md_sign, .int md_bad, .int md_faultPlace, .int md_place, .ref a_md_acts, .ref a_md_actNumbers, .ref a_md_actCounts, .int md_bank, .int md_unaries, .int md_opens, .ref a_md_pile, .int md_piled, .int md_loop, .ref a_md_begins, .ref a_md_goals, .ref a_md_ranks, .ref a_md_choiceCounts, .ref a_md_whens, .ref a_md_becomes, .ref a_md_guessCounts, .ref a_md_guesses, .ref a_md_unaryCounts, .ref a_md_stack, .ref a_md_nexts, .ref a_md_isBegin, .ref a_md_isGoal, .ref a_md_levels, .ref a_md_queue, .ref a_md_hasGuesses, .int md_keptBits, .ref a_md_rounds, .ref a_md_marked, .ref a_md_other, .ref a_md_heights])), (a_md_nexts, .inl (cI, 24576, .inl md_nexts)), (a_md_isGoal, .inl (cZ, 4096, .inl md_isGoal)), (a_md_levels, .inl (cI, 4096, .inl md_levels)), (a_md_marked, .inl (cZ, 4096, .inl md_marked_2))] := hD
    refine lv_istore_n (lv' := [(2, .int r_1), (0, .ref a_md), (1, .int x1)]) hx hb d_Md_counter_13 rfl hl (by decide) rfl (fun ls hl => ?_)
    refine lv_iload_n hx hb d_Md_counter_14 rfl (lv_at hl 2 rfl) ?_
    refine lv_if_lt (tgt := 23) hx hb d_Md_counter_15 (by decide) (fun c_15 => ?_) (fun c_15 => ?_)
    · have h := And.left h c_15
      refine lv_iconst (v := (-1)) hx hb d_Md_counter_23 (by decide) ?_
      rw [← hQ]
      have hP9 := hP
      have hD9 := hD
      exact W.iret (v := (-1)) hx hb hr (fun t ht hW => ⟨⟨(-1), (md_marked_2), rfl, h, by rw [ht]; exact hP9, va_K.moved hW.alike hK, hD9⟩, hS.F ht⟩) hS.2.2 d_Md_counter_24
    · have h := And.right h c_15
      refine lv_iload_n hx hb d_Md_counter_18 rfl (lv_at hl 2 rfl) ?_
      refine lv_iload_n hx hb d_Md_counter_19 rfl (lv_at hl 0 rfl) ?_
      refine lv_icmp_le (tgt := 25) hx hb d_Md_counter_20 (by decide) (fun c_20 => ?_) (fun c_20 => ?_)
      · have h := And.left h c_20
        refine lv_iconst (v := 0) hx hb d_Md_counter_25 (by decide) ?_
        refine lv_istore_n (lv' := [(3, .int 0), (2, .int r_1), (0, .ref a_md), (1, .int x1)]) hx hb d_Md_counter_26 rfl hl (by decide) rfl (fun ls hl => ?_)
        have L27_q_4 : ∀ (k51 : Int32 → Prop) (hk51 : ∀ (x3_5 : Int32), k51 x3_5 → ∀ (H : Heap) (locs : List Loc), va_P (dC, dI) vwCl [(a_md, .inr (11, [.ref a_md_tape, .int md_size, .int md_at, .int md_token, .int md_tokenPlace, .int md_number, .int md_sign, .int md_bad, .int md_faultPlace, .int md_place, .ref a_md_acts, .ref a_md_actNumbers, .ref a_md_actCounts, .int md_bank, .int md_unaries, .int md_opens, .ref a_md_pile, .int md_piled, .int md_loop, .ref a_md_begins, .ref a_md_goals, .ref a_md_ranks, .ref a_md_choiceCounts, .ref a_md_whens, .ref a_md_becomes, .ref a_md_guessCounts, .ref a_md_guesses, .ref a_md_unaryCounts, .ref a_md_stack, .ref a_md_nexts, .ref a_md_isBegin, .ref a_md_isGoal, .ref a_md_levels, .ref a_md_queue, .ref a_md_hasGuesses, .int md_keptBits, .ref a_md_rounds, .ref a_md_marked, .ref a_md_other, .ref a_md_heights])), (a_md_nexts, .inl (cI, 24576, .inl md_nexts)), (a_md_isGoal, .inl (cZ, 4096, .inl md_isGoal)), (a_md_levels, .inl (cI, 4096, .inl md_levels)), (a_md_marked, .inl (cZ, 4096, .inl md_marked_2))] H → va_D A [(a_md, .inr (11, [.ref a_md_tape, .int md_size, .int md_at, .int md_token, .int md_tokenPlace, .int md_number, .int md_sign, .int md_bad, .int md_faultPlace, .int md_place, .ref a_md_acts, .ref a_md_actNumbers, .ref a_md_actCounts, .int md_bank, .int md_unaries, .int md_opens, .ref a_md_pile, .int md_piled, .int md_loop, .ref a_md_begins, .ref a_md_goals, .ref a_md_ranks, .ref a_md_choiceCounts, .ref a_md_whens, .ref a_md_becomes, .ref a_md_guessCounts, .ref a_md_guesses, .ref a_md_unaryCounts, .ref a_md_stack, .ref a_md_nexts, .ref a_md_isBegin, .ref a_md_isGoal, .ref a_md_levels, .ref a_md_queue, .ref a_md_hasGuesses, .int md_keptBits, .ref a_md_rounds, .ref a_md_marked, .ref a_md_other, .ref a_md_heights])), (a_md_nexts, .inl (cI, 24576, .inl md_nexts)), (a_md_isGoal, .inl (cZ, 4096, .inl md_isGoal)), (a_md_levels, .inl (cI, 4096, .inl md_levels)), (a_md_marked, .inl (cZ, 4096, .inl md_marked_2))] → va_S A s.heap H locs → ∀ ls : Array Slot, lv_has ls 8 [(0, .ref a_md), (1, .int x1), (3, .int x3_5)] → W p l e (headSpec w_Md_counter ({ frames := 1, cells := 0, slots := 0, locals := 25 })).room s m (([.ref a_md, .int x1] : List Value).toArray) below meth c H locs 0 0 QQ (F0 m 51 ls [])) (n : Nat) (x3_3 : Int32), wp_Md_counter_L27 x1 md_levels md_marked_2 k51 n x3_3 → ∀ (H : Heap) (locs : List Loc), va_P (dC, dI) vwCl [(a_md, .inr (11, [.ref a_md_tape, .int md_size, .int md_at, .int md_token, .int md_tokenPlace, .int md_number, .int md_sign, .int md_bad, .int md_faultPlace, .int md_place, .ref a_md_acts, .ref a_md_actNumbers, .ref a_md_actCounts, .int md_bank, .int md_unaries, .int md_opens, .ref a_md_pile, .int md_piled, .int md_loop, .ref a_md_begins, .ref a_md_goals, .ref a_md_ranks, .ref a_md_choiceCounts, .ref a_md_whens, .ref a_md_becomes, .ref a_md_guessCounts, .ref a_md_guesses, .ref a_md_unaryCounts, .ref a_md_stack, .ref a_md_nexts, .ref a_md_isBegin, .ref a_md_isGoal, .ref a_md_levels, .ref a_md_queue, .ref a_md_hasGuesses, .int md_keptBits, .ref a_md_rounds, .ref a_md_marked, .ref a_md_other, .ref a_md_heights])), (a_md_nexts, .inl (cI, 24576, .inl md_nexts)), (a_md_isGoal, .inl (cZ, 4096, .inl md_isGoal)), (a_md_levels, .inl (cI, 4096, .inl md_levels)), (a_md_marked, .inl (cZ, 4096, .inl md_marked_2))] H → va_D A [(a_md, .inr (11, [.ref a_md_tape, .int md_size, .int md_at, .int md_token, .int md_tokenPlace, .int md_number, .int md_sign, .int md_bad, .int md_faultPlace, .int md_place, .ref a_md_acts, .ref a_md_actNumbers, .ref a_md_actCounts, .int md_bank, .int md_unaries, .int md_opens, .ref a_md_pile, .int md_piled, .int md_loop, .ref a_md_begins, .ref a_md_goals, .ref a_md_ranks, .ref a_md_choiceCounts, .ref a_md_whens, .ref a_md_becomes, .ref a_md_guessCounts, .ref a_md_guesses, .ref a_md_unaryCounts, .ref a_md_stack, .ref a_md_nexts, .ref a_md_isBegin, .ref a_md_isGoal, .ref a_md_levels, .ref a_md_queue, .ref a_md_hasGuesses, .int md_keptBits, .ref a_md_rounds, .ref a_md_marked, .ref a_md_other, .ref a_md_heights])), (a_md_nexts, .inl (cI, 24576, .inl md_nexts)), (a_md_isGoal, .inl (cZ, 4096, .inl md_isGoal)), (a_md_levels, .inl (cI, 4096, .inl md_levels)), (a_md_marked, .inl (cZ, 4096, .inl md_marked_2))] → va_S A s.heap H locs → ∀ ls : Array Slot, lv_has ls 8 [(0, .ref a_md), (1, .int x1), (3, .int x3_3)] → W p l e (headSpec w_Md_counter ({ frames := 1, cells := 0, slots := 0, locals := 25 })).room s m (([.ref a_md, .int x1] : List Value).toArray) below meth c H locs 0 0 QQ (F0 m 27 ls []) := by
          intro k51 hk51 n
          induction n with
          | zero => intro x3_3 h; exact (show False from h).elim
          | succ n il =>
            intro x3_3 h
            intro H locs hP hD hS ls hl
            refine lv_aload_n hx hb d_Md_counter_27 rfl (lv_at hl 0 rfl) ?_
            refine va_get (D := (dC, dI)) (ci := 11) (v := .ref a_md_marked) (C := "LoopInductionModel") (T := F_Md) (N := 40) hx hb hts iC_Md hown hK hP 0 rfl rfl 37 (by decide) fl_85 (fun _ h9 => h9) rfl d_Md_counter_28 ?_
            refine lv_iload_n hx hb d_Md_counter_31 rfl (lv_at hl 2 rfl) ?_
            obtain ⟨hin_32, h⟩ := h
            refine va_zald hx hb hK hP 4 2 rfl rfl hin_32 d_Md_counter_32 ?_
            refine lv_if_eq (tgt := 45) hx hb d_Md_counter_33 (by decide) (fun c_33 => ?_) (fun c_33 => ?_)
            · have h := And.left h c_33
              refine lv_iinc (v := x3_3 + 1) (lv' := [(3, .int (x3_3 + 1)), (0, .ref a_md), (1, .int x1)]) hx hb d_Md_counter_45 hl (k := 2) rfl rfl (by decide) rfl (fun ls hl => ?_)
              refine lv_goto (tgt := 27) hx hb d_Md_counter_48 (by decide) ?_
              exact il _ h _ _ hP hD hS _ (lv_sub hl [1, 2, 0] rfl)
            · have h := And.right h c_33
              refine lv_aload_n hx hb d_Md_counter_36 rfl (lv_at hl 0 rfl) ?_
              refine va_get (D := (dC, dI)) (ci := 11) (v := .ref a_md_levels) (C := "LoopInductionModel") (T := F_Md) (N := 40) hx hb hts iC_Md hown hK hP 0 rfl rfl 32 (by decide) fl_73 (fun _ h9 => h9) rfl d_Md_counter_37 ?_
              refine lv_iload_n hx hb d_Md_counter_40 rfl (lv_at hl 2 rfl) ?_
              obtain ⟨hin_41, h⟩ := h
              refine va_iald hx hb hK hP 3 0 rfl rfl hin_41 d_Md_counter_41 ?_
              refine lv_if_eq (tgt := 51) hx hb d_Md_counter_42 (by decide) (fun c_42 => ?_) (fun c_42 => ?_)
              · have h := And.left h c_42
                exact hk51 _ h _ _ hP hD hS _ hl
              · have h := And.right h c_42
                refine lv_iinc (v := x3_3 + 1) (lv' := [(3, .int (x3_3 + 1)), (0, .ref a_md), (1, .int x1)]) hx hb d_Md_counter_45 hl (k := 2) rfl rfl (by decide) rfl (fun ls hl => ?_)
                refine lv_goto (tgt := 27) hx hb d_Md_counter_48 (by decide) ?_
                exact il _ h _ _ hP hD hS _ (lv_sub hl [1, 2, 0] rfl)
        obtain ⟨n_, h⟩ := h
        refine L27_q_4 _ ?_ n_ _ h _ _ hP hD hS _ (lv_sub hl [2, 3, 0] rfl)
        intro x3_6 h
        intro H locs hP hD hS ls hl
        refine lv_iconst (v := 1) hx hb d_Md_counter_51 (by decide) ?_
        refine lv_istore (lv' := [(4, .int 1), (0, .ref a_md), (1, .int x1), (3, .int x3_6)]) hx hb d_Md_counter_52 hl (by decide) rfl (fun ls hl => ?_)
        have L54_q_9 : ∀ (k147 : Int32 → Prop) (hk147 : ∀ (x3_10 : Int32), k147 x3_10 → ∀ (H : Heap) (locs : List Loc), va_P (dC, dI) vwCl [(a_md, .inr (11, [.ref a_md_tape, .int md_size, .int md_at, .int md_token, .int md_tokenPlace, .int md_number, .int md_sign, .int md_bad, .int md_faultPlace, .int md_place, .ref a_md_acts, .ref a_md_actNumbers, .ref a_md_actCounts, .int md_bank, .int md_unaries, .int md_opens, .ref a_md_pile, .int md_piled, .int md_loop, .ref a_md_begins, .ref a_md_goals, .ref a_md_ranks, .ref a_md_choiceCounts, .ref a_md_whens, .ref a_md_becomes, .ref a_md_guessCounts, .ref a_md_guesses, .ref a_md_unaryCounts, .ref a_md_stack, .ref a_md_nexts, .ref a_md_isBegin, .ref a_md_isGoal, .ref a_md_levels, .ref a_md_queue, .ref a_md_hasGuesses, .int md_keptBits, .ref a_md_rounds, .ref a_md_marked, .ref a_md_other, .ref a_md_heights])), (a_md_nexts, .inl (cI, 24576, .inl md_nexts)), (a_md_isGoal, .inl (cZ, 4096, .inl md_isGoal)), (a_md_levels, .inl (cI, 4096, .inl md_levels)), (a_md_marked, .inl (cZ, 4096, .inl md_marked_2))] H → va_D A [(a_md, .inr (11, [.ref a_md_tape, .int md_size, .int md_at, .int md_token, .int md_tokenPlace, .int md_number, .int md_sign, .int md_bad, .int md_faultPlace, .int md_place, .ref a_md_acts, .ref a_md_actNumbers, .ref a_md_actCounts, .int md_bank, .int md_unaries, .int md_opens, .ref a_md_pile, .int md_piled, .int md_loop, .ref a_md_begins, .ref a_md_goals, .ref a_md_ranks, .ref a_md_choiceCounts, .ref a_md_whens, .ref a_md_becomes, .ref a_md_guessCounts, .ref a_md_guesses, .ref a_md_unaryCounts, .ref a_md_stack, .ref a_md_nexts, .ref a_md_isBegin, .ref a_md_isGoal, .ref a_md_levels, .ref a_md_queue, .ref a_md_hasGuesses, .int md_keptBits, .ref a_md_rounds, .ref a_md_marked, .ref a_md_other, .ref a_md_heights])), (a_md_nexts, .inl (cI, 24576, .inl md_nexts)), (a_md_isGoal, .inl (cZ, 4096, .inl md_isGoal)), (a_md_levels, .inl (cI, 4096, .inl md_levels)), (a_md_marked, .inl (cZ, 4096, .inl md_marked_2))] → va_S A s.heap H locs → ∀ ls : Array Slot, lv_has ls 8 [(3, .int x3_10)] → W p l e (headSpec w_Md_counter ({ frames := 1, cells := 0, slots := 0, locals := 25 })).room s m (([.ref a_md, .int x1] : List Value).toArray) below meth c H locs 0 0 QQ (F0 m 147 ls [])) (n : Nat) (x3_7 : Int32) (x4_8 : Int32), wp_Md_counter_L54 x1 md_nexts md_levels md_marked_2 k147 n x3_7 x4_8 → ∀ (H : Heap) (locs : List Loc), va_P (dC, dI) vwCl [(a_md, .inr (11, [.ref a_md_tape, .int md_size, .int md_at, .int md_token, .int md_tokenPlace, .int md_number, .int md_sign, .int md_bad, .int md_faultPlace, .int md_place, .ref a_md_acts, .ref a_md_actNumbers, .ref a_md_actCounts, .int md_bank, .int md_unaries, .int md_opens, .ref a_md_pile, .int md_piled, .int md_loop, .ref a_md_begins, .ref a_md_goals, .ref a_md_ranks, .ref a_md_choiceCounts, .ref a_md_whens, .ref a_md_becomes, .ref a_md_guessCounts, .ref a_md_guesses, .ref a_md_unaryCounts, .ref a_md_stack, .ref a_md_nexts, .ref a_md_isBegin, .ref a_md_isGoal, .ref a_md_levels, .ref a_md_queue, .ref a_md_hasGuesses, .int md_keptBits, .ref a_md_rounds, .ref a_md_marked, .ref a_md_other, .ref a_md_heights])), (a_md_nexts, .inl (cI, 24576, .inl md_nexts)), (a_md_isGoal, .inl (cZ, 4096, .inl md_isGoal)), (a_md_levels, .inl (cI, 4096, .inl md_levels)), (a_md_marked, .inl (cZ, 4096, .inl md_marked_2))] H → va_D A [(a_md, .inr (11, [.ref a_md_tape, .int md_size, .int md_at, .int md_token, .int md_tokenPlace, .int md_number, .int md_sign, .int md_bad, .int md_faultPlace, .int md_place, .ref a_md_acts, .ref a_md_actNumbers, .ref a_md_actCounts, .int md_bank, .int md_unaries, .int md_opens, .ref a_md_pile, .int md_piled, .int md_loop, .ref a_md_begins, .ref a_md_goals, .ref a_md_ranks, .ref a_md_choiceCounts, .ref a_md_whens, .ref a_md_becomes, .ref a_md_guessCounts, .ref a_md_guesses, .ref a_md_unaryCounts, .ref a_md_stack, .ref a_md_nexts, .ref a_md_isBegin, .ref a_md_isGoal, .ref a_md_levels, .ref a_md_queue, .ref a_md_hasGuesses, .int md_keptBits, .ref a_md_rounds, .ref a_md_marked, .ref a_md_other, .ref a_md_heights])), (a_md_nexts, .inl (cI, 24576, .inl md_nexts)), (a_md_isGoal, .inl (cZ, 4096, .inl md_isGoal)), (a_md_levels, .inl (cI, 4096, .inl md_levels)), (a_md_marked, .inl (cZ, 4096, .inl md_marked_2))] → va_S A s.heap H locs → ∀ ls : Array Slot, lv_has ls 8 [(0, .ref a_md), (1, .int x1), (3, .int x3_7), (4, .int x4_8)] → W p l e (headSpec w_Md_counter ({ frames := 1, cells := 0, slots := 0, locals := 25 })).room s m (([.ref a_md, .int x1] : List Value).toArray) below meth c H locs 0 0 QQ (F0 m 54 ls []) := by
          intro k147 hk147 n
          induction n with
          | zero => intro x3_7 x4_8 h; exact (show False from h).elim
          | succ n il =>
            intro x3_7 x4_8 h
            intro H locs hP hD hS ls hl
            refine lv_iload hx hb d_Md_counter_54 (lv_at hl 3 rfl) ?_
            refine lv_iload_n hx hb d_Md_counter_56 rfl (lv_at hl 1 rfl) ?_
            refine lv_icmp_gt (tgt := 147) hx hb d_Md_counter_57 (by decide) (fun c_57 => ?_) (fun c_57 => ?_)
            · have h := And.left h c_57
              exact hk147 _ h _ _ hP hD hS _ (lv_sub hl [2] rfl)
            · have h := And.right h c_57
              refine lv_sipush (v := 4096) hx hb d_Md_counter_60 (by decide) ?_
              refine lv_istore (lv' := [(5, .int 4096), (0, .ref a_md), (1, .int x1), (3, .int x3_7), (4, .int x4_8)]) hx hb d_Md_counter_63 hl (by decide) rfl (fun ls hl => ?_)
              refine lv_iconst (v := 0) hx hb d_Md_counter_65 (by decide) ?_
              refine lv_istore (lv' := [(6, .int 0), (5, .int 4096), (0, .ref a_md), (1, .int x1), (3, .int x3_7), (4, .int x4_8)]) hx hb d_Md_counter_66 hl (by decide) rfl (fun ls hl => ?_)
              have L68_q_13 : ∀ (k138 : Int32 → Prop) (hk138 : ∀ (x5_14 : Int32), k138 x5_14 → ∀ (H : Heap) (locs : List Loc), va_P (dC, dI) vwCl [(a_md, .inr (11, [.ref a_md_tape, .int md_size, .int md_at, .int md_token, .int md_tokenPlace, .int md_number, .int md_sign, .int md_bad, .int md_faultPlace, .int md_place, .ref a_md_acts, .ref a_md_actNumbers, .ref a_md_actCounts, .int md_bank, .int md_unaries, .int md_opens, .ref a_md_pile, .int md_piled, .int md_loop, .ref a_md_begins, .ref a_md_goals, .ref a_md_ranks, .ref a_md_choiceCounts, .ref a_md_whens, .ref a_md_becomes, .ref a_md_guessCounts, .ref a_md_guesses, .ref a_md_unaryCounts, .ref a_md_stack, .ref a_md_nexts, .ref a_md_isBegin, .ref a_md_isGoal, .ref a_md_levels, .ref a_md_queue, .ref a_md_hasGuesses, .int md_keptBits, .ref a_md_rounds, .ref a_md_marked, .ref a_md_other, .ref a_md_heights])), (a_md_nexts, .inl (cI, 24576, .inl md_nexts)), (a_md_isGoal, .inl (cZ, 4096, .inl md_isGoal)), (a_md_levels, .inl (cI, 4096, .inl md_levels)), (a_md_marked, .inl (cZ, 4096, .inl md_marked_2))] H → va_D A [(a_md, .inr (11, [.ref a_md_tape, .int md_size, .int md_at, .int md_token, .int md_tokenPlace, .int md_number, .int md_sign, .int md_bad, .int md_faultPlace, .int md_place, .ref a_md_acts, .ref a_md_actNumbers, .ref a_md_actCounts, .int md_bank, .int md_unaries, .int md_opens, .ref a_md_pile, .int md_piled, .int md_loop, .ref a_md_begins, .ref a_md_goals, .ref a_md_ranks, .ref a_md_choiceCounts, .ref a_md_whens, .ref a_md_becomes, .ref a_md_guessCounts, .ref a_md_guesses, .ref a_md_unaryCounts, .ref a_md_stack, .ref a_md_nexts, .ref a_md_isBegin, .ref a_md_isGoal, .ref a_md_levels, .ref a_md_queue, .ref a_md_hasGuesses, .int md_keptBits, .ref a_md_rounds, .ref a_md_marked, .ref a_md_other, .ref a_md_heights])), (a_md_nexts, .inl (cI, 24576, .inl md_nexts)), (a_md_isGoal, .inl (cZ, 4096, .inl md_isGoal)), (a_md_levels, .inl (cI, 4096, .inl md_levels)), (a_md_marked, .inl (cZ, 4096, .inl md_marked_2))] → va_S A s.heap H locs → ∀ ls : Array Slot, lv_has ls 8 [(0, .ref a_md), (1, .int x1), (4, .int x4_8), (5, .int x5_14)] → W p l e (headSpec w_Md_counter ({ frames := 1, cells := 0, slots := 0, locals := 25 })).room s m (([.ref a_md, .int x1] : List Value).toArray) below meth c H locs 0 0 QQ (F0 m 138 ls [])) (n : Nat) (x5_11 : Int32) (x6_12 : Int32), wp_Md_counter_L68 x1 x3_7 x4_8 md_nexts md_levels md_marked_2 k138 n x5_11 x6_12 → ∀ (H : Heap) (locs : List Loc), va_P (dC, dI) vwCl [(a_md, .inr (11, [.ref a_md_tape, .int md_size, .int md_at, .int md_token, .int md_tokenPlace, .int md_number, .int md_sign, .int md_bad, .int md_faultPlace, .int md_place, .ref a_md_acts, .ref a_md_actNumbers, .ref a_md_actCounts, .int md_bank, .int md_unaries, .int md_opens, .ref a_md_pile, .int md_piled, .int md_loop, .ref a_md_begins, .ref a_md_goals, .ref a_md_ranks, .ref a_md_choiceCounts, .ref a_md_whens, .ref a_md_becomes, .ref a_md_guessCounts, .ref a_md_guesses, .ref a_md_unaryCounts, .ref a_md_stack, .ref a_md_nexts, .ref a_md_isBegin, .ref a_md_isGoal, .ref a_md_levels, .ref a_md_queue, .ref a_md_hasGuesses, .int md_keptBits, .ref a_md_rounds, .ref a_md_marked, .ref a_md_other, .ref a_md_heights])), (a_md_nexts, .inl (cI, 24576, .inl md_nexts)), (a_md_isGoal, .inl (cZ, 4096, .inl md_isGoal)), (a_md_levels, .inl (cI, 4096, .inl md_levels)), (a_md_marked, .inl (cZ, 4096, .inl md_marked_2))] H → va_D A [(a_md, .inr (11, [.ref a_md_tape, .int md_size, .int md_at, .int md_token, .int md_tokenPlace, .int md_number, .int md_sign, .int md_bad, .int md_faultPlace, .int md_place, .ref a_md_acts, .ref a_md_actNumbers, .ref a_md_actCounts, .int md_bank, .int md_unaries, .int md_opens, .ref a_md_pile, .int md_piled, .int md_loop, .ref a_md_begins, .ref a_md_goals, .ref a_md_ranks, .ref a_md_choiceCounts, .ref a_md_whens, .ref a_md_becomes, .ref a_md_guessCounts, .ref a_md_guesses, .ref a_md_unaryCounts, .ref a_md_stack, .ref a_md_nexts, .ref a_md_isBegin, .ref a_md_isGoal, .ref a_md_levels, .ref a_md_queue, .ref a_md_hasGuesses, .int md_keptBits, .ref a_md_rounds, .ref a_md_marked, .ref a_md_other, .ref a_md_heights])), (a_md_nexts, .inl (cI, 24576, .inl md_nexts)), (a_md_isGoal, .inl (cZ, 4096, .inl md_isGoal)), (a_md_levels, .inl (cI, 4096, .inl md_levels)), (a_md_marked, .inl (cZ, 4096, .inl md_marked_2))] → va_S A s.heap H locs → ∀ ls : Array Slot, lv_has ls 8 [(0, .ref a_md), (1, .int x1), (3, .int x3_7), (4, .int x4_8), (5, .int x5_11), (6, .int x6_12)] → W p l e (headSpec w_Md_counter ({ frames := 1, cells := 0, slots := 0, locals := 25 })).room s m (([.ref a_md, .int x1] : List Value).toArray) below meth c H locs 0 0 QQ (F0 m 68 ls []) := by
                intro k138 hk138 n
                induction n with
                | zero => intro x5_11 x6_12 h; exact (show False from h).elim
                | succ n il =>
                  intro x5_11 x6_12 h
                  intro H locs hP hD hS ls hl
                  refine lv_iload hx hb d_Md_counter_68 (lv_at hl 5 rfl) ?_
                  refine lv_bipush (v := 6) hx hb d_Md_counter_70 (by decide) ?_
                  refine lv_icmp_ge (tgt := 138) hx hb d_Md_counter_72 (by decide) (fun c_72 => ?_) (fun c_72 => ?_)
                  · have h := And.left h c_72
                    exact hk138 _ h _ _ hP hD hS _ (lv_sub hl [0, 1, 3, 4] rfl)
                  · have h := And.right h c_72
                    refine lv_aload_n hx hb d_Md_counter_75 rfl (lv_at hl 0 rfl) ?_
                    refine va_get (D := (dC, dI)) (ci := 11) (v := .ref a_md_nexts) (C := "LoopInductionModel") (T := F_Md) (N := 40) hx hb hts iC_Md hown hK hP 0 rfl rfl 29 (by decide) fl_63 (fun _ h9 => h9) rfl d_Md_counter_76 ?_
                    refine lv_bipush (v := 6) hx hb d_Md_counter_79 (by decide) ?_
                    refine lv_iload_n hx hb d_Md_counter_81 rfl (lv_at hl 2 rfl) ?_
                    refine lv_imul hx hb d_Md_counter_82 ?_
                    refine lv_iload hx hb d_Md_counter_83 (lv_at hl 5 rfl) ?_
                    refine lv_iadd hx hb d_Md_counter_85 ?_
                    obtain ⟨hin_86, h⟩ := h
                    refine va_iald hx hb hK hP 1 0 rfl rfl hin_86 d_Md_counter_86 ?_
                    refine lv_topi (fun x7_15 ex7_15 => ?_)
                    have h := h x7_15 ex7_15
                    refine lv_istore (lv' := [(7, .int x7_15), (0, .ref a_md), (1, .int x1), (3, .int x3_7), (4, .int x4_8), (5, .int x5_11), (6, .int x6_12)]) hx hb d_Md_counter_87 hl (by decide) rfl (fun ls hl => ?_)
                    refine lv_iload hx hb d_Md_counter_89 (lv_at hl 0 rfl) ?_
                    refine lv_if_lt (tgt := 128) hx hb d_Md_counter_91 (by decide) (fun c_91 => ?_) (fun c_91 => ?_)
                    · have h := And.left h c_91
                      refine lv_iload hx hb d_Md_counter_128 (lv_at hl 5 rfl) ?_
                      refine lv_istore (lv' := [(5, .int x5_11), (7, .int x7_15), (0, .ref a_md), (1, .int x1), (3, .int x3_7), (4, .int x4_8), (6, .int x6_12)]) hx hb d_Md_counter_130 hl (by decide) rfl (fun ls hl => ?_)
                      refine lv_iinc (v := x6_12 + 1) (lv' := [(6, .int (x6_12 + 1)), (5, .int x5_11), (7, .int x7_15), (0, .ref a_md), (1, .int x1), (3, .int x3_7), (4, .int x4_8)]) hx hb d_Md_counter_132 hl (k := 6) rfl rfl (by decide) rfl (fun ls hl => ?_)
                      refine lv_goto (tgt := 68) hx hb d_Md_counter_135 (by decide) ?_
                      exact il _ _ h _ _ hP hD hS _ (lv_sub hl [3, 4, 5, 6, 1, 0] rfl)
                    · have h := And.right h c_91
                      refine lv_iload hx hb d_Md_counter_94 (lv_at hl 0 rfl) ?_
                      refine lv_iload hx hb d_Md_counter_96 (lv_at hl 5 rfl) ?_
                      refine lv_icmp_ge (tgt := 128) hx hb d_Md_counter_98 (by decide) (fun c_98 => ?_) (fun c_98 => ?_)
                      · have h := And.left h c_98
                        refine lv_iload hx hb d_Md_counter_128 (lv_at hl 5 rfl) ?_
                        refine lv_istore (lv' := [(5, .int x5_11), (7, .int x7_15), (0, .ref a_md), (1, .int x1), (3, .int x3_7), (4, .int x4_8), (6, .int x6_12)]) hx hb d_Md_counter_130 hl (by decide) rfl (fun ls hl => ?_)
                        refine lv_iinc (v := x6_12 + 1) (lv' := [(6, .int (x6_12 + 1)), (5, .int x5_11), (7, .int x7_15), (0, .ref a_md), (1, .int x1), (3, .int x3_7), (4, .int x4_8)]) hx hb d_Md_counter_132 hl (k := 6) rfl rfl (by decide) rfl (fun ls hl => ?_)
                        refine lv_goto (tgt := 68) hx hb d_Md_counter_135 (by decide) ?_
                        exact il _ _ h _ _ hP hD hS _ (lv_sub hl [3, 4, 5, 6, 1, 0] rfl)
                      · have h := And.right h c_98
                        refine lv_aload_n hx hb d_Md_counter_101 rfl (lv_at hl 1 rfl) ?_
                        refine va_get (D := (dC, dI)) (ci := 11) (v := .ref a_md_marked) (C := "LoopInductionModel") (T := F_Md) (N := 40) hx hb hts iC_Md hown hK hP 0 rfl rfl 37 (by decide) fl_85 (fun _ h9 => h9) rfl d_Md_counter_102 ?_
                        refine lv_iload hx hb d_Md_counter_105 (lv_at hl 0 rfl) ?_
                        obtain ⟨hin_107, h⟩ := h
                        refine va_zald hx hb hK hP 4 2 rfl rfl hin_107 d_Md_counter_107 ?_
                        refine lv_if_eq (tgt := 128) hx hb d_Md_counter_108 (by decide) (fun c_108 => ?_) (fun c_108 => ?_)
                        · have h := And.left h c_108
                          refine lv_iload hx hb d_Md_counter_128 (lv_at hl 5 rfl) ?_
                          refine lv_istore (lv' := [(5, .int x5_11), (7, .int x7_15), (0, .ref a_md), (1, .int x1), (3, .int x3_7), (4, .int x4_8), (6, .int x6_12)]) hx hb d_Md_counter_130 hl (by decide) rfl (fun ls hl => ?_)
                          refine lv_iinc (v := x6_12 + 1) (lv' := [(6, .int (x6_12 + 1)), (5, .int x5_11), (7, .int x7_15), (0, .ref a_md), (1, .int x1), (3, .int x3_7), (4, .int x4_8)]) hx hb d_Md_counter_132 hl (k := 6) rfl rfl (by decide) rfl (fun ls hl => ?_)
                          refine lv_goto (tgt := 68) hx hb d_Md_counter_135 (by decide) ?_
                          exact il _ _ h _ _ hP hD hS _ (lv_sub hl [3, 4, 5, 6, 1, 0] rfl)
                        · have h := And.right h c_108
                          refine lv_aload_n hx hb d_Md_counter_111 rfl (lv_at hl 1 rfl) ?_
                          refine va_get (D := (dC, dI)) (ci := 11) (v := .ref a_md_levels) (C := "LoopInductionModel") (T := F_Md) (N := 40) hx hb hts iC_Md hown hK hP 0 rfl rfl 32 (by decide) fl_73 (fun _ h9 => h9) rfl d_Md_counter_112 ?_
                          refine lv_iload hx hb d_Md_counter_115 (lv_at hl 0 rfl) ?_
                          obtain ⟨hin_117, h⟩ := h
                          refine va_iald hx hb hK hP 3 0 rfl rfl hin_117 d_Md_counter_117 ?_
                          refine lv_iload hx hb d_Md_counter_118 (lv_at hl 4 rfl) ?_
                          refine lv_icmp_ne (tgt := 128) hx hb d_Md_counter_120 (by decide) (fun c_120 => ?_) (fun c_120 => ?_)
                          · have h := And.left h c_120
                            refine lv_iload hx hb d_Md_counter_128 (lv_at hl 5 rfl) ?_
                            refine lv_istore (lv' := [(5, .int x5_11), (7, .int x7_15), (0, .ref a_md), (1, .int x1), (3, .int x3_7), (4, .int x4_8), (6, .int x6_12)]) hx hb d_Md_counter_130 hl (by decide) rfl (fun ls hl => ?_)
                            refine lv_iinc (v := x6_12 + 1) (lv' := [(6, .int (x6_12 + 1)), (5, .int x5_11), (7, .int x7_15), (0, .ref a_md), (1, .int x1), (3, .int x3_7), (4, .int x4_8)]) hx hb d_Md_counter_132 hl (k := 6) rfl rfl (by decide) rfl (fun ls hl => ?_)
                            refine lv_goto (tgt := 68) hx hb d_Md_counter_135 (by decide) ?_
                            exact il _ _ h _ _ hP hD hS _ (lv_sub hl [3, 4, 5, 6, 1, 0] rfl)
                          · have h := And.right h c_120
                            refine lv_iload hx hb d_Md_counter_123 (lv_at hl 0 rfl) ?_
                            refine lv_goto (tgt := 130) hx hb d_Md_counter_125 (by decide) ?_
                            refine lv_istore (lv' := [(5, .int x7_15), (7, .int x7_15), (0, .ref a_md), (1, .int x1), (3, .int x3_7), (4, .int x4_8), (6, .int x6_12)]) hx hb d_Md_counter_130 hl (by decide) rfl (fun ls hl => ?_)
                            refine lv_iinc (v := x6_12 + 1) (lv' := [(6, .int (x6_12 + 1)), (5, .int x7_15), (7, .int x7_15), (0, .ref a_md), (1, .int x1), (3, .int x3_7), (4, .int x4_8)]) hx hb d_Md_counter_132 hl (k := 6) rfl rfl (by decide) rfl (fun ls hl => ?_)
                            refine lv_goto (tgt := 68) hx hb d_Md_counter_135 (by decide) ?_
                            exact il _ _ h _ _ hP hD hS _ (lv_sub hl [3, 4, 5, 6, 1, 0] rfl)
              obtain ⟨n_, h⟩ := h
              refine L68_q_13 _ ?_ n_ _ _ h _ _ hP hD hS _ (lv_sub hl [2, 3, 4, 5, 1, 0] rfl)
              intro x5_16 h
              intro H locs hP hD hS ls hl
              refine lv_iload hx hb d_Md_counter_138 (lv_at hl 3 rfl) ?_
              refine lv_istore_n (lv' := [(3, .int x5_16), (0, .ref a_md), (1, .int x1), (4, .int x4_8), (5, .int x5_16)]) hx hb d_Md_counter_140 rfl hl (by decide) rfl (fun ls hl => ?_)
              refine lv_iinc (v := x4_8 + 1) (lv' := [(4, .int (x4_8 + 1)), (3, .int x5_16), (0, .ref a_md), (1, .int x1), (5, .int x5_16)]) hx hb d_Md_counter_141 hl (k := 3) rfl rfl (by decide) rfl (fun ls hl => ?_)
              refine lv_goto (tgt := 54) hx hb d_Md_counter_144 (by decide) ?_
              exact il _ _ h _ _ hP hD hS _ (lv_sub hl [2, 3, 1, 0] rfl)
        obtain ⟨n_, h⟩ := h
        refine L54_q_9 _ ?_ n_ _ _ h _ _ hP hD hS _ (lv_sub hl [1, 2, 3, 0] rfl)
        intro x3_17 h
        intro H locs hP hD hS ls hl
        refine lv_iload_n hx hb d_Md_counter_147 rfl (lv_at hl 0 rfl) ?_
        rw [← hQ]
        have hP9 := hP
        have hD9 := hD
        exact W.iret (v := x3_17) hx hb hr (fun t ht hW => ⟨⟨x3_17, (md_marked_2), rfl, h, by rw [ht]; exact hP9, va_K.moved hW.alike hK, hD9⟩, hS.F ht⟩) hS.2.2 d_Md_counter_148
      · have h := And.right h c_20
        refine lv_iconst (v := (-1)) hx hb d_Md_counter_23 (by decide) ?_
        rw [← hQ]
        have hP9 := hP
        have hD9 := hD
        exact W.iret (v := (-1)) hx hb hr (fun t ht hW => ⟨⟨(-1), (md_marked_2), rfl, h, by rw [ht]; exact hP9, va_K.moved hW.alike hK, hD9⟩, hS.F ht⟩) hS.2.2 d_Md_counter_24
  · have h := And.right h c_4
    refine lv_iconst (v := (-1)) hx hb d_Md_counter_7 (by decide) ?_
    rw [← hQ]
    have hP9 := hP
    have hD9 := hD
    exact W.iret (v := (-1)) hx hb hr (fun t ht hW => ⟨⟨(-1), (md_marked), rfl, h, by rw [ht]; exact hP9, va_K.moved hW.alike hK, hD9⟩, hS.F ht⟩) hS.2.2 d_Md_counter_8
