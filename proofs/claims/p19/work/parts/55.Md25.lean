abbrev b_Md_kept : ByteArray := prog_13_method_52_code
abbrev y_Md_kept : MethodName := ⟨"LoopInductionModel", "kept", "()I"⟩
abbrev w_Md_kept : List Cond := .code y_Md_kept b_Md_kept 1 (some .int) :: allW
theorem pn_Md_kept : y_Md_kept.cls ≠ "java/lang/invoke/MethodHandle" ∧ y_Md_kept.cls ≠ "java/lang/invoke/VarHandle" ∧ (parseMethodDescriptor y_Md_kept.desc).map (fun d => d.parameters.length) = some 0 := by decide +kernel
theorem pd_Md_kept : y_Md_kept.cls = "LoopInductionModel" ∧ y_Md_kept.cls ≠ "java/lang/invoke/MethodHandle" ∧ y_Md_kept.cls ≠ "java/lang/invoke/VarHandle" ∧ (parseMethodDescriptor y_Md_kept.desc).map (fun d => d.parameters.length) = some 0 := by decide +kernel
abbrev b_Md_gone : ByteArray := prog_13_method_53_code
abbrev y_Md_gone : MethodName := ⟨"LoopInductionModel", "gone", "(I)I"⟩
abbrev w_Md_gone : List Cond := .code y_Md_gone b_Md_gone 2 (some .int) :: allW
theorem pn_Md_gone : y_Md_gone.cls ≠ "java/lang/invoke/MethodHandle" ∧ y_Md_gone.cls ≠ "java/lang/invoke/VarHandle" ∧ (parseMethodDescriptor y_Md_gone.desc).map (fun d => d.parameters.length) = some 1 := by decide +kernel
theorem pd_Md_gone : y_Md_gone.cls = "LoopInductionModel" ∧ y_Md_gone.cls ≠ "java/lang/invoke/MethodHandle" ∧ y_Md_gone.cls ≠ "java/lang/invoke/VarHandle" ∧ (parseMethodDescriptor y_Md_gone.desc).map (fun d => d.parameters.length) = some 1 := by decide +kernel
abbrev b_Md_follows : ByteArray := prog_13_method_54_code
abbrev y_Md_follows : MethodName := ⟨"LoopInductionModel", "follows", "()I"⟩
abbrev w_Md_follows : List Cond := .code y_Md_follows b_Md_follows 3 (some .int) :: allW
theorem pn_Md_follows : y_Md_follows.cls ≠ "java/lang/invoke/MethodHandle" ∧ y_Md_follows.cls ≠ "java/lang/invoke/VarHandle" ∧ (parseMethodDescriptor y_Md_follows.desc).map (fun d => d.parameters.length) = some 0 := by decide +kernel
theorem pd_Md_follows : y_Md_follows.cls = "LoopInductionModel" ∧ y_Md_follows.cls ≠ "java/lang/invoke/MethodHandle" ∧ y_Md_follows.cls ≠ "java/lang/invoke/VarHandle" ∧ (parseMethodDescriptor y_Md_follows.desc).map (fun d => d.parameters.length) = some 0 := by decide +kernel
theorem d_Md_kept_0 : decode b_Md_kept 0 = .ok (.aload_n 0, 1) := by decide +kernel
theorem d_Md_kept_1 : decode b_Md_kept 1 = .ok (.getfield 30, 3) := by decide +kernel
theorem d_Md_kept_4 : decode b_Md_kept 4 = .ok (.ifCond .ge 7, 3) := by decide +kernel
theorem d_Md_kept_7 : decode b_Md_kept 7 = .ok (.iconst (-1), 1) := by decide +kernel
theorem d_Md_kept_8 : decode b_Md_kept 8 = .ok (.goto 7, 3) := by decide +kernel
theorem d_Md_kept_11 : decode b_Md_kept 11 = .ok (.aload_n 0, 1) := by decide +kernel
theorem d_Md_kept_12 : decode b_Md_kept 12 = .ok (.getfield 264, 3) := by decide +kernel
theorem d_Md_kept_15 : decode b_Md_kept 15 = .ok (.ireturn, 1) := by decide +kernel
theorem d_Md_gone_0 : decode b_Md_gone 0 = .ok (.aload_n 0, 1) := by decide +kernel
theorem d_Md_gone_1 : decode b_Md_gone 1 = .ok (.getfield 30, 3) := by decide +kernel
theorem d_Md_gone_4 : decode b_Md_gone 4 = .ok (.ifCond .lt 20, 3) := by decide +kernel
theorem d_Md_gone_7 : decode b_Md_gone 7 = .ok (.iload_n 1, 1) := by decide +kernel
theorem d_Md_gone_8 : decode b_Md_gone 8 = .ok (.ifCond .lt 16, 3) := by decide +kernel
theorem d_Md_gone_11 : decode b_Md_gone 11 = .ok (.iload_n 1, 1) := by decide +kernel
theorem d_Md_gone_12 : decode b_Md_gone 12 = .ok (.aload_n 0, 1) := by decide +kernel
theorem d_Md_gone_13 : decode b_Md_gone 13 = .ok (.getfield 51, 3) := by decide +kernel
theorem d_Md_gone_16 : decode b_Md_gone 16 = .ok (.aload_n 0, 1) := by decide +kernel
theorem d_Md_gone_17 : decode b_Md_gone 17 = .ok (.getfield 30, 3) := by decide +kernel
theorem d_Md_gone_20 : decode b_Md_gone 20 = .ok (.iaload, 1) := by decide +kernel
theorem d_Md_gone_21 : decode b_Md_gone 21 = .ok (.if_icmp .lt 7, 3) := by decide +kernel
theorem d_Md_gone_24 : decode b_Md_gone 24 = .ok (.iconst (-1), 1) := by decide +kernel
theorem d_Md_gone_25 : decode b_Md_gone 25 = .ok (.goto 9, 3) := by decide +kernel
theorem d_Md_gone_28 : decode b_Md_gone 28 = .ok (.aload_n 0, 1) := by decide +kernel
theorem d_Md_gone_29 : decode b_Md_gone 29 = .ok (.getfield 82, 3) := by decide +kernel
theorem d_Md_gone_32 : decode b_Md_gone 32 = .ok (.iload_n 1, 1) := by decide +kernel
theorem d_Md_gone_33 : decode b_Md_gone 33 = .ok (.iaload, 1) := by decide +kernel
theorem d_Md_gone_34 : decode b_Md_gone 34 = .ok (.ireturn, 1) := by decide +kernel
theorem d_Md_follows_0 : decode b_Md_follows 0 = .ok (.aload_n 0, 1) := by decide +kernel
theorem d_Md_follows_1 : decode b_Md_follows 1 = .ok (.getfield 30, 3) := by decide +kernel
theorem d_Md_follows_4 : decode b_Md_follows 4 = .ok (.ifCond .ge 5, 3) := by decide +kernel
theorem d_Md_follows_7 : decode b_Md_follows 7 = .ok (.iconst (-1), 1) := by decide +kernel
theorem d_Md_follows_8 : decode b_Md_follows 8 = .ok (.ireturn, 1) := by decide +kernel
theorem d_Md_follows_9 : decode b_Md_follows 9 = .ok (.iconst 1, 1) := by decide +kernel
theorem d_Md_follows_10 : decode b_Md_follows 10 = .ok (.istore_n 1, 1) := by decide +kernel
theorem d_Md_follows_11 : decode b_Md_follows 11 = .ok (.iconst 0, 1) := by decide +kernel
theorem d_Md_follows_12 : decode b_Md_follows 12 = .ok (.istore_n 2, 1) := by decide +kernel
theorem d_Md_follows_13 : decode b_Md_follows 13 = .ok (.iload_n 2, 1) := by decide +kernel
theorem d_Md_follows_14 : decode b_Md_follows 14 = .ok (.sipush 4096, 3) := by decide +kernel
theorem d_Md_follows_17 : decode b_Md_follows 17 = .ok (.if_icmp .ge 46, 3) := by decide +kernel
theorem d_Md_follows_20 : decode b_Md_follows 20 = .ok (.iload_n 1, 1) := by decide +kernel
theorem d_Md_follows_21 : decode b_Md_follows 21 = .ok (.ifCond .eq 34, 3) := by decide +kernel
theorem d_Md_follows_24 : decode b_Md_follows 24 = .ok (.aload_n 0, 1) := by decide +kernel
theorem d_Md_follows_25 : decode b_Md_follows 25 = .ok (.getfield 79, 3) := by decide +kernel
theorem d_Md_follows_28 : decode b_Md_follows 28 = .ok (.iload_n 2, 1) := by decide +kernel
theorem d_Md_follows_29 : decode b_Md_follows 29 = .ok (.iaload, 1) := by decide +kernel
theorem d_Md_follows_30 : decode b_Md_follows 30 = .ok (.aload_n 0, 1) := by decide +kernel
theorem d_Md_follows_31 : decode b_Md_follows 31 = .ok (.getfield 264, 3) := by decide +kernel
theorem d_Md_follows_34 : decode b_Md_follows 34 = .ok (.iand, 1) := by decide +kernel
theorem d_Md_follows_35 : decode b_Md_follows 35 = .ok (.aload_n 0, 1) := by decide +kernel
theorem d_Md_follows_36 : decode b_Md_follows 36 = .ok (.getfield 264, 3) := by decide +kernel
theorem d_Md_follows_39 : decode b_Md_follows 39 = .ok (.if_icmp .ne 12, 3) := by decide +kernel
theorem d_Md_follows_42 : decode b_Md_follows 42 = .ok (.aload_n 0, 1) := by decide +kernel
theorem d_Md_follows_43 : decode b_Md_follows 43 = .ok (.getfield 70, 3) := by decide +kernel
theorem d_Md_follows_46 : decode b_Md_follows 46 = .ok (.iload_n 2, 1) := by decide +kernel
theorem d_Md_follows_47 : decode b_Md_follows 47 = .ok (.baload, 1) := by decide +kernel
theorem d_Md_follows_48 : decode b_Md_follows 48 = .ok (.ifCond .eq 7, 3) := by decide +kernel
theorem d_Md_follows_51 : decode b_Md_follows 51 = .ok (.iconst 1, 1) := by decide +kernel
theorem d_Md_follows_52 : decode b_Md_follows 52 = .ok (.goto 4, 3) := by decide +kernel
theorem d_Md_follows_55 : decode b_Md_follows 55 = .ok (.iconst 0, 1) := by decide +kernel
theorem d_Md_follows_56 : decode b_Md_follows 56 = .ok (.istore_n 1, 1) := by decide +kernel
theorem d_Md_follows_57 : decode b_Md_follows 57 = .ok (.iinc 2 1, 3) := by decide +kernel
theorem d_Md_follows_60 : decode b_Md_follows 60 = .ok (.goto (-47), 3) := by decide +kernel
theorem d_Md_follows_63 : decode b_Md_follows 63 = .ok (.iload_n 1, 1) := by decide +kernel
theorem d_Md_follows_64 : decode b_Md_follows 64 = .ok (.ifCond .eq 7, 3) := by decide +kernel
theorem d_Md_follows_67 : decode b_Md_follows 67 = .ok (.iconst 1, 1) := by decide +kernel
theorem d_Md_follows_68 : decode b_Md_follows 68 = .ok (.goto 4, 3) := by decide +kernel
theorem d_Md_follows_71 : decode b_Md_follows 71 = .ok (.iconst 0, 1) := by decide +kernel
theorem d_Md_follows_72 : decode b_Md_follows 72 = .ok (.ireturn, 1) := by decide +kernel
set_option maxHeartbeats 4000000 in
set_option maxRecDepth 100000 in
theorem c_Md_kept (l : Launch) (dC : Nat → ClassId) (dI : Nat → Nat → Nat) (cI cB cZ : ClassId) (adK adV : Nat → Nat) (sz : Nat) (a_md a_md_tape a_md_acts a_md_actNumbers a_md_actCounts a_md_pile a_md_begins a_md_goals a_md_ranks a_md_choiceCounts a_md_whens a_md_becomes a_md_guessCounts a_md_guesses a_md_unaryCounts a_md_stack a_md_nexts a_md_isBegin a_md_isGoal a_md_levels a_md_queue a_md_hasGuesses a_md_rounds a_md_marked a_md_other a_md_heights : Nat) (md_size : Int32) (md_at : Int32) (md_token : Int32) (md_tokenPlace : Int32) (md_number : Int32) (md_sign : Int32) (md_bad : Int32) (md_faultPlace : Int32) (md_place : Int32) (md_bank : Int32) (md_unaries : Int32) (md_opens : Int32) (md_piled : Int32) (md_loop : Int32) (md_keptBits : Int32) (post : Int32 → Prop) (h : wp_Md_kept md_loop md_keptBits post) : Met l y_Md_kept w_Md_kept ({ frames := 0, cells := 0, slots := 0, locals := 0 }) (pc_ (dC, dI) [(cI, .int), (cB, .byte), (cZ, .boolean)] [(a_md, .inr (11, [.ref a_md_tape, .int md_size, .int md_at, .int md_token, .int md_tokenPlace, .int md_number, .int md_sign, .int md_bad, .int md_faultPlace, .int md_place, .ref a_md_acts, .ref a_md_actNumbers, .ref a_md_actCounts, .int md_bank, .int md_unaries, .int md_opens, .ref a_md_pile, .int md_piled, .int md_loop, .ref a_md_begins, .ref a_md_goals, .ref a_md_ranks, .ref a_md_choiceCounts, .ref a_md_whens, .ref a_md_becomes, .ref a_md_guessCounts, .ref a_md_guesses, .ref a_md_unaryCounts, .ref a_md_stack, .ref a_md_nexts, .ref a_md_isBegin, .ref a_md_isGoal, .ref a_md_levels, .ref a_md_queue, .ref a_md_hasGuesses, .int md_keptBits, .ref a_md_rounds, .ref a_md_marked, .ref a_md_other, .ref a_md_heights]))] sz adK adV [.ref a_md]) (va_Qi (fun (r : Int32) (u : Unit) => post r ) (fun (u : Unit) t => bw_ (dC, dI) [(cI, .int), (cB, .byte), (cZ, .boolean)] (va_A [(a_md, .inr (11, [.ref a_md_tape, .int md_size, .int md_at, .int md_token, .int md_tokenPlace, .int md_number, .int md_sign, .int md_bad, .int md_faultPlace, .int md_place, .ref a_md_acts, .ref a_md_actNumbers, .ref a_md_actCounts, .int md_bank, .int md_unaries, .int md_opens, .ref a_md_pile, .int md_piled, .int md_loop, .ref a_md_begins, .ref a_md_goals, .ref a_md_ranks, .ref a_md_choiceCounts, .ref a_md_whens, .ref a_md_becomes, .ref a_md_guessCounts, .ref a_md_guesses, .ref a_md_unaryCounts, .ref a_md_stack, .ref a_md_nexts, .ref a_md_isBegin, .ref a_md_isGoal, .ref a_md_levels, .ref a_md_queue, .ref a_md_hasGuesses, .int md_keptBits, .ref a_md_rounds, .ref a_md_marked, .ref a_md_other, .ref a_md_heights]))] sz) [(a_md, .inr (11, [.ref a_md_tape, .int md_size, .int md_at, .int md_token, .int md_tokenPlace, .int md_number, .int md_sign, .int md_bad, .int md_faultPlace, .int md_place, .ref a_md_acts, .ref a_md_actNumbers, .ref a_md_actCounts, .int md_bank, .int md_unaries, .int md_opens, .ref a_md_pile, .int md_piled, .int md_loop, .ref a_md_begins, .ref a_md_goals, .ref a_md_ranks, .ref a_md_choiceCounts, .ref a_md_whens, .ref a_md_becomes, .ref a_md_guessCounts, .ref a_md_guesses, .ref a_md_unaryCounts, .ref a_md_stack, .ref a_md_nexts, .ref a_md_isBegin, .ref a_md_isGoal, .ref a_md_levels, .ref a_md_queue, .ref a_md_hasGuesses, .int md_keptBits, .ref a_md_rounds, .ref a_md_marked, .ref a_md_other, .ref a_md_heights]))] t) (va_A [(a_md, .inr (11, [.ref a_md_tape, .int md_size, .int md_at, .int md_token, .int md_tokenPlace, .int md_number, .int md_sign, .int md_bad, .int md_faultPlace, .int md_place, .ref a_md_acts, .ref a_md_actNumbers, .ref a_md_actCounts, .int md_bank, .int md_unaries, .int md_opens, .ref a_md_pile, .int md_piled, .int md_loop, .ref a_md_begins, .ref a_md_goals, .ref a_md_ranks, .ref a_md_choiceCounts, .ref a_md_whens, .ref a_md_becomes, .ref a_md_guessCounts, .ref a_md_guesses, .ref a_md_unaryCounts, .ref a_md_stack, .ref a_md_nexts, .ref a_md_isBegin, .ref a_md_isGoal, .ref a_md_levels, .ref a_md_queue, .ref a_md_hasGuesses, .int md_keptBits, .ref a_md_rounds, .ref a_md_marked, .ref a_md_other, .ref a_md_heights]))] sz)) 0 0 (va_A [(a_md, .inr (11, [.ref a_md_tape, .int md_size, .int md_at, .int md_token, .int md_tokenPlace, .int md_number, .int md_sign, .int md_bad, .int md_faultPlace, .int md_place, .ref a_md_acts, .ref a_md_actNumbers, .ref a_md_actCounts, .int md_bank, .int md_unaries, .int md_opens, .ref a_md_pile, .int md_piled, .int md_loop, .ref a_md_begins, .ref a_md_goals, .ref a_md_ranks, .ref a_md_choiceCounts, .ref a_md_whens, .ref a_md_becomes, .ref a_md_guessCounts, .ref a_md_guesses, .ref a_md_unaryCounts, .ref a_md_stack, .ref a_md_nexts, .ref a_md_isBegin, .ref a_md_isGoal, .ref a_md_levels, .ref a_md_queue, .ref a_md_hasGuesses, .int md_keptBits, .ref a_md_rounds, .ref a_md_marked, .ref a_md_other, .ref a_md_heights]))] sz) := by
  refine Met.ofW (cc := b_Md_kept) (maxL := 1) (ret := (some .int)) (by decide) rfl ?_
  intro p e s m args below meth c s₁ B hml hv
  obtain ⟨rfl, hsz, hP, hK, hD0, hN, hT⟩ := hv
  have hx := B.exec
  have hb := B.bytes
  have hr := B.returns
  have hts := atoms_spec (ws := w_Md_kept) B.pre
  have hown : s.vm.findClass "LoopInductionModel" = some m.cls := findClass_of_methodNamed B.named
  have hlocks := B.notSynchronized
  subst hsz
  have hD := hD0.self (sz := s.heap.size)
  generalize hAe : va_A [(a_md, .inr (11, [.ref a_md_tape, .int md_size, .int md_at, .int md_token, .int md_tokenPlace, .int md_number, .int md_sign, .int md_bad, .int md_faultPlace, .int md_place, .ref a_md_acts, .ref a_md_actNumbers, .ref a_md_actCounts, .int md_bank, .int md_unaries, .int md_opens, .ref a_md_pile, .int md_piled, .int md_loop, .ref a_md_begins, .ref a_md_goals, .ref a_md_ranks, .ref a_md_choiceCounts, .ref a_md_whens, .ref a_md_becomes, .ref a_md_guessCounts, .ref a_md_guesses, .ref a_md_unaryCounts, .ref a_md_stack, .ref a_md_nexts, .ref a_md_isBegin, .ref a_md_isGoal, .ref a_md_levels, .ref a_md_queue, .ref a_md_hasGuesses, .int md_keptBits, .ref a_md_rounds, .ref a_md_marked, .ref a_md_other, .ref a_md_heights]))] s.heap.size = A at hD hT ⊢
  have hA : ∀ q : Nat, s.heap.size ≤ q → A q := fun q h => by rw [← hAe]; exact Or.inr h
  have hS : va_S A s.heap s.heap [] := va_S.rf
  generalize hQ : MQ below _ _ s 0 0 _ = QQ
  have hl := lv_entry ([.ref a_md]) (n := 1) (Nat.le_of_ble_eq_true rfl)
  rw [lg_entry_eq]
  generalize (lg_sl ([.ref a_md]) ++ List.replicate (1 - (lg_sl ([.ref a_md])).length) Slot.unset).toArray = ls at hl ⊢
  have hl : lv_has ls 1 [(0, .ref a_md)] := hl
  have fl_30 := (hts _ (List.mem_cons_of_mem _ m_1108))
  have fl_264 := (hts _ (List.mem_cons_of_mem _ m_1125))
  refine lv_aload_n hx hb d_Md_kept_0 rfl (lv_at hl 0 rfl) ?_
  refine va_get (D := (dC, dI)) (ci := 11) (v := .int md_loop) (C := "LoopInductionModel") (T := F_Md) (N := 40) hx hb hts iC_Md hown hK hP 0 rfl rfl 18 (by decide) fl_30 (fun _ h9 => h9) rfl d_Md_kept_1 ?_
  refine lv_if_ge (tgt := 11) hx hb d_Md_kept_4 (by decide) (fun c_4 => ?_) (fun c_4 => ?_)
  · have h := And.left h c_4
    refine lv_aload_n hx hb d_Md_kept_11 rfl (lv_at hl 0 rfl) ?_
    refine va_get (D := (dC, dI)) (ci := 11) (v := .int md_keptBits) (C := "LoopInductionModel") (T := F_Md) (N := 40) hx hb hts iC_Md hown hK hP 0 rfl rfl 35 (by decide) fl_264 (fun _ h9 => h9) rfl d_Md_kept_12 ?_
    rw [← hQ]
    have hP9 := hP
    have hD9 := hD
    exact W.iret (v := md_keptBits) hx hb hr (fun t ht hW => ⟨⟨md_keptBits, (), rfl, h, by rw [ht]; exact hP9, va_K.moved hW.alike hK, hD9⟩, hS.F ht⟩) hS.2.2 d_Md_kept_15
  · have h := And.right h c_4
    refine lv_iconst (v := (-1)) hx hb d_Md_kept_7 (by decide) ?_
    refine lv_goto (tgt := 15) hx hb d_Md_kept_8 (by decide) ?_
    rw [← hQ]
    have hP9 := hP
    have hD9 := hD
    exact W.iret (v := (-1)) hx hb hr (fun t ht hW => ⟨⟨(-1), (), rfl, h, by rw [ht]; exact hP9, va_K.moved hW.alike hK, hD9⟩, hS.F ht⟩) hS.2.2 d_Md_kept_15
set_option maxHeartbeats 4000000 in
set_option maxRecDepth 100000 in
theorem c_Md_gone (l : Launch) (dC : Nat → ClassId) (dI : Nat → Nat → Nat) (cI cB cZ : ClassId) (adK adV : Nat → Nat) (sz : Nat) (a_md a_md_tape a_md_acts a_md_actNumbers a_md_actCounts a_md_pile a_md_begins a_md_goals a_md_ranks a_md_choiceCounts a_md_whens a_md_becomes a_md_guessCounts a_md_guesses a_md_unaryCounts a_md_stack a_md_nexts a_md_isBegin a_md_isGoal a_md_levels a_md_queue a_md_hasGuesses a_md_rounds a_md_marked a_md_other a_md_heights : Nat) (md_size : Int32) (md_at : Int32) (md_token : Int32) (md_tokenPlace : Int32) (md_number : Int32) (md_sign : Int32) (md_bad : Int32) (md_faultPlace : Int32) (md_place : Int32) (md_bank : Int32) (md_unaries : Int32) (md_opens : Int32) (md_piled : Int32) (md_loop : Int32) (md_keptBits : Int32) (md_guessCounts : Nat → Int32) (md_rounds : Nat → Int32) (x1 : Int32) (post : Int32 → Prop) (h : wp_Md_gone x1 md_loop md_guessCounts md_rounds post) : Met l y_Md_gone w_Md_gone ({ frames := 0, cells := 0, slots := 0, locals := 0 }) (pc_ (dC, dI) [(cI, .int), (cB, .byte), (cZ, .boolean)] [(a_md, .inr (11, [.ref a_md_tape, .int md_size, .int md_at, .int md_token, .int md_tokenPlace, .int md_number, .int md_sign, .int md_bad, .int md_faultPlace, .int md_place, .ref a_md_acts, .ref a_md_actNumbers, .ref a_md_actCounts, .int md_bank, .int md_unaries, .int md_opens, .ref a_md_pile, .int md_piled, .int md_loop, .ref a_md_begins, .ref a_md_goals, .ref a_md_ranks, .ref a_md_choiceCounts, .ref a_md_whens, .ref a_md_becomes, .ref a_md_guessCounts, .ref a_md_guesses, .ref a_md_unaryCounts, .ref a_md_stack, .ref a_md_nexts, .ref a_md_isBegin, .ref a_md_isGoal, .ref a_md_levels, .ref a_md_queue, .ref a_md_hasGuesses, .int md_keptBits, .ref a_md_rounds, .ref a_md_marked, .ref a_md_other, .ref a_md_heights])), (a_md_guessCounts, .inl (cI, 2, .inl md_guessCounts)), (a_md_rounds, .inl (cI, 12, .inl md_rounds))] sz adK adV [.ref a_md, .int x1]) (va_Qi (fun (r : Int32) (u : Unit) => post r ) (fun (u : Unit) t => bw_ (dC, dI) [(cI, .int), (cB, .byte), (cZ, .boolean)] (va_A [(a_md, .inr (11, [.ref a_md_tape, .int md_size, .int md_at, .int md_token, .int md_tokenPlace, .int md_number, .int md_sign, .int md_bad, .int md_faultPlace, .int md_place, .ref a_md_acts, .ref a_md_actNumbers, .ref a_md_actCounts, .int md_bank, .int md_unaries, .int md_opens, .ref a_md_pile, .int md_piled, .int md_loop, .ref a_md_begins, .ref a_md_goals, .ref a_md_ranks, .ref a_md_choiceCounts, .ref a_md_whens, .ref a_md_becomes, .ref a_md_guessCounts, .ref a_md_guesses, .ref a_md_unaryCounts, .ref a_md_stack, .ref a_md_nexts, .ref a_md_isBegin, .ref a_md_isGoal, .ref a_md_levels, .ref a_md_queue, .ref a_md_hasGuesses, .int md_keptBits, .ref a_md_rounds, .ref a_md_marked, .ref a_md_other, .ref a_md_heights])), (a_md_guessCounts, .inl (cI, 2, .inl md_guessCounts)), (a_md_rounds, .inl (cI, 12, .inl md_rounds))] sz) [(a_md, .inr (11, [.ref a_md_tape, .int md_size, .int md_at, .int md_token, .int md_tokenPlace, .int md_number, .int md_sign, .int md_bad, .int md_faultPlace, .int md_place, .ref a_md_acts, .ref a_md_actNumbers, .ref a_md_actCounts, .int md_bank, .int md_unaries, .int md_opens, .ref a_md_pile, .int md_piled, .int md_loop, .ref a_md_begins, .ref a_md_goals, .ref a_md_ranks, .ref a_md_choiceCounts, .ref a_md_whens, .ref a_md_becomes, .ref a_md_guessCounts, .ref a_md_guesses, .ref a_md_unaryCounts, .ref a_md_stack, .ref a_md_nexts, .ref a_md_isBegin, .ref a_md_isGoal, .ref a_md_levels, .ref a_md_queue, .ref a_md_hasGuesses, .int md_keptBits, .ref a_md_rounds, .ref a_md_marked, .ref a_md_other, .ref a_md_heights])), (a_md_guessCounts, .inl (cI, 2, .inl md_guessCounts)), (a_md_rounds, .inl (cI, 12, .inl md_rounds))] t) (va_A [(a_md, .inr (11, [.ref a_md_tape, .int md_size, .int md_at, .int md_token, .int md_tokenPlace, .int md_number, .int md_sign, .int md_bad, .int md_faultPlace, .int md_place, .ref a_md_acts, .ref a_md_actNumbers, .ref a_md_actCounts, .int md_bank, .int md_unaries, .int md_opens, .ref a_md_pile, .int md_piled, .int md_loop, .ref a_md_begins, .ref a_md_goals, .ref a_md_ranks, .ref a_md_choiceCounts, .ref a_md_whens, .ref a_md_becomes, .ref a_md_guessCounts, .ref a_md_guesses, .ref a_md_unaryCounts, .ref a_md_stack, .ref a_md_nexts, .ref a_md_isBegin, .ref a_md_isGoal, .ref a_md_levels, .ref a_md_queue, .ref a_md_hasGuesses, .int md_keptBits, .ref a_md_rounds, .ref a_md_marked, .ref a_md_other, .ref a_md_heights])), (a_md_guessCounts, .inl (cI, 2, .inl md_guessCounts)), (a_md_rounds, .inl (cI, 12, .inl md_rounds))] sz)) 0 0 (va_A [(a_md, .inr (11, [.ref a_md_tape, .int md_size, .int md_at, .int md_token, .int md_tokenPlace, .int md_number, .int md_sign, .int md_bad, .int md_faultPlace, .int md_place, .ref a_md_acts, .ref a_md_actNumbers, .ref a_md_actCounts, .int md_bank, .int md_unaries, .int md_opens, .ref a_md_pile, .int md_piled, .int md_loop, .ref a_md_begins, .ref a_md_goals, .ref a_md_ranks, .ref a_md_choiceCounts, .ref a_md_whens, .ref a_md_becomes, .ref a_md_guessCounts, .ref a_md_guesses, .ref a_md_unaryCounts, .ref a_md_stack, .ref a_md_nexts, .ref a_md_isBegin, .ref a_md_isGoal, .ref a_md_levels, .ref a_md_queue, .ref a_md_hasGuesses, .int md_keptBits, .ref a_md_rounds, .ref a_md_marked, .ref a_md_other, .ref a_md_heights])), (a_md_guessCounts, .inl (cI, 2, .inl md_guessCounts)), (a_md_rounds, .inl (cI, 12, .inl md_rounds))] sz) := by
  refine Met.ofW (cc := b_Md_gone) (maxL := 2) (ret := (some .int)) (by decide) rfl ?_
  intro p e s m args below meth c s₁ B hml hv
  obtain ⟨rfl, hsz, hP, hK, hD0, hN, hT⟩ := hv
  have hx := B.exec
  have hb := B.bytes
  have hr := B.returns
  have hts := atoms_spec (ws := w_Md_gone) B.pre
  have hown : s.vm.findClass "LoopInductionModel" = some m.cls := findClass_of_methodNamed B.named
  have hlocks := B.notSynchronized
  subst hsz
  have hD := hD0.self (sz := s.heap.size)
  generalize hAe : va_A [(a_md, .inr (11, [.ref a_md_tape, .int md_size, .int md_at, .int md_token, .int md_tokenPlace, .int md_number, .int md_sign, .int md_bad, .int md_faultPlace, .int md_place, .ref a_md_acts, .ref a_md_actNumbers, .ref a_md_actCounts, .int md_bank, .int md_unaries, .int md_opens, .ref a_md_pile, .int md_piled, .int md_loop, .ref a_md_begins, .ref a_md_goals, .ref a_md_ranks, .ref a_md_choiceCounts, .ref a_md_whens, .ref a_md_becomes, .ref a_md_guessCounts, .ref a_md_guesses, .ref a_md_unaryCounts, .ref a_md_stack, .ref a_md_nexts, .ref a_md_isBegin, .ref a_md_isGoal, .ref a_md_levels, .ref a_md_queue, .ref a_md_hasGuesses, .int md_keptBits, .ref a_md_rounds, .ref a_md_marked, .ref a_md_other, .ref a_md_heights])), (a_md_guessCounts, .inl (cI, 2, .inl md_guessCounts)), (a_md_rounds, .inl (cI, 12, .inl md_rounds))] s.heap.size = A at hD hT ⊢
  have hA : ∀ q : Nat, s.heap.size ≤ q → A q := fun q h => by rw [← hAe]; exact Or.inr h
  have hS : va_S A s.heap s.heap [] := va_S.rf
  generalize hQ : MQ below _ _ s 0 0 _ = QQ
  have hl := lv_entry ([.ref a_md, .int x1]) (n := 2) (Nat.le_of_ble_eq_true rfl)
  rw [lg_entry_eq]
  generalize (lg_sl ([.ref a_md, .int x1]) ++ List.replicate (2 - (lg_sl ([.ref a_md, .int x1])).length) Slot.unset).toArray = ls at hl ⊢
  have hl : lv_has ls 2 [(0, .ref a_md), (1, .int x1)] := hl
  have fl_30 := (hts _ (List.mem_cons_of_mem _ m_1108))
  have fl_51 := (hts _ (List.mem_cons_of_mem _ m_1115))
  have fl_82 := (hts _ (List.mem_cons_of_mem _ m_1126))
  refine lv_aload_n hx hb d_Md_gone_0 rfl (lv_at hl 0 rfl) ?_
  refine va_get (D := (dC, dI)) (ci := 11) (v := .int md_loop) (C := "LoopInductionModel") (T := F_Md) (N := 40) hx hb hts iC_Md hown hK hP 0 rfl rfl 18 (by decide) fl_30 (fun _ h9 => h9) rfl d_Md_gone_1 ?_
  refine lv_if_lt (tgt := 24) hx hb d_Md_gone_4 (by decide) (fun c_4 => ?_) (fun c_4 => ?_)
  · have h := And.left h c_4
    refine lv_iconst (v := (-1)) hx hb d_Md_gone_24 (by decide) ?_
    refine lv_goto (tgt := 34) hx hb d_Md_gone_25 (by decide) ?_
    rw [← hQ]
    have hP9 := hP
    have hD9 := hD
    exact W.iret (v := (-1)) hx hb hr (fun t ht hW => ⟨⟨(-1), (), rfl, h, by rw [ht]; exact hP9, va_K.moved hW.alike hK, hD9⟩, hS.F ht⟩) hS.2.2 d_Md_gone_34
  · have h := And.right h c_4
    refine lv_iload_n hx hb d_Md_gone_7 rfl (lv_at hl 1 rfl) ?_
    refine lv_if_lt (tgt := 24) hx hb d_Md_gone_8 (by decide) (fun c_8 => ?_) (fun c_8 => ?_)
    · have h := And.left h c_8
      refine lv_iconst (v := (-1)) hx hb d_Md_gone_24 (by decide) ?_
      refine lv_goto (tgt := 34) hx hb d_Md_gone_25 (by decide) ?_
      rw [← hQ]
      have hP9 := hP
      have hD9 := hD
      exact W.iret (v := (-1)) hx hb hr (fun t ht hW => ⟨⟨(-1), (), rfl, h, by rw [ht]; exact hP9, va_K.moved hW.alike hK, hD9⟩, hS.F ht⟩) hS.2.2 d_Md_gone_34
    · have h := And.right h c_8
      refine lv_iload_n hx hb d_Md_gone_11 rfl (lv_at hl 1 rfl) ?_
      refine lv_aload_n hx hb d_Md_gone_12 rfl (lv_at hl 0 rfl) ?_
      refine va_get (D := (dC, dI)) (ci := 11) (v := .ref a_md_guessCounts) (C := "LoopInductionModel") (T := F_Md) (N := 40) hx hb hts iC_Md hown hK hP 0 rfl rfl 25 (by decide) fl_51 (fun _ h9 => h9) rfl d_Md_gone_13 ?_
      refine lv_aload_n hx hb d_Md_gone_16 rfl (lv_at hl 0 rfl) ?_
      refine va_get (D := (dC, dI)) (ci := 11) (v := .int md_loop) (C := "LoopInductionModel") (T := F_Md) (N := 40) hx hb hts iC_Md hown hK hP 0 rfl rfl 18 (by decide) fl_30 (fun _ h9 => h9) rfl d_Md_gone_17 ?_
      obtain ⟨hin_20, h⟩ := h
      refine va_iald hx hb hK hP 1 0 rfl rfl hin_20 d_Md_gone_20 ?_
      refine lv_icmp_lt (tgt := 28) hx hb d_Md_gone_21 (by decide) (fun c_21 => ?_) (fun c_21 => ?_)
      · have h := And.left h c_21
        refine lv_aload_n hx hb d_Md_gone_28 rfl (lv_at hl 0 rfl) ?_
        refine va_get (D := (dC, dI)) (ci := 11) (v := .ref a_md_rounds) (C := "LoopInductionModel") (T := F_Md) (N := 40) hx hb hts iC_Md hown hK hP 0 rfl rfl 36 (by decide) fl_82 (fun _ h9 => h9) rfl d_Md_gone_29 ?_
        refine lv_iload_n hx hb d_Md_gone_32 rfl (lv_at hl 1 rfl) ?_
        obtain ⟨hin_33, h⟩ := h
        refine va_iald hx hb hK hP 2 0 rfl rfl hin_33 d_Md_gone_33 ?_
        rw [← hQ]
        have hP9 := hP
        have hD9 := hD
        exact W.iret (v := md_rounds (x1 : Int32).toNatClampNeg) hx hb hr (fun t ht hW => ⟨⟨(md_rounds (x1 : Int32).toNatClampNeg), (), rfl, h, by rw [ht]; exact hP9, va_K.moved hW.alike hK, hD9⟩, hS.F ht⟩) hS.2.2 d_Md_gone_34
      · have h := And.right h c_21
        refine lv_iconst (v := (-1)) hx hb d_Md_gone_24 (by decide) ?_
        refine lv_goto (tgt := 34) hx hb d_Md_gone_25 (by decide) ?_
        rw [← hQ]
        have hP9 := hP
        have hD9 := hD
        exact W.iret (v := (-1)) hx hb hr (fun t ht hW => ⟨⟨(-1), (), rfl, h, by rw [ht]; exact hP9, va_K.moved hW.alike hK, hD9⟩, hS.F ht⟩) hS.2.2 d_Md_gone_34
set_option maxHeartbeats 4000000 in
set_option maxRecDepth 100000 in
theorem c_Md_follows (l : Launch) (dC : Nat → ClassId) (dI : Nat → Nat → Nat) (cI cB cZ : ClassId) (adK adV : Nat → Nat) (sz : Nat) (a_md a_md_tape a_md_acts a_md_actNumbers a_md_actCounts a_md_pile a_md_begins a_md_goals a_md_ranks a_md_choiceCounts a_md_whens a_md_becomes a_md_guessCounts a_md_guesses a_md_unaryCounts a_md_stack a_md_nexts a_md_isBegin a_md_isGoal a_md_levels a_md_queue a_md_hasGuesses a_md_rounds a_md_marked a_md_other a_md_heights : Nat) (md_size : Int32) (md_at : Int32) (md_token : Int32) (md_tokenPlace : Int32) (md_number : Int32) (md_sign : Int32) (md_bad : Int32) (md_faultPlace : Int32) (md_place : Int32) (md_bank : Int32) (md_unaries : Int32) (md_opens : Int32) (md_piled : Int32) (md_loop : Int32) (md_keptBits : Int32) (md_isGoal : Nat → Int32) (md_hasGuesses : Nat → Int32) (post : Int32 → Prop) (h : wp_Md_follows md_loop md_keptBits md_isGoal md_hasGuesses post) : Met l y_Md_follows w_Md_follows ({ frames := 0, cells := 0, slots := 0, locals := 0 }) (pc_ (dC, dI) [(cI, .int), (cB, .byte), (cZ, .boolean)] [(a_md, .inr (11, [.ref a_md_tape, .int md_size, .int md_at, .int md_token, .int md_tokenPlace, .int md_number, .int md_sign, .int md_bad, .int md_faultPlace, .int md_place, .ref a_md_acts, .ref a_md_actNumbers, .ref a_md_actCounts, .int md_bank, .int md_unaries, .int md_opens, .ref a_md_pile, .int md_piled, .int md_loop, .ref a_md_begins, .ref a_md_goals, .ref a_md_ranks, .ref a_md_choiceCounts, .ref a_md_whens, .ref a_md_becomes, .ref a_md_guessCounts, .ref a_md_guesses, .ref a_md_unaryCounts, .ref a_md_stack, .ref a_md_nexts, .ref a_md_isBegin, .ref a_md_isGoal, .ref a_md_levels, .ref a_md_queue, .ref a_md_hasGuesses, .int md_keptBits, .ref a_md_rounds, .ref a_md_marked, .ref a_md_other, .ref a_md_heights])), (a_md_isGoal, .inl (cZ, 4096, .inl md_isGoal)), (a_md_hasGuesses, .inl (cI, 4096, .inl md_hasGuesses))] sz adK adV [.ref a_md]) (va_Qi (fun (r : Int32) (u : Unit) => post r ) (fun (u : Unit) t => bw_ (dC, dI) [(cI, .int), (cB, .byte), (cZ, .boolean)] (va_A [(a_md, .inr (11, [.ref a_md_tape, .int md_size, .int md_at, .int md_token, .int md_tokenPlace, .int md_number, .int md_sign, .int md_bad, .int md_faultPlace, .int md_place, .ref a_md_acts, .ref a_md_actNumbers, .ref a_md_actCounts, .int md_bank, .int md_unaries, .int md_opens, .ref a_md_pile, .int md_piled, .int md_loop, .ref a_md_begins, .ref a_md_goals, .ref a_md_ranks, .ref a_md_choiceCounts, .ref a_md_whens, .ref a_md_becomes, .ref a_md_guessCounts, .ref a_md_guesses, .ref a_md_unaryCounts, .ref a_md_stack, .ref a_md_nexts, .ref a_md_isBegin, .ref a_md_isGoal, .ref a_md_levels, .ref a_md_queue, .ref a_md_hasGuesses, .int md_keptBits, .ref a_md_rounds, .ref a_md_marked, .ref a_md_other, .ref a_md_heights])), (a_md_isGoal, .inl (cZ, 4096, .inl md_isGoal)), (a_md_hasGuesses, .inl (cI, 4096, .inl md_hasGuesses))] sz) [(a_md, .inr (11, [.ref a_md_tape, .int md_size, .int md_at, .int md_token, .int md_tokenPlace, .int md_number, .int md_sign, .int md_bad, .int md_faultPlace, .int md_place, .ref a_md_acts, .ref a_md_actNumbers, .ref a_md_actCounts, .int md_bank, .int md_unaries, .int md_opens, .ref a_md_pile, .int md_piled, .int md_loop, .ref a_md_begins, .ref a_md_goals, .ref a_md_ranks, .ref a_md_choiceCounts, .ref a_md_whens, .ref a_md_becomes, .ref a_md_guessCounts, .ref a_md_guesses, .ref a_md_unaryCounts, .ref a_md_stack, .ref a_md_nexts, .ref a_md_isBegin, .ref a_md_isGoal, .ref a_md_levels, .ref a_md_queue, .ref a_md_hasGuesses, .int md_keptBits, .ref a_md_rounds, .ref a_md_marked, .ref a_md_other, .ref a_md_heights])), (a_md_isGoal, .inl (cZ, 4096, .inl md_isGoal)), (a_md_hasGuesses, .inl (cI, 4096, .inl md_hasGuesses))] t) (va_A [(a_md, .inr (11, [.ref a_md_tape, .int md_size, .int md_at, .int md_token, .int md_tokenPlace, .int md_number, .int md_sign, .int md_bad, .int md_faultPlace, .int md_place, .ref a_md_acts, .ref a_md_actNumbers, .ref a_md_actCounts, .int md_bank, .int md_unaries, .int md_opens, .ref a_md_pile, .int md_piled, .int md_loop, .ref a_md_begins, .ref a_md_goals, .ref a_md_ranks, .ref a_md_choiceCounts, .ref a_md_whens, .ref a_md_becomes, .ref a_md_guessCounts, .ref a_md_guesses, .ref a_md_unaryCounts, .ref a_md_stack, .ref a_md_nexts, .ref a_md_isBegin, .ref a_md_isGoal, .ref a_md_levels, .ref a_md_queue, .ref a_md_hasGuesses, .int md_keptBits, .ref a_md_rounds, .ref a_md_marked, .ref a_md_other, .ref a_md_heights])), (a_md_isGoal, .inl (cZ, 4096, .inl md_isGoal)), (a_md_hasGuesses, .inl (cI, 4096, .inl md_hasGuesses))] sz)) 0 0 (va_A [(a_md, .inr (11, [.ref a_md_tape, .int md_size, .int md_at, .int md_token, .int md_tokenPlace, .int md_number, .int md_sign, .int md_bad, .int md_faultPlace, .int md_place, .ref a_md_acts, .ref a_md_actNumbers, .ref a_md_actCounts, .int md_bank, .int md_unaries, .int md_opens, .ref a_md_pile, .int md_piled, .int md_loop, .ref a_md_begins, .ref a_md_goals, .ref a_md_ranks, .ref a_md_choiceCounts, .ref a_md_whens, .ref a_md_becomes, .ref a_md_guessCounts, .ref a_md_guesses, .ref a_md_unaryCounts, .ref a_md_stack, .ref a_md_nexts, .ref a_md_isBegin, .ref a_md_isGoal, .ref a_md_levels, .ref a_md_queue, .ref a_md_hasGuesses, .int md_keptBits, .ref a_md_rounds, .ref a_md_marked, .ref a_md_other, .ref a_md_heights])), (a_md_isGoal, .inl (cZ, 4096, .inl md_isGoal)), (a_md_hasGuesses, .inl (cI, 4096, .inl md_hasGuesses))] sz) := by
  refine Met.ofW (cc := b_Md_follows) (maxL := 3) (ret := (some .int)) (by decide) rfl ?_
  intro p e s m args below meth c s₁ B hml hv
  obtain ⟨rfl, hsz, hP, hK, hD0, hN, hT⟩ := hv
  have hx := B.exec
  have hb := B.bytes
  have hr := B.returns
  have hts := atoms_spec (ws := w_Md_follows) B.pre
  have hown : s.vm.findClass "LoopInductionModel" = some m.cls := findClass_of_methodNamed B.named
  have hlocks := B.notSynchronized
  subst hsz
  have hD := hD0.self (sz := s.heap.size)
  generalize hAe : va_A [(a_md, .inr (11, [.ref a_md_tape, .int md_size, .int md_at, .int md_token, .int md_tokenPlace, .int md_number, .int md_sign, .int md_bad, .int md_faultPlace, .int md_place, .ref a_md_acts, .ref a_md_actNumbers, .ref a_md_actCounts, .int md_bank, .int md_unaries, .int md_opens, .ref a_md_pile, .int md_piled, .int md_loop, .ref a_md_begins, .ref a_md_goals, .ref a_md_ranks, .ref a_md_choiceCounts, .ref a_md_whens, .ref a_md_becomes, .ref a_md_guessCounts, .ref a_md_guesses, .ref a_md_unaryCounts, .ref a_md_stack, .ref a_md_nexts, .ref a_md_isBegin, .ref a_md_isGoal, .ref a_md_levels, .ref a_md_queue, .ref a_md_hasGuesses, .int md_keptBits, .ref a_md_rounds, .ref a_md_marked, .ref a_md_other, .ref a_md_heights])), (a_md_isGoal, .inl (cZ, 4096, .inl md_isGoal)), (a_md_hasGuesses, .inl (cI, 4096, .inl md_hasGuesses))] s.heap.size = A at hD hT ⊢
  have hA : ∀ q : Nat, s.heap.size ≤ q → A q := fun q h => by rw [← hAe]; exact Or.inr h
  have hS : va_S A s.heap s.heap [] := va_S.rf
  generalize hQ : MQ below _ _ s 0 0 _ = QQ
  have hl := lv_entry ([.ref a_md]) (n := 3) (Nat.le_of_ble_eq_true rfl)
  rw [lg_entry_eq]
  generalize (lg_sl ([.ref a_md]) ++ List.replicate (3 - (lg_sl ([.ref a_md])).length) Slot.unset).toArray = ls at hl ⊢
  have hl : lv_has ls 3 [(0, .ref a_md)] := hl
  have fl_30 := (hts _ (List.mem_cons_of_mem _ m_1108))
  have fl_70 := (hts _ (List.mem_cons_of_mem _ m_1121))
  have fl_79 := (hts _ (List.mem_cons_of_mem _ m_1124))
  have fl_264 := (hts _ (List.mem_cons_of_mem _ m_1125))
  refine lv_aload_n hx hb d_Md_follows_0 rfl (lv_at hl 0 rfl) ?_
  refine va_get (D := (dC, dI)) (ci := 11) (v := .int md_loop) (C := "LoopInductionModel") (T := F_Md) (N := 40) hx hb hts iC_Md hown hK hP 0 rfl rfl 18 (by decide) fl_30 (fun _ h9 => h9) rfl d_Md_follows_1 ?_
  refine lv_if_ge (tgt := 9) hx hb d_Md_follows_4 (by decide) (fun c_4 => ?_) (fun c_4 => ?_)
  · have h := And.left h c_4
    refine lv_iconst (v := 1) hx hb d_Md_follows_9 (by decide) ?_
    refine lv_istore_n (lv' := [(1, .int 1), (0, .ref a_md)]) hx hb d_Md_follows_10 rfl hl (by decide) rfl (fun ls hl => ?_)
    refine lv_iconst (v := 0) hx hb d_Md_follows_11 (by decide) ?_
    refine lv_istore_n (lv' := [(2, .int 0), (1, .int 1), (0, .ref a_md)]) hx hb d_Md_follows_12 rfl hl (by decide) rfl (fun ls hl => ?_)
    have L13_q_3 : ∀ (k63 : Int32 → Prop) (hk63 : ∀ (x1_4 : Int32), k63 x1_4 → ∀ (H : Heap) (locs : List Loc), va_P (dC, dI) vwCl [(a_md, .inr (11, [.ref a_md_tape, .int md_size, .int md_at, .int md_token, .int md_tokenPlace, .int md_number, .int md_sign, .int md_bad, .int md_faultPlace, .int md_place, .ref a_md_acts, .ref a_md_actNumbers, .ref a_md_actCounts, .int md_bank, .int md_unaries, .int md_opens, .ref a_md_pile, .int md_piled, .int md_loop, .ref a_md_begins, .ref a_md_goals, .ref a_md_ranks, .ref a_md_choiceCounts, .ref a_md_whens, .ref a_md_becomes, .ref a_md_guessCounts, .ref a_md_guesses, .ref a_md_unaryCounts, .ref a_md_stack, .ref a_md_nexts, .ref a_md_isBegin, .ref a_md_isGoal, .ref a_md_levels, .ref a_md_queue, .ref a_md_hasGuesses, .int md_keptBits, .ref a_md_rounds, .ref a_md_marked, .ref a_md_other, .ref a_md_heights])), (a_md_isGoal, .inl (cZ, 4096, .inl md_isGoal)), (a_md_hasGuesses, .inl (cI, 4096, .inl md_hasGuesses))] H → va_D A [(a_md, .inr (11, [.ref a_md_tape, .int md_size, .int md_at, .int md_token, .int md_tokenPlace, .int md_number, .int md_sign, .int md_bad, .int md_faultPlace, .int md_place, .ref a_md_acts, .ref a_md_actNumbers, .ref a_md_actCounts, .int md_bank, .int md_unaries, .int md_opens, .ref a_md_pile, .int md_piled, .int md_loop, .ref a_md_begins, .ref a_md_goals, .ref a_md_ranks, .ref a_md_choiceCounts, .ref a_md_whens, .ref a_md_becomes, .ref a_md_guessCounts, .ref a_md_guesses, .ref a_md_unaryCounts, .ref a_md_stack, .ref a_md_nexts, .ref a_md_isBegin, .ref a_md_isGoal, .ref a_md_levels, .ref a_md_queue, .ref a_md_hasGuesses, .int md_keptBits, .ref a_md_rounds, .ref a_md_marked, .ref a_md_other, .ref a_md_heights])), (a_md_isGoal, .inl (cZ, 4096, .inl md_isGoal)), (a_md_hasGuesses, .inl (cI, 4096, .inl md_hasGuesses))] → va_S A s.heap H locs → ∀ ls : Array Slot, lv_has ls 3 [(1, .int x1_4)] → W p l e (headSpec w_Md_follows ({ frames := 0, cells := 0, slots := 0, locals := 0 })).room s m (([.ref a_md] : List Value).toArray) below meth c H locs 0 0 QQ (F0 m 63 ls [])) (n : Nat) (x1_1 : Int32) (x2_2 : Int32), wp_Md_follows_L13 md_keptBits md_isGoal md_hasGuesses k63 n x1_1 x2_2 → ∀ (H : Heap) (locs : List Loc), va_P (dC, dI) vwCl [(a_md, .inr (11, [.ref a_md_tape, .int md_size, .int md_at, .int md_token, .int md_tokenPlace, .int md_number, .int md_sign, .int md_bad, .int md_faultPlace, .int md_place, .ref a_md_acts, .ref a_md_actNumbers, .ref a_md_actCounts, .int md_bank, .int md_unaries, .int md_opens, .ref a_md_pile, .int md_piled, .int md_loop, .ref a_md_begins, .ref a_md_goals, .ref a_md_ranks, .ref a_md_choiceCounts, .ref a_md_whens, .ref a_md_becomes, .ref a_md_guessCounts, .ref a_md_guesses, .ref a_md_unaryCounts, .ref a_md_stack, .ref a_md_nexts, .ref a_md_isBegin, .ref a_md_isGoal, .ref a_md_levels, .ref a_md_queue, .ref a_md_hasGuesses, .int md_keptBits, .ref a_md_rounds, .ref a_md_marked, .ref a_md_other, .ref a_md_heights])), (a_md_isGoal, .inl (cZ, 4096, .inl md_isGoal)), (a_md_hasGuesses, .inl (cI, 4096, .inl md_hasGuesses))] H → va_D A [(a_md, .inr (11, [.ref a_md_tape, .int md_size, .int md_at, .int md_token, .int md_tokenPlace, .int md_number, .int md_sign, .int md_bad, .int md_faultPlace, .int md_place, .ref a_md_acts, .ref a_md_actNumbers, .ref a_md_actCounts, .int md_bank, .int md_unaries, .int md_opens, .ref a_md_pile, .int md_piled, .int md_loop, .ref a_md_begins, .ref a_md_goals, .ref a_md_ranks, .ref a_md_choiceCounts, .ref a_md_whens, .ref a_md_becomes, .ref a_md_guessCounts, .ref a_md_guesses, .ref a_md_unaryCounts, .ref a_md_stack, .ref a_md_nexts, .ref a_md_isBegin, .ref a_md_isGoal, .ref a_md_levels, .ref a_md_queue, .ref a_md_hasGuesses, .int md_keptBits, .ref a_md_rounds, .ref a_md_marked, .ref a_md_other, .ref a_md_heights])), (a_md_isGoal, .inl (cZ, 4096, .inl md_isGoal)), (a_md_hasGuesses, .inl (cI, 4096, .inl md_hasGuesses))] → va_S A s.heap H locs → ∀ ls : Array Slot, lv_has ls 3 [(0, .ref a_md), (1, .int x1_1), (2, .int x2_2)] → W p l e (headSpec w_Md_follows ({ frames := 0, cells := 0, slots := 0, locals := 0 })).room s m (([.ref a_md] : List Value).toArray) below meth c H locs 0 0 QQ (F0 m 13 ls []) := by
      intro k63 hk63 n
      induction n with
      | zero => intro x1_1 x2_2 h; exact (show False from h).elim
      | succ n il =>
        intro x1_1 x2_2 h
        intro H locs hP hD hS ls hl
        refine lv_iload_n hx hb d_Md_follows_13 rfl (lv_at hl 2 rfl) ?_
        refine lv_sipush (v := 4096) hx hb d_Md_follows_14 (by decide) ?_
        refine lv_icmp_ge (tgt := 63) hx hb d_Md_follows_17 (by decide) (fun c_17 => ?_) (fun c_17 => ?_)
        · have h := And.left h c_17
          exact hk63 _ h _ _ hP hD hS _ (lv_sub hl [1] rfl)
        · have h := And.right h c_17
          refine lv_iload_n hx hb d_Md_follows_20 rfl (lv_at hl 1 rfl) ?_
          refine lv_if_eq (tgt := 55) hx hb d_Md_follows_21 (by decide) (fun c_21 => ?_) (fun c_21 => ?_)
          · have h := And.left h c_21
            refine lv_iconst (v := 0) hx hb d_Md_follows_55 (by decide) ?_
            refine lv_istore_n (lv' := [(1, .int 0), (0, .ref a_md), (2, .int x2_2)]) hx hb d_Md_follows_56 rfl hl (by decide) rfl (fun ls hl => ?_)
            refine lv_iinc (v := x2_2 + 1) (lv' := [(2, .int (x2_2 + 1)), (1, .int 0), (0, .ref a_md)]) hx hb d_Md_follows_57 hl (k := 2) rfl rfl (by decide) rfl (fun ls hl => ?_)
            refine lv_goto (tgt := 13) hx hb d_Md_follows_60 (by decide) ?_
            exact il _ _ h _ _ hP hD hS _ (lv_sub hl [2, 1, 0] rfl)
          · have h := And.right h c_21
            refine lv_aload_n hx hb d_Md_follows_24 rfl (lv_at hl 0 rfl) ?_
            refine va_get (D := (dC, dI)) (ci := 11) (v := .ref a_md_hasGuesses) (C := "LoopInductionModel") (T := F_Md) (N := 40) hx hb hts iC_Md hown hK hP 0 rfl rfl 34 (by decide) fl_79 (fun _ h9 => h9) rfl d_Md_follows_25 ?_
            refine lv_iload_n hx hb d_Md_follows_28 rfl (lv_at hl 2 rfl) ?_
            obtain ⟨hin_29, h⟩ := h
            refine va_iald hx hb hK hP 2 0 rfl rfl hin_29 d_Md_follows_29 ?_
            refine lv_aload_n hx hb d_Md_follows_30 rfl (lv_at hl 0 rfl) ?_
            refine va_get (D := (dC, dI)) (ci := 11) (v := .int md_keptBits) (C := "LoopInductionModel") (T := F_Md) (N := 40) hx hb hts iC_Md hown hK hP 0 rfl rfl 35 (by decide) fl_264 (fun _ h9 => h9) rfl d_Md_follows_31 ?_
            refine lv_iand hx hb d_Md_follows_34 ?_
            refine lv_aload_n hx hb d_Md_follows_35 rfl (lv_at hl 0 rfl) ?_
            refine va_get (D := (dC, dI)) (ci := 11) (v := .int md_keptBits) (C := "LoopInductionModel") (T := F_Md) (N := 40) hx hb hts iC_Md hown hK hP 0 rfl rfl 35 (by decide) fl_264 (fun _ h9 => h9) rfl d_Md_follows_36 ?_
            refine lv_icmp_ne (tgt := 51) hx hb d_Md_follows_39 (by decide) (fun c_39 => ?_) (fun c_39 => ?_)
            · have h := And.left h c_39
              refine lv_iconst (v := 1) hx hb d_Md_follows_51 (by decide) ?_
              refine lv_goto (tgt := 56) hx hb d_Md_follows_52 (by decide) ?_
              refine lv_istore_n (lv' := [(1, .int 1), (0, .ref a_md), (2, .int x2_2)]) hx hb d_Md_follows_56 rfl hl (by decide) rfl (fun ls hl => ?_)
              refine lv_iinc (v := x2_2 + 1) (lv' := [(2, .int (x2_2 + 1)), (1, .int 1), (0, .ref a_md)]) hx hb d_Md_follows_57 hl (k := 2) rfl rfl (by decide) rfl (fun ls hl => ?_)
              refine lv_goto (tgt := 13) hx hb d_Md_follows_60 (by decide) ?_
              exact il _ _ h _ _ hP hD hS _ (lv_sub hl [2, 1, 0] rfl)
            · have h := And.right h c_39
              refine lv_aload_n hx hb d_Md_follows_42 rfl (lv_at hl 0 rfl) ?_
              refine va_get (D := (dC, dI)) (ci := 11) (v := .ref a_md_isGoal) (C := "LoopInductionModel") (T := F_Md) (N := 40) hx hb hts iC_Md hown hK hP 0 rfl rfl 31 (by decide) fl_70 (fun _ h9 => h9) rfl d_Md_follows_43 ?_
              refine lv_iload_n hx hb d_Md_follows_46 rfl (lv_at hl 2 rfl) ?_
              obtain ⟨hin_47, h⟩ := h
              refine va_zald hx hb hK hP 1 2 rfl rfl hin_47 d_Md_follows_47 ?_
              refine lv_if_eq (tgt := 55) hx hb d_Md_follows_48 (by decide) (fun c_48 => ?_) (fun c_48 => ?_)
              · have h := And.left h c_48
                refine lv_iconst (v := 0) hx hb d_Md_follows_55 (by decide) ?_
                refine lv_istore_n (lv' := [(1, .int 0), (0, .ref a_md), (2, .int x2_2)]) hx hb d_Md_follows_56 rfl hl (by decide) rfl (fun ls hl => ?_)
                refine lv_iinc (v := x2_2 + 1) (lv' := [(2, .int (x2_2 + 1)), (1, .int 0), (0, .ref a_md)]) hx hb d_Md_follows_57 hl (k := 2) rfl rfl (by decide) rfl (fun ls hl => ?_)
                refine lv_goto (tgt := 13) hx hb d_Md_follows_60 (by decide) ?_
                exact il _ _ h _ _ hP hD hS _ (lv_sub hl [2, 1, 0] rfl)
              · have h := And.right h c_48
                refine lv_iconst (v := 1) hx hb d_Md_follows_51 (by decide) ?_
                refine lv_goto (tgt := 56) hx hb d_Md_follows_52 (by decide) ?_
                refine lv_istore_n (lv' := [(1, .int 1), (0, .ref a_md), (2, .int x2_2)]) hx hb d_Md_follows_56 rfl hl (by decide) rfl (fun ls hl => ?_)
                refine lv_iinc (v := x2_2 + 1) (lv' := [(2, .int (x2_2 + 1)), (1, .int 1), (0, .ref a_md)]) hx hb d_Md_follows_57 hl (k := 2) rfl rfl (by decide) rfl (fun ls hl => ?_)
                refine lv_goto (tgt := 13) hx hb d_Md_follows_60 (by decide) ?_
                exact il _ _ h _ _ hP hD hS _ (lv_sub hl [2, 1, 0] rfl)
    obtain ⟨n_, h⟩ := h
    refine L13_q_3 _ ?_ n_ _ _ h _ _ hP hD hS _ (lv_sub hl [2, 1, 0] rfl)
    intro x1_5 h
    intro H locs hP hD hS ls hl
    refine lv_iload_n hx hb d_Md_follows_63 rfl (lv_at hl 0 rfl) ?_
    refine lv_if_eq (tgt := 71) hx hb d_Md_follows_64 (by decide) (fun c_64 => ?_) (fun c_64 => ?_)
    · have h := And.left h c_64
      refine lv_iconst (v := 0) hx hb d_Md_follows_71 (by decide) ?_
      rw [← hQ]
      have hP9 := hP
      have hD9 := hD
      exact W.iret (v := 0) hx hb hr (fun t ht hW => ⟨⟨0, (), rfl, h, by rw [ht]; exact hP9, va_K.moved hW.alike hK, hD9⟩, hS.F ht⟩) hS.2.2 d_Md_follows_72
    · have h := And.right h c_64
      refine lv_iconst (v := 1) hx hb d_Md_follows_67 (by decide) ?_
      refine lv_goto (tgt := 72) hx hb d_Md_follows_68 (by decide) ?_
      rw [← hQ]
      have hP9 := hP
      have hD9 := hD
      exact W.iret (v := 1) hx hb hr (fun t ht hW => ⟨⟨1, (), rfl, h, by rw [ht]; exact hP9, va_K.moved hW.alike hK, hD9⟩, hS.F ht⟩) hS.2.2 d_Md_follows_72
  · have h := And.right h c_4
    refine lv_iconst (v := (-1)) hx hb d_Md_follows_7 (by decide) ?_
    rw [← hQ]
    have hP9 := hP
    have hD9 := hD
    exact W.iret (v := (-1)) hx hb hr (fun t ht hW => ⟨⟨(-1), (), rfl, h, by rw [ht]; exact hP9, va_K.moved hW.alike hK, hD9⟩, hS.F ht⟩) hS.2.2 d_Md_follows_8
