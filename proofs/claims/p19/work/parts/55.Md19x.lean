set_option maxHeartbeats 4000000 in
set_option maxRecDepth 100000 in
theorem c_Md_many (l : Launch) (dC : Nat → ClassId) (dI : Nat → Nat → Nat) (cI cB cZ : ClassId) (adK adV : Nat → Nat) (sz : Nat) (a_md a_md_tape a_md_acts a_md_actNumbers a_md_actCounts a_md_pile a_md_begins a_md_goals a_md_ranks a_md_choiceCounts a_md_whens a_md_becomes a_md_guessCounts a_md_guesses a_md_unaryCounts a_md_stack a_md_nexts a_md_isBegin a_md_isGoal a_md_levels a_md_queue a_md_hasGuesses a_md_rounds a_md_marked a_md_other a_md_heights : Nat) (md_size : Int32) (md_at : Int32) (md_token : Int32) (md_tokenPlace : Int32) (md_number : Int32) (md_sign : Int32) (md_bad : Int32) (md_faultPlace : Int32) (md_place : Int32) (md_bank : Int32) (md_unaries : Int32) (md_opens : Int32) (md_piled : Int32) (md_loop : Int32) (md_keptBits : Int32) (md_nexts : Nat → Int32) (md_isBegin : Nat → Int32) (md_isGoal : Nat → Int32) (md_levels : Nat → Int32) (md_hasGuesses : Nat → Int32) (x1 : Int32) (post : Int32 → Prop) (h : wp_Md_many x1 md_loop md_keptBits md_nexts md_isBegin md_isGoal md_levels md_hasGuesses post) : Met l y_Md_many w_Md_many ({ frames := 1, cells := 0, slots := 0, locals := 26 }) (pc_ (dC, dI) [(cI, .int), (cB, .byte), (cZ, .boolean)] [(a_md, .inr (11, [.ref a_md_tape, .int md_size, .int md_at, .int md_token, .int md_tokenPlace, .int md_number, .int md_sign, .int md_bad, .int md_faultPlace, .int md_place, .ref a_md_acts, .ref a_md_actNumbers, .ref a_md_actCounts, .int md_bank, .int md_unaries, .int md_opens, .ref a_md_pile, .int md_piled, .int md_loop, .ref a_md_begins, .ref a_md_goals, .ref a_md_ranks, .ref a_md_choiceCounts, .ref a_md_whens, .ref a_md_becomes, .ref a_md_guessCounts, .ref a_md_guesses, .ref a_md_unaryCounts, .ref a_md_stack, .ref a_md_nexts, .ref a_md_isBegin, .ref a_md_isGoal, .ref a_md_levels, .ref a_md_queue, .ref a_md_hasGuesses, .int md_keptBits, .ref a_md_rounds, .ref a_md_marked, .ref a_md_other, .ref a_md_heights])), (a_md_nexts, .inl (cI, 24576, .inl md_nexts)), (a_md_isBegin, .inl (cZ, 4096, .inl md_isBegin)), (a_md_isGoal, .inl (cZ, 4096, .inl md_isGoal)), (a_md_levels, .inl (cI, 4096, .inl md_levels)), (a_md_hasGuesses, .inl (cI, 4096, .inl md_hasGuesses))] sz adK adV [.ref a_md, .int x1]) (va_Qi (fun (r : Int32) (u : Unit) => post r ) (fun (u : Unit) t => bw_ (dC, dI) [(cI, .int), (cB, .byte), (cZ, .boolean)] (va_A [(a_md, .inr (11, [.ref a_md_tape, .int md_size, .int md_at, .int md_token, .int md_tokenPlace, .int md_number, .int md_sign, .int md_bad, .int md_faultPlace, .int md_place, .ref a_md_acts, .ref a_md_actNumbers, .ref a_md_actCounts, .int md_bank, .int md_unaries, .int md_opens, .ref a_md_pile, .int md_piled, .int md_loop, .ref a_md_begins, .ref a_md_goals, .ref a_md_ranks, .ref a_md_choiceCounts, .ref a_md_whens, .ref a_md_becomes, .ref a_md_guessCounts, .ref a_md_guesses, .ref a_md_unaryCounts, .ref a_md_stack, .ref a_md_nexts, .ref a_md_isBegin, .ref a_md_isGoal, .ref a_md_levels, .ref a_md_queue, .ref a_md_hasGuesses, .int md_keptBits, .ref a_md_rounds, .ref a_md_marked, .ref a_md_other, .ref a_md_heights])), (a_md_nexts, .inl (cI, 24576, .inl md_nexts)), (a_md_isBegin, .inl (cZ, 4096, .inl md_isBegin)), (a_md_isGoal, .inl (cZ, 4096, .inl md_isGoal)), (a_md_levels, .inl (cI, 4096, .inl md_levels)), (a_md_hasGuesses, .inl (cI, 4096, .inl md_hasGuesses))] sz) [(a_md, .inr (11, [.ref a_md_tape, .int md_size, .int md_at, .int md_token, .int md_tokenPlace, .int md_number, .int md_sign, .int md_bad, .int md_faultPlace, .int md_place, .ref a_md_acts, .ref a_md_actNumbers, .ref a_md_actCounts, .int md_bank, .int md_unaries, .int md_opens, .ref a_md_pile, .int md_piled, .int md_loop, .ref a_md_begins, .ref a_md_goals, .ref a_md_ranks, .ref a_md_choiceCounts, .ref a_md_whens, .ref a_md_becomes, .ref a_md_guessCounts, .ref a_md_guesses, .ref a_md_unaryCounts, .ref a_md_stack, .ref a_md_nexts, .ref a_md_isBegin, .ref a_md_isGoal, .ref a_md_levels, .ref a_md_queue, .ref a_md_hasGuesses, .int md_keptBits, .ref a_md_rounds, .ref a_md_marked, .ref a_md_other, .ref a_md_heights])), (a_md_nexts, .inl (cI, 24576, .inl md_nexts)), (a_md_isBegin, .inl (cZ, 4096, .inl md_isBegin)), (a_md_isGoal, .inl (cZ, 4096, .inl md_isGoal)), (a_md_levels, .inl (cI, 4096, .inl md_levels)), (a_md_hasGuesses, .inl (cI, 4096, .inl md_hasGuesses))] t) (va_A [(a_md, .inr (11, [.ref a_md_tape, .int md_size, .int md_at, .int md_token, .int md_tokenPlace, .int md_number, .int md_sign, .int md_bad, .int md_faultPlace, .int md_place, .ref a_md_acts, .ref a_md_actNumbers, .ref a_md_actCounts, .int md_bank, .int md_unaries, .int md_opens, .ref a_md_pile, .int md_piled, .int md_loop, .ref a_md_begins, .ref a_md_goals, .ref a_md_ranks, .ref a_md_choiceCounts, .ref a_md_whens, .ref a_md_becomes, .ref a_md_guessCounts, .ref a_md_guesses, .ref a_md_unaryCounts, .ref a_md_stack, .ref a_md_nexts, .ref a_md_isBegin, .ref a_md_isGoal, .ref a_md_levels, .ref a_md_queue, .ref a_md_hasGuesses, .int md_keptBits, .ref a_md_rounds, .ref a_md_marked, .ref a_md_other, .ref a_md_heights])), (a_md_nexts, .inl (cI, 24576, .inl md_nexts)), (a_md_isBegin, .inl (cZ, 4096, .inl md_isBegin)), (a_md_isGoal, .inl (cZ, 4096, .inl md_isGoal)), (a_md_levels, .inl (cI, 4096, .inl md_levels)), (a_md_hasGuesses, .inl (cI, 4096, .inl md_hasGuesses))] sz)) 0 0 (va_A [(a_md, .inr (11, [.ref a_md_tape, .int md_size, .int md_at, .int md_token, .int md_tokenPlace, .int md_number, .int md_sign, .int md_bad, .int md_faultPlace, .int md_place, .ref a_md_acts, .ref a_md_actNumbers, .ref a_md_actCounts, .int md_bank, .int md_unaries, .int md_opens, .ref a_md_pile, .int md_piled, .int md_loop, .ref a_md_begins, .ref a_md_goals, .ref a_md_ranks, .ref a_md_choiceCounts, .ref a_md_whens, .ref a_md_becomes, .ref a_md_guessCounts, .ref a_md_guesses, .ref a_md_unaryCounts, .ref a_md_stack, .ref a_md_nexts, .ref a_md_isBegin, .ref a_md_isGoal, .ref a_md_levels, .ref a_md_queue, .ref a_md_hasGuesses, .int md_keptBits, .ref a_md_rounds, .ref a_md_marked, .ref a_md_other, .ref a_md_heights])), (a_md_nexts, .inl (cI, 24576, .inl md_nexts)), (a_md_isBegin, .inl (cZ, 4096, .inl md_isBegin)), (a_md_isGoal, .inl (cZ, 4096, .inl md_isGoal)), (a_md_levels, .inl (cI, 4096, .inl md_levels)), (a_md_hasGuesses, .inl (cI, 4096, .inl md_hasGuesses))] sz) := by
  refine Met.ofW (cc := b_Md_many) (maxL := 6) (ret := (some .int)) (by decide) rfl ?_
  intro p e s m args below meth c s₁ B hml hv
  obtain ⟨rfl, hsz, hP, hK, hD0, hN, hT⟩ := hv
  have hx := B.exec
  have hb := B.bytes
  have hr := B.returns
  have hts := atoms_spec (ws := w_Md_many) B.pre
  have hown : s.vm.findClass "LoopInductionModel" = some m.cls := findClass_of_methodNamed B.named
  have hlocks := B.notSynchronized
  subst hsz
  have hD := hD0.self (sz := s.heap.size)
  generalize hAe : va_A [(a_md, .inr (11, [.ref a_md_tape, .int md_size, .int md_at, .int md_token, .int md_tokenPlace, .int md_number, .int md_sign, .int md_bad, .int md_faultPlace, .int md_place, .ref a_md_acts, .ref a_md_actNumbers, .ref a_md_actCounts, .int md_bank, .int md_unaries, .int md_opens, .ref a_md_pile, .int md_piled, .int md_loop, .ref a_md_begins, .ref a_md_goals, .ref a_md_ranks, .ref a_md_choiceCounts, .ref a_md_whens, .ref a_md_becomes, .ref a_md_guessCounts, .ref a_md_guesses, .ref a_md_unaryCounts, .ref a_md_stack, .ref a_md_nexts, .ref a_md_isBegin, .ref a_md_isGoal, .ref a_md_levels, .ref a_md_queue, .ref a_md_hasGuesses, .int md_keptBits, .ref a_md_rounds, .ref a_md_marked, .ref a_md_other, .ref a_md_heights])), (a_md_nexts, .inl (cI, 24576, .inl md_nexts)), (a_md_isBegin, .inl (cZ, 4096, .inl md_isBegin)), (a_md_isGoal, .inl (cZ, 4096, .inl md_isGoal)), (a_md_levels, .inl (cI, 4096, .inl md_levels)), (a_md_hasGuesses, .inl (cI, 4096, .inl md_hasGuesses))] s.heap.size = A at hD hT ⊢
  have hA : ∀ q : Nat, s.heap.size ≤ q → A q := fun q h => by rw [← hAe]; exact Or.inr h
  have hS : va_S A s.heap s.heap [] := va_S.rf
  generalize hQ : MQ below _ _ s 0 0 _ = QQ
  have hl := lv_entry ([.ref a_md, .int x1]) (n := 6) (Nat.le_of_ble_eq_true rfl)
  rw [lg_entry_eq]
  generalize (lg_sl ([.ref a_md, .int x1]) ++ List.replicate (6 - (lg_sl ([.ref a_md, .int x1])).length) Slot.unset).toArray = ls at hl ⊢
  have hl : lv_has ls 6 [(0, .ref a_md), (1, .int x1)] := hl
  have fl_30 := (hts _ (List.mem_cons_of_mem _ m_1108))
  have fl_66 := (hts _ (List.mem_cons_of_mem _ m_1120))
  have fl_70 := (hts _ (List.mem_cons_of_mem _ m_1121))
  have fl_73 := (hts _ (List.mem_cons_of_mem _ m_1122))
  have fl_79 := (hts _ (List.mem_cons_of_mem _ m_1124))
  have fl_264 := (hts _ (List.mem_cons_of_mem _ m_1125))
  refine lv_aload_n hx hb d_Md_many_0 rfl (lv_at hl 0 rfl) ?_
  refine va_get (D := (dC, dI)) (ci := 11) (v := .int md_loop) (C := "LoopInductionModel") (T := F_Md) (N := 40) hx hb hts iC_Md hown hK hP 0 rfl rfl 18 (by decide) fl_30 (fun _ h9 => h9) rfl d_Md_many_1 ?_
  refine lv_if_lt (tgt := 17) hx hb d_Md_many_4 (by decide) (fun c_4 => ?_) (fun c_4 => ?_)
  · have h := And.left h c_4
    refine lv_iconst (v := (-1)) hx hb d_Md_many_17 (by decide) ?_
    rw [← hQ]
    have hP9 := hP
    have hD9 := hD
    exact W.iret (v := (-1)) hx hb hr (fun t ht hW => ⟨⟨(-1), (), rfl, h, by rw [ht]; exact hP9, va_K.moved hW.alike hK, hD9⟩, hS.F ht⟩) hS.2.2 d_Md_many_18
  · have h := And.right h c_4
    refine lv_iload_n hx hb d_Md_many_7 rfl (lv_at hl 1 rfl) ?_
    refine lv_if_lt (tgt := 17) hx hb d_Md_many_8 (by decide) (fun c_8 => ?_) (fun c_8 => ?_)
    · have h := And.left h c_8
      refine lv_iconst (v := (-1)) hx hb d_Md_many_17 (by decide) ?_
      rw [← hQ]
      have hP9 := hP
      have hD9 := hD
      exact W.iret (v := (-1)) hx hb hr (fun t ht hW => ⟨⟨(-1), (), rfl, h, by rw [ht]; exact hP9, va_K.moved hW.alike hK, hD9⟩, hS.F ht⟩) hS.2.2 d_Md_many_18
    · have h := And.right h c_8
      refine lv_iload_n hx hb d_Md_many_11 rfl (lv_at hl 1 rfl) ?_
      refine lv_bipush (v := 6) hx hb d_Md_many_12 (by decide) ?_
      refine lv_icmp_le (tgt := 19) hx hb d_Md_many_14 (by decide) (fun c_14 => ?_) (fun c_14 => ?_)
      · have h := And.left h c_14
        refine lv_iconst (v := 0) hx hb d_Md_many_19 (by decide) ?_
        refine lv_istore_n (lv' := [(2, .int 0), (0, .ref a_md), (1, .int x1)]) hx hb d_Md_many_20 rfl hl (by decide) rfl (fun ls hl => ?_)
        refine lv_iconst (v := (-1)) hx hb d_Md_many_21 (by decide) ?_
        refine lv_istore_n (lv' := [(3, .int (-1)), (2, .int 0), (0, .ref a_md), (1, .int x1)]) hx hb d_Md_many_22 rfl hl (by decide) rfl (fun ls hl => ?_)
        refine lv_iconst (v := 0) hx hb d_Md_many_23 (by decide) ?_
        refine lv_istore (lv' := [(4, .int 0), (3, .int (-1)), (2, .int 0), (0, .ref a_md), (1, .int x1)]) hx hb d_Md_many_24 hl (by decide) rfl (fun ls hl => ?_)
        have L26_q_4 : ∀ (k249 : Int32 → Int32 → Prop) (hk249 : ∀ (x2_5 : Int32) (x3_6 : Int32), k249 x2_5 x3_6 → ∀ (H : Heap) (locs : List Loc), va_P (dC, dI) vwCl [(a_md, .inr (11, [.ref a_md_tape, .int md_size, .int md_at, .int md_token, .int md_tokenPlace, .int md_number, .int md_sign, .int md_bad, .int md_faultPlace, .int md_place, .ref a_md_acts, .ref a_md_actNumbers, .ref a_md_actCounts, .int md_bank, .int md_unaries, .int md_opens, .ref a_md_pile, .int md_piled, .int md_loop, .ref a_md_begins, .ref a_md_goals, .ref a_md_ranks, .ref a_md_choiceCounts, .ref a_md_whens, .ref a_md_becomes, .ref a_md_guessCounts, .ref a_md_guesses, .ref a_md_unaryCounts, .ref a_md_stack, .ref a_md_nexts, .ref a_md_isBegin, .ref a_md_isGoal, .ref a_md_levels, .ref a_md_queue, .ref a_md_hasGuesses, .int md_keptBits, .ref a_md_rounds, .ref a_md_marked, .ref a_md_other, .ref a_md_heights])), (a_md_nexts, .inl (cI, 24576, .inl md_nexts)), (a_md_isBegin, .inl (cZ, 4096, .inl md_isBegin)), (a_md_isGoal, .inl (cZ, 4096, .inl md_isGoal)), (a_md_levels, .inl (cI, 4096, .inl md_levels)), (a_md_hasGuesses, .inl (cI, 4096, .inl md_hasGuesses))] H → va_D A [(a_md, .inr (11, [.ref a_md_tape, .int md_size, .int md_at, .int md_token, .int md_tokenPlace, .int md_number, .int md_sign, .int md_bad, .int md_faultPlace, .int md_place, .ref a_md_acts, .ref a_md_actNumbers, .ref a_md_actCounts, .int md_bank, .int md_unaries, .int md_opens, .ref a_md_pile, .int md_piled, .int md_loop, .ref a_md_begins, .ref a_md_goals, .ref a_md_ranks, .ref a_md_choiceCounts, .ref a_md_whens, .ref a_md_becomes, .ref a_md_guessCounts, .ref a_md_guesses, .ref a_md_unaryCounts, .ref a_md_stack, .ref a_md_nexts, .ref a_md_isBegin, .ref a_md_isGoal, .ref a_md_levels, .ref a_md_queue, .ref a_md_hasGuesses, .int md_keptBits, .ref a_md_rounds, .ref a_md_marked, .ref a_md_other, .ref a_md_heights])), (a_md_nexts, .inl (cI, 24576, .inl md_nexts)), (a_md_isBegin, .inl (cZ, 4096, .inl md_isBegin)), (a_md_isGoal, .inl (cZ, 4096, .inl md_isGoal)), (a_md_levels, .inl (cI, 4096, .inl md_levels)), (a_md_hasGuesses, .inl (cI, 4096, .inl md_hasGuesses))] → va_S A s.heap H locs → ∀ ls : Array Slot, lv_has ls 6 [(1, .int x1), (2, .int x2_5), (3, .int x3_6)] → W p l e (headSpec w_Md_many ({ frames := 1, cells := 0, slots := 0, locals := 26 })).room s m (([.ref a_md, .int x1] : List Value).toArray) below meth c H locs 0 0 QQ (F0 m 249 ls [])) (n : Nat) (x2_1 : Int32) (x3_2 : Int32) (x4_3 : Int32), wp_Md_many_L26 x1 md_keptBits md_nexts md_isBegin md_isGoal md_levels md_hasGuesses k249 n x2_1 x3_2 x4_3 → ∀ (H : Heap) (locs : List Loc), va_P (dC, dI) vwCl [(a_md, .inr (11, [.ref a_md_tape, .int md_size, .int md_at, .int md_token, .int md_tokenPlace, .int md_number, .int md_sign, .int md_bad, .int md_faultPlace, .int md_place, .ref a_md_acts, .ref a_md_actNumbers, .ref a_md_actCounts, .int md_bank, .int md_unaries, .int md_opens, .ref a_md_pile, .int md_piled, .int md_loop, .ref a_md_begins, .ref a_md_goals, .ref a_md_ranks, .ref a_md_choiceCounts, .ref a_md_whens, .ref a_md_becomes, .ref a_md_guessCounts, .ref a_md_guesses, .ref a_md_unaryCounts, .ref a_md_stack, .ref a_md_nexts, .ref a_md_isBegin, .ref a_md_isGoal, .ref a_md_levels, .ref a_md_queue, .ref a_md_hasGuesses, .int md_keptBits, .ref a_md_rounds, .ref a_md_marked, .ref a_md_other, .ref a_md_heights])), (a_md_nexts, .inl (cI, 24576, .inl md_nexts)), (a_md_isBegin, .inl (cZ, 4096, .inl md_isBegin)), (a_md_isGoal, .inl (cZ, 4096, .inl md_isGoal)), (a_md_levels, .inl (cI, 4096, .inl md_levels)), (a_md_hasGuesses, .inl (cI, 4096, .inl md_hasGuesses))] H → va_D A [(a_md, .inr (11, [.ref a_md_tape, .int md_size, .int md_at, .int md_token, .int md_tokenPlace, .int md_number, .int md_sign, .int md_bad, .int md_faultPlace, .int md_place, .ref a_md_acts, .ref a_md_actNumbers, .ref a_md_actCounts, .int md_bank, .int md_unaries, .int md_opens, .ref a_md_pile, .int md_piled, .int md_loop, .ref a_md_begins, .ref a_md_goals, .ref a_md_ranks, .ref a_md_choiceCounts, .ref a_md_whens, .ref a_md_becomes, .ref a_md_guessCounts, .ref a_md_guesses, .ref a_md_unaryCounts, .ref a_md_stack, .ref a_md_nexts, .ref a_md_isBegin, .ref a_md_isGoal, .ref a_md_levels, .ref a_md_queue, .ref a_md_hasGuesses, .int md_keptBits, .ref a_md_rounds, .ref a_md_marked, .ref a_md_other, .ref a_md_heights])), (a_md_nexts, .inl (cI, 24576, .inl md_nexts)), (a_md_isBegin, .inl (cZ, 4096, .inl md_isBegin)), (a_md_isGoal, .inl (cZ, 4096, .inl md_isGoal)), (a_md_levels, .inl (cI, 4096, .inl md_levels)), (a_md_hasGuesses, .inl (cI, 4096, .inl md_hasGuesses))] → va_S A s.heap H locs → ∀ ls : Array Slot, lv_has ls 6 [(0, .ref a_md), (1, .int x1), (2, .int x2_1), (3, .int x3_2), (4, .int x4_3)] → W p l e (headSpec w_Md_many ({ frames := 1, cells := 0, slots := 0, locals := 26 })).room s m (([.ref a_md, .int x1] : List Value).toArray) below meth c H locs 0 0 QQ (F0 m 26 ls []) := by
          intro k249 hk249 n
          induction n with
          | zero => intro x2_1 x3_2 x4_3 h; exact (show False from h).elim
          | succ n il =>
            intro x2_1 x3_2 x4_3 h
            intro H locs hP hD hS ls hl
            have J73 : ∀ (kb : Int32 → Int32 → Int32 → Prop) (hkb : ∀ (x2_11 : Int32) (x3_12 : Int32) (x4_13 : Int32), kb x2_11 x3_12 x4_13 → ∀ (H : Heap) (locs : List Loc), va_P (dC, dI) vwCl [(a_md, .inr (11, [.ref a_md_tape, .int md_size, .int md_at, .int md_token, .int md_tokenPlace, .int md_number, .int md_sign, .int md_bad, .int md_faultPlace, .int md_place, .ref a_md_acts, .ref a_md_actNumbers, .ref a_md_actCounts, .int md_bank, .int md_unaries, .int md_opens, .ref a_md_pile, .int md_piled, .int md_loop, .ref a_md_begins, .ref a_md_goals, .ref a_md_ranks, .ref a_md_choiceCounts, .ref a_md_whens, .ref a_md_becomes, .ref a_md_guessCounts, .ref a_md_guesses, .ref a_md_unaryCounts, .ref a_md_stack, .ref a_md_nexts, .ref a_md_isBegin, .ref a_md_isGoal, .ref a_md_levels, .ref a_md_queue, .ref a_md_hasGuesses, .int md_keptBits, .ref a_md_rounds, .ref a_md_marked, .ref a_md_other, .ref a_md_heights])), (a_md_nexts, .inl (cI, 24576, .inl md_nexts)), (a_md_isBegin, .inl (cZ, 4096, .inl md_isBegin)), (a_md_isGoal, .inl (cZ, 4096, .inl md_isGoal)), (a_md_levels, .inl (cI, 4096, .inl md_levels)), (a_md_hasGuesses, .inl (cI, 4096, .inl md_hasGuesses))] H → va_D A [(a_md, .inr (11, [.ref a_md_tape, .int md_size, .int md_at, .int md_token, .int md_tokenPlace, .int md_number, .int md_sign, .int md_bad, .int md_faultPlace, .int md_place, .ref a_md_acts, .ref a_md_actNumbers, .ref a_md_actCounts, .int md_bank, .int md_unaries, .int md_opens, .ref a_md_pile, .int md_piled, .int md_loop, .ref a_md_begins, .ref a_md_goals, .ref a_md_ranks, .ref a_md_choiceCounts, .ref a_md_whens, .ref a_md_becomes, .ref a_md_guessCounts, .ref a_md_guesses, .ref a_md_unaryCounts, .ref a_md_stack, .ref a_md_nexts, .ref a_md_isBegin, .ref a_md_isGoal, .ref a_md_levels, .ref a_md_queue, .ref a_md_hasGuesses, .int md_keptBits, .ref a_md_rounds, .ref a_md_marked, .ref a_md_other, .ref a_md_heights])), (a_md_nexts, .inl (cI, 24576, .inl md_nexts)), (a_md_isBegin, .inl (cZ, 4096, .inl md_isBegin)), (a_md_isGoal, .inl (cZ, 4096, .inl md_isGoal)), (a_md_levels, .inl (cI, 4096, .inl md_levels)), (a_md_hasGuesses, .inl (cI, 4096, .inl md_hasGuesses))] → va_S A s.heap H locs → ∀ ls : Array Slot, lv_has ls 6 [(0, .ref a_md), (1, .int x1), (2, .int x2_11), (3, .int x3_12), (4, .int x4_13)] → W p l e (headSpec w_Md_many ({ frames := 1, cells := 0, slots := 0, locals := 26 })).room s m (([.ref a_md, .int x1] : List Value).toArray) below meth c H locs 0 0 QQ (F0 m 26 ls [])) (k249 : Int32 → Int32 → Prop) (hk249 : ∀ (x2_14 : Int32) (x3_15 : Int32), k249 x2_14 x3_15 → ∀ (H : Heap) (locs : List Loc), va_P (dC, dI) vwCl [(a_md, .inr (11, [.ref a_md_tape, .int md_size, .int md_at, .int md_token, .int md_tokenPlace, .int md_number, .int md_sign, .int md_bad, .int md_faultPlace, .int md_place, .ref a_md_acts, .ref a_md_actNumbers, .ref a_md_actCounts, .int md_bank, .int md_unaries, .int md_opens, .ref a_md_pile, .int md_piled, .int md_loop, .ref a_md_begins, .ref a_md_goals, .ref a_md_ranks, .ref a_md_choiceCounts, .ref a_md_whens, .ref a_md_becomes, .ref a_md_guessCounts, .ref a_md_guesses, .ref a_md_unaryCounts, .ref a_md_stack, .ref a_md_nexts, .ref a_md_isBegin, .ref a_md_isGoal, .ref a_md_levels, .ref a_md_queue, .ref a_md_hasGuesses, .int md_keptBits, .ref a_md_rounds, .ref a_md_marked, .ref a_md_other, .ref a_md_heights])), (a_md_nexts, .inl (cI, 24576, .inl md_nexts)), (a_md_isBegin, .inl (cZ, 4096, .inl md_isBegin)), (a_md_isGoal, .inl (cZ, 4096, .inl md_isGoal)), (a_md_levels, .inl (cI, 4096, .inl md_levels)), (a_md_hasGuesses, .inl (cI, 4096, .inl md_hasGuesses))] H → va_D A [(a_md, .inr (11, [.ref a_md_tape, .int md_size, .int md_at, .int md_token, .int md_tokenPlace, .int md_number, .int md_sign, .int md_bad, .int md_faultPlace, .int md_place, .ref a_md_acts, .ref a_md_actNumbers, .ref a_md_actCounts, .int md_bank, .int md_unaries, .int md_opens, .ref a_md_pile, .int md_piled, .int md_loop, .ref a_md_begins, .ref a_md_goals, .ref a_md_ranks, .ref a_md_choiceCounts, .ref a_md_whens, .ref a_md_becomes, .ref a_md_guessCounts, .ref a_md_guesses, .ref a_md_unaryCounts, .ref a_md_stack, .ref a_md_nexts, .ref a_md_isBegin, .ref a_md_isGoal, .ref a_md_levels, .ref a_md_queue, .ref a_md_hasGuesses, .int md_keptBits, .ref a_md_rounds, .ref a_md_marked, .ref a_md_other, .ref a_md_heights])), (a_md_nexts, .inl (cI, 24576, .inl md_nexts)), (a_md_isBegin, .inl (cZ, 4096, .inl md_isBegin)), (a_md_isGoal, .inl (cZ, 4096, .inl md_isGoal)), (a_md_levels, .inl (cI, 4096, .inl md_levels)), (a_md_hasGuesses, .inl (cI, 4096, .inl md_hasGuesses))] → va_S A s.heap H locs → ∀ ls : Array Slot, lv_has ls 6 [(1, .int x1), (2, .int x2_14), (3, .int x3_15)] → W p l e (headSpec w_Md_many ({ frames := 1, cells := 0, slots := 0, locals := 26 })).room s m (([.ref a_md, .int x1] : List Value).toArray) below meth c H locs 0 0 QQ (F0 m 249 ls [])) (x2_7 : Int32) (x4_8 : Int32) (x5_9 : Int32) (s0_10 : Int32), wp_Md_many_J73 x1 x2_7 x4_8 x5_9 s0_10 md_keptBits md_nexts md_isBegin md_isGoal md_levels md_hasGuesses kb k249 → ∀ (H : Heap) (locs : List Loc), va_P (dC, dI) vwCl [(a_md, .inr (11, [.ref a_md_tape, .int md_size, .int md_at, .int md_token, .int md_tokenPlace, .int md_number, .int md_sign, .int md_bad, .int md_faultPlace, .int md_place, .ref a_md_acts, .ref a_md_actNumbers, .ref a_md_actCounts, .int md_bank, .int md_unaries, .int md_opens, .ref a_md_pile, .int md_piled, .int md_loop, .ref a_md_begins, .ref a_md_goals, .ref a_md_ranks, .ref a_md_choiceCounts, .ref a_md_whens, .ref a_md_becomes, .ref a_md_guessCounts, .ref a_md_guesses, .ref a_md_unaryCounts, .ref a_md_stack, .ref a_md_nexts, .ref a_md_isBegin, .ref a_md_isGoal, .ref a_md_levels, .ref a_md_queue, .ref a_md_hasGuesses, .int md_keptBits, .ref a_md_rounds, .ref a_md_marked, .ref a_md_other, .ref a_md_heights])), (a_md_nexts, .inl (cI, 24576, .inl md_nexts)), (a_md_isBegin, .inl (cZ, 4096, .inl md_isBegin)), (a_md_isGoal, .inl (cZ, 4096, .inl md_isGoal)), (a_md_levels, .inl (cI, 4096, .inl md_levels)), (a_md_hasGuesses, .inl (cI, 4096, .inl md_hasGuesses))] H → va_D A [(a_md, .inr (11, [.ref a_md_tape, .int md_size, .int md_at, .int md_token, .int md_tokenPlace, .int md_number, .int md_sign, .int md_bad, .int md_faultPlace, .int md_place, .ref a_md_acts, .ref a_md_actNumbers, .ref a_md_actCounts, .int md_bank, .int md_unaries, .int md_opens, .ref a_md_pile, .int md_piled, .int md_loop, .ref a_md_begins, .ref a_md_goals, .ref a_md_ranks, .ref a_md_choiceCounts, .ref a_md_whens, .ref a_md_becomes, .ref a_md_guessCounts, .ref a_md_guesses, .ref a_md_unaryCounts, .ref a_md_stack, .ref a_md_nexts, .ref a_md_isBegin, .ref a_md_isGoal, .ref a_md_levels, .ref a_md_queue, .ref a_md_hasGuesses, .int md_keptBits, .ref a_md_rounds, .ref a_md_marked, .ref a_md_other, .ref a_md_heights])), (a_md_nexts, .inl (cI, 24576, .inl md_nexts)), (a_md_isBegin, .inl (cZ, 4096, .inl md_isBegin)), (a_md_isGoal, .inl (cZ, 4096, .inl md_isGoal)), (a_md_levels, .inl (cI, 4096, .inl md_levels)), (a_md_hasGuesses, .inl (cI, 4096, .inl md_hasGuesses))] → va_S A s.heap H locs → ∀ ls : Array Slot, lv_has ls 6 [(0, .ref a_md), (1, .int x1), (2, .int x2_7), (4, .int x4_8), (5, .int x5_9)] → W p l e (headSpec w_Md_many ({ frames := 1, cells := 0, slots := 0, locals := 26 })).room s m (([.ref a_md, .int x1] : List Value).toArray) below meth c H locs 0 0 QQ (F0 m 73 ls [.int s0_10]) := by
              intro kb hkb k249 hk249 x2_7 x4_8 x5_9 s0_10 h
              intro H locs hP hD hS ls hl
              refine lv_istore_n (lv' := [(3, .int s0_10), (0, .ref a_md), (1, .int x1), (2, .int x2_7), (4, .int x4_8), (5, .int x5_9)]) hx hb d_Md_many_73 rfl hl (by decide) rfl (fun ls hl => ?_)
              refine lv_iload_n hx hb d_Md_many_74 rfl (lv_at hl 2 rfl) ?_
              rcases Classical.em ((x1 : Int32) = 0) with e_75_0 | e_75_0
              · have h := h.1 e_75_0
                refine lv_tableIn (off := 37) (tgt := 112) hx hb d_Md_many_75 (by rw [e_75_0]; decide) (by rw [e_75_0]; decide) (by rw [e_75_0]; rfl) (by decide) ?_
                refine lv_iload_n hx hb d_Md_many_112 rfl (lv_at hl 3 rfl) ?_
                refine lv_aload_n hx hb d_Md_many_113 rfl (lv_at hl 1 rfl) ?_
                refine va_get (D := (dC, dI)) (ci := 11) (v := .ref a_md_isBegin) (C := "LoopInductionModel") (T := F_Md) (N := 40) hx hb hts iC_Md hown hK hP 0 rfl rfl 30 (by decide) fl_66 (fun _ h9 => h9) rfl d_Md_many_114 ?_
                refine lv_iload hx hb d_Md_many_117 (lv_at hl 4 rfl) ?_
                obtain ⟨hin_119, h⟩ := h
                refine va_zald hx hb hK hP 2 2 rfl rfl hin_119 d_Md_many_119 ?_
                refine lv_if_eq (tgt := 127) hx hb d_Md_many_120 (by decide) (fun c_120 => ?_) (fun c_120 => ?_)
                · have h := And.left h c_120
                  refine lv_iconst (v := 0) hx hb d_Md_many_127 (by decide) ?_
                  refine lv_iadd hx hb d_Md_many_128 ?_
                  refine lv_topi (fun x2_16 ex2_16 => ?_)
                  have h := h x2_16 ex2_16
                  refine lv_istore_n (lv' := [(2, .int x2_16), (3, .int s0_10), (0, .ref a_md), (1, .int x1), (4, .int x4_8), (5, .int x5_9)]) hx hb d_Md_many_129 rfl hl (by decide) rfl (fun ls hl => ?_)
                  refine lv_goto (tgt := 243) hx hb d_Md_many_130 (by decide) ?_
                  refine lv_iinc (v := x4_8 + 1) (lv' := [(4, .int (x4_8 + 1)), (2, .int x2_16), (3, .int s0_10), (0, .ref a_md), (1, .int x1), (5, .int x5_9)]) hx hb d_Md_many_243 hl (k := 4) rfl rfl (by decide) rfl (fun ls hl => ?_)
                  refine lv_goto (tgt := 26) hx hb d_Md_many_246 (by decide) ?_
                  exact hkb _ _ _ h _ _ hP hD hS _ (lv_sub hl [3, 4, 1, 2, 0] rfl)
                · have h := And.right h c_120
                  refine lv_iconst (v := 1) hx hb d_Md_many_123 (by decide) ?_
                  refine lv_goto (tgt := 128) hx hb d_Md_many_124 (by decide) ?_
                  refine lv_iadd hx hb d_Md_many_128 ?_
                  refine lv_topi (fun x2_17 ex2_17 => ?_)
                  have h := h x2_17 ex2_17
                  refine lv_istore_n (lv' := [(2, .int x2_17), (3, .int s0_10), (0, .ref a_md), (1, .int x1), (4, .int x4_8), (5, .int x5_9)]) hx hb d_Md_many_129 rfl hl (by decide) rfl (fun ls hl => ?_)
                  refine lv_goto (tgt := 243) hx hb d_Md_many_130 (by decide) ?_
                  refine lv_iinc (v := x4_8 + 1) (lv' := [(4, .int (x4_8 + 1)), (2, .int x2_17), (3, .int s0_10), (0, .ref a_md), (1, .int x1), (5, .int x5_9)]) hx hb d_Md_many_243 hl (k := 4) rfl rfl (by decide) rfl (fun ls hl => ?_)
                  refine lv_goto (tgt := 26) hx hb d_Md_many_246 (by decide) ?_
                  exact hkb _ _ _ h _ _ hP hD hS _ (lv_sub hl [3, 4, 1, 2, 0] rfl)
              rcases Classical.em ((x1 : Int32) = 1) with e_75_1 | e_75_1
              · have h := h.2.1 e_75_1
                refine lv_tableIn (off := 58) (tgt := 133) hx hb d_Md_many_75 (by rw [e_75_1]; decide) (by rw [e_75_1]; decide) (by rw [e_75_1]; rfl) (by decide) ?_
                refine lv_iload_n hx hb d_Md_many_133 rfl (lv_at hl 3 rfl) ?_
                refine lv_aload_n hx hb d_Md_many_134 rfl (lv_at hl 1 rfl) ?_
                refine va_get (D := (dC, dI)) (ci := 11) (v := .ref a_md_isGoal) (C := "LoopInductionModel") (T := F_Md) (N := 40) hx hb hts iC_Md hown hK hP 0 rfl rfl 31 (by decide) fl_70 (fun _ h9 => h9) rfl d_Md_many_135 ?_
                refine lv_iload hx hb d_Md_many_138 (lv_at hl 4 rfl) ?_
                obtain ⟨hin_140, h⟩ := h
                refine va_zald hx hb hK hP 3 2 rfl rfl hin_140 d_Md_many_140 ?_
                refine lv_if_eq (tgt := 148) hx hb d_Md_many_141 (by decide) (fun c_141 => ?_) (fun c_141 => ?_)
                · have h := And.left h c_141
                  refine lv_iconst (v := 0) hx hb d_Md_many_148 (by decide) ?_
                  refine lv_iadd hx hb d_Md_many_149 ?_
                  refine lv_topi (fun x2_18 ex2_18 => ?_)
                  have h := h x2_18 ex2_18
                  refine lv_istore_n (lv' := [(2, .int x2_18), (3, .int s0_10), (0, .ref a_md), (1, .int x1), (4, .int x4_8), (5, .int x5_9)]) hx hb d_Md_many_150 rfl hl (by decide) rfl (fun ls hl => ?_)
                  refine lv_goto (tgt := 243) hx hb d_Md_many_151 (by decide) ?_
                  refine lv_iinc (v := x4_8 + 1) (lv' := [(4, .int (x4_8 + 1)), (2, .int x2_18), (3, .int s0_10), (0, .ref a_md), (1, .int x1), (5, .int x5_9)]) hx hb d_Md_many_243 hl (k := 4) rfl rfl (by decide) rfl (fun ls hl => ?_)
                  refine lv_goto (tgt := 26) hx hb d_Md_many_246 (by decide) ?_
                  exact hkb _ _ _ h _ _ hP hD hS _ (lv_sub hl [3, 4, 1, 2, 0] rfl)
                · have h := And.right h c_141
                  refine lv_iconst (v := 1) hx hb d_Md_many_144 (by decide) ?_
                  refine lv_goto (tgt := 149) hx hb d_Md_many_145 (by decide) ?_
                  refine lv_iadd hx hb d_Md_many_149 ?_
                  refine lv_topi (fun x2_19 ex2_19 => ?_)
                  have h := h x2_19 ex2_19
                  refine lv_istore_n (lv' := [(2, .int x2_19), (3, .int s0_10), (0, .ref a_md), (1, .int x1), (4, .int x4_8), (5, .int x5_9)]) hx hb d_Md_many_150 rfl hl (by decide) rfl (fun ls hl => ?_)
                  refine lv_goto (tgt := 243) hx hb d_Md_many_151 (by decide) ?_
                  refine lv_iinc (v := x4_8 + 1) (lv' := [(4, .int (x4_8 + 1)), (2, .int x2_19), (3, .int s0_10), (0, .ref a_md), (1, .int x1), (5, .int x5_9)]) hx hb d_Md_many_243 hl (k := 4) rfl rfl (by decide) rfl (fun ls hl => ?_)
                  refine lv_goto (tgt := 26) hx hb d_Md_many_246 (by decide) ?_
                  exact hkb _ _ _ h _ _ hP hD hS _ (lv_sub hl [3, 4, 1, 2, 0] rfl)
              rcases Classical.em ((x1 : Int32) = 2) with e_75_2 | e_75_2
              · have h := h.2.2.1 e_75_2
                refine lv_tableIn (off := 79) (tgt := 154) hx hb d_Md_many_75 (by rw [e_75_2]; decide) (by rw [e_75_2]; decide) (by rw [e_75_2]; rfl) (by decide) ?_
                refine lv_iload_n hx hb d_Md_many_154 rfl (lv_at hl 3 rfl) ?_
                refine lv_iload hx hb d_Md_many_155 (lv_at hl 5 rfl) ?_
                refine lv_if_eq (tgt := 164) hx hb d_Md_many_157 (by decide) (fun c_157 => ?_) (fun c_157 => ?_)
                · have h := And.left h c_157
                  refine lv_iconst (v := 0) hx hb d_Md_many_164 (by decide) ?_
                  refine lv_iadd hx hb d_Md_many_165 ?_
                  refine lv_topi (fun x2_20 ex2_20 => ?_)
                  have h := h x2_20 ex2_20
                  refine lv_istore_n (lv' := [(2, .int x2_20), (3, .int s0_10), (0, .ref a_md), (1, .int x1), (4, .int x4_8), (5, .int x5_9)]) hx hb d_Md_many_166 rfl hl (by decide) rfl (fun ls hl => ?_)
                  refine lv_goto (tgt := 243) hx hb d_Md_many_167 (by decide) ?_
                  refine lv_iinc (v := x4_8 + 1) (lv' := [(4, .int (x4_8 + 1)), (2, .int x2_20), (3, .int s0_10), (0, .ref a_md), (1, .int x1), (5, .int x5_9)]) hx hb d_Md_many_243 hl (k := 4) rfl rfl (by decide) rfl (fun ls hl => ?_)
                  refine lv_goto (tgt := 26) hx hb d_Md_many_246 (by decide) ?_
                  exact hkb _ _ _ h _ _ hP hD hS _ (lv_sub hl [3, 4, 1, 2, 0] rfl)
                · have h := And.right h c_157
                  refine lv_iconst (v := 1) hx hb d_Md_many_160 (by decide) ?_
                  refine lv_goto (tgt := 165) hx hb d_Md_many_161 (by decide) ?_
                  refine lv_iadd hx hb d_Md_many_165 ?_
                  refine lv_topi (fun x2_21 ex2_21 => ?_)
                  have h := h x2_21 ex2_21
                  refine lv_istore_n (lv' := [(2, .int x2_21), (3, .int s0_10), (0, .ref a_md), (1, .int x1), (4, .int x4_8), (5, .int x5_9)]) hx hb d_Md_many_166 rfl hl (by decide) rfl (fun ls hl => ?_)
                  refine lv_goto (tgt := 243) hx hb d_Md_many_167 (by decide) ?_
                  refine lv_iinc (v := x4_8 + 1) (lv' := [(4, .int (x4_8 + 1)), (2, .int x2_21), (3, .int s0_10), (0, .ref a_md), (1, .int x1), (5, .int x5_9)]) hx hb d_Md_many_243 hl (k := 4) rfl rfl (by decide) rfl (fun ls hl => ?_)
                  refine lv_goto (tgt := 26) hx hb d_Md_many_246 (by decide) ?_
                  exact hkb _ _ _ h _ _ hP hD hS _ (lv_sub hl [3, 4, 1, 2, 0] rfl)
              rcases Classical.em ((x1 : Int32) = 3) with e_75_3 | e_75_3
              · have h := h.2.2.2.1 e_75_3
                refine lv_tableIn (off := 95) (tgt := 170) hx hb d_Md_many_75 (by rw [e_75_3]; decide) (by rw [e_75_3]; decide) (by rw [e_75_3]; rfl) (by decide) ?_
                refine lv_iload_n hx hb d_Md_many_170 rfl (lv_at hl 3 rfl) ?_
                refine lv_iload hx hb d_Md_many_171 (lv_at hl 5 rfl) ?_
                refine lv_if_eq (tgt := 189) hx hb d_Md_many_173 (by decide) (fun c_173 => ?_) (fun c_173 => ?_)
                · have h := And.left h c_173
                  refine lv_iconst (v := 0) hx hb d_Md_many_189 (by decide) ?_
                  refine lv_iadd hx hb d_Md_many_190 ?_
                  refine lv_topi (fun x2_22 ex2_22 => ?_)
                  have h := h x2_22 ex2_22
                  refine lv_istore_n (lv' := [(2, .int x2_22), (3, .int s0_10), (0, .ref a_md), (1, .int x1), (4, .int x4_8), (5, .int x5_9)]) hx hb d_Md_many_191 rfl hl (by decide) rfl (fun ls hl => ?_)
                  refine lv_goto (tgt := 243) hx hb d_Md_many_192 (by decide) ?_
                  refine lv_iinc (v := x4_8 + 1) (lv' := [(4, .int (x4_8 + 1)), (2, .int x2_22), (3, .int s0_10), (0, .ref a_md), (1, .int x1), (5, .int x5_9)]) hx hb d_Md_many_243 hl (k := 4) rfl rfl (by decide) rfl (fun ls hl => ?_)
                  refine lv_goto (tgt := 26) hx hb d_Md_many_246 (by decide) ?_
                  exact hkb _ _ _ h _ _ hP hD hS _ (lv_sub hl [3, 4, 1, 2, 0] rfl)
                · have h := And.right h c_173
                  refine lv_aload_n hx hb d_Md_many_176 rfl (lv_at hl 1 rfl) ?_
                  refine lv_iload hx hb d_Md_many_177 (lv_at hl 4 rfl) ?_
                  refine jn_i (wr := [(a_md_isBegin, .inl (cZ, 4096, .inl md_isBegin)), (a_md_isGoal, .inl (cZ, 4096, .inl md_isGoal)), (a_md_levels, .inl (cI, 4096, .inl md_levels)), (a_md_hasGuesses, .inl (cI, 4096, .inl md_hasGuesses))]) (va_runV (As := [.int x4_8]) (rest := [.int x2_7]) ⟨hx, hb, hml, hown, hts⟩ (c_Md_isEnd l dC dI cI cB cZ adK adV _ a_md a_md_tape a_md_acts a_md_actNumbers a_md_actCounts a_md_pile a_md_begins a_md_goals a_md_ranks a_md_choiceCounts a_md_whens a_md_becomes a_md_guessCounts a_md_guesses a_md_unaryCounts a_md_stack a_md_nexts a_md_isBegin a_md_isGoal a_md_levels a_md_queue a_md_hasGuesses a_md_rounds a_md_marked a_md_other a_md_heights md_size md_at md_token md_tokenPlace md_number md_sign md_bad md_faultPlace md_place md_bank md_unaries md_opens md_piled md_loop md_keptBits md_nexts x4_8 _ h) (cwV 1 hts (gv_ m_1377 m_1379 m_78 m_96 m_1380) rfl rfl rfl pd_Md_isEnd ⟨Nat.le_of_ble_eq_true rfl, Nat.le_of_ble_eq_true rfl⟩) ⟨pc_blind, va_recv hK hP (ci := 11) (q0 := 0) rfl rfl, pc_of (hP.sub [0, 1] rfl) hK (hD.sub [0, 1] (by decide) rfl) hN hT hS hA⟩ rfl rfl hl.1 rfl (lv_room (Nat.le_of_ble_eq_true rfl)) d_Md_many_179 ⟨Nat.zero_le _, Nat.zero_le _⟩) hP hD hS hA [0, 1] [2, 3, 4, 5] rfl rfl (by decide) (by decide) (fun r_23 u_ H locs h hP hD hS => ?_)
                  have hP : va_P (dC, dI) vwCl [(a_md_isBegin, .inl (cZ, 4096, .inl md_isBegin)), (a_md_isGoal, .inl (cZ, 4096, .inl md_isGoal)), (a_md_levels, .inl (cI, 4096, .inl md_levels)), (a_md_hasGuesses, .inl (cI, 4096, .inl md_hasGuesses)), (a_md, .inr (11, [.ref a_md_tape, .int md_size, .int md_at, .int md_token, .int md_tokenPlace, .int md_number, .int md_sign, .int md_bad, .int md_faultPlace, .int md_place, .ref a_md_acts, .ref a_md_actNumbers, .ref a_md_actCounts, .int md_bank, .int md_unaries, .int md_opens, .ref a_md_pile, .int md_piled, .int md_loop, .ref a_md_begins, .ref a_md_goals, .ref a_md_ranks, .ref a_md_choiceCounts, .ref a_md_whens, .ref a_md_becomes, .ref a_md_guessCounts, .ref a_md_guesses, .ref a_md_unaryCounts, .ref a_md_stack, .ref a_md_nexts, .ref a_md_isBegin, .ref a_md_isGoal, .ref a_md_levels, .ref a_md_queue, .ref a_md_hasGuesses, .int md_keptBits, .ref a_md_rounds, .ref a_md_marked, .ref a_md_other, .ref a_md_heights])), (a_md_nexts, .inl (cI, 24576, .inl md_nexts))] H := hP
                  have hD : va_D A [(a_md_isBegin, .inl (cZ, 4096, .inl md_isBegin)), (a_md_isGoal, .inl (cZ, 4096, .inl md_isGoal)), (a_md_levels, .inl (cI, 4096, .inl md_levels)), (a_md_hasGuesses, .inl (cI, 4096, .inl md_hasGuesses)), (a_md, .inr (11, [.ref a_md_tape, .int md_size, .int md_at, .int md_token, .int md_tokenPlace, .int md_number, .int md_sign, .int md_bad, .int md_faultPlace, .int md_place, .ref a_md_acts, .ref a_md_actNumbers, .ref a_md_actCounts, .int md_bank, .int md_unaries, .int md_opens, .ref a_md_pile, .int md_piled, .int md_loop, .ref a_md_begins, .ref a_md_goals, .ref a_md_ranks, .ref a_md_choiceCounts, .ref a_md_whens, .ref a_md_becomes, .ref a_md_guessCounts, .ref a_md_guesses, .ref a_md_unaryCounts, .ref a_md_stack, .ref a_md_nexts, .ref a_md_isBegin, .ref a_md_isGoal, .ref a_md_levels, .ref a_md_queue, .ref a_md_hasGuesses, .int md_keptBits, .ref a_md_rounds, .ref a_md_marked, .ref a_md_other, .ref a_md_heights])), (a_md_nexts, .inl (cI, 24576, .inl md_nexts))] := hD
                  refine lv_if_eq (tgt := 189) hx hb d_Md_many_182 (by decide) (fun c_182 => ?_) (fun c_182 => ?_)
                  · have h := And.left h c_182
                    refine lv_iconst (v := 0) hx hb d_Md_many_189 (by decide) ?_
                    refine lv_iadd hx hb d_Md_many_190 ?_
                    refine lv_topi (fun x2_24 ex2_24 => ?_)
                    have h := h x2_24 ex2_24
                    refine lv_istore_n (lv' := [(2, .int x2_24), (3, .int s0_10), (0, .ref a_md), (1, .int x1), (4, .int x4_8), (5, .int x5_9)]) hx hb d_Md_many_191 rfl hl (by decide) rfl (fun ls hl => ?_)
                    refine lv_goto (tgt := 243) hx hb d_Md_many_192 (by decide) ?_
                    refine lv_iinc (v := x4_8 + 1) (lv' := [(4, .int (x4_8 + 1)), (2, .int x2_24), (3, .int s0_10), (0, .ref a_md), (1, .int x1), (5, .int x5_9)]) hx hb d_Md_many_243 hl (k := 4) rfl rfl (by decide) rfl (fun ls hl => ?_)
                    refine lv_goto (tgt := 26) hx hb d_Md_many_246 (by decide) ?_
                    exact hkb _ _ _ h _ _ (hP.sub [4, 5, 0, 1, 2, 3] rfl) (hD.sub [4, 5, 0, 1, 2, 3] (by decide) rfl) hS _ (lv_sub hl [3, 4, 1, 2, 0] rfl)
                  · have h := And.right h c_182
                    refine lv_iconst (v := 1) hx hb d_Md_many_185 (by decide) ?_
                    refine lv_goto (tgt := 190) hx hb d_Md_many_186 (by decide) ?_
                    refine lv_iadd hx hb d_Md_many_190 ?_
                    refine lv_topi (fun x2_25 ex2_25 => ?_)
                    have h := h x2_25 ex2_25
                    refine lv_istore_n (lv' := [(2, .int x2_25), (3, .int s0_10), (0, .ref a_md), (1, .int x1), (4, .int x4_8), (5, .int x5_9)]) hx hb d_Md_many_191 rfl hl (by decide) rfl (fun ls hl => ?_)
                    refine lv_goto (tgt := 243) hx hb d_Md_many_192 (by decide) ?_
                    refine lv_iinc (v := x4_8 + 1) (lv' := [(4, .int (x4_8 + 1)), (2, .int x2_25), (3, .int s0_10), (0, .ref a_md), (1, .int x1), (5, .int x5_9)]) hx hb d_Md_many_243 hl (k := 4) rfl rfl (by decide) rfl (fun ls hl => ?_)
                    refine lv_goto (tgt := 26) hx hb d_Md_many_246 (by decide) ?_
                    exact hkb _ _ _ h _ _ (hP.sub [4, 5, 0, 1, 2, 3] rfl) (hD.sub [4, 5, 0, 1, 2, 3] (by decide) rfl) hS _ (lv_sub hl [3, 4, 1, 2, 0] rfl)
              rcases Classical.em ((x1 : Int32) = 4) with e_75_4 | e_75_4
              · have h := h.2.2.2.2.1 e_75_4
                refine lv_tableIn (off := 141) (tgt := 216) hx hb d_Md_many_75 (by rw [e_75_4]; decide) (by rw [e_75_4]; decide) (by rw [e_75_4]; rfl) (by decide) ?_
                refine lv_iload_n hx hb d_Md_many_216 rfl (lv_at hl 3 rfl) ?_
                refine lv_aload_n hx hb d_Md_many_217 rfl (lv_at hl 1 rfl) ?_
                refine va_get (D := (dC, dI)) (ci := 11) (v := .ref a_md_hasGuesses) (C := "LoopInductionModel") (T := F_Md) (N := 40) hx hb hts iC_Md hown hK hP 0 rfl rfl 34 (by decide) fl_79 (fun _ h9 => h9) rfl d_Md_many_218 ?_
                refine lv_iload hx hb d_Md_many_221 (lv_at hl 4 rfl) ?_
                obtain ⟨hin_223, h⟩ := h
                refine va_iald hx hb hK hP 5 0 rfl rfl hin_223 d_Md_many_223 ?_
                refine lv_aload_n hx hb d_Md_many_224 rfl (lv_at hl 1 rfl) ?_
                refine va_get (D := (dC, dI)) (ci := 11) (v := .int md_keptBits) (C := "LoopInductionModel") (T := F_Md) (N := 40) hx hb hts iC_Md hown hK hP 0 rfl rfl 35 (by decide) fl_264 (fun _ h9 => h9) rfl d_Md_many_225 ?_
                refine lv_iand hx hb d_Md_many_228 ?_
                refine lv_aload_n hx hb d_Md_many_229 rfl (lv_at hl 1 rfl) ?_
                refine va_get (D := (dC, dI)) (ci := 11) (v := .int md_keptBits) (C := "LoopInductionModel") (T := F_Md) (N := 40) hx hb hts iC_Md hown hK hP 0 rfl rfl 35 (by decide) fl_264 (fun _ h9 => h9) rfl d_Md_many_230 ?_
                refine lv_icmp_ne (tgt := 240) hx hb d_Md_many_233 (by decide) (fun c_233 => ?_) (fun c_233 => ?_)
                · have h := And.left h c_233
                  refine lv_iconst (v := 0) hx hb d_Md_many_240 (by decide) ?_
                  refine lv_iadd hx hb d_Md_many_241 ?_
                  refine lv_topi (fun x2_26 ex2_26 => ?_)
                  have h := h x2_26 ex2_26
                  refine lv_istore_n (lv' := [(2, .int x2_26), (3, .int s0_10), (0, .ref a_md), (1, .int x1), (4, .int x4_8), (5, .int x5_9)]) hx hb d_Md_many_242 rfl hl (by decide) rfl (fun ls hl => ?_)
                  refine lv_iinc (v := x4_8 + 1) (lv' := [(4, .int (x4_8 + 1)), (2, .int x2_26), (3, .int s0_10), (0, .ref a_md), (1, .int x1), (5, .int x5_9)]) hx hb d_Md_many_243 hl (k := 4) rfl rfl (by decide) rfl (fun ls hl => ?_)
                  refine lv_goto (tgt := 26) hx hb d_Md_many_246 (by decide) ?_
                  exact hkb _ _ _ h _ _ hP hD hS _ (lv_sub hl [3, 4, 1, 2, 0] rfl)
                · have h := And.right h c_233
                  refine lv_iconst (v := 1) hx hb d_Md_many_236 (by decide) ?_
                  refine lv_goto (tgt := 241) hx hb d_Md_many_237 (by decide) ?_
                  refine lv_iadd hx hb d_Md_many_241 ?_
                  refine lv_topi (fun x2_27 ex2_27 => ?_)
                  have h := h x2_27 ex2_27
                  refine lv_istore_n (lv' := [(2, .int x2_27), (3, .int s0_10), (0, .ref a_md), (1, .int x1), (4, .int x4_8), (5, .int x5_9)]) hx hb d_Md_many_242 rfl hl (by decide) rfl (fun ls hl => ?_)
                  refine lv_iinc (v := x4_8 + 1) (lv' := [(4, .int (x4_8 + 1)), (2, .int x2_27), (3, .int s0_10), (0, .ref a_md), (1, .int x1), (5, .int x5_9)]) hx hb d_Md_many_243 hl (k := 4) rfl rfl (by decide) rfl (fun ls hl => ?_)
                  refine lv_goto (tgt := 26) hx hb d_Md_many_246 (by decide) ?_
                  exact hkb _ _ _ h _ _ hP hD hS _ (lv_sub hl [3, 4, 1, 2, 0] rfl)
              rcases Classical.em ((x1 : Int32) = 5) with e_75_5 | e_75_5
              · have h := h.2.2.2.2.2.1 e_75_5
                refine lv_tableIn (off := 120) (tgt := 195) hx hb d_Md_many_75 (by rw [e_75_5]; decide) (by rw [e_75_5]; decide) (by rw [e_75_5]; rfl) (by decide) ?_
                refine lv_iload_n hx hb d_Md_many_195 rfl (lv_at hl 3 rfl) ?_
                refine lv_iload hx hb d_Md_many_196 (lv_at hl 5 rfl) ?_
                refine lv_if_eq (tgt := 210) hx hb d_Md_many_198 (by decide) (fun c_198 => ?_) (fun c_198 => ?_)
                · have h := And.left h c_198
                  refine lv_iconst (v := 0) hx hb d_Md_many_210 (by decide) ?_
                  refine lv_iadd hx hb d_Md_many_211 ?_
                  refine lv_topi (fun x2_28 ex2_28 => ?_)
                  have h := h x2_28 ex2_28
                  refine lv_istore_n (lv' := [(2, .int x2_28), (3, .int s0_10), (0, .ref a_md), (1, .int x1), (4, .int x4_8), (5, .int x5_9)]) hx hb d_Md_many_212 rfl hl (by decide) rfl (fun ls hl => ?_)
                  refine lv_goto (tgt := 243) hx hb d_Md_many_213 (by decide) ?_
                  refine lv_iinc (v := x4_8 + 1) (lv' := [(4, .int (x4_8 + 1)), (2, .int x2_28), (3, .int s0_10), (0, .ref a_md), (1, .int x1), (5, .int x5_9)]) hx hb d_Md_many_243 hl (k := 4) rfl rfl (by decide) rfl (fun ls hl => ?_)
                  refine lv_goto (tgt := 26) hx hb d_Md_many_246 (by decide) ?_
                  exact hkb _ _ _ h _ _ hP hD hS _ (lv_sub hl [3, 4, 1, 2, 0] rfl)
                · have h := And.right h c_198
                  refine lv_aload_n hx hb d_Md_many_201 rfl (lv_at hl 1 rfl) ?_
                  refine lv_iload hx hb d_Md_many_202 (lv_at hl 4 rfl) ?_
                  refine jn_i (wr := [(a_md_isBegin, .inl (cZ, 4096, .inl md_isBegin)), (a_md_isGoal, .inl (cZ, 4096, .inl md_isGoal)), (a_md_levels, .inl (cI, 4096, .inl md_levels)), (a_md_hasGuesses, .inl (cI, 4096, .inl md_hasGuesses))]) (va_runV (As := [.int x4_8]) (rest := [.int x2_7]) ⟨hx, hb, hml, hown, hts⟩ (c_Md_unlikeNexts l dC dI cI cB cZ adK adV _ a_md a_md_tape a_md_acts a_md_actNumbers a_md_actCounts a_md_pile a_md_begins a_md_goals a_md_ranks a_md_choiceCounts a_md_whens a_md_becomes a_md_guessCounts a_md_guesses a_md_unaryCounts a_md_stack a_md_nexts a_md_isBegin a_md_isGoal a_md_levels a_md_queue a_md_hasGuesses a_md_rounds a_md_marked a_md_other a_md_heights md_size md_at md_token md_tokenPlace md_number md_sign md_bad md_faultPlace md_place md_bank md_unaries md_opens md_piled md_loop md_keptBits md_nexts x4_8 _ h) (cwV 1 hts (gv_ m_1393 m_1395 m_79 m_96 m_1396) rfl rfl rfl pd_Md_unlikeNexts ⟨Nat.le_of_ble_eq_true rfl, Nat.le_of_ble_eq_true rfl⟩) ⟨pc_blind, va_recv hK hP (ci := 11) (q0 := 0) rfl rfl, pc_of (hP.sub [0, 1] rfl) hK (hD.sub [0, 1] (by decide) rfl) hN hT hS hA⟩ rfl rfl hl.1 rfl (lv_room (Nat.le_of_ble_eq_true rfl)) d_Md_many_204 ⟨Nat.zero_le _, Nat.zero_le _⟩) hP hD hS hA [0, 1] [2, 3, 4, 5] rfl rfl (by decide) (by decide) (fun r_29 u_ H locs h hP hD hS => ?_)
                  have hP : va_P (dC, dI) vwCl [(a_md_isBegin, .inl (cZ, 4096, .inl md_isBegin)), (a_md_isGoal, .inl (cZ, 4096, .inl md_isGoal)), (a_md_levels, .inl (cI, 4096, .inl md_levels)), (a_md_hasGuesses, .inl (cI, 4096, .inl md_hasGuesses)), (a_md, .inr (11, [.ref a_md_tape, .int md_size, .int md_at, .int md_token, .int md_tokenPlace, .int md_number, .int md_sign, .int md_bad, .int md_faultPlace, .int md_place, .ref a_md_acts, .ref a_md_actNumbers, .ref a_md_actCounts, .int md_bank, .int md_unaries, .int md_opens, .ref a_md_pile, .int md_piled, .int md_loop, .ref a_md_begins, .ref a_md_goals, .ref a_md_ranks, .ref a_md_choiceCounts, .ref a_md_whens, .ref a_md_becomes, .ref a_md_guessCounts, .ref a_md_guesses, .ref a_md_unaryCounts, .ref a_md_stack, .ref a_md_nexts, .ref a_md_isBegin, .ref a_md_isGoal, .ref a_md_levels, .ref a_md_queue, .ref a_md_hasGuesses, .int md_keptBits, .ref a_md_rounds, .ref a_md_marked, .ref a_md_other, .ref a_md_heights])), (a_md_nexts, .inl (cI, 24576, .inl md_nexts))] H := hP
                  have hD : va_D A [(a_md_isBegin, .inl (cZ, 4096, .inl md_isBegin)), (a_md_isGoal, .inl (cZ, 4096, .inl md_isGoal)), (a_md_levels, .inl (cI, 4096, .inl md_levels)), (a_md_hasGuesses, .inl (cI, 4096, .inl md_hasGuesses)), (a_md, .inr (11, [.ref a_md_tape, .int md_size, .int md_at, .int md_token, .int md_tokenPlace, .int md_number, .int md_sign, .int md_bad, .int md_faultPlace, .int md_place, .ref a_md_acts, .ref a_md_actNumbers, .ref a_md_actCounts, .int md_bank, .int md_unaries, .int md_opens, .ref a_md_pile, .int md_piled, .int md_loop, .ref a_md_begins, .ref a_md_goals, .ref a_md_ranks, .ref a_md_choiceCounts, .ref a_md_whens, .ref a_md_becomes, .ref a_md_guessCounts, .ref a_md_guesses, .ref a_md_unaryCounts, .ref a_md_stack, .ref a_md_nexts, .ref a_md_isBegin, .ref a_md_isGoal, .ref a_md_levels, .ref a_md_queue, .ref a_md_hasGuesses, .int md_keptBits, .ref a_md_rounds, .ref a_md_marked, .ref a_md_other, .ref a_md_heights])), (a_md_nexts, .inl (cI, 24576, .inl md_nexts))] := hD
                  refine lv_goto (tgt := 211) hx hb d_Md_many_207 (by decide) ?_
                  refine lv_iadd hx hb d_Md_many_211 ?_
                  refine lv_topi (fun x2_30 ex2_30 => ?_)
                  have h := h x2_30 ex2_30
                  refine lv_istore_n (lv' := [(2, .int x2_30), (3, .int s0_10), (0, .ref a_md), (1, .int x1), (4, .int x4_8), (5, .int x5_9)]) hx hb d_Md_many_212 rfl hl (by decide) rfl (fun ls hl => ?_)
                  refine lv_goto (tgt := 243) hx hb d_Md_many_213 (by decide) ?_
                  refine lv_iinc (v := x4_8 + 1) (lv' := [(4, .int (x4_8 + 1)), (2, .int x2_30), (3, .int s0_10), (0, .ref a_md), (1, .int x1), (5, .int x5_9)]) hx hb d_Md_many_243 hl (k := 4) rfl rfl (by decide) rfl (fun ls hl => ?_)
                  refine lv_goto (tgt := 26) hx hb d_Md_many_246 (by decide) ?_
                  exact hkb _ _ _ h _ _ (hP.sub [4, 5, 0, 1, 2, 3] rfl) (hD.sub [4, 5, 0, 1, 2, 3] (by decide) rfl) hS _ (lv_sub hl [3, 4, 1, 2, 0] rfl)
              have h := h.2.2.2.2.2.2 e_75_0 e_75_1 e_75_2 e_75_3 e_75_4 e_75_5
              refine lv_tableOut (tgt := 216) hx hb d_Md_many_75 (by have := lv_neT e_75_0 (a := 0) (by decide); have := lv_neT e_75_1 (a := 1) (by decide); have := lv_neT e_75_2 (a := 2) (by decide); have := lv_neT e_75_3 (a := 3) (by decide); have := lv_neT e_75_4 (a := 4) (by decide); have := lv_neT e_75_5 (a := 5) (by decide); omega) (by decide) ?_
              refine lv_iload_n hx hb d_Md_many_216 rfl (lv_at hl 3 rfl) ?_
              refine lv_aload_n hx hb d_Md_many_217 rfl (lv_at hl 1 rfl) ?_
              refine va_get (D := (dC, dI)) (ci := 11) (v := .ref a_md_hasGuesses) (C := "LoopInductionModel") (T := F_Md) (N := 40) hx hb hts iC_Md hown hK hP 0 rfl rfl 34 (by decide) fl_79 (fun _ h9 => h9) rfl d_Md_many_218 ?_
              refine lv_iload hx hb d_Md_many_221 (lv_at hl 4 rfl) ?_
              obtain ⟨hin_223, h⟩ := h
              refine va_iald hx hb hK hP 5 0 rfl rfl hin_223 d_Md_many_223 ?_
              refine lv_aload_n hx hb d_Md_many_224 rfl (lv_at hl 1 rfl) ?_
              refine va_get (D := (dC, dI)) (ci := 11) (v := .int md_keptBits) (C := "LoopInductionModel") (T := F_Md) (N := 40) hx hb hts iC_Md hown hK hP 0 rfl rfl 35 (by decide) fl_264 (fun _ h9 => h9) rfl d_Md_many_225 ?_
              refine lv_iand hx hb d_Md_many_228 ?_
              refine lv_aload_n hx hb d_Md_many_229 rfl (lv_at hl 1 rfl) ?_
              refine va_get (D := (dC, dI)) (ci := 11) (v := .int md_keptBits) (C := "LoopInductionModel") (T := F_Md) (N := 40) hx hb hts iC_Md hown hK hP 0 rfl rfl 35 (by decide) fl_264 (fun _ h9 => h9) rfl d_Md_many_230 ?_
              refine lv_icmp_ne (tgt := 240) hx hb d_Md_many_233 (by decide) (fun c_233 => ?_) (fun c_233 => ?_)
              · have h := And.left h c_233
                refine lv_iconst (v := 0) hx hb d_Md_many_240 (by decide) ?_
                refine lv_iadd hx hb d_Md_many_241 ?_
                refine lv_topi (fun x2_31 ex2_31 => ?_)
                have h := h x2_31 ex2_31
                refine lv_istore_n (lv' := [(2, .int x2_31), (3, .int s0_10), (0, .ref a_md), (1, .int x1), (4, .int x4_8), (5, .int x5_9)]) hx hb d_Md_many_242 rfl hl (by decide) rfl (fun ls hl => ?_)
                refine lv_iinc (v := x4_8 + 1) (lv' := [(4, .int (x4_8 + 1)), (2, .int x2_31), (3, .int s0_10), (0, .ref a_md), (1, .int x1), (5, .int x5_9)]) hx hb d_Md_many_243 hl (k := 4) rfl rfl (by decide) rfl (fun ls hl => ?_)
                refine lv_goto (tgt := 26) hx hb d_Md_many_246 (by decide) ?_
                exact hkb _ _ _ h _ _ hP hD hS _ (lv_sub hl [3, 4, 1, 2, 0] rfl)
              · have h := And.right h c_233
                refine lv_iconst (v := 1) hx hb d_Md_many_236 (by decide) ?_
                refine lv_goto (tgt := 241) hx hb d_Md_many_237 (by decide) ?_
                refine lv_iadd hx hb d_Md_many_241 ?_
                refine lv_topi (fun x2_32 ex2_32 => ?_)
                have h := h x2_32 ex2_32
                refine lv_istore_n (lv' := [(2, .int x2_32), (3, .int s0_10), (0, .ref a_md), (1, .int x1), (4, .int x4_8), (5, .int x5_9)]) hx hb d_Md_many_242 rfl hl (by decide) rfl (fun ls hl => ?_)
                refine lv_iinc (v := x4_8 + 1) (lv' := [(4, .int (x4_8 + 1)), (2, .int x2_32), (3, .int s0_10), (0, .ref a_md), (1, .int x1), (5, .int x5_9)]) hx hb d_Md_many_243 hl (k := 4) rfl rfl (by decide) rfl (fun ls hl => ?_)
                refine lv_goto (tgt := 26) hx hb d_Md_many_246 (by decide) ?_
                exact hkb _ _ _ h _ _ hP hD hS _ (lv_sub hl [3, 4, 1, 2, 0] rfl)
            refine lv_iload hx hb d_Md_many_26 (lv_at hl 4 rfl) ?_
            refine lv_sipush (v := 4096) hx hb d_Md_many_28 (by decide) ?_
            refine lv_icmp_ge (tgt := 249) hx hb d_Md_many_31 (by decide) (fun c_31 => ?_) (fun c_31 => ?_)
            · have h := And.left h c_31
              exact hk249 _ _ h _ _ hP hD hS _ (lv_sub hl [1, 2, 3] rfl)
            · have h := And.right h c_31
              refine lv_aload_n hx hb d_Md_many_34 rfl (lv_at hl 0 rfl) ?_
              refine va_get (D := (dC, dI)) (ci := 11) (v := .ref a_md_levels) (C := "LoopInductionModel") (T := F_Md) (N := 40) hx hb hts iC_Md hown hK hP 0 rfl rfl 32 (by decide) fl_73 (fun _ h9 => h9) rfl d_Md_many_35 ?_
              refine lv_iload hx hb d_Md_many_38 (lv_at hl 4 rfl) ?_
              obtain ⟨hin_40, h⟩ := h
              refine va_iald hx hb hK hP 4 0 rfl rfl hin_40 d_Md_many_40 ?_
              refine lv_if_lt (tgt := 48) hx hb d_Md_many_41 (by decide) (fun c_41 => ?_) (fun c_41 => ?_)
              · have h := And.left h c_41
                refine lv_iconst (v := 0) hx hb d_Md_many_48 (by decide) ?_
                refine lv_istore (lv' := [(5, .int 0), (0, .ref a_md), (1, .int x1), (2, .int x2_1), (3, .int x3_2), (4, .int x4_3)]) hx hb d_Md_many_49 hl (by decide) rfl (fun ls hl => ?_)
                refine lv_aload_n hx hb d_Md_many_51 rfl (lv_at hl 1 rfl) ?_
                refine va_get (D := (dC, dI)) (ci := 11) (v := .ref a_md_levels) (C := "LoopInductionModel") (T := F_Md) (N := 40) hx hb hts iC_Md hown hK hP 0 rfl rfl 32 (by decide) fl_73 (fun _ h9 => h9) rfl d_Md_many_52 ?_
                refine lv_iload hx hb d_Md_many_55 (lv_at hl 5 rfl) ?_
                obtain ⟨hin_57, h⟩ := h
                refine va_iald hx hb hK hP 4 0 rfl rfl hin_57 d_Md_many_57 ?_
                refine lv_iload_n hx hb d_Md_many_58 rfl (lv_at hl 4 rfl) ?_
                refine lv_icmp_le (tgt := 72) hx hb d_Md_many_59 (by decide) (fun c_59 => ?_) (fun c_59 => ?_)
                · have h := And.left h c_59
                  refine lv_iload_n hx hb d_Md_many_72 rfl (lv_at hl 4 rfl) ?_
                  exact J73 _ il _ hk249 _ _ _ _ h _ _ hP hD hS _ (lv_sub hl [1, 2, 3, 5, 0] rfl)
                · have h := And.right h c_59
                  refine lv_aload_n hx hb d_Md_many_62 rfl (lv_at hl 1 rfl) ?_
                  refine va_get (D := (dC, dI)) (ci := 11) (v := .ref a_md_levels) (C := "LoopInductionModel") (T := F_Md) (N := 40) hx hb hts iC_Md hown hK hP 0 rfl rfl 32 (by decide) fl_73 (fun _ h9 => h9) rfl d_Md_many_63 ?_
                  refine lv_iload hx hb d_Md_many_66 (lv_at hl 5 rfl) ?_
                  obtain ⟨hin_68, h⟩ := h
                  refine va_iald hx hb hK hP 4 0 rfl rfl hin_68 d_Md_many_68 ?_
                  refine lv_goto (tgt := 73) hx hb d_Md_many_69 (by decide) ?_
                  exact J73 _ il _ hk249 _ _ _ _ h _ _ hP hD hS _ (lv_sub hl [1, 2, 3, 5, 0] rfl)
              · have h := And.right h c_41
                refine lv_iconst (v := 1) hx hb d_Md_many_44 (by decide) ?_
                refine lv_goto (tgt := 49) hx hb d_Md_many_45 (by decide) ?_
                refine lv_istore (lv' := [(5, .int 1), (0, .ref a_md), (1, .int x1), (2, .int x2_1), (3, .int x3_2), (4, .int x4_3)]) hx hb d_Md_many_49 hl (by decide) rfl (fun ls hl => ?_)
                refine lv_aload_n hx hb d_Md_many_51 rfl (lv_at hl 1 rfl) ?_
                refine va_get (D := (dC, dI)) (ci := 11) (v := .ref a_md_levels) (C := "LoopInductionModel") (T := F_Md) (N := 40) hx hb hts iC_Md hown hK hP 0 rfl rfl 32 (by decide) fl_73 (fun _ h9 => h9) rfl d_Md_many_52 ?_
                refine lv_iload hx hb d_Md_many_55 (lv_at hl 5 rfl) ?_
                obtain ⟨hin_57, h⟩ := h
                refine va_iald hx hb hK hP 4 0 rfl rfl hin_57 d_Md_many_57 ?_
                refine lv_iload_n hx hb d_Md_many_58 rfl (lv_at hl 4 rfl) ?_
                refine lv_icmp_le (tgt := 72) hx hb d_Md_many_59 (by decide) (fun c_59 => ?_) (fun c_59 => ?_)
                · have h := And.left h c_59
                  refine lv_iload_n hx hb d_Md_many_72 rfl (lv_at hl 4 rfl) ?_
                  exact J73 _ il _ hk249 _ _ _ _ h _ _ hP hD hS _ (lv_sub hl [1, 2, 3, 5, 0] rfl)
                · have h := And.right h c_59
                  refine lv_aload_n hx hb d_Md_many_62 rfl (lv_at hl 1 rfl) ?_
                  refine va_get (D := (dC, dI)) (ci := 11) (v := .ref a_md_levels) (C := "LoopInductionModel") (T := F_Md) (N := 40) hx hb hts iC_Md hown hK hP 0 rfl rfl 32 (by decide) fl_73 (fun _ h9 => h9) rfl d_Md_many_63 ?_
                  refine lv_iload hx hb d_Md_many_66 (lv_at hl 5 rfl) ?_
                  obtain ⟨hin_68, h⟩ := h
                  refine va_iald hx hb hK hP 4 0 rfl rfl hin_68 d_Md_many_68 ?_
                  refine lv_goto (tgt := 73) hx hb d_Md_many_69 (by decide) ?_
                  exact J73 _ il _ hk249 _ _ _ _ h _ _ hP hD hS _ (lv_sub hl [1, 2, 3, 5, 0] rfl)
        obtain ⟨n_, h⟩ := h
        refine L26_q_4 _ ?_ n_ _ _ _ h _ _ hP hD hS _ (lv_sub hl [3, 4, 2, 1, 0] rfl)
        intro x2_33 x3_34 h
        intro H locs hP hD hS ls hl
        refine lv_iload_n hx hb d_Md_many_249 rfl (lv_at hl 0 rfl) ?_
        refine lv_iconst (v := 4) hx hb d_Md_many_250 (by decide) ?_
        refine lv_icmp_ne (tgt := 258) hx hb d_Md_many_251 (by decide) (fun c_251 => ?_) (fun c_251 => ?_)
        · have h := And.left h c_251
          refine lv_iload_n hx hb d_Md_many_258 rfl (lv_at hl 1 rfl) ?_
          rw [← hQ]
          have hP9 := hP
          have hD9 := hD
          exact W.iret (v := x2_33) hx hb hr (fun t ht hW => ⟨⟨x2_33, (), rfl, h, by rw [ht]; exact hP9, va_K.moved hW.alike hK, hD9⟩, hS.F ht⟩) hS.2.2 d_Md_many_259
        · have h := And.right h c_251
          refine lv_iload_n hx hb d_Md_many_254 rfl (lv_at hl 2 rfl) ?_
          refine lv_goto (tgt := 259) hx hb d_Md_many_255 (by decide) ?_
          rw [← hQ]
          have hP9 := hP
          have hD9 := hD
          exact W.iret (v := x3_34) hx hb hr (fun t ht hW => ⟨⟨x3_34, (), rfl, h, by rw [ht]; exact hP9, va_K.moved hW.alike hK, hD9⟩, hS.F ht⟩) hS.2.2 d_Md_many_259
      · have h := And.right h c_14
        refine lv_iconst (v := (-1)) hx hb d_Md_many_17 (by decide) ?_
        rw [← hQ]
        have hP9 := hP
        have hD9 := hD
        exact W.iret (v := (-1)) hx hb hr (fun t ht hW => ⟨⟨(-1), (), rfl, h, by rw [ht]; exact hP9, va_K.moved hW.alike hK, hD9⟩, hS.F ht⟩) hS.2.2 d_Md_many_18
