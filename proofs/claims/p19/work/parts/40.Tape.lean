abbrev b_Tape_hasRoom : ByteArray := prog_9_method_2_code
abbrev y_Tape_hasRoom : MethodName := ⟨"LoopInduction$Tape", "hasRoom", "()Z"⟩
abbrev w_Tape_hasRoom : List Cond := .code y_Tape_hasRoom b_Tape_hasRoom 1 (some .boolean) :: allW
theorem pn_Tape_hasRoom : y_Tape_hasRoom.cls ≠ "java/lang/invoke/MethodHandle" ∧ y_Tape_hasRoom.cls ≠ "java/lang/invoke/VarHandle" ∧ (parseMethodDescriptor y_Tape_hasRoom.desc).map (fun d => d.parameters.length) = some 0 := by decide +kernel
theorem pd_Tape_hasRoom : y_Tape_hasRoom.cls = "LoopInduction$Tape" ∧ y_Tape_hasRoom.cls ≠ "java/lang/invoke/MethodHandle" ∧ y_Tape_hasRoom.cls ≠ "java/lang/invoke/VarHandle" ∧ (parseMethodDescriptor y_Tape_hasRoom.desc).map (fun d => d.parameters.length) = some 0 := by decide +kernel
abbrev b_Tape_add : ByteArray := prog_9_method_3_code
abbrev y_Tape_add : MethodName := ⟨"LoopInduction$Tape", "add", "(I)V"⟩
abbrev w_Tape_add : List Cond := .code y_Tape_add b_Tape_add 3 none :: allW
theorem pn_Tape_add : y_Tape_add.cls ≠ "java/lang/invoke/MethodHandle" ∧ y_Tape_add.cls ≠ "java/lang/invoke/VarHandle" ∧ (parseMethodDescriptor y_Tape_add.desc).map (fun d => d.parameters.length) = some 1 := by decide +kernel
theorem pd_Tape_add : y_Tape_add.cls = "LoopInduction$Tape" ∧ y_Tape_add.cls ≠ "java/lang/invoke/MethodHandle" ∧ y_Tape_add.cls ≠ "java/lang/invoke/VarHandle" ∧ (parseMethodDescriptor y_Tape_add.desc).map (fun d => d.parameters.length) = some 1 := by decide +kernel
abbrev b_Tape_cut : ByteArray := prog_9_method_4_code
abbrev y_Tape_cut : MethodName := ⟨"LoopInduction$Tape", "cut", "(I)Z"⟩
abbrev w_Tape_cut : List Cond := .code y_Tape_cut b_Tape_cut 2 (some .boolean) :: allW
theorem pn_Tape_cut : y_Tape_cut.cls ≠ "java/lang/invoke/MethodHandle" ∧ y_Tape_cut.cls ≠ "java/lang/invoke/VarHandle" ∧ (parseMethodDescriptor y_Tape_cut.desc).map (fun d => d.parameters.length) = some 1 := by decide +kernel
theorem pd_Tape_cut : y_Tape_cut.cls = "LoopInduction$Tape" ∧ y_Tape_cut.cls ≠ "java/lang/invoke/MethodHandle" ∧ y_Tape_cut.cls ≠ "java/lang/invoke/VarHandle" ∧ (parseMethodDescriptor y_Tape_cut.desc).map (fun d => d.parameters.length) = some 1 := by decide +kernel
abbrev b_Tape_clear : ByteArray := prog_9_method_5_code
abbrev y_Tape_clear : MethodName := ⟨"LoopInduction$Tape", "clear", "()V"⟩
abbrev w_Tape_clear : List Cond := .code y_Tape_clear b_Tape_clear 1 none :: allW
theorem pn_Tape_clear : y_Tape_clear.cls ≠ "java/lang/invoke/MethodHandle" ∧ y_Tape_clear.cls ≠ "java/lang/invoke/VarHandle" ∧ (parseMethodDescriptor y_Tape_clear.desc).map (fun d => d.parameters.length) = some 0 := by decide +kernel
theorem pd_Tape_clear : y_Tape_clear.cls = "LoopInduction$Tape" ∧ y_Tape_clear.cls ≠ "java/lang/invoke/MethodHandle" ∧ y_Tape_clear.cls ≠ "java/lang/invoke/VarHandle" ∧ (parseMethodDescriptor y_Tape_clear.desc).map (fun d => d.parameters.length) = some 0 := by decide +kernel
abbrev b_Tape_size : ByteArray := prog_9_method_6_code
abbrev y_Tape_size : MethodName := ⟨"LoopInduction$Tape", "size", "()I"⟩
abbrev w_Tape_size : List Cond := .code y_Tape_size b_Tape_size 1 (some .int) :: allW
theorem pn_Tape_size : y_Tape_size.cls ≠ "java/lang/invoke/MethodHandle" ∧ y_Tape_size.cls ≠ "java/lang/invoke/VarHandle" ∧ (parseMethodDescriptor y_Tape_size.desc).map (fun d => d.parameters.length) = some 0 := by decide +kernel
theorem pd_Tape_size : y_Tape_size.cls = "LoopInduction$Tape" ∧ y_Tape_size.cls ≠ "java/lang/invoke/MethodHandle" ∧ y_Tape_size.cls ≠ "java/lang/invoke/VarHandle" ∧ (parseMethodDescriptor y_Tape_size.desc).map (fun d => d.parameters.length) = some 0 := by decide +kernel
abbrev b_Tape_byteAt : ByteArray := prog_9_method_7_code
abbrev y_Tape_byteAt : MethodName := ⟨"LoopInduction$Tape", "byteAt", "(I)I"⟩
abbrev w_Tape_byteAt : List Cond := .code y_Tape_byteAt b_Tape_byteAt 2 (some .int) :: allW
theorem pn_Tape_byteAt : y_Tape_byteAt.cls ≠ "java/lang/invoke/MethodHandle" ∧ y_Tape_byteAt.cls ≠ "java/lang/invoke/VarHandle" ∧ (parseMethodDescriptor y_Tape_byteAt.desc).map (fun d => d.parameters.length) = some 1 := by decide +kernel
theorem pd_Tape_byteAt : y_Tape_byteAt.cls = "LoopInduction$Tape" ∧ y_Tape_byteAt.cls ≠ "java/lang/invoke/MethodHandle" ∧ y_Tape_byteAt.cls ≠ "java/lang/invoke/VarHandle" ∧ (parseMethodDescriptor y_Tape_byteAt.desc).map (fun d => d.parameters.length) = some 1 := by decide +kernel
theorem d_Tape_hasRoom_0 : decode b_Tape_hasRoom 0 = .ok (.aload_n 0, 1) := by decide +kernel
theorem d_Tape_hasRoom_1 : decode b_Tape_hasRoom 1 = .ok (.getfield 13, 3) := by decide +kernel
theorem d_Tape_hasRoom_4 : decode b_Tape_hasRoom 4 = .ok (.bipush 20, 2) := by decide +kernel
theorem d_Tape_hasRoom_6 : decode b_Tape_hasRoom 6 = .ok (.iadd, 1) := by decide +kernel
theorem d_Tape_hasRoom_7 : decode b_Tape_hasRoom 7 = .ok (.sipush 1200, 3) := by decide +kernel
theorem d_Tape_hasRoom_10 : decode b_Tape_hasRoom 10 = .ok (.if_icmp .gt 7, 3) := by decide +kernel
theorem d_Tape_hasRoom_13 : decode b_Tape_hasRoom 13 = .ok (.iconst 1, 1) := by decide +kernel
theorem d_Tape_hasRoom_14 : decode b_Tape_hasRoom 14 = .ok (.goto 4, 3) := by decide +kernel
theorem d_Tape_hasRoom_17 : decode b_Tape_hasRoom 17 = .ok (.iconst 0, 1) := by decide +kernel
theorem d_Tape_hasRoom_18 : decode b_Tape_hasRoom 18 = .ok (.ireturn, 1) := by decide +kernel
theorem d_Tape_add_0 : decode b_Tape_add 0 = .ok (.bipush 24, 2) := by decide +kernel
theorem d_Tape_add_2 : decode b_Tape_add 2 = .ok (.istore_n 2, 1) := by decide +kernel
theorem d_Tape_add_3 : decode b_Tape_add 3 = .ok (.iload_n 2, 1) := by decide +kernel
theorem d_Tape_add_4 : decode b_Tape_add 4 = .ok (.ifCond .lt 44, 3) := by decide +kernel
theorem d_Tape_add_7 : decode b_Tape_add 7 = .ok (.aload_n 0, 1) := by decide +kernel
theorem d_Tape_add_8 : decode b_Tape_add 8 = .ok (.getfield 13, 3) := by decide +kernel
theorem d_Tape_add_11 : decode b_Tape_add 11 = .ok (.aload_n 0, 1) := by decide +kernel
theorem d_Tape_add_12 : decode b_Tape_add 12 = .ok (.getfield 9, 3) := by decide +kernel
theorem d_Tape_add_15 : decode b_Tape_add 15 = .ok (.arraylength, 1) := by decide +kernel
theorem d_Tape_add_16 : decode b_Tape_add 16 = .ok (.if_icmp .ge 26, 3) := by decide +kernel
theorem d_Tape_add_19 : decode b_Tape_add 19 = .ok (.aload_n 0, 1) := by decide +kernel
theorem d_Tape_add_20 : decode b_Tape_add 20 = .ok (.getfield 9, 3) := by decide +kernel
theorem d_Tape_add_23 : decode b_Tape_add 23 = .ok (.aload_n 0, 1) := by decide +kernel
theorem d_Tape_add_24 : decode b_Tape_add 24 = .ok (.getfield 13, 3) := by decide +kernel
theorem d_Tape_add_27 : decode b_Tape_add 27 = .ok (.iload_n 1, 1) := by decide +kernel
theorem d_Tape_add_28 : decode b_Tape_add 28 = .ok (.iload_n 2, 1) := by decide +kernel
theorem d_Tape_add_29 : decode b_Tape_add 29 = .ok (.iushr, 1) := by decide +kernel
theorem d_Tape_add_30 : decode b_Tape_add 30 = .ok (.i2b, 1) := by decide +kernel
theorem d_Tape_add_31 : decode b_Tape_add 31 = .ok (.bastore, 1) := by decide +kernel
theorem d_Tape_add_32 : decode b_Tape_add 32 = .ok (.aload_n 0, 1) := by decide +kernel
theorem d_Tape_add_33 : decode b_Tape_add 33 = .ok (.dup, 1) := by decide +kernel
theorem d_Tape_add_34 : decode b_Tape_add 34 = .ok (.getfield 13, 3) := by decide +kernel
theorem d_Tape_add_37 : decode b_Tape_add 37 = .ok (.iconst 1, 1) := by decide +kernel
theorem d_Tape_add_38 : decode b_Tape_add 38 = .ok (.iadd, 1) := by decide +kernel
theorem d_Tape_add_39 : decode b_Tape_add 39 = .ok (.putfield 13, 3) := by decide +kernel
theorem d_Tape_add_42 : decode b_Tape_add 42 = .ok (.iinc 2 (-8), 3) := by decide +kernel
theorem d_Tape_add_45 : decode b_Tape_add 45 = .ok (.goto (-42), 3) := by decide +kernel
theorem d_Tape_add_48 : decode b_Tape_add 48 = .ok (.return_, 1) := by decide +kernel
theorem d_Tape_cut_0 : decode b_Tape_cut 0 = .ok (.iload_n 1, 1) := by decide +kernel
theorem d_Tape_cut_1 : decode b_Tape_cut 1 = .ok (.ifCond .lt 18, 3) := by decide +kernel
theorem d_Tape_cut_4 : decode b_Tape_cut 4 = .ok (.iload_n 1, 1) := by decide +kernel
theorem d_Tape_cut_5 : decode b_Tape_cut 5 = .ok (.bipush 20, 2) := by decide +kernel
theorem d_Tape_cut_7 : decode b_Tape_cut 7 = .ok (.if_icmp .gt 12, 3) := by decide +kernel
theorem d_Tape_cut_10 : decode b_Tape_cut 10 = .ok (.aload_n 0, 1) := by decide +kernel
theorem d_Tape_cut_11 : decode b_Tape_cut 11 = .ok (.getfield 13, 3) := by decide +kernel
theorem d_Tape_cut_14 : decode b_Tape_cut 14 = .ok (.bipush 20, 2) := by decide +kernel
theorem d_Tape_cut_16 : decode b_Tape_cut 16 = .ok (.if_icmp .ge 5, 3) := by decide +kernel
theorem d_Tape_cut_19 : decode b_Tape_cut 19 = .ok (.iconst 0, 1) := by decide +kernel
theorem d_Tape_cut_20 : decode b_Tape_cut 20 = .ok (.ireturn, 1) := by decide +kernel
theorem d_Tape_cut_21 : decode b_Tape_cut 21 = .ok (.aload_n 0, 1) := by decide +kernel
theorem d_Tape_cut_22 : decode b_Tape_cut 22 = .ok (.aload_n 0, 1) := by decide +kernel
theorem d_Tape_cut_23 : decode b_Tape_cut 23 = .ok (.getfield 13, 3) := by decide +kernel
theorem d_Tape_cut_26 : decode b_Tape_cut 26 = .ok (.bipush 20, 2) := by decide +kernel
theorem d_Tape_cut_28 : decode b_Tape_cut 28 = .ok (.isub, 1) := by decide +kernel
theorem d_Tape_cut_29 : decode b_Tape_cut 29 = .ok (.iload_n 1, 1) := by decide +kernel
theorem d_Tape_cut_30 : decode b_Tape_cut 30 = .ok (.iadd, 1) := by decide +kernel
theorem d_Tape_cut_31 : decode b_Tape_cut 31 = .ok (.putfield 13, 3) := by decide +kernel
theorem d_Tape_cut_34 : decode b_Tape_cut 34 = .ok (.iconst 1, 1) := by decide +kernel
theorem d_Tape_cut_35 : decode b_Tape_cut 35 = .ok (.ireturn, 1) := by decide +kernel
theorem d_Tape_clear_0 : decode b_Tape_clear 0 = .ok (.aload_n 0, 1) := by decide +kernel
theorem d_Tape_clear_1 : decode b_Tape_clear 1 = .ok (.iconst 0, 1) := by decide +kernel
theorem d_Tape_clear_2 : decode b_Tape_clear 2 = .ok (.putfield 13, 3) := by decide +kernel
theorem d_Tape_clear_5 : decode b_Tape_clear 5 = .ok (.return_, 1) := by decide +kernel
theorem d_Tape_size_0 : decode b_Tape_size 0 = .ok (.aload_n 0, 1) := by decide +kernel
theorem d_Tape_size_1 : decode b_Tape_size 1 = .ok (.getfield 13, 3) := by decide +kernel
theorem d_Tape_size_4 : decode b_Tape_size 4 = .ok (.ireturn, 1) := by decide +kernel
theorem d_Tape_byteAt_0 : decode b_Tape_byteAt 0 = .ok (.iload_n 1, 1) := by decide +kernel
theorem d_Tape_byteAt_1 : decode b_Tape_byteAt 1 = .ok (.ifCond .lt 33, 3) := by decide +kernel
theorem d_Tape_byteAt_4 : decode b_Tape_byteAt 4 = .ok (.iload_n 1, 1) := by decide +kernel
theorem d_Tape_byteAt_5 : decode b_Tape_byteAt 5 = .ok (.aload_n 0, 1) := by decide +kernel
theorem d_Tape_byteAt_6 : decode b_Tape_byteAt 6 = .ok (.getfield 13, 3) := by decide +kernel
theorem d_Tape_byteAt_9 : decode b_Tape_byteAt 9 = .ok (.if_icmp .ge 25, 3) := by decide +kernel
theorem d_Tape_byteAt_12 : decode b_Tape_byteAt 12 = .ok (.iload_n 1, 1) := by decide +kernel
theorem d_Tape_byteAt_13 : decode b_Tape_byteAt 13 = .ok (.aload_n 0, 1) := by decide +kernel
theorem d_Tape_byteAt_14 : decode b_Tape_byteAt 14 = .ok (.getfield 9, 3) := by decide +kernel
theorem d_Tape_byteAt_17 : decode b_Tape_byteAt 17 = .ok (.arraylength, 1) := by decide +kernel
theorem d_Tape_byteAt_18 : decode b_Tape_byteAt 18 = .ok (.if_icmp .ge 16, 3) := by decide +kernel
theorem d_Tape_byteAt_21 : decode b_Tape_byteAt 21 = .ok (.aload_n 0, 1) := by decide +kernel
theorem d_Tape_byteAt_22 : decode b_Tape_byteAt 22 = .ok (.getfield 9, 3) := by decide +kernel
theorem d_Tape_byteAt_25 : decode b_Tape_byteAt 25 = .ok (.iload_n 1, 1) := by decide +kernel
theorem d_Tape_byteAt_26 : decode b_Tape_byteAt 26 = .ok (.baload, 1) := by decide +kernel
theorem d_Tape_byteAt_27 : decode b_Tape_byteAt 27 = .ok (.sipush 255, 3) := by decide +kernel
theorem d_Tape_byteAt_30 : decode b_Tape_byteAt 30 = .ok (.iand, 1) := by decide +kernel
theorem d_Tape_byteAt_31 : decode b_Tape_byteAt 31 = .ok (.goto 4, 3) := by decide +kernel
theorem d_Tape_byteAt_34 : decode b_Tape_byteAt 34 = .ok (.iconst (-1), 1) := by decide +kernel
theorem d_Tape_byteAt_35 : decode b_Tape_byteAt 35 = .ok (.ireturn, 1) := by decide +kernel
set_option maxHeartbeats 4000000 in
set_option maxRecDepth 100000 in
theorem c_Tape_hasRoom (l : Launch) (dC : Nat → ClassId) (dI : Nat → Nat → Nat) (cI cB cZ : ClassId) (adK adV : Nat → Nat) (sz : Nat) (a_tp a_tp_bytes : Nat) (tp_size : Int32) (post : Int32 → Prop) (h : wp_Tape_hasRoom tp_size post) : Met l y_Tape_hasRoom w_Tape_hasRoom ({ frames := 0, cells := 0, slots := 0, locals := 0 }) (pc_ (dC, dI) [(cI, .int), (cB, .byte), (cZ, .boolean)] [(a_tp, .inr (8, [.ref a_tp_bytes, .int tp_size]))] sz adK adV [.ref a_tp]) (va_Qi (fun (r : Int32) (u : Unit) => post r ) (fun (u : Unit) t => bw_ (dC, dI) [(cI, .int), (cB, .byte), (cZ, .boolean)] (va_A [(a_tp, .inr (8, [.ref a_tp_bytes, .int tp_size]))] sz) [(a_tp, .inr (8, [.ref a_tp_bytes, .int tp_size]))] t) (va_A [(a_tp, .inr (8, [.ref a_tp_bytes, .int tp_size]))] sz)) 0 0 (va_A [(a_tp, .inr (8, [.ref a_tp_bytes, .int tp_size]))] sz) := by
  refine Met.ofW (cc := b_Tape_hasRoom) (maxL := 1) (ret := (some .boolean)) (by decide) rfl ?_
  intro p e s m args below meth c s₁ B hml hv
  obtain ⟨rfl, hsz, hP, hK, hD0, hN, hT⟩ := hv
  have hx := B.exec
  have hb := B.bytes
  have hr := B.returns
  have hts := atoms_spec (ws := w_Tape_hasRoom) B.pre
  have hown : s.vm.findClass "LoopInduction$Tape" = some m.cls := findClass_of_methodNamed B.named
  have hlocks := B.notSynchronized
  subst hsz
  have hD := hD0.self (sz := s.heap.size)
  generalize hAe : va_A [(a_tp, .inr (8, [.ref a_tp_bytes, .int tp_size]))] s.heap.size = A at hD hT ⊢
  have hA : ∀ q : Nat, s.heap.size ≤ q → A q := fun q h => by rw [← hAe]; exact Or.inr h
  have hS : va_S A s.heap s.heap [] := va_S.rf
  generalize hQ : MQ below _ _ s 0 0 _ = QQ
  have hl := lv_entry ([.ref a_tp]) (n := 1) (Nat.le_of_ble_eq_true rfl)
  rw [lg_entry_eq]
  generalize (lg_sl ([.ref a_tp]) ++ List.replicate (1 - (lg_sl ([.ref a_tp])).length) Slot.unset).toArray = ls at hl ⊢
  have hl : lv_has ls 1 [(0, .ref a_tp)] := hl
  have fl_13 := (hts _ (List.mem_cons_of_mem _ m_120))
  refine lv_aload_n hx hb d_Tape_hasRoom_0 rfl (lv_at hl 0 rfl) ?_
  refine va_get (D := (dC, dI)) (ci := 8) (v := .int tp_size) (C := "LoopInduction$Tape") (T := F_Tape) (N := 2) hx hb hts iC_Tape hown hK hP 0 rfl rfl 1 (by decide) fl_13 (fun _ h9 => h9) rfl d_Tape_hasRoom_1 ?_
  refine lv_bipush (v := 20) hx hb d_Tape_hasRoom_4 (by decide) ?_
  refine lv_iadd hx hb d_Tape_hasRoom_6 ?_
  refine lv_sipush (v := 1200) hx hb d_Tape_hasRoom_7 (by decide) ?_
  refine lv_icmp_gt (tgt := 17) hx hb d_Tape_hasRoom_10 (by decide) (fun c_10 => ?_) (fun c_10 => ?_)
  · have h := And.left h c_10
    refine lv_iconst (v := 0) hx hb d_Tape_hasRoom_17 (by decide) ?_
    rw [← hQ]
    have hP9 := hP
    have hD9 := hD
    exact W.zret (v := 0) hx hb hr rfl (fun t ht hW => ⟨⟨0, (), rfl, h, by rw [ht]; exact hP9, va_K.moved hW.alike hK, hD9⟩, hS.F ht⟩) hS.2.2 d_Tape_hasRoom_18
  · have h := And.right h c_10
    refine lv_iconst (v := 1) hx hb d_Tape_hasRoom_13 (by decide) ?_
    refine lv_goto (tgt := 18) hx hb d_Tape_hasRoom_14 (by decide) ?_
    rw [← hQ]
    have hP9 := hP
    have hD9 := hD
    exact W.zret (v := 1) hx hb hr rfl (fun t ht hW => ⟨⟨1, (), rfl, h, by rw [ht]; exact hP9, va_K.moved hW.alike hK, hD9⟩, hS.F ht⟩) hS.2.2 d_Tape_hasRoom_18
set_option maxHeartbeats 4000000 in
set_option maxRecDepth 100000 in
theorem c_Tape_add (l : Launch) (dC : Nat → ClassId) (dI : Nat → Nat → Nat) (cI cB cZ : ClassId) (adK adV : Nat → Nat) (sz : Nat) (a_tp a_tp_bytes : Nat) (tp_size : Int32) (tp_bytes : Nat → Int32) (x1 : Int32) (post : Int32 → (Nat → Int32) → Prop) (h : wp_Tape_add x1 tp_size tp_bytes post) : Met l y_Tape_add w_Tape_add ({ frames := 0, cells := 0, slots := 0, locals := 0 }) (pc_ (dC, dI) [(cI, .int), (cB, .byte), (cZ, .boolean)] [(a_tp, .inr (8, [.ref a_tp_bytes, .int tp_size])), (a_tp_bytes, .inl (cB, 1200, .inl tp_bytes))] sz adK adV [.ref a_tp, .int x1]) (va_Qv (fun (u : Int32 × (Nat → Int32)) => post u.1 u.2) (fun (u : Int32 × (Nat → Int32)) t => bw_ (dC, dI) [(cI, .int), (cB, .byte), (cZ, .boolean)] (va_A [(a_tp, .inr (8, [.ref a_tp_bytes, .int tp_size])), (a_tp_bytes, .inl (cB, 1200, .inl tp_bytes))] sz) [(a_tp, .inr (8, [.ref a_tp_bytes, .int u.1])), (a_tp_bytes, .inl (cB, 1200, .inl u.2))] t) (va_A [(a_tp, .inr (8, [.ref a_tp_bytes, .int tp_size])), (a_tp_bytes, .inl (cB, 1200, .inl tp_bytes))] sz)) 0 0 (va_A [(a_tp, .inr (8, [.ref a_tp_bytes, .int tp_size])), (a_tp_bytes, .inl (cB, 1200, .inl tp_bytes))] sz) := by
  refine Met.ofW (cc := b_Tape_add) (maxL := 3) (ret := none) (by decide) rfl ?_
  intro p e s m args below meth c s₁ B hml hv
  obtain ⟨rfl, hsz, hP, hK, hD0, hN, hT⟩ := hv
  have hx := B.exec
  have hb := B.bytes
  have hr := B.returns
  have hts := atoms_spec (ws := w_Tape_add) B.pre
  have hown : s.vm.findClass "LoopInduction$Tape" = some m.cls := findClass_of_methodNamed B.named
  have hlocks := B.notSynchronized
  subst hsz
  have hD := hD0.self (sz := s.heap.size)
  generalize hAe : va_A [(a_tp, .inr (8, [.ref a_tp_bytes, .int tp_size])), (a_tp_bytes, .inl (cB, 1200, .inl tp_bytes))] s.heap.size = A at hD hT ⊢
  have hA : ∀ q : Nat, s.heap.size ≤ q → A q := fun q h => by rw [← hAe]; exact Or.inr h
  have hS : va_S A s.heap s.heap [] := va_S.rf
  generalize hQ : MQ below _ _ s 0 0 _ = QQ
  have hl := lv_entry ([.ref a_tp, .int x1]) (n := 3) (Nat.le_of_ble_eq_true rfl)
  rw [lg_entry_eq]
  generalize (lg_sl ([.ref a_tp, .int x1]) ++ List.replicate (3 - (lg_sl ([.ref a_tp, .int x1])).length) Slot.unset).toArray = ls at hl ⊢
  have hl : lv_has ls 3 [(0, .ref a_tp), (1, .int x1)] := hl
  have fl_9 := (hts _ (List.mem_cons_of_mem _ m_119))
  have fl_13 := (hts _ (List.mem_cons_of_mem _ m_120))
  refine lv_bipush (v := 24) hx hb d_Tape_add_0 (by decide) ?_
  refine lv_istore_n (lv' := [(2, .int 24), (0, .ref a_tp), (1, .int x1)]) hx hb d_Tape_add_2 rfl hl (by decide) rfl (fun ls hl => ?_)
  have L3_q_4 : ∀ (k48 : (Int32) → (Nat → Int32) → Prop) (hk48 : ∀ (tp_size_5 : Int32) (tp_bytes_6 : Nat → Int32), k48 tp_size_5 tp_bytes_6 → ∀ (H : Heap) (locs : List Loc), va_P (dC, dI) vwCl [(a_tp, .inr (8, [.ref a_tp_bytes, .int tp_size_5])), (a_tp_bytes, .inl (cB, 1200, .inl tp_bytes_6))] H → va_D A [(a_tp, .inr (8, [.ref a_tp_bytes, .int tp_size_5])), (a_tp_bytes, .inl (cB, 1200, .inl tp_bytes_6))] → va_S A s.heap H locs → ∀ ls : Array Slot, lv_has ls 3 [] → W p l e (headSpec w_Tape_add ({ frames := 0, cells := 0, slots := 0, locals := 0 })).room s m (([.ref a_tp, .int x1] : List Value).toArray) below meth c H locs 0 0 QQ (F0 m 48 ls [])) (n : Nat) (x2_1 : Int32) (tp_size_2 : Int32) (tp_bytes_3 : Nat → Int32), wp_Tape_add_L3 x1 k48 n x2_1 tp_size_2 tp_bytes_3 → ∀ (H : Heap) (locs : List Loc), va_P (dC, dI) vwCl [(a_tp, .inr (8, [.ref a_tp_bytes, .int tp_size_2])), (a_tp_bytes, .inl (cB, 1200, .inl tp_bytes_3))] H → va_D A [(a_tp, .inr (8, [.ref a_tp_bytes, .int tp_size_2])), (a_tp_bytes, .inl (cB, 1200, .inl tp_bytes_3))] → va_S A s.heap H locs → ∀ ls : Array Slot, lv_has ls 3 [(0, .ref a_tp), (1, .int x1), (2, .int x2_1)] → W p l e (headSpec w_Tape_add ({ frames := 0, cells := 0, slots := 0, locals := 0 })).room s m (([.ref a_tp, .int x1] : List Value).toArray) below meth c H locs 0 0 QQ (F0 m 3 ls []) := by
    intro k48 hk48 n
    induction n with
    | zero => intro x2_1 tp_size_2 tp_bytes_3 h; exact (show False from h).elim
    | succ n il =>
      intro x2_1 tp_size_2 tp_bytes_3 h
      intro H locs hP hD hS ls hl
      refine lv_iload_n hx hb d_Tape_add_3 rfl (lv_at hl 2 rfl) ?_
      refine lv_if_lt (tgt := 48) hx hb d_Tape_add_4 (by decide) (fun c_4 => ?_) (fun c_4 => ?_)
      · have h := And.left h c_4
        exact hk48 _ _ h _ _ hP hD hS _ (lv_sub hl [] rfl)
      · have h := And.right h c_4
        refine lv_aload_n hx hb d_Tape_add_7 rfl (lv_at hl 0 rfl) ?_
        refine va_get (D := (dC, dI)) (ci := 8) (v := .int tp_size_2) (C := "LoopInduction$Tape") (T := F_Tape) (N := 2) hx hb hts iC_Tape hown hK hP 0 rfl rfl 1 (by decide) fl_13 (fun _ h9 => h9) rfl d_Tape_add_8 ?_
        refine lv_aload_n hx hb d_Tape_add_11 rfl (lv_at hl 0 rfl) ?_
        refine va_get (D := (dC, dI)) (ci := 8) (v := .ref a_tp_bytes) (C := "LoopInduction$Tape") (T := F_Tape) (N := 2) hx hb hts iC_Tape hown hK hP 0 rfl rfl 0 (by decide) fl_9 (fun _ h9 => h9) rfl d_Tape_add_12 ?_
        refine va_alen (v := 1200) hx hb hK hP 1 1 rfl rfl rfl d_Tape_add_15 ?_
        refine lv_icmp_ge (tgt := 42) hx hb d_Tape_add_16 (by decide) (fun c_16 => ?_) (fun c_16 => ?_)
        · have h := And.left h c_16
          refine lv_iinc (v := x2_1 + (-8)) (lv' := [(2, .int (x2_1 + (-8))), (0, .ref a_tp), (1, .int x1)]) hx hb d_Tape_add_42 hl (k := 2) rfl rfl (by decide) rfl (fun ls hl => ?_)
          refine lv_goto (tgt := 3) hx hb d_Tape_add_45 (by decide) ?_
          exact il _ _ _ h _ _ hP hD hS _ (lv_sub hl [1, 2, 0] rfl)
        · have h := And.right h c_16
          refine lv_aload_n hx hb d_Tape_add_19 rfl (lv_at hl 0 rfl) ?_
          refine va_get (D := (dC, dI)) (ci := 8) (v := .ref a_tp_bytes) (C := "LoopInduction$Tape") (T := F_Tape) (N := 2) hx hb hts iC_Tape hown hK hP 0 rfl rfl 0 (by decide) fl_9 (fun _ h9 => h9) rfl d_Tape_add_20 ?_
          refine lv_aload_n hx hb d_Tape_add_23 rfl (lv_at hl 0 rfl) ?_
          refine va_get (D := (dC, dI)) (ci := 8) (v := .int tp_size_2) (C := "LoopInduction$Tape") (T := F_Tape) (N := 2) hx hb hts iC_Tape hown hK hP 0 rfl rfl 1 (by decide) fl_13 (fun _ h9 => h9) rfl d_Tape_add_24 ?_
          refine lv_iload_n hx hb d_Tape_add_27 rfl (lv_at hl 1 rfl) ?_
          refine lv_iload_n hx hb d_Tape_add_28 rfl (lv_at hl 2 rfl) ?_
          refine lv_iushr hx hb d_Tape_add_29 rfl ?_
          refine lv_i2b hx hb d_Tape_add_30 rfl ?_
          obtain ⟨hin_31, h⟩ := h
          refine va_bast hx hb hK hP hD hS 1 1 rfl rfl hin_31 d_Tape_add_31 (fun H locs hP hD hS => ?_)
          have hP : va_P (dC, dI) vwCl [(a_tp, .inr (8, [.ref a_tp_bytes, .int tp_size_2])), (a_tp_bytes, .inl (cB, 1200, .inl (upd tp_bytes_3 (tp_size_2 : Int32).toNatClampNeg (vp_nar .byte ((((x1 : Int32).toUInt32 >>> ((x2_1 : Int32).toUInt32 &&& Int32.toUInt32 31)).toInt32 : Int32).toInt8.toInt32)))))] H := hP
          have hD : va_D A [(a_tp, .inr (8, [.ref a_tp_bytes, .int tp_size_2])), (a_tp_bytes, .inl (cB, 1200, .inl (upd tp_bytes_3 (tp_size_2 : Int32).toNatClampNeg (vp_nar .byte ((((x1 : Int32).toUInt32 >>> ((x2_1 : Int32).toUInt32 &&& Int32.toUInt32 31)).toInt32 : Int32).toInt8.toInt32)))))] := hD
          refine lv_aload_n hx hb d_Tape_add_32 rfl (lv_at hl 0 rfl) ?_
          refine lv_dup hx hb d_Tape_add_33 rfl ?_
          refine va_get (D := (dC, dI)) (ci := 8) (v := .int tp_size_2) (C := "LoopInduction$Tape") (T := F_Tape) (N := 2) hx hb hts iC_Tape hown hK hP 0 rfl rfl 1 (by decide) fl_13 (fun _ h9 => h9) rfl d_Tape_add_34 ?_
          refine lv_iconst (v := 1) hx hb d_Tape_add_37 (by decide) ?_
          refine lv_iadd hx hb d_Tape_add_38 ?_
          refine va_put (D := (dC, dI)) (ci := 8) (v := .int (tp_size_2 + 1)) (ty := .int) (C := "LoopInduction$Tape") (T := F_Tape) (N := 2) hx hb hts iC_Tape t_Tape t_Tape_ok n_Tape hown hK hP hD hS 0 rfl rfl 1 (by decide) fl_13 (fun _ h9 => h9) rfl (by decide +kernel) rfl rfl (Nat.le_of_ble_eq_true rfl) d_Tape_add_39 (fun H locs hP hD hS => ?_)
          have hP : va_P (dC, dI) vwCl [(a_tp, .inr (8, [.ref a_tp_bytes, .int (tp_size_2 + 1)])), (a_tp_bytes, .inl (cB, 1200, .inl (upd tp_bytes_3 (tp_size_2 : Int32).toNatClampNeg (vp_nar .byte ((((x1 : Int32).toUInt32 >>> ((x2_1 : Int32).toUInt32 &&& Int32.toUInt32 31)).toInt32 : Int32).toInt8.toInt32)))))] H := hP
          have hD : va_D A [(a_tp, .inr (8, [.ref a_tp_bytes, .int (tp_size_2 + 1)])), (a_tp_bytes, .inl (cB, 1200, .inl (upd tp_bytes_3 (tp_size_2 : Int32).toNatClampNeg (vp_nar .byte ((((x1 : Int32).toUInt32 >>> ((x2_1 : Int32).toUInt32 &&& Int32.toUInt32 31)).toInt32 : Int32).toInt8.toInt32)))))] := hD
          refine lv_iinc (v := x2_1 + (-8)) (lv' := [(2, .int (x2_1 + (-8))), (0, .ref a_tp), (1, .int x1)]) hx hb d_Tape_add_42 hl (k := 2) rfl rfl (by decide) rfl (fun ls hl => ?_)
          refine lv_goto (tgt := 3) hx hb d_Tape_add_45 (by decide) ?_
          exact il _ _ _ h _ _ hP hD hS _ (lv_sub hl [1, 2, 0] rfl)
  obtain ⟨n_, h⟩ := h
  refine L3_q_4 _ ?_ n_ _ _ _ h _ _ hP hD hS _ (lv_sub hl [1, 2, 0] rfl)
  intro tp_size_7 tp_bytes_8 h
  intro H locs hP hD hS ls hl
  rw [← hQ]
  have hP9 := hP
  have hD9 := hD
  exact W.vret hx hb hr (fun t ht hW => ⟨⟨(tp_size_7, tp_bytes_8), rfl, h, by rw [ht]; exact hP9, va_K.moved hW.alike hK, hD9⟩, hS.F ht⟩) hS.2.2 d_Tape_add_48
set_option maxHeartbeats 4000000 in
set_option maxRecDepth 100000 in
theorem c_Tape_cut (l : Launch) (dC : Nat → ClassId) (dI : Nat → Nat → Nat) (cI cB cZ : ClassId) (adK adV : Nat → Nat) (sz : Nat) (a_tp a_tp_bytes : Nat) (tp_size : Int32) (x1 : Int32) (post : Int32 → Int32 → Prop) (h : wp_Tape_cut x1 tp_size post) : Met l y_Tape_cut w_Tape_cut ({ frames := 0, cells := 0, slots := 0, locals := 0 }) (pc_ (dC, dI) [(cI, .int), (cB, .byte), (cZ, .boolean)] [(a_tp, .inr (8, [.ref a_tp_bytes, .int tp_size]))] sz adK adV [.ref a_tp, .int x1]) (va_Qi (fun (r : Int32) (u : Int32) => post r u) (fun (u : Int32) t => bw_ (dC, dI) [(cI, .int), (cB, .byte), (cZ, .boolean)] (va_A [(a_tp, .inr (8, [.ref a_tp_bytes, .int tp_size]))] sz) [(a_tp, .inr (8, [.ref a_tp_bytes, .int u]))] t) (va_A [(a_tp, .inr (8, [.ref a_tp_bytes, .int tp_size]))] sz)) 0 0 (va_A [(a_tp, .inr (8, [.ref a_tp_bytes, .int tp_size]))] sz) := by
  refine Met.ofW (cc := b_Tape_cut) (maxL := 2) (ret := (some .boolean)) (by decide) rfl ?_
  intro p e s m args below meth c s₁ B hml hv
  obtain ⟨rfl, hsz, hP, hK, hD0, hN, hT⟩ := hv
  have hx := B.exec
  have hb := B.bytes
  have hr := B.returns
  have hts := atoms_spec (ws := w_Tape_cut) B.pre
  have hown : s.vm.findClass "LoopInduction$Tape" = some m.cls := findClass_of_methodNamed B.named
  have hlocks := B.notSynchronized
  subst hsz
  have hD := hD0.self (sz := s.heap.size)
  generalize hAe : va_A [(a_tp, .inr (8, [.ref a_tp_bytes, .int tp_size]))] s.heap.size = A at hD hT ⊢
  have hA : ∀ q : Nat, s.heap.size ≤ q → A q := fun q h => by rw [← hAe]; exact Or.inr h
  have hS : va_S A s.heap s.heap [] := va_S.rf
  generalize hQ : MQ below _ _ s 0 0 _ = QQ
  have hl := lv_entry ([.ref a_tp, .int x1]) (n := 2) (Nat.le_of_ble_eq_true rfl)
  rw [lg_entry_eq]
  generalize (lg_sl ([.ref a_tp, .int x1]) ++ List.replicate (2 - (lg_sl ([.ref a_tp, .int x1])).length) Slot.unset).toArray = ls at hl ⊢
  have hl : lv_has ls 2 [(0, .ref a_tp), (1, .int x1)] := hl
  have fl_13 := (hts _ (List.mem_cons_of_mem _ m_120))
  refine lv_iload_n hx hb d_Tape_cut_0 rfl (lv_at hl 1 rfl) ?_
  refine lv_if_lt (tgt := 19) hx hb d_Tape_cut_1 (by decide) (fun c_1 => ?_) (fun c_1 => ?_)
  · have h := And.left h c_1
    refine lv_iconst (v := 0) hx hb d_Tape_cut_19 (by decide) ?_
    rw [← hQ]
    have hP9 := hP
    have hD9 := hD
    exact W.zret (v := 0) hx hb hr rfl (fun t ht hW => ⟨⟨0, (tp_size), rfl, h, by rw [ht]; exact hP9, va_K.moved hW.alike hK, hD9⟩, hS.F ht⟩) hS.2.2 d_Tape_cut_20
  · have h := And.right h c_1
    refine lv_iload_n hx hb d_Tape_cut_4 rfl (lv_at hl 1 rfl) ?_
    refine lv_bipush (v := 20) hx hb d_Tape_cut_5 (by decide) ?_
    refine lv_icmp_gt (tgt := 19) hx hb d_Tape_cut_7 (by decide) (fun c_7 => ?_) (fun c_7 => ?_)
    · have h := And.left h c_7
      refine lv_iconst (v := 0) hx hb d_Tape_cut_19 (by decide) ?_
      rw [← hQ]
      have hP9 := hP
      have hD9 := hD
      exact W.zret (v := 0) hx hb hr rfl (fun t ht hW => ⟨⟨0, (tp_size), rfl, h, by rw [ht]; exact hP9, va_K.moved hW.alike hK, hD9⟩, hS.F ht⟩) hS.2.2 d_Tape_cut_20
    · have h := And.right h c_7
      refine lv_aload_n hx hb d_Tape_cut_10 rfl (lv_at hl 0 rfl) ?_
      refine va_get (D := (dC, dI)) (ci := 8) (v := .int tp_size) (C := "LoopInduction$Tape") (T := F_Tape) (N := 2) hx hb hts iC_Tape hown hK hP 0 rfl rfl 1 (by decide) fl_13 (fun _ h9 => h9) rfl d_Tape_cut_11 ?_
      refine lv_bipush (v := 20) hx hb d_Tape_cut_14 (by decide) ?_
      refine lv_icmp_ge (tgt := 21) hx hb d_Tape_cut_16 (by decide) (fun c_16 => ?_) (fun c_16 => ?_)
      · have h := And.left h c_16
        refine lv_aload_n hx hb d_Tape_cut_21 rfl (lv_at hl 0 rfl) ?_
        refine lv_aload_n hx hb d_Tape_cut_22 rfl (lv_at hl 0 rfl) ?_
        refine va_get (D := (dC, dI)) (ci := 8) (v := .int tp_size) (C := "LoopInduction$Tape") (T := F_Tape) (N := 2) hx hb hts iC_Tape hown hK hP 0 rfl rfl 1 (by decide) fl_13 (fun _ h9 => h9) rfl d_Tape_cut_23 ?_
        refine lv_bipush (v := 20) hx hb d_Tape_cut_26 (by decide) ?_
        refine lv_isub hx hb d_Tape_cut_28 ?_
        refine lv_iload_n hx hb d_Tape_cut_29 rfl (lv_at hl 1 rfl) ?_
        refine lv_iadd hx hb d_Tape_cut_30 ?_
        refine va_put (D := (dC, dI)) (ci := 8) (v := .int ((tp_size - 20) + x1)) (ty := .int) (C := "LoopInduction$Tape") (T := F_Tape) (N := 2) hx hb hts iC_Tape t_Tape t_Tape_ok n_Tape hown hK hP hD hS 0 rfl rfl 1 (by decide) fl_13 (fun _ h9 => h9) rfl (by decide +kernel) rfl rfl (Nat.le_of_ble_eq_true rfl) d_Tape_cut_31 (fun H locs hP hD hS => ?_)
        have hP : va_P (dC, dI) vwCl [(a_tp, .inr (8, [.ref a_tp_bytes, .int ((tp_size - 20) + x1)]))] H := hP
        have hD : va_D A [(a_tp, .inr (8, [.ref a_tp_bytes, .int ((tp_size - 20) + x1)]))] := hD
        refine lv_iconst (v := 1) hx hb d_Tape_cut_34 (by decide) ?_
        rw [← hQ]
        have hP9 := hP
        have hD9 := hD
        exact W.zret (v := 1) hx hb hr rfl (fun t ht hW => ⟨⟨1, ((tp_size - 20) + x1), rfl, h, by rw [ht]; exact hP9, va_K.moved hW.alike hK, hD9⟩, hS.F ht⟩) hS.2.2 d_Tape_cut_35
      · have h := And.right h c_16
        refine lv_iconst (v := 0) hx hb d_Tape_cut_19 (by decide) ?_
        rw [← hQ]
        have hP9 := hP
        have hD9 := hD
        exact W.zret (v := 0) hx hb hr rfl (fun t ht hW => ⟨⟨0, (tp_size), rfl, h, by rw [ht]; exact hP9, va_K.moved hW.alike hK, hD9⟩, hS.F ht⟩) hS.2.2 d_Tape_cut_20
set_option maxHeartbeats 4000000 in
set_option maxRecDepth 100000 in
theorem c_Tape_clear (l : Launch) (dC : Nat → ClassId) (dI : Nat → Nat → Nat) (cI cB cZ : ClassId) (adK adV : Nat → Nat) (sz : Nat) (a_tp a_tp_bytes : Nat) (tp_size : Int32) (post : Int32 → Prop) (h : wp_Tape_clear tp_size post) : Met l y_Tape_clear w_Tape_clear ({ frames := 0, cells := 0, slots := 0, locals := 0 }) (pc_ (dC, dI) [(cI, .int), (cB, .byte), (cZ, .boolean)] [(a_tp, .inr (8, [.ref a_tp_bytes, .int tp_size]))] sz adK adV [.ref a_tp]) (va_Qv (fun (u : Int32) => post u) (fun (u : Int32) t => bw_ (dC, dI) [(cI, .int), (cB, .byte), (cZ, .boolean)] (va_A [(a_tp, .inr (8, [.ref a_tp_bytes, .int tp_size]))] sz) [(a_tp, .inr (8, [.ref a_tp_bytes, .int u]))] t) (va_A [(a_tp, .inr (8, [.ref a_tp_bytes, .int tp_size]))] sz)) 0 0 (va_A [(a_tp, .inr (8, [.ref a_tp_bytes, .int tp_size]))] sz) := by
  refine Met.ofW (cc := b_Tape_clear) (maxL := 1) (ret := none) (by decide) rfl ?_
  intro p e s m args below meth c s₁ B hml hv
  obtain ⟨rfl, hsz, hP, hK, hD0, hN, hT⟩ := hv
  have hx := B.exec
  have hb := B.bytes
  have hr := B.returns
  have hts := atoms_spec (ws := w_Tape_clear) B.pre
  have hown : s.vm.findClass "LoopInduction$Tape" = some m.cls := findClass_of_methodNamed B.named
  have hlocks := B.notSynchronized
  subst hsz
  have hD := hD0.self (sz := s.heap.size)
  generalize hAe : va_A [(a_tp, .inr (8, [.ref a_tp_bytes, .int tp_size]))] s.heap.size = A at hD hT ⊢
  have hA : ∀ q : Nat, s.heap.size ≤ q → A q := fun q h => by rw [← hAe]; exact Or.inr h
  have hS : va_S A s.heap s.heap [] := va_S.rf
  generalize hQ : MQ below _ _ s 0 0 _ = QQ
  have hl := lv_entry ([.ref a_tp]) (n := 1) (Nat.le_of_ble_eq_true rfl)
  rw [lg_entry_eq]
  generalize (lg_sl ([.ref a_tp]) ++ List.replicate (1 - (lg_sl ([.ref a_tp])).length) Slot.unset).toArray = ls at hl ⊢
  have hl : lv_has ls 1 [(0, .ref a_tp)] := hl
  have fl_13 := (hts _ (List.mem_cons_of_mem _ m_120))
  refine lv_aload_n hx hb d_Tape_clear_0 rfl (lv_at hl 0 rfl) ?_
  refine lv_iconst (v := 0) hx hb d_Tape_clear_1 (by decide) ?_
  refine va_put (D := (dC, dI)) (ci := 8) (v := .int 0) (ty := .int) (C := "LoopInduction$Tape") (T := F_Tape) (N := 2) hx hb hts iC_Tape t_Tape t_Tape_ok n_Tape hown hK hP hD hS 0 rfl rfl 1 (by decide) fl_13 (fun _ h9 => h9) rfl (by decide +kernel) rfl rfl (Nat.le_of_ble_eq_true rfl) d_Tape_clear_2 (fun H locs hP hD hS => ?_)
  have hP : va_P (dC, dI) vwCl [(a_tp, .inr (8, [.ref a_tp_bytes, .int 0]))] H := hP
  have hD : va_D A [(a_tp, .inr (8, [.ref a_tp_bytes, .int 0]))] := hD
  rw [← hQ]
  have hP9 := hP
  have hD9 := hD
  exact W.vret hx hb hr (fun t ht hW => ⟨⟨(0), rfl, h, by rw [ht]; exact hP9, va_K.moved hW.alike hK, hD9⟩, hS.F ht⟩) hS.2.2 d_Tape_clear_5
set_option maxHeartbeats 4000000 in
set_option maxRecDepth 100000 in
theorem c_Tape_size (l : Launch) (dC : Nat → ClassId) (dI : Nat → Nat → Nat) (cI cB cZ : ClassId) (adK adV : Nat → Nat) (sz : Nat) (a_tp a_tp_bytes : Nat) (tp_size : Int32) (post : Int32 → Prop) (h : wp_Tape_size tp_size post) : Met l y_Tape_size w_Tape_size ({ frames := 0, cells := 0, slots := 0, locals := 0 }) (pc_ (dC, dI) [(cI, .int), (cB, .byte), (cZ, .boolean)] [(a_tp, .inr (8, [.ref a_tp_bytes, .int tp_size]))] sz adK adV [.ref a_tp]) (va_Qi (fun (r : Int32) (u : Unit) => post r ) (fun (u : Unit) t => bw_ (dC, dI) [(cI, .int), (cB, .byte), (cZ, .boolean)] (va_A [(a_tp, .inr (8, [.ref a_tp_bytes, .int tp_size]))] sz) [(a_tp, .inr (8, [.ref a_tp_bytes, .int tp_size]))] t) (va_A [(a_tp, .inr (8, [.ref a_tp_bytes, .int tp_size]))] sz)) 0 0 (va_A [(a_tp, .inr (8, [.ref a_tp_bytes, .int tp_size]))] sz) := by
  refine Met.ofW (cc := b_Tape_size) (maxL := 1) (ret := (some .int)) (by decide) rfl ?_
  intro p e s m args below meth c s₁ B hml hv
  obtain ⟨rfl, hsz, hP, hK, hD0, hN, hT⟩ := hv
  have hx := B.exec
  have hb := B.bytes
  have hr := B.returns
  have hts := atoms_spec (ws := w_Tape_size) B.pre
  have hown : s.vm.findClass "LoopInduction$Tape" = some m.cls := findClass_of_methodNamed B.named
  have hlocks := B.notSynchronized
  subst hsz
  have hD := hD0.self (sz := s.heap.size)
  generalize hAe : va_A [(a_tp, .inr (8, [.ref a_tp_bytes, .int tp_size]))] s.heap.size = A at hD hT ⊢
  have hA : ∀ q : Nat, s.heap.size ≤ q → A q := fun q h => by rw [← hAe]; exact Or.inr h
  have hS : va_S A s.heap s.heap [] := va_S.rf
  generalize hQ : MQ below _ _ s 0 0 _ = QQ
  have hl := lv_entry ([.ref a_tp]) (n := 1) (Nat.le_of_ble_eq_true rfl)
  rw [lg_entry_eq]
  generalize (lg_sl ([.ref a_tp]) ++ List.replicate (1 - (lg_sl ([.ref a_tp])).length) Slot.unset).toArray = ls at hl ⊢
  have hl : lv_has ls 1 [(0, .ref a_tp)] := hl
  have fl_13 := (hts _ (List.mem_cons_of_mem _ m_120))
  refine lv_aload_n hx hb d_Tape_size_0 rfl (lv_at hl 0 rfl) ?_
  refine va_get (D := (dC, dI)) (ci := 8) (v := .int tp_size) (C := "LoopInduction$Tape") (T := F_Tape) (N := 2) hx hb hts iC_Tape hown hK hP 0 rfl rfl 1 (by decide) fl_13 (fun _ h9 => h9) rfl d_Tape_size_1 ?_
  rw [← hQ]
  have hP9 := hP
  have hD9 := hD
  exact W.iret (v := tp_size) hx hb hr (fun t ht hW => ⟨⟨tp_size, (), rfl, h, by rw [ht]; exact hP9, va_K.moved hW.alike hK, hD9⟩, hS.F ht⟩) hS.2.2 d_Tape_size_4
set_option maxHeartbeats 4000000 in
set_option maxRecDepth 100000 in
theorem c_Tape_byteAt (l : Launch) (dC : Nat → ClassId) (dI : Nat → Nat → Nat) (cI cB cZ : ClassId) (adK adV : Nat → Nat) (sz : Nat) (a_tp a_tp_bytes : Nat) (tp_size : Int32) (tp_bytes : Nat → Int32) (x1 : Int32) (post : Int32 → Prop) (h : wp_Tape_byteAt x1 tp_size tp_bytes post) : Met l y_Tape_byteAt w_Tape_byteAt ({ frames := 0, cells := 0, slots := 0, locals := 0 }) (pc_ (dC, dI) [(cI, .int), (cB, .byte), (cZ, .boolean)] [(a_tp, .inr (8, [.ref a_tp_bytes, .int tp_size])), (a_tp_bytes, .inl (cB, 1200, .inl tp_bytes))] sz adK adV [.ref a_tp, .int x1]) (va_Qi (fun (r : Int32) (u : Unit) => post r ) (fun (u : Unit) t => bw_ (dC, dI) [(cI, .int), (cB, .byte), (cZ, .boolean)] (va_A [(a_tp, .inr (8, [.ref a_tp_bytes, .int tp_size])), (a_tp_bytes, .inl (cB, 1200, .inl tp_bytes))] sz) [(a_tp, .inr (8, [.ref a_tp_bytes, .int tp_size])), (a_tp_bytes, .inl (cB, 1200, .inl tp_bytes))] t) (va_A [(a_tp, .inr (8, [.ref a_tp_bytes, .int tp_size])), (a_tp_bytes, .inl (cB, 1200, .inl tp_bytes))] sz)) 0 0 (va_A [(a_tp, .inr (8, [.ref a_tp_bytes, .int tp_size])), (a_tp_bytes, .inl (cB, 1200, .inl tp_bytes))] sz) := by
  refine Met.ofW (cc := b_Tape_byteAt) (maxL := 2) (ret := (some .int)) (by decide) rfl ?_
  intro p e s m args below meth c s₁ B hml hv
  obtain ⟨rfl, hsz, hP, hK, hD0, hN, hT⟩ := hv
  have hx := B.exec
  have hb := B.bytes
  have hr := B.returns
  have hts := atoms_spec (ws := w_Tape_byteAt) B.pre
  have hown : s.vm.findClass "LoopInduction$Tape" = some m.cls := findClass_of_methodNamed B.named
  have hlocks := B.notSynchronized
  subst hsz
  have hD := hD0.self (sz := s.heap.size)
  generalize hAe : va_A [(a_tp, .inr (8, [.ref a_tp_bytes, .int tp_size])), (a_tp_bytes, .inl (cB, 1200, .inl tp_bytes))] s.heap.size = A at hD hT ⊢
  have hA : ∀ q : Nat, s.heap.size ≤ q → A q := fun q h => by rw [← hAe]; exact Or.inr h
  have hS : va_S A s.heap s.heap [] := va_S.rf
  generalize hQ : MQ below _ _ s 0 0 _ = QQ
  have hl := lv_entry ([.ref a_tp, .int x1]) (n := 2) (Nat.le_of_ble_eq_true rfl)
  rw [lg_entry_eq]
  generalize (lg_sl ([.ref a_tp, .int x1]) ++ List.replicate (2 - (lg_sl ([.ref a_tp, .int x1])).length) Slot.unset).toArray = ls at hl ⊢
  have hl : lv_has ls 2 [(0, .ref a_tp), (1, .int x1)] := hl
  have fl_9 := (hts _ (List.mem_cons_of_mem _ m_119))
  have fl_13 := (hts _ (List.mem_cons_of_mem _ m_120))
  refine lv_iload_n hx hb d_Tape_byteAt_0 rfl (lv_at hl 1 rfl) ?_
  refine lv_if_lt (tgt := 34) hx hb d_Tape_byteAt_1 (by decide) (fun c_1 => ?_) (fun c_1 => ?_)
  · have h := And.left h c_1
    refine lv_iconst (v := (-1)) hx hb d_Tape_byteAt_34 (by decide) ?_
    rw [← hQ]
    have hP9 := hP
    have hD9 := hD
    exact W.iret (v := (-1)) hx hb hr (fun t ht hW => ⟨⟨(-1), (), rfl, h, by rw [ht]; exact hP9, va_K.moved hW.alike hK, hD9⟩, hS.F ht⟩) hS.2.2 d_Tape_byteAt_35
  · have h := And.right h c_1
    refine lv_iload_n hx hb d_Tape_byteAt_4 rfl (lv_at hl 1 rfl) ?_
    refine lv_aload_n hx hb d_Tape_byteAt_5 rfl (lv_at hl 0 rfl) ?_
    refine va_get (D := (dC, dI)) (ci := 8) (v := .int tp_size) (C := "LoopInduction$Tape") (T := F_Tape) (N := 2) hx hb hts iC_Tape hown hK hP 0 rfl rfl 1 (by decide) fl_13 (fun _ h9 => h9) rfl d_Tape_byteAt_6 ?_
    refine lv_icmp_ge (tgt := 34) hx hb d_Tape_byteAt_9 (by decide) (fun c_9 => ?_) (fun c_9 => ?_)
    · have h := And.left h c_9
      refine lv_iconst (v := (-1)) hx hb d_Tape_byteAt_34 (by decide) ?_
      rw [← hQ]
      have hP9 := hP
      have hD9 := hD
      exact W.iret (v := (-1)) hx hb hr (fun t ht hW => ⟨⟨(-1), (), rfl, h, by rw [ht]; exact hP9, va_K.moved hW.alike hK, hD9⟩, hS.F ht⟩) hS.2.2 d_Tape_byteAt_35
    · have h := And.right h c_9
      refine lv_iload_n hx hb d_Tape_byteAt_12 rfl (lv_at hl 1 rfl) ?_
      refine lv_aload_n hx hb d_Tape_byteAt_13 rfl (lv_at hl 0 rfl) ?_
      refine va_get (D := (dC, dI)) (ci := 8) (v := .ref a_tp_bytes) (C := "LoopInduction$Tape") (T := F_Tape) (N := 2) hx hb hts iC_Tape hown hK hP 0 rfl rfl 0 (by decide) fl_9 (fun _ h9 => h9) rfl d_Tape_byteAt_14 ?_
      refine va_alen (v := 1200) hx hb hK hP 1 1 rfl rfl rfl d_Tape_byteAt_17 ?_
      refine lv_icmp_ge (tgt := 34) hx hb d_Tape_byteAt_18 (by decide) (fun c_18 => ?_) (fun c_18 => ?_)
      · have h := And.left h c_18
        refine lv_iconst (v := (-1)) hx hb d_Tape_byteAt_34 (by decide) ?_
        rw [← hQ]
        have hP9 := hP
        have hD9 := hD
        exact W.iret (v := (-1)) hx hb hr (fun t ht hW => ⟨⟨(-1), (), rfl, h, by rw [ht]; exact hP9, va_K.moved hW.alike hK, hD9⟩, hS.F ht⟩) hS.2.2 d_Tape_byteAt_35
      · have h := And.right h c_18
        refine lv_aload_n hx hb d_Tape_byteAt_21 rfl (lv_at hl 0 rfl) ?_
        refine va_get (D := (dC, dI)) (ci := 8) (v := .ref a_tp_bytes) (C := "LoopInduction$Tape") (T := F_Tape) (N := 2) hx hb hts iC_Tape hown hK hP 0 rfl rfl 0 (by decide) fl_9 (fun _ h9 => h9) rfl d_Tape_byteAt_22 ?_
        refine lv_iload_n hx hb d_Tape_byteAt_25 rfl (lv_at hl 1 rfl) ?_
        obtain ⟨hin_26, h⟩ := h
        refine va_bald hx hb hK hP 1 1 rfl rfl hin_26 d_Tape_byteAt_26 ?_
        refine lv_sipush (v := 255) hx hb d_Tape_byteAt_27 (by decide) ?_
        refine lv_iand hx hb d_Tape_byteAt_30 ?_
        refine lv_goto (tgt := 35) hx hb d_Tape_byteAt_31 (by decide) ?_
        rw [← hQ]
        have hP9 := hP
        have hD9 := hD
        exact W.iret (v := (tp_bytes (x1 : Int32).toNatClampNeg) &&& 255) hx hb hr (fun t ht hW => ⟨⟨((tp_bytes (x1 : Int32).toNatClampNeg) &&& 255), (), rfl, h, by rw [ht]; exact hP9, va_K.moved hW.alike hK, hD9⟩, hS.F ht⟩) hS.2.2 d_Tape_byteAt_35
