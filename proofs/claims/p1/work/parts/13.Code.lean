abbrev b_Code_clear : ByteArray := prog_2_method_2_code
abbrev y_Code_clear : MethodName := ⟨"LoopInduction$Code", "clear", "()V"⟩
abbrev w_Code_clear : List Cond := .code y_Code_clear b_Code_clear 1 none :: allW
theorem pn_Code_clear : y_Code_clear.cls ≠ "java/lang/invoke/MethodHandle" ∧ y_Code_clear.cls ≠ "java/lang/invoke/VarHandle" ∧ (parseMethodDescriptor y_Code_clear.desc).map (fun d => d.parameters.length) = some 0 := by decide +kernel
theorem pd_Code_clear : y_Code_clear.cls = "LoopInduction$Code" ∧ y_Code_clear.cls ≠ "java/lang/invoke/MethodHandle" ∧ y_Code_clear.cls ≠ "java/lang/invoke/VarHandle" ∧ (parseMethodDescriptor y_Code_clear.desc).map (fun d => d.parameters.length) = some 0 := by decide +kernel
abbrev b_Code_open : ByteArray := prog_2_method_3_code
abbrev y_Code_open : MethodName := ⟨"LoopInduction$Code", "open", "(I)V"⟩
abbrev w_Code_open : List Cond := .code y_Code_open b_Code_open 2 none :: allW
theorem pn_Code_open : y_Code_open.cls ≠ "java/lang/invoke/MethodHandle" ∧ y_Code_open.cls ≠ "java/lang/invoke/VarHandle" ∧ (parseMethodDescriptor y_Code_open.desc).map (fun d => d.parameters.length) = some 1 := by decide +kernel
theorem pd_Code_open : y_Code_open.cls = "LoopInduction$Code" ∧ y_Code_open.cls ≠ "java/lang/invoke/MethodHandle" ∧ y_Code_open.cls ≠ "java/lang/invoke/VarHandle" ∧ (parseMethodDescriptor y_Code_open.desc).map (fun d => d.parameters.length) = some 1 := by decide +kernel
abbrev b_Code_close : ByteArray := prog_2_method_4_code
abbrev y_Code_close : MethodName := ⟨"LoopInduction$Code", "close", "()V"⟩
abbrev w_Code_close : List Cond := .code y_Code_close b_Code_close 1 none :: allW
theorem pn_Code_close : y_Code_close.cls ≠ "java/lang/invoke/MethodHandle" ∧ y_Code_close.cls ≠ "java/lang/invoke/VarHandle" ∧ (parseMethodDescriptor y_Code_close.desc).map (fun d => d.parameters.length) = some 0 := by decide +kernel
theorem pd_Code_close : y_Code_close.cls = "LoopInduction$Code" ∧ y_Code_close.cls ≠ "java/lang/invoke/MethodHandle" ∧ y_Code_close.cls ≠ "java/lang/invoke/VarHandle" ∧ (parseMethodDescriptor y_Code_close.desc).map (fun d => d.parameters.length) = some 0 := by decide +kernel
abbrev b_Code_add : ByteArray := prog_2_method_7_code
abbrev y_Code_add : MethodName := ⟨"LoopInduction$Code", "add", "(I)V"⟩
abbrev w_Code_add : List Cond := .code y_Code_add b_Code_add 2 none :: allW
theorem pn_Code_add : y_Code_add.cls ≠ "java/lang/invoke/MethodHandle" ∧ y_Code_add.cls ≠ "java/lang/invoke/VarHandle" ∧ (parseMethodDescriptor y_Code_add.desc).map (fun d => d.parameters.length) = some 1 := by decide +kernel
theorem pd_Code_add : y_Code_add.cls = "LoopInduction$Code" ∧ y_Code_add.cls ≠ "java/lang/invoke/MethodHandle" ∧ y_Code_add.cls ≠ "java/lang/invoke/VarHandle" ∧ (parseMethodDescriptor y_Code_add.desc).map (fun d => d.parameters.length) = some 1 := by decide +kernel
abbrev b_Code_addVariable : ByteArray := prog_2_method_6_code
abbrev y_Code_addVariable : MethodName := ⟨"LoopInduction$Code", "addVariable", "(I)V"⟩
abbrev w_Code_addVariable : List Cond := .code y_Code_addVariable b_Code_addVariable 2 none :: allW
theorem pn_Code_addVariable : y_Code_addVariable.cls ≠ "java/lang/invoke/MethodHandle" ∧ y_Code_addVariable.cls ≠ "java/lang/invoke/VarHandle" ∧ (parseMethodDescriptor y_Code_addVariable.desc).map (fun d => d.parameters.length) = some 1 := by decide +kernel
theorem pd_Code_addVariable : y_Code_addVariable.cls = "LoopInduction$Code" ∧ y_Code_addVariable.cls ≠ "java/lang/invoke/MethodHandle" ∧ y_Code_addVariable.cls ≠ "java/lang/invoke/VarHandle" ∧ (parseMethodDescriptor y_Code_addVariable.desc).map (fun d => d.parameters.length) = some 1 := by decide +kernel
abbrev b_Code_tabulate : ByteArray := prog_2_method_8_code
abbrev y_Code_tabulate : MethodName := ⟨"LoopInduction$Code", "tabulate", "(I[I)V"⟩
abbrev w_Code_tabulate : List Cond := .code y_Code_tabulate b_Code_tabulate 6 none :: allW
theorem pn_Code_tabulate : y_Code_tabulate.cls ≠ "java/lang/invoke/MethodHandle" ∧ y_Code_tabulate.cls ≠ "java/lang/invoke/VarHandle" ∧ (parseMethodDescriptor y_Code_tabulate.desc).map (fun d => d.parameters.length) = some 2 := by decide +kernel
theorem pd_Code_tabulate : y_Code_tabulate.cls = "LoopInduction$Code" ∧ y_Code_tabulate.cls ≠ "java/lang/invoke/MethodHandle" ∧ y_Code_tabulate.cls ≠ "java/lang/invoke/VarHandle" ∧ (parseMethodDescriptor y_Code_tabulate.desc).map (fun d => d.parameters.length) = some 2 := by decide +kernel
theorem d_Code_clear_0 : decode b_Code_clear 0 = .ok (.aload_n 0, 1) := by decide +kernel
theorem d_Code_clear_1 : decode b_Code_clear 1 = .ok (.iconst 0, 1) := by decide +kernel
theorem d_Code_clear_2 : decode b_Code_clear 2 = .ok (.putfield 29, 3) := by decide +kernel
theorem d_Code_clear_5 : decode b_Code_clear 5 = .ok (.aload_n 0, 1) := by decide +kernel
theorem d_Code_clear_6 : decode b_Code_clear 6 = .ok (.iconst 0, 1) := by decide +kernel
theorem d_Code_clear_7 : decode b_Code_clear 7 = .ok (.putfield 33, 3) := by decide +kernel
theorem d_Code_clear_10 : decode b_Code_clear 10 = .ok (.aload_n 0, 1) := by decide +kernel
theorem d_Code_clear_11 : decode b_Code_clear 11 = .ok (.getfield 17, 3) := by decide +kernel
theorem d_Code_clear_14 : decode b_Code_clear 14 = .ok (.iconst (-1), 1) := by decide +kernel
theorem d_Code_clear_15 : decode b_Code_clear 15 = .ok (.invokestatic 39, 3) := by decide +kernel
theorem d_Code_clear_18 : decode b_Code_clear 18 = .ok (.aload_n 0, 1) := by decide +kernel
theorem d_Code_clear_19 : decode b_Code_clear 19 = .ok (.getfield 20, 3) := by decide +kernel
theorem d_Code_clear_22 : decode b_Code_clear 22 = .ok (.iconst (-1), 1) := by decide +kernel
theorem d_Code_clear_23 : decode b_Code_clear 23 = .ok (.invokestatic 39, 3) := by decide +kernel
theorem d_Code_clear_26 : decode b_Code_clear 26 = .ok (.aload_n 0, 1) := by decide +kernel
theorem d_Code_clear_27 : decode b_Code_clear 27 = .ok (.getfield 23, 3) := by decide +kernel
theorem d_Code_clear_30 : decode b_Code_clear 30 = .ok (.iconst 0, 1) := by decide +kernel
theorem d_Code_clear_31 : decode b_Code_clear 31 = .ok (.invokestatic 39, 3) := by decide +kernel
theorem d_Code_clear_34 : decode b_Code_clear 34 = .ok (.return_, 1) := by decide +kernel
theorem d_Code_open_0 : decode b_Code_open 0 = .ok (.iload_n 1, 1) := by decide +kernel
theorem d_Code_open_1 : decode b_Code_open 1 = .ok (.ifCond .lt 27, 3) := by decide +kernel
theorem d_Code_open_4 : decode b_Code_open 4 = .ok (.iload_n 1, 1) := by decide +kernel
theorem d_Code_open_5 : decode b_Code_open 5 = .ok (.bipush 39, 2) := by decide +kernel
theorem d_Code_open_7 : decode b_Code_open 7 = .ok (.if_icmp .ge 21, 3) := by decide +kernel
theorem d_Code_open_10 : decode b_Code_open 10 = .ok (.aload_n 0, 1) := by decide +kernel
theorem d_Code_open_11 : decode b_Code_open 11 = .ok (.iload_n 1, 1) := by decide +kernel
theorem d_Code_open_12 : decode b_Code_open 12 = .ok (.putfield 33, 3) := by decide +kernel
theorem d_Code_open_15 : decode b_Code_open 15 = .ok (.aload_n 0, 1) := by decide +kernel
theorem d_Code_open_16 : decode b_Code_open 16 = .ok (.getfield 17, 3) := by decide +kernel
theorem d_Code_open_19 : decode b_Code_open 19 = .ok (.aload_n 0, 1) := by decide +kernel
theorem d_Code_open_20 : decode b_Code_open 20 = .ok (.getfield 33, 3) := by decide +kernel
theorem d_Code_open_23 : decode b_Code_open 23 = .ok (.aload_n 0, 1) := by decide +kernel
theorem d_Code_open_24 : decode b_Code_open 24 = .ok (.getfield 29, 3) := by decide +kernel
theorem d_Code_open_27 : decode b_Code_open 27 = .ok (.iastore, 1) := by decide +kernel
theorem d_Code_open_28 : decode b_Code_open 28 = .ok (.return_, 1) := by decide +kernel
theorem d_Code_close_0 : decode b_Code_close 0 = .ok (.aload_n 0, 1) := by decide +kernel
theorem d_Code_close_1 : decode b_Code_close 1 = .ok (.getfield 20, 3) := by decide +kernel
theorem d_Code_close_4 : decode b_Code_close 4 = .ok (.aload_n 0, 1) := by decide +kernel
theorem d_Code_close_5 : decode b_Code_close 5 = .ok (.getfield 33, 3) := by decide +kernel
theorem d_Code_close_8 : decode b_Code_close 8 = .ok (.aload_n 0, 1) := by decide +kernel
theorem d_Code_close_9 : decode b_Code_close 9 = .ok (.getfield 29, 3) := by decide +kernel
theorem d_Code_close_12 : decode b_Code_close 12 = .ok (.iastore, 1) := by decide +kernel
theorem d_Code_close_13 : decode b_Code_close 13 = .ok (.return_, 1) := by decide +kernel
theorem d_Code_add_0 : decode b_Code_add 0 = .ok (.aload_n 0, 1) := by decide +kernel
theorem d_Code_add_1 : decode b_Code_add 1 = .ok (.getfield 29, 3) := by decide +kernel
theorem d_Code_add_4 : decode b_Code_add 4 = .ok (.aload_n 0, 1) := by decide +kernel
theorem d_Code_add_5 : decode b_Code_add 5 = .ok (.getfield 13, 3) := by decide +kernel
theorem d_Code_add_8 : decode b_Code_add 8 = .ok (.arraylength, 1) := by decide +kernel
theorem d_Code_add_9 : decode b_Code_add 9 = .ok (.if_icmp .ge 23, 3) := by decide +kernel
theorem d_Code_add_12 : decode b_Code_add 12 = .ok (.aload_n 0, 1) := by decide +kernel
theorem d_Code_add_13 : decode b_Code_add 13 = .ok (.getfield 13, 3) := by decide +kernel
theorem d_Code_add_16 : decode b_Code_add 16 = .ok (.aload_n 0, 1) := by decide +kernel
theorem d_Code_add_17 : decode b_Code_add 17 = .ok (.getfield 29, 3) := by decide +kernel
theorem d_Code_add_20 : decode b_Code_add 20 = .ok (.iload_n 1, 1) := by decide +kernel
theorem d_Code_add_21 : decode b_Code_add 21 = .ok (.iastore, 1) := by decide +kernel
theorem d_Code_add_22 : decode b_Code_add 22 = .ok (.aload_n 0, 1) := by decide +kernel
theorem d_Code_add_23 : decode b_Code_add 23 = .ok (.dup, 1) := by decide +kernel
theorem d_Code_add_24 : decode b_Code_add 24 = .ok (.getfield 29, 3) := by decide +kernel
theorem d_Code_add_27 : decode b_Code_add 27 = .ok (.iconst 1, 1) := by decide +kernel
theorem d_Code_add_28 : decode b_Code_add 28 = .ok (.iadd, 1) := by decide +kernel
theorem d_Code_add_29 : decode b_Code_add 29 = .ok (.putfield 29, 3) := by decide +kernel
theorem d_Code_add_32 : decode b_Code_add 32 = .ok (.return_, 1) := by decide +kernel
theorem d_Code_addVariable_0 : decode b_Code_addVariable 0 = .ok (.aload_n 0, 1) := by decide +kernel
theorem d_Code_addVariable_1 : decode b_Code_addVariable 1 = .ok (.getfield 23, 3) := by decide +kernel
theorem d_Code_addVariable_4 : decode b_Code_addVariable 4 = .ok (.aload_n 0, 1) := by decide +kernel
theorem d_Code_addVariable_5 : decode b_Code_addVariable 5 = .ok (.getfield 33, 3) := by decide +kernel
theorem d_Code_addVariable_8 : decode b_Code_addVariable 8 = .ok (.dup2, 1) := by decide +kernel
theorem d_Code_addVariable_9 : decode b_Code_addVariable 9 = .ok (.iaload, 1) := by decide +kernel
theorem d_Code_addVariable_10 : decode b_Code_addVariable 10 = .ok (.bipush 15, 2) := by decide +kernel
theorem d_Code_addVariable_12 : decode b_Code_addVariable 12 = .ok (.iconst 4, 1) := by decide +kernel
theorem d_Code_addVariable_13 : decode b_Code_addVariable 13 = .ok (.iload_n 1, 1) := by decide +kernel
theorem d_Code_addVariable_14 : decode b_Code_addVariable 14 = .ok (.imul, 1) := by decide +kernel
theorem d_Code_addVariable_15 : decode b_Code_addVariable 15 = .ok (.ishl, 1) := by decide +kernel
theorem d_Code_addVariable_16 : decode b_Code_addVariable 16 = .ok (.ior, 1) := by decide +kernel
theorem d_Code_addVariable_17 : decode b_Code_addVariable 17 = .ok (.iastore, 1) := by decide +kernel
theorem d_Code_addVariable_18 : decode b_Code_addVariable 18 = .ok (.aload_n 0, 1) := by decide +kernel
theorem d_Code_addVariable_19 : decode b_Code_addVariable 19 = .ok (.bipush 16, 2) := by decide +kernel
theorem d_Code_addVariable_21 : decode b_Code_addVariable 21 = .ok (.iload_n 1, 1) := by decide +kernel
theorem d_Code_addVariable_22 : decode b_Code_addVariable 22 = .ok (.iadd, 1) := by decide +kernel
theorem d_Code_addVariable_23 : decode b_Code_addVariable 23 = .ok (.invokevirtual 45, 3) := by decide +kernel
theorem d_Code_addVariable_26 : decode b_Code_addVariable 26 = .ok (.return_, 1) := by decide +kernel
def wp_Code_clear (cd_size : Int32) (cd_section : Int32) (cd_starts : Nat → Int32) (cd_stops : Nat → Int32) (cd_used : Nat → Int32) (post : Int32 → Int32 → (Nat → Int32) → (Nat → Int32) → (Nat → Int32) → Prop) : Prop :=
  post 0 0 (vp_fill cd_starts 39 (-1)) (vp_fill cd_stops 39 (-1)) (vp_fill cd_used 39 0)
set_option maxHeartbeats 4000000 in
set_option maxRecDepth 100000 in
theorem c_Code_clear (l : Launch) (dC : Nat → ClassId) (dI : Nat → Nat → Nat) (cI cB cZ : ClassId) (adK adV : Nat → Nat) (sz : Nat) (a_cd a_cd_steps a_cd_starts a_cd_stops a_cd_used a_cd_stack : Nat) (cd_size : Int32) (cd_section : Int32) (cd_height : Int32) (cd_starts : Nat → Int32) (cd_stops : Nat → Int32) (cd_used : Nat → Int32) (post : Int32 → Int32 → (Nat → Int32) → (Nat → Int32) → (Nat → Int32) → Prop) (h : wp_Code_clear cd_size cd_section cd_starts cd_stops cd_used post) : Met l y_Code_clear w_Code_clear ({ frames := 1, cells := 0, slots := 0, locals := 23 }) (pc_ (dC, dI) [(cI, .int), (cB, .byte), (cZ, .boolean)] [(a_cd, .inr (1, [.ref a_cd_steps, .ref a_cd_starts, .ref a_cd_stops, .ref a_cd_used, .ref a_cd_stack, .int cd_size, .int cd_section, .int cd_height])), (a_cd_starts, .inl (cI, 39, .inl cd_starts)), (a_cd_stops, .inl (cI, 39, .inl cd_stops)), (a_cd_used, .inl (cI, 39, .inl cd_used))] sz adK adV [.ref a_cd]) (va_Qv (fun (u : Int32 × Int32 × (Nat → Int32) × (Nat → Int32) × (Nat → Int32)) => post u.1 u.2.1 u.2.2.1 u.2.2.2.1 u.2.2.2.2) (fun (u : Int32 × Int32 × (Nat → Int32) × (Nat → Int32) × (Nat → Int32)) t => bw_ (dC, dI) [(cI, .int), (cB, .byte), (cZ, .boolean)] (va_A [(a_cd, .inr (1, [.ref a_cd_steps, .ref a_cd_starts, .ref a_cd_stops, .ref a_cd_used, .ref a_cd_stack, .int cd_size, .int cd_section, .int cd_height])), (a_cd_starts, .inl (cI, 39, .inl cd_starts)), (a_cd_stops, .inl (cI, 39, .inl cd_stops)), (a_cd_used, .inl (cI, 39, .inl cd_used))] sz) [(a_cd, .inr (1, [.ref a_cd_steps, .ref a_cd_starts, .ref a_cd_stops, .ref a_cd_used, .ref a_cd_stack, .int u.1, .int u.2.1, .int cd_height])), (a_cd_starts, .inl (cI, 39, .inl u.2.2.1)), (a_cd_stops, .inl (cI, 39, .inl u.2.2.2.1)), (a_cd_used, .inl (cI, 39, .inl u.2.2.2.2))] t) (va_A [(a_cd, .inr (1, [.ref a_cd_steps, .ref a_cd_starts, .ref a_cd_stops, .ref a_cd_used, .ref a_cd_stack, .int cd_size, .int cd_section, .int cd_height])), (a_cd_starts, .inl (cI, 39, .inl cd_starts)), (a_cd_stops, .inl (cI, 39, .inl cd_stops)), (a_cd_used, .inl (cI, 39, .inl cd_used))] sz)) 0 0 (va_A [(a_cd, .inr (1, [.ref a_cd_steps, .ref a_cd_starts, .ref a_cd_stops, .ref a_cd_used, .ref a_cd_stack, .int cd_size, .int cd_section, .int cd_height])), (a_cd_starts, .inl (cI, 39, .inl cd_starts)), (a_cd_stops, .inl (cI, 39, .inl cd_stops)), (a_cd_used, .inl (cI, 39, .inl cd_used))] sz) := by
  refine Met.ofW (cc := b_Code_clear) (maxL := 1) (ret := none) (by decide) rfl ?_
  intro p e s m args below meth c s₁ B hml hv
  obtain ⟨rfl, hsz, hP, hK, hD0, hN, hT⟩ := hv
  have hx := B.exec
  have hb := B.bytes
  have hr := B.returns
  have hts := atoms_spec (ws := w_Code_clear) B.pre
  have hown : s.vm.findClass "LoopInduction$Code" = some m.cls := findClass_of_methodNamed B.named
  have hlocks := B.notSynchronized
  subst hsz
  have hD := hD0.self (sz := s.heap.size)
  generalize hAe : va_A [(a_cd, .inr (1, [.ref a_cd_steps, .ref a_cd_starts, .ref a_cd_stops, .ref a_cd_used, .ref a_cd_stack, .int cd_size, .int cd_section, .int cd_height])), (a_cd_starts, .inl (cI, 39, .inl cd_starts)), (a_cd_stops, .inl (cI, 39, .inl cd_stops)), (a_cd_used, .inl (cI, 39, .inl cd_used))] s.heap.size = A at hD hT ⊢
  have hA : ∀ q : Nat, s.heap.size ≤ q → A q := fun q h => by rw [← hAe]; exact Or.inr h
  have hS : va_S A s.heap s.heap [] := va_S.rf
  generalize hQ : MQ below _ _ s 0 0 _ = QQ
  have hl := lv_entry ([.ref a_cd]) (n := 1) (Nat.le_of_ble_eq_true rfl)
  rw [lg_entry_eq]
  generalize (lg_sl ([.ref a_cd]) ++ List.replicate (1 - (lg_sl ([.ref a_cd])).length) Slot.unset).toArray = ls at hl ⊢
  have hl : lv_has ls 1 [(0, .ref a_cd)] := hl
  have fl_17 := (hts _ (List.mem_cons_of_mem _ m_163))
  have fl_20 := (hts _ (List.mem_cons_of_mem _ m_164))
  have fl_23 := (hts _ (List.mem_cons_of_mem _ m_165))
  have fl_29 := (hts _ (List.mem_cons_of_mem _ m_167))
  have fl_33 := (hts _ (List.mem_cons_of_mem _ m_168))
  refine lv_aload_n hx hb d_Code_clear_0 rfl (lv_at hl 0 rfl) ?_
  refine lv_iconst (v := 0) hx hb d_Code_clear_1 (by decide) ?_
  refine va_put (D := (dC, dI)) (ci := 1) (v := .int 0) (ty := .int) (C := "LoopInduction$Code") (T := F_Code) (N := 8) hx hb hts iC_Code t_Code t_Code_ok n_Code hown hK hP hD hS 0 rfl rfl 5 (by decide) fl_29 (fun _ h9 => h9) rfl (by decide +kernel) rfl rfl (Nat.le_of_ble_eq_true rfl) d_Code_clear_2 (fun H locs hP hD hS => ?_)
  have hP : va_P (dC, dI) vwCl [(a_cd, .inr (1, [.ref a_cd_steps, .ref a_cd_starts, .ref a_cd_stops, .ref a_cd_used, .ref a_cd_stack, .int 0, .int cd_section, .int cd_height])), (a_cd_starts, .inl (cI, 39, .inl cd_starts)), (a_cd_stops, .inl (cI, 39, .inl cd_stops)), (a_cd_used, .inl (cI, 39, .inl cd_used))] H := hP
  have hD : va_D A [(a_cd, .inr (1, [.ref a_cd_steps, .ref a_cd_starts, .ref a_cd_stops, .ref a_cd_used, .ref a_cd_stack, .int 0, .int cd_section, .int cd_height])), (a_cd_starts, .inl (cI, 39, .inl cd_starts)), (a_cd_stops, .inl (cI, 39, .inl cd_stops)), (a_cd_used, .inl (cI, 39, .inl cd_used))] := hD
  refine lv_aload_n hx hb d_Code_clear_5 rfl (lv_at hl 0 rfl) ?_
  refine lv_iconst (v := 0) hx hb d_Code_clear_6 (by decide) ?_
  refine va_put (D := (dC, dI)) (ci := 1) (v := .int 0) (ty := .int) (C := "LoopInduction$Code") (T := F_Code) (N := 8) hx hb hts iC_Code t_Code t_Code_ok n_Code hown hK hP hD hS 0 rfl rfl 6 (by decide) fl_33 (fun _ h9 => h9) rfl (by decide +kernel) rfl rfl (Nat.le_of_ble_eq_true rfl) d_Code_clear_7 (fun H locs hP hD hS => ?_)
  have hP : va_P (dC, dI) vwCl [(a_cd, .inr (1, [.ref a_cd_steps, .ref a_cd_starts, .ref a_cd_stops, .ref a_cd_used, .ref a_cd_stack, .int 0, .int 0, .int cd_height])), (a_cd_starts, .inl (cI, 39, .inl cd_starts)), (a_cd_stops, .inl (cI, 39, .inl cd_stops)), (a_cd_used, .inl (cI, 39, .inl cd_used))] H := hP
  have hD : va_D A [(a_cd, .inr (1, [.ref a_cd_steps, .ref a_cd_starts, .ref a_cd_stops, .ref a_cd_used, .ref a_cd_stack, .int 0, .int 0, .int cd_height])), (a_cd_starts, .inl (cI, 39, .inl cd_starts)), (a_cd_stops, .inl (cI, 39, .inl cd_stops)), (a_cd_used, .inl (cI, 39, .inl cd_used))] := hD
  refine lv_aload_n hx hb d_Code_clear_10 rfl (lv_at hl 0 rfl) ?_
  refine va_get (D := (dC, dI)) (ci := 1) (v := .ref a_cd_starts) (C := "LoopInduction$Code") (T := F_Code) (N := 8) hx hb hts iC_Code hown hK hP 0 rfl rfl 1 (by decide) fl_17 (fun _ h9 => h9) rfl d_Code_clear_11 ?_
  refine lv_iconst (v := (-1)) hx hb d_Code_clear_14 (by decide) ?_
  refine jn_v (wr := [(a_cd, .inr (1, [.ref a_cd_steps, .ref a_cd_starts, .ref a_cd_stops, .ref a_cd_used, .ref a_cd_stack, .int 0, .int 0, .int cd_height])), (a_cd_stops, .inl (cI, 39, .inl cd_stops)), (a_cd_used, .inl (cI, 39, .inl cd_used))]) (va_runS (As := [.ref a_cd_starts, .int (-1)]) (rest := []) ⟨hx, hb, hml, hown, hts⟩ (c_fill l dC dI cI cB cZ adK adV _ a_cd_starts 39 cd_starts (-1) (by decide)) ⟨callB_of 2 hts (ga_ m_612) rfl rfl rfl (hts _ (List.mem_cons_of_mem _ m_103)) (hts _ (List.mem_cons_of_mem _ m_610)) pn_fill ⟨Nat.le_of_ble_eq_true rfl, Nat.le_of_ble_eq_true rfl⟩, (hts _ (List.mem_cons_of_mem _ m_611))⟩ ⟨pc_blind, pc_of (hP.sub [1] rfl) hK (hD.sub [1] (by decide) rfl) hN hT hS hA⟩ rfl rfl hl.1 rfl (lv_room (Nat.le_of_ble_eq_true rfl)) d_Code_clear_15 ⟨Nat.zero_le _, Nat.zero_le _⟩) hP hD hS hA [1] [0, 2, 3] rfl rfl (by decide) (by decide) (fun u_1 H locs eu_1 hP hD hS => ?_)
  subst eu_1
  have hP : va_P (dC, dI) vwCl [(a_cd, .inr (1, [.ref a_cd_steps, .ref a_cd_starts, .ref a_cd_stops, .ref a_cd_used, .ref a_cd_stack, .int 0, .int 0, .int cd_height])), (a_cd_stops, .inl (cI, 39, .inl cd_stops)), (a_cd_used, .inl (cI, 39, .inl cd_used)), (a_cd_starts, .inl (cI, 39, .inl (vp_fill cd_starts 39 (-1))))] H := hP
  have hD : va_D A [(a_cd, .inr (1, [.ref a_cd_steps, .ref a_cd_starts, .ref a_cd_stops, .ref a_cd_used, .ref a_cd_stack, .int 0, .int 0, .int cd_height])), (a_cd_stops, .inl (cI, 39, .inl cd_stops)), (a_cd_used, .inl (cI, 39, .inl cd_used)), (a_cd_starts, .inl (cI, 39, .inl (vp_fill cd_starts 39 (-1))))] := hD
  refine lv_aload_n hx hb d_Code_clear_18 rfl (lv_at hl 0 rfl) ?_
  refine va_get (D := (dC, dI)) (ci := 1) (v := .ref a_cd_stops) (C := "LoopInduction$Code") (T := F_Code) (N := 8) hx hb hts iC_Code hown hK hP 0 rfl rfl 2 (by decide) fl_20 (fun _ h9 => h9) rfl d_Code_clear_19 ?_
  refine lv_iconst (v := (-1)) hx hb d_Code_clear_22 (by decide) ?_
  refine jn_v (wr := [(a_cd, .inr (1, [.ref a_cd_steps, .ref a_cd_starts, .ref a_cd_stops, .ref a_cd_used, .ref a_cd_stack, .int 0, .int 0, .int cd_height])), (a_cd_used, .inl (cI, 39, .inl cd_used)), (a_cd_starts, .inl (cI, 39, .inl (vp_fill cd_starts 39 (-1))))]) (va_runS (As := [.ref a_cd_stops, .int (-1)]) (rest := []) ⟨hx, hb, hml, hown, hts⟩ (c_fill l dC dI cI cB cZ adK adV _ a_cd_stops 39 cd_stops (-1) (by decide)) ⟨callB_of 2 hts (ga_ m_612) rfl rfl rfl (hts _ (List.mem_cons_of_mem _ m_103)) (hts _ (List.mem_cons_of_mem _ m_610)) pn_fill ⟨Nat.le_of_ble_eq_true rfl, Nat.le_of_ble_eq_true rfl⟩, (hts _ (List.mem_cons_of_mem _ m_611))⟩ ⟨pc_blind, pc_of (hP.sub [1] rfl) hK (hD.sub [1] (by decide) rfl) hN hT hS hA⟩ rfl rfl hl.1 rfl (lv_room (Nat.le_of_ble_eq_true rfl)) d_Code_clear_23 ⟨Nat.zero_le _, Nat.zero_le _⟩) hP hD hS hA [1] [0, 2, 3] rfl rfl (by decide) (by decide) (fun u_2 H locs eu_2 hP hD hS => ?_)
  subst eu_2
  have hP : va_P (dC, dI) vwCl [(a_cd, .inr (1, [.ref a_cd_steps, .ref a_cd_starts, .ref a_cd_stops, .ref a_cd_used, .ref a_cd_stack, .int 0, .int 0, .int cd_height])), (a_cd_used, .inl (cI, 39, .inl cd_used)), (a_cd_starts, .inl (cI, 39, .inl (vp_fill cd_starts 39 (-1)))), (a_cd_stops, .inl (cI, 39, .inl (vp_fill cd_stops 39 (-1))))] H := hP
  have hD : va_D A [(a_cd, .inr (1, [.ref a_cd_steps, .ref a_cd_starts, .ref a_cd_stops, .ref a_cd_used, .ref a_cd_stack, .int 0, .int 0, .int cd_height])), (a_cd_used, .inl (cI, 39, .inl cd_used)), (a_cd_starts, .inl (cI, 39, .inl (vp_fill cd_starts 39 (-1)))), (a_cd_stops, .inl (cI, 39, .inl (vp_fill cd_stops 39 (-1))))] := hD
  refine lv_aload_n hx hb d_Code_clear_26 rfl (lv_at hl 0 rfl) ?_
  refine va_get (D := (dC, dI)) (ci := 1) (v := .ref a_cd_used) (C := "LoopInduction$Code") (T := F_Code) (N := 8) hx hb hts iC_Code hown hK hP 0 rfl rfl 3 (by decide) fl_23 (fun _ h9 => h9) rfl d_Code_clear_27 ?_
  refine lv_iconst (v := 0) hx hb d_Code_clear_30 (by decide) ?_
  refine jn_v (wr := [(a_cd, .inr (1, [.ref a_cd_steps, .ref a_cd_starts, .ref a_cd_stops, .ref a_cd_used, .ref a_cd_stack, .int 0, .int 0, .int cd_height])), (a_cd_starts, .inl (cI, 39, .inl (vp_fill cd_starts 39 (-1)))), (a_cd_stops, .inl (cI, 39, .inl (vp_fill cd_stops 39 (-1))))]) (va_runS (As := [.ref a_cd_used, .int 0]) (rest := []) ⟨hx, hb, hml, hown, hts⟩ (c_fill l dC dI cI cB cZ adK adV _ a_cd_used 39 cd_used 0 (by decide)) ⟨callB_of 2 hts (ga_ m_612) rfl rfl rfl (hts _ (List.mem_cons_of_mem _ m_103)) (hts _ (List.mem_cons_of_mem _ m_610)) pn_fill ⟨Nat.le_of_ble_eq_true rfl, Nat.le_of_ble_eq_true rfl⟩, (hts _ (List.mem_cons_of_mem _ m_611))⟩ ⟨pc_blind, pc_of (hP.sub [1] rfl) hK (hD.sub [1] (by decide) rfl) hN hT hS hA⟩ rfl rfl hl.1 rfl (lv_room (Nat.le_of_ble_eq_true rfl)) d_Code_clear_31 ⟨Nat.zero_le _, Nat.zero_le _⟩) hP hD hS hA [1] [0, 2, 3] rfl rfl (by decide) (by decide) (fun u_3 H locs eu_3 hP hD hS => ?_)
  subst eu_3
  have hP : va_P (dC, dI) vwCl [(a_cd, .inr (1, [.ref a_cd_steps, .ref a_cd_starts, .ref a_cd_stops, .ref a_cd_used, .ref a_cd_stack, .int 0, .int 0, .int cd_height])), (a_cd_starts, .inl (cI, 39, .inl (vp_fill cd_starts 39 (-1)))), (a_cd_stops, .inl (cI, 39, .inl (vp_fill cd_stops 39 (-1)))), (a_cd_used, .inl (cI, 39, .inl (vp_fill cd_used 39 0)))] H := hP
  have hD : va_D A [(a_cd, .inr (1, [.ref a_cd_steps, .ref a_cd_starts, .ref a_cd_stops, .ref a_cd_used, .ref a_cd_stack, .int 0, .int 0, .int cd_height])), (a_cd_starts, .inl (cI, 39, .inl (vp_fill cd_starts 39 (-1)))), (a_cd_stops, .inl (cI, 39, .inl (vp_fill cd_stops 39 (-1)))), (a_cd_used, .inl (cI, 39, .inl (vp_fill cd_used 39 0)))] := hD
  rw [← hQ]
  have hP9 := hP
  have hD9 := hD
  exact W.vret hx hb hr (fun t ht hW => ⟨⟨(0, 0, vp_fill cd_starts 39 (-1), vp_fill cd_stops 39 (-1), vp_fill cd_used 39 0), rfl, h, by rw [ht]; exact hP9, va_K.moved hW.alike hK, hD9⟩, hS.F ht⟩) hS.2.2 d_Code_clear_34
def wp_Code_open (x1 : Int32) (cd_size : Int32) (cd_section : Int32) (cd_starts : Nat → Int32) (post : Int32 → (Nat → Int32) → Prop) : Prop :=
  (((x1 : Int32) < 0 → post cd_section cd_starts) ∧ (¬ (x1 : Int32) < 0 → (((39 : Int32) ≤ (x1 : Int32) → post cd_section cd_starts) ∧ (¬ (39 : Int32) ≤ (x1 : Int32) → (vp_in x1 39 ∧ post x1 (upd cd_starts (x1 : Int32).toNatClampNeg cd_size))))))
set_option maxHeartbeats 4000000 in
set_option maxRecDepth 100000 in
theorem c_Code_open (l : Launch) (dC : Nat → ClassId) (dI : Nat → Nat → Nat) (cI cB cZ : ClassId) (adK adV : Nat → Nat) (sz : Nat) (a_cd a_cd_steps a_cd_starts a_cd_stops a_cd_used a_cd_stack : Nat) (cd_size : Int32) (cd_section : Int32) (cd_height : Int32) (cd_starts : Nat → Int32) (x1 : Int32) (post : Int32 → (Nat → Int32) → Prop) (h : wp_Code_open x1 cd_size cd_section cd_starts post) : Met l y_Code_open w_Code_open ({ frames := 0, cells := 0, slots := 0, locals := 0 }) (pc_ (dC, dI) [(cI, .int), (cB, .byte), (cZ, .boolean)] [(a_cd, .inr (1, [.ref a_cd_steps, .ref a_cd_starts, .ref a_cd_stops, .ref a_cd_used, .ref a_cd_stack, .int cd_size, .int cd_section, .int cd_height])), (a_cd_starts, .inl (cI, 39, .inl cd_starts))] sz adK adV [.ref a_cd, .int x1]) (va_Qv (fun (u : Int32 × (Nat → Int32)) => post u.1 u.2) (fun (u : Int32 × (Nat → Int32)) t => bw_ (dC, dI) [(cI, .int), (cB, .byte), (cZ, .boolean)] (va_A [(a_cd, .inr (1, [.ref a_cd_steps, .ref a_cd_starts, .ref a_cd_stops, .ref a_cd_used, .ref a_cd_stack, .int cd_size, .int cd_section, .int cd_height])), (a_cd_starts, .inl (cI, 39, .inl cd_starts))] sz) [(a_cd, .inr (1, [.ref a_cd_steps, .ref a_cd_starts, .ref a_cd_stops, .ref a_cd_used, .ref a_cd_stack, .int cd_size, .int u.1, .int cd_height])), (a_cd_starts, .inl (cI, 39, .inl u.2))] t) (va_A [(a_cd, .inr (1, [.ref a_cd_steps, .ref a_cd_starts, .ref a_cd_stops, .ref a_cd_used, .ref a_cd_stack, .int cd_size, .int cd_section, .int cd_height])), (a_cd_starts, .inl (cI, 39, .inl cd_starts))] sz)) 0 0 (va_A [(a_cd, .inr (1, [.ref a_cd_steps, .ref a_cd_starts, .ref a_cd_stops, .ref a_cd_used, .ref a_cd_stack, .int cd_size, .int cd_section, .int cd_height])), (a_cd_starts, .inl (cI, 39, .inl cd_starts))] sz) := by
  refine Met.ofW (cc := b_Code_open) (maxL := 2) (ret := none) (by decide) rfl ?_
  intro p e s m args below meth c s₁ B hml hv
  obtain ⟨rfl, hsz, hP, hK, hD0, hN, hT⟩ := hv
  have hx := B.exec
  have hb := B.bytes
  have hr := B.returns
  have hts := atoms_spec (ws := w_Code_open) B.pre
  have hown : s.vm.findClass "LoopInduction$Code" = some m.cls := findClass_of_methodNamed B.named
  have hlocks := B.notSynchronized
  subst hsz
  have hD := hD0.self (sz := s.heap.size)
  generalize hAe : va_A [(a_cd, .inr (1, [.ref a_cd_steps, .ref a_cd_starts, .ref a_cd_stops, .ref a_cd_used, .ref a_cd_stack, .int cd_size, .int cd_section, .int cd_height])), (a_cd_starts, .inl (cI, 39, .inl cd_starts))] s.heap.size = A at hD hT ⊢
  have hA : ∀ q : Nat, s.heap.size ≤ q → A q := fun q h => by rw [← hAe]; exact Or.inr h
  have hS : va_S A s.heap s.heap [] := va_S.rf
  generalize hQ : MQ below _ _ s 0 0 _ = QQ
  have hl := lv_entry ([.ref a_cd, .int x1]) (n := 2) (Nat.le_of_ble_eq_true rfl)
  rw [lg_entry_eq]
  generalize (lg_sl ([.ref a_cd, .int x1]) ++ List.replicate (2 - (lg_sl ([.ref a_cd, .int x1])).length) Slot.unset).toArray = ls at hl ⊢
  have hl : lv_has ls 2 [(0, .ref a_cd), (1, .int x1)] := hl
  have fl_17 := (hts _ (List.mem_cons_of_mem _ m_163))
  have fl_29 := (hts _ (List.mem_cons_of_mem _ m_167))
  have fl_33 := (hts _ (List.mem_cons_of_mem _ m_168))
  refine lv_iload_n hx hb d_Code_open_0 rfl (lv_at hl 1 rfl) ?_
  refine lv_if_lt (tgt := 28) hx hb d_Code_open_1 (by decide) (fun c_1 => ?_) (fun c_1 => ?_)
  · have h := And.left h c_1
    rw [← hQ]
    have hP9 := hP
    have hD9 := hD
    exact W.vret hx hb hr (fun t ht hW => ⟨⟨(cd_section, cd_starts), rfl, h, by rw [ht]; exact hP9, va_K.moved hW.alike hK, hD9⟩, hS.F ht⟩) hS.2.2 d_Code_open_28
  · have h := And.right h c_1
    refine lv_iload_n hx hb d_Code_open_4 rfl (lv_at hl 1 rfl) ?_
    refine lv_bipush (v := 39) hx hb d_Code_open_5 (by decide) ?_
    refine lv_icmp_ge (tgt := 28) hx hb d_Code_open_7 (by decide) (fun c_7 => ?_) (fun c_7 => ?_)
    · have h := And.left h c_7
      rw [← hQ]
      have hP9 := hP
      have hD9 := hD
      exact W.vret hx hb hr (fun t ht hW => ⟨⟨(cd_section, cd_starts), rfl, h, by rw [ht]; exact hP9, va_K.moved hW.alike hK, hD9⟩, hS.F ht⟩) hS.2.2 d_Code_open_28
    · have h := And.right h c_7
      refine lv_aload_n hx hb d_Code_open_10 rfl (lv_at hl 0 rfl) ?_
      refine lv_iload_n hx hb d_Code_open_11 rfl (lv_at hl 1 rfl) ?_
      refine va_put (D := (dC, dI)) (ci := 1) (v := .int x1) (ty := .int) (C := "LoopInduction$Code") (T := F_Code) (N := 8) hx hb hts iC_Code t_Code t_Code_ok n_Code hown hK hP hD hS 0 rfl rfl 6 (by decide) fl_33 (fun _ h9 => h9) rfl (by decide +kernel) rfl rfl (Nat.le_of_ble_eq_true rfl) d_Code_open_12 (fun H locs hP hD hS => ?_)
      have hP : va_P (dC, dI) vwCl [(a_cd, .inr (1, [.ref a_cd_steps, .ref a_cd_starts, .ref a_cd_stops, .ref a_cd_used, .ref a_cd_stack, .int cd_size, .int x1, .int cd_height])), (a_cd_starts, .inl (cI, 39, .inl cd_starts))] H := hP
      have hD : va_D A [(a_cd, .inr (1, [.ref a_cd_steps, .ref a_cd_starts, .ref a_cd_stops, .ref a_cd_used, .ref a_cd_stack, .int cd_size, .int x1, .int cd_height])), (a_cd_starts, .inl (cI, 39, .inl cd_starts))] := hD
      refine lv_aload_n hx hb d_Code_open_15 rfl (lv_at hl 0 rfl) ?_
      refine va_get (D := (dC, dI)) (ci := 1) (v := .ref a_cd_starts) (C := "LoopInduction$Code") (T := F_Code) (N := 8) hx hb hts iC_Code hown hK hP 0 rfl rfl 1 (by decide) fl_17 (fun _ h9 => h9) rfl d_Code_open_16 ?_
      refine lv_aload_n hx hb d_Code_open_19 rfl (lv_at hl 0 rfl) ?_
      refine va_get (D := (dC, dI)) (ci := 1) (v := .int x1) (C := "LoopInduction$Code") (T := F_Code) (N := 8) hx hb hts iC_Code hown hK hP 0 rfl rfl 6 (by decide) fl_33 (fun _ h9 => h9) rfl d_Code_open_20 ?_
      refine lv_aload_n hx hb d_Code_open_23 rfl (lv_at hl 0 rfl) ?_
      refine va_get (D := (dC, dI)) (ci := 1) (v := .int cd_size) (C := "LoopInduction$Code") (T := F_Code) (N := 8) hx hb hts iC_Code hown hK hP 0 rfl rfl 5 (by decide) fl_29 (fun _ h9 => h9) rfl d_Code_open_24 ?_
      obtain ⟨hin_27, h⟩ := h
      refine va_iast hx hb hK hP hD hS 1 0 rfl rfl hin_27 d_Code_open_27 (fun H locs hP hD hS => ?_)
      have hP : va_P (dC, dI) vwCl [(a_cd, .inr (1, [.ref a_cd_steps, .ref a_cd_starts, .ref a_cd_stops, .ref a_cd_used, .ref a_cd_stack, .int cd_size, .int x1, .int cd_height])), (a_cd_starts, .inl (cI, 39, .inl (upd cd_starts (x1 : Int32).toNatClampNeg cd_size)))] H := hP
      have hD : va_D A [(a_cd, .inr (1, [.ref a_cd_steps, .ref a_cd_starts, .ref a_cd_stops, .ref a_cd_used, .ref a_cd_stack, .int cd_size, .int x1, .int cd_height])), (a_cd_starts, .inl (cI, 39, .inl (upd cd_starts (x1 : Int32).toNatClampNeg cd_size)))] := hD
      rw [← hQ]
      have hP9 := hP
      have hD9 := hD
      exact W.vret hx hb hr (fun t ht hW => ⟨⟨(x1, upd cd_starts (x1 : Int32).toNatClampNeg cd_size), rfl, h, by rw [ht]; exact hP9, va_K.moved hW.alike hK, hD9⟩, hS.F ht⟩) hS.2.2 d_Code_open_28
def wp_Code_close (cd_size : Int32) (cd_section : Int32) (cd_stops : Nat → Int32) (post : (Nat → Int32) → Prop) : Prop :=
  (vp_in cd_section 39 ∧ post (upd cd_stops (cd_section : Int32).toNatClampNeg cd_size))
set_option maxHeartbeats 4000000 in
set_option maxRecDepth 100000 in
theorem c_Code_close (l : Launch) (dC : Nat → ClassId) (dI : Nat → Nat → Nat) (cI cB cZ : ClassId) (adK adV : Nat → Nat) (sz : Nat) (a_cd a_cd_steps a_cd_starts a_cd_stops a_cd_used a_cd_stack : Nat) (cd_size : Int32) (cd_section : Int32) (cd_height : Int32) (cd_stops : Nat → Int32) (post : (Nat → Int32) → Prop) (h : wp_Code_close cd_size cd_section cd_stops post) : Met l y_Code_close w_Code_close ({ frames := 0, cells := 0, slots := 0, locals := 0 }) (pc_ (dC, dI) [(cI, .int), (cB, .byte), (cZ, .boolean)] [(a_cd, .inr (1, [.ref a_cd_steps, .ref a_cd_starts, .ref a_cd_stops, .ref a_cd_used, .ref a_cd_stack, .int cd_size, .int cd_section, .int cd_height])), (a_cd_stops, .inl (cI, 39, .inl cd_stops))] sz adK adV [.ref a_cd]) (va_Qv (fun (u : (Nat → Int32)) => post u) (fun (u : (Nat → Int32)) t => bw_ (dC, dI) [(cI, .int), (cB, .byte), (cZ, .boolean)] (va_A [(a_cd, .inr (1, [.ref a_cd_steps, .ref a_cd_starts, .ref a_cd_stops, .ref a_cd_used, .ref a_cd_stack, .int cd_size, .int cd_section, .int cd_height])), (a_cd_stops, .inl (cI, 39, .inl cd_stops))] sz) [(a_cd, .inr (1, [.ref a_cd_steps, .ref a_cd_starts, .ref a_cd_stops, .ref a_cd_used, .ref a_cd_stack, .int cd_size, .int cd_section, .int cd_height])), (a_cd_stops, .inl (cI, 39, .inl u))] t) (va_A [(a_cd, .inr (1, [.ref a_cd_steps, .ref a_cd_starts, .ref a_cd_stops, .ref a_cd_used, .ref a_cd_stack, .int cd_size, .int cd_section, .int cd_height])), (a_cd_stops, .inl (cI, 39, .inl cd_stops))] sz)) 0 0 (va_A [(a_cd, .inr (1, [.ref a_cd_steps, .ref a_cd_starts, .ref a_cd_stops, .ref a_cd_used, .ref a_cd_stack, .int cd_size, .int cd_section, .int cd_height])), (a_cd_stops, .inl (cI, 39, .inl cd_stops))] sz) := by
  refine Met.ofW (cc := b_Code_close) (maxL := 1) (ret := none) (by decide) rfl ?_
  intro p e s m args below meth c s₁ B hml hv
  obtain ⟨rfl, hsz, hP, hK, hD0, hN, hT⟩ := hv
  have hx := B.exec
  have hb := B.bytes
  have hr := B.returns
  have hts := atoms_spec (ws := w_Code_close) B.pre
  have hown : s.vm.findClass "LoopInduction$Code" = some m.cls := findClass_of_methodNamed B.named
  have hlocks := B.notSynchronized
  subst hsz
  have hD := hD0.self (sz := s.heap.size)
  generalize hAe : va_A [(a_cd, .inr (1, [.ref a_cd_steps, .ref a_cd_starts, .ref a_cd_stops, .ref a_cd_used, .ref a_cd_stack, .int cd_size, .int cd_section, .int cd_height])), (a_cd_stops, .inl (cI, 39, .inl cd_stops))] s.heap.size = A at hD hT ⊢
  have hA : ∀ q : Nat, s.heap.size ≤ q → A q := fun q h => by rw [← hAe]; exact Or.inr h
  have hS : va_S A s.heap s.heap [] := va_S.rf
  generalize hQ : MQ below _ _ s 0 0 _ = QQ
  have hl := lv_entry ([.ref a_cd]) (n := 1) (Nat.le_of_ble_eq_true rfl)
  rw [lg_entry_eq]
  generalize (lg_sl ([.ref a_cd]) ++ List.replicate (1 - (lg_sl ([.ref a_cd])).length) Slot.unset).toArray = ls at hl ⊢
  have hl : lv_has ls 1 [(0, .ref a_cd)] := hl
  have fl_20 := (hts _ (List.mem_cons_of_mem _ m_164))
  have fl_29 := (hts _ (List.mem_cons_of_mem _ m_167))
  have fl_33 := (hts _ (List.mem_cons_of_mem _ m_168))
  refine lv_aload_n hx hb d_Code_close_0 rfl (lv_at hl 0 rfl) ?_
  refine va_get (D := (dC, dI)) (ci := 1) (v := .ref a_cd_stops) (C := "LoopInduction$Code") (T := F_Code) (N := 8) hx hb hts iC_Code hown hK hP 0 rfl rfl 2 (by decide) fl_20 (fun _ h9 => h9) rfl d_Code_close_1 ?_
  refine lv_aload_n hx hb d_Code_close_4 rfl (lv_at hl 0 rfl) ?_
  refine va_get (D := (dC, dI)) (ci := 1) (v := .int cd_section) (C := "LoopInduction$Code") (T := F_Code) (N := 8) hx hb hts iC_Code hown hK hP 0 rfl rfl 6 (by decide) fl_33 (fun _ h9 => h9) rfl d_Code_close_5 ?_
  refine lv_aload_n hx hb d_Code_close_8 rfl (lv_at hl 0 rfl) ?_
  refine va_get (D := (dC, dI)) (ci := 1) (v := .int cd_size) (C := "LoopInduction$Code") (T := F_Code) (N := 8) hx hb hts iC_Code hown hK hP 0 rfl rfl 5 (by decide) fl_29 (fun _ h9 => h9) rfl d_Code_close_9 ?_
  obtain ⟨hin_12, h⟩ := h
  refine va_iast hx hb hK hP hD hS 1 0 rfl rfl hin_12 d_Code_close_12 (fun H locs hP hD hS => ?_)
  have hP : va_P (dC, dI) vwCl [(a_cd, .inr (1, [.ref a_cd_steps, .ref a_cd_starts, .ref a_cd_stops, .ref a_cd_used, .ref a_cd_stack, .int cd_size, .int cd_section, .int cd_height])), (a_cd_stops, .inl (cI, 39, .inl (upd cd_stops (cd_section : Int32).toNatClampNeg cd_size)))] H := hP
  have hD : va_D A [(a_cd, .inr (1, [.ref a_cd_steps, .ref a_cd_starts, .ref a_cd_stops, .ref a_cd_used, .ref a_cd_stack, .int cd_size, .int cd_section, .int cd_height])), (a_cd_stops, .inl (cI, 39, .inl (upd cd_stops (cd_section : Int32).toNatClampNeg cd_size)))] := hD
  rw [← hQ]
  have hP9 := hP
  have hD9 := hD
  exact W.vret hx hb hr (fun t ht hW => ⟨⟨(upd cd_stops (cd_section : Int32).toNatClampNeg cd_size), rfl, h, by rw [ht]; exact hP9, va_K.moved hW.alike hK, hD9⟩, hS.F ht⟩) hS.2.2 d_Code_close_13
def wp_Code_add (x1 : Int32) (cd_size : Int32) (cd_steps : Nat → Int32) (post : Int32 → (Nat → Int32) → Prop) : Prop :=
  (((1200 : Int32) ≤ (cd_size : Int32) → post cd_size cd_steps) ∧ (¬ (1200 : Int32) ≤ (cd_size : Int32) → (vp_in cd_size 1200 ∧ post (cd_size + 1) (upd cd_steps (cd_size : Int32).toNatClampNeg x1))))
set_option maxHeartbeats 4000000 in
set_option maxRecDepth 100000 in
theorem c_Code_add (l : Launch) (dC : Nat → ClassId) (dI : Nat → Nat → Nat) (cI cB cZ : ClassId) (adK adV : Nat → Nat) (sz : Nat) (a_cd a_cd_steps a_cd_starts a_cd_stops a_cd_used a_cd_stack : Nat) (cd_size : Int32) (cd_section : Int32) (cd_height : Int32) (cd_steps : Nat → Int32) (x1 : Int32) (post : Int32 → (Nat → Int32) → Prop) (h : wp_Code_add x1 cd_size cd_steps post) : Met l y_Code_add w_Code_add ({ frames := 0, cells := 0, slots := 0, locals := 0 }) (pc_ (dC, dI) [(cI, .int), (cB, .byte), (cZ, .boolean)] [(a_cd, .inr (1, [.ref a_cd_steps, .ref a_cd_starts, .ref a_cd_stops, .ref a_cd_used, .ref a_cd_stack, .int cd_size, .int cd_section, .int cd_height])), (a_cd_steps, .inl (cI, 1200, .inl cd_steps))] sz adK adV [.ref a_cd, .int x1]) (va_Qv (fun (u : Int32 × (Nat → Int32)) => post u.1 u.2) (fun (u : Int32 × (Nat → Int32)) t => bw_ (dC, dI) [(cI, .int), (cB, .byte), (cZ, .boolean)] (va_A [(a_cd, .inr (1, [.ref a_cd_steps, .ref a_cd_starts, .ref a_cd_stops, .ref a_cd_used, .ref a_cd_stack, .int cd_size, .int cd_section, .int cd_height])), (a_cd_steps, .inl (cI, 1200, .inl cd_steps))] sz) [(a_cd, .inr (1, [.ref a_cd_steps, .ref a_cd_starts, .ref a_cd_stops, .ref a_cd_used, .ref a_cd_stack, .int u.1, .int cd_section, .int cd_height])), (a_cd_steps, .inl (cI, 1200, .inl u.2))] t) (va_A [(a_cd, .inr (1, [.ref a_cd_steps, .ref a_cd_starts, .ref a_cd_stops, .ref a_cd_used, .ref a_cd_stack, .int cd_size, .int cd_section, .int cd_height])), (a_cd_steps, .inl (cI, 1200, .inl cd_steps))] sz)) 0 0 (va_A [(a_cd, .inr (1, [.ref a_cd_steps, .ref a_cd_starts, .ref a_cd_stops, .ref a_cd_used, .ref a_cd_stack, .int cd_size, .int cd_section, .int cd_height])), (a_cd_steps, .inl (cI, 1200, .inl cd_steps))] sz) := by
  refine Met.ofW (cc := b_Code_add) (maxL := 2) (ret := none) (by decide) rfl ?_
  intro p e s m args below meth c s₁ B hml hv
  obtain ⟨rfl, hsz, hP, hK, hD0, hN, hT⟩ := hv
  have hx := B.exec
  have hb := B.bytes
  have hr := B.returns
  have hts := atoms_spec (ws := w_Code_add) B.pre
  have hown : s.vm.findClass "LoopInduction$Code" = some m.cls := findClass_of_methodNamed B.named
  have hlocks := B.notSynchronized
  subst hsz
  have hD := hD0.self (sz := s.heap.size)
  generalize hAe : va_A [(a_cd, .inr (1, [.ref a_cd_steps, .ref a_cd_starts, .ref a_cd_stops, .ref a_cd_used, .ref a_cd_stack, .int cd_size, .int cd_section, .int cd_height])), (a_cd_steps, .inl (cI, 1200, .inl cd_steps))] s.heap.size = A at hD hT ⊢
  have hA : ∀ q : Nat, s.heap.size ≤ q → A q := fun q h => by rw [← hAe]; exact Or.inr h
  have hS : va_S A s.heap s.heap [] := va_S.rf
  generalize hQ : MQ below _ _ s 0 0 _ = QQ
  have hl := lv_entry ([.ref a_cd, .int x1]) (n := 2) (Nat.le_of_ble_eq_true rfl)
  rw [lg_entry_eq]
  generalize (lg_sl ([.ref a_cd, .int x1]) ++ List.replicate (2 - (lg_sl ([.ref a_cd, .int x1])).length) Slot.unset).toArray = ls at hl ⊢
  have hl : lv_has ls 2 [(0, .ref a_cd), (1, .int x1)] := hl
  have fl_13 := (hts _ (List.mem_cons_of_mem _ m_162))
  have fl_29 := (hts _ (List.mem_cons_of_mem _ m_167))
  refine lv_aload_n hx hb d_Code_add_0 rfl (lv_at hl 0 rfl) ?_
  refine va_get (D := (dC, dI)) (ci := 1) (v := .int cd_size) (C := "LoopInduction$Code") (T := F_Code) (N := 8) hx hb hts iC_Code hown hK hP 0 rfl rfl 5 (by decide) fl_29 (fun _ h9 => h9) rfl d_Code_add_1 ?_
  refine lv_aload_n hx hb d_Code_add_4 rfl (lv_at hl 0 rfl) ?_
  refine va_get (D := (dC, dI)) (ci := 1) (v := .ref a_cd_steps) (C := "LoopInduction$Code") (T := F_Code) (N := 8) hx hb hts iC_Code hown hK hP 0 rfl rfl 0 (by decide) fl_13 (fun _ h9 => h9) rfl d_Code_add_5 ?_
  refine va_alen (v := 1200) hx hb hK hP 1 0 rfl rfl rfl d_Code_add_8 ?_
  refine lv_icmp_ge (tgt := 32) hx hb d_Code_add_9 (by decide) (fun c_9 => ?_) (fun c_9 => ?_)
  · have h := And.left h c_9
    rw [← hQ]
    have hP9 := hP
    have hD9 := hD
    exact W.vret hx hb hr (fun t ht hW => ⟨⟨(cd_size, cd_steps), rfl, h, by rw [ht]; exact hP9, va_K.moved hW.alike hK, hD9⟩, hS.F ht⟩) hS.2.2 d_Code_add_32
  · have h := And.right h c_9
    refine lv_aload_n hx hb d_Code_add_12 rfl (lv_at hl 0 rfl) ?_
    refine va_get (D := (dC, dI)) (ci := 1) (v := .ref a_cd_steps) (C := "LoopInduction$Code") (T := F_Code) (N := 8) hx hb hts iC_Code hown hK hP 0 rfl rfl 0 (by decide) fl_13 (fun _ h9 => h9) rfl d_Code_add_13 ?_
    refine lv_aload_n hx hb d_Code_add_16 rfl (lv_at hl 0 rfl) ?_
    refine va_get (D := (dC, dI)) (ci := 1) (v := .int cd_size) (C := "LoopInduction$Code") (T := F_Code) (N := 8) hx hb hts iC_Code hown hK hP 0 rfl rfl 5 (by decide) fl_29 (fun _ h9 => h9) rfl d_Code_add_17 ?_
    refine lv_iload_n hx hb d_Code_add_20 rfl (lv_at hl 1 rfl) ?_
    obtain ⟨hin_21, h⟩ := h
    refine va_iast hx hb hK hP hD hS 1 0 rfl rfl hin_21 d_Code_add_21 (fun H locs hP hD hS => ?_)
    have hP : va_P (dC, dI) vwCl [(a_cd, .inr (1, [.ref a_cd_steps, .ref a_cd_starts, .ref a_cd_stops, .ref a_cd_used, .ref a_cd_stack, .int cd_size, .int cd_section, .int cd_height])), (a_cd_steps, .inl (cI, 1200, .inl (upd cd_steps (cd_size : Int32).toNatClampNeg x1)))] H := hP
    have hD : va_D A [(a_cd, .inr (1, [.ref a_cd_steps, .ref a_cd_starts, .ref a_cd_stops, .ref a_cd_used, .ref a_cd_stack, .int cd_size, .int cd_section, .int cd_height])), (a_cd_steps, .inl (cI, 1200, .inl (upd cd_steps (cd_size : Int32).toNatClampNeg x1)))] := hD
    refine lv_aload_n hx hb d_Code_add_22 rfl (lv_at hl 0 rfl) ?_
    refine lv_dup hx hb d_Code_add_23 rfl ?_
    refine va_get (D := (dC, dI)) (ci := 1) (v := .int cd_size) (C := "LoopInduction$Code") (T := F_Code) (N := 8) hx hb hts iC_Code hown hK hP 0 rfl rfl 5 (by decide) fl_29 (fun _ h9 => h9) rfl d_Code_add_24 ?_
    refine lv_iconst (v := 1) hx hb d_Code_add_27 (by decide) ?_
    refine lv_iadd hx hb d_Code_add_28 ?_
    refine va_put (D := (dC, dI)) (ci := 1) (v := .int (cd_size + 1)) (ty := .int) (C := "LoopInduction$Code") (T := F_Code) (N := 8) hx hb hts iC_Code t_Code t_Code_ok n_Code hown hK hP hD hS 0 rfl rfl 5 (by decide) fl_29 (fun _ h9 => h9) rfl (by decide +kernel) rfl rfl (Nat.le_of_ble_eq_true rfl) d_Code_add_29 (fun H locs hP hD hS => ?_)
    have hP : va_P (dC, dI) vwCl [(a_cd, .inr (1, [.ref a_cd_steps, .ref a_cd_starts, .ref a_cd_stops, .ref a_cd_used, .ref a_cd_stack, .int (cd_size + 1), .int cd_section, .int cd_height])), (a_cd_steps, .inl (cI, 1200, .inl (upd cd_steps (cd_size : Int32).toNatClampNeg x1)))] H := hP
    have hD : va_D A [(a_cd, .inr (1, [.ref a_cd_steps, .ref a_cd_starts, .ref a_cd_stops, .ref a_cd_used, .ref a_cd_stack, .int (cd_size + 1), .int cd_section, .int cd_height])), (a_cd_steps, .inl (cI, 1200, .inl (upd cd_steps (cd_size : Int32).toNatClampNeg x1)))] := hD
    rw [← hQ]
    have hP9 := hP
    have hD9 := hD
    exact W.vret hx hb hr (fun t ht hW => ⟨⟨(cd_size + 1, upd cd_steps (cd_size : Int32).toNatClampNeg x1), rfl, h, by rw [ht]; exact hP9, va_K.moved hW.alike hK, hD9⟩, hS.F ht⟩) hS.2.2 d_Code_add_32
def wp_Code_addVariable (x1 : Int32) (cd_size : Int32) (cd_section : Int32) (cd_steps : Nat → Int32) (cd_used : Nat → Int32) (post : Int32 → (Nat → Int32) → (Nat → Int32) → Prop) : Prop :=
  (vp_in cd_section 39 ∧ (vp_in cd_section 39 ∧ wp_Code_add (16 + x1) cd_size cd_steps (fun cd_size_1 cd_steps_2 => post cd_size_1 cd_steps_2 (upd cd_used (cd_section : Int32).toNatClampNeg ((cd_used (cd_section : Int32).toNatClampNeg) ||| (15 <<< ((4 * x1) &&& 31)))))))
set_option maxHeartbeats 4000000 in
set_option maxRecDepth 100000 in
theorem c_Code_addVariable (l : Launch) (dC : Nat → ClassId) (dI : Nat → Nat → Nat) (cI cB cZ : ClassId) (adK adV : Nat → Nat) (sz : Nat) (a_cd a_cd_steps a_cd_starts a_cd_stops a_cd_used a_cd_stack : Nat) (cd_size : Int32) (cd_section : Int32) (cd_height : Int32) (cd_steps : Nat → Int32) (cd_used : Nat → Int32) (x1 : Int32) (post : Int32 → (Nat → Int32) → (Nat → Int32) → Prop) (h : wp_Code_addVariable x1 cd_size cd_section cd_steps cd_used post) : Met l y_Code_addVariable w_Code_addVariable ({ frames := 1, cells := 0, slots := 0, locals := 21 }) (pc_ (dC, dI) [(cI, .int), (cB, .byte), (cZ, .boolean)] [(a_cd, .inr (1, [.ref a_cd_steps, .ref a_cd_starts, .ref a_cd_stops, .ref a_cd_used, .ref a_cd_stack, .int cd_size, .int cd_section, .int cd_height])), (a_cd_steps, .inl (cI, 1200, .inl cd_steps)), (a_cd_used, .inl (cI, 39, .inl cd_used))] sz adK adV [.ref a_cd, .int x1]) (va_Qv (fun (u : Int32 × (Nat → Int32) × (Nat → Int32)) => post u.1 u.2.1 u.2.2) (fun (u : Int32 × (Nat → Int32) × (Nat → Int32)) t => bw_ (dC, dI) [(cI, .int), (cB, .byte), (cZ, .boolean)] (va_A [(a_cd, .inr (1, [.ref a_cd_steps, .ref a_cd_starts, .ref a_cd_stops, .ref a_cd_used, .ref a_cd_stack, .int cd_size, .int cd_section, .int cd_height])), (a_cd_steps, .inl (cI, 1200, .inl cd_steps)), (a_cd_used, .inl (cI, 39, .inl cd_used))] sz) [(a_cd, .inr (1, [.ref a_cd_steps, .ref a_cd_starts, .ref a_cd_stops, .ref a_cd_used, .ref a_cd_stack, .int u.1, .int cd_section, .int cd_height])), (a_cd_steps, .inl (cI, 1200, .inl u.2.1)), (a_cd_used, .inl (cI, 39, .inl u.2.2))] t) (va_A [(a_cd, .inr (1, [.ref a_cd_steps, .ref a_cd_starts, .ref a_cd_stops, .ref a_cd_used, .ref a_cd_stack, .int cd_size, .int cd_section, .int cd_height])), (a_cd_steps, .inl (cI, 1200, .inl cd_steps)), (a_cd_used, .inl (cI, 39, .inl cd_used))] sz)) 0 0 (va_A [(a_cd, .inr (1, [.ref a_cd_steps, .ref a_cd_starts, .ref a_cd_stops, .ref a_cd_used, .ref a_cd_stack, .int cd_size, .int cd_section, .int cd_height])), (a_cd_steps, .inl (cI, 1200, .inl cd_steps)), (a_cd_used, .inl (cI, 39, .inl cd_used))] sz) := by
  refine Met.ofW (cc := b_Code_addVariable) (maxL := 2) (ret := none) (by decide) rfl ?_
  intro p e s m args below meth c s₁ B hml hv
  obtain ⟨rfl, hsz, hP, hK, hD0, hN, hT⟩ := hv
  have hx := B.exec
  have hb := B.bytes
  have hr := B.returns
  have hts := atoms_spec (ws := w_Code_addVariable) B.pre
  have hown : s.vm.findClass "LoopInduction$Code" = some m.cls := findClass_of_methodNamed B.named
  have hlocks := B.notSynchronized
  subst hsz
  have hD := hD0.self (sz := s.heap.size)
  generalize hAe : va_A [(a_cd, .inr (1, [.ref a_cd_steps, .ref a_cd_starts, .ref a_cd_stops, .ref a_cd_used, .ref a_cd_stack, .int cd_size, .int cd_section, .int cd_height])), (a_cd_steps, .inl (cI, 1200, .inl cd_steps)), (a_cd_used, .inl (cI, 39, .inl cd_used))] s.heap.size = A at hD hT ⊢
  have hA : ∀ q : Nat, s.heap.size ≤ q → A q := fun q h => by rw [← hAe]; exact Or.inr h
  have hS : va_S A s.heap s.heap [] := va_S.rf
  generalize hQ : MQ below _ _ s 0 0 _ = QQ
  have hl := lv_entry ([.ref a_cd, .int x1]) (n := 2) (Nat.le_of_ble_eq_true rfl)
  rw [lg_entry_eq]
  generalize (lg_sl ([.ref a_cd, .int x1]) ++ List.replicate (2 - (lg_sl ([.ref a_cd, .int x1])).length) Slot.unset).toArray = ls at hl ⊢
  have hl : lv_has ls 2 [(0, .ref a_cd), (1, .int x1)] := hl
  have fl_23 := (hts _ (List.mem_cons_of_mem _ m_165))
  have fl_33 := (hts _ (List.mem_cons_of_mem _ m_168))
  refine lv_aload_n hx hb d_Code_addVariable_0 rfl (lv_at hl 0 rfl) ?_
  refine va_get (D := (dC, dI)) (ci := 1) (v := .ref a_cd_used) (C := "LoopInduction$Code") (T := F_Code) (N := 8) hx hb hts iC_Code hown hK hP 0 rfl rfl 3 (by decide) fl_23 (fun _ h9 => h9) rfl d_Code_addVariable_1 ?_
  refine lv_aload_n hx hb d_Code_addVariable_4 rfl (lv_at hl 0 rfl) ?_
  refine va_get (D := (dC, dI)) (ci := 1) (v := .int cd_section) (C := "LoopInduction$Code") (T := F_Code) (N := 8) hx hb hts iC_Code hown hK hP 0 rfl rfl 6 (by decide) fl_33 (fun _ h9 => h9) rfl d_Code_addVariable_5 ?_
  refine lv_dup2_11 hx hb d_Code_addVariable_8 rfl rfl ?_
  obtain ⟨hin_9, h⟩ := h
  refine va_iald hx hb hK hP 2 0 rfl rfl hin_9 d_Code_addVariable_9 ?_
  refine lv_bipush (v := 15) hx hb d_Code_addVariable_10 (by decide) ?_
  refine lv_iconst (v := 4) hx hb d_Code_addVariable_12 (by decide) ?_
  refine lv_iload_n hx hb d_Code_addVariable_13 rfl (lv_at hl 1 rfl) ?_
  refine lv_imul hx hb d_Code_addVariable_14 ?_
  refine lv_ishl hx hb d_Code_addVariable_15 ?_
  refine lv_ior hx hb d_Code_addVariable_16 ?_
  obtain ⟨hin_17, h⟩ := h
  refine va_iast hx hb hK hP hD hS 2 0 rfl rfl hin_17 d_Code_addVariable_17 (fun H locs hP hD hS => ?_)
  have hP : va_P (dC, dI) vwCl [(a_cd, .inr (1, [.ref a_cd_steps, .ref a_cd_starts, .ref a_cd_stops, .ref a_cd_used, .ref a_cd_stack, .int cd_size, .int cd_section, .int cd_height])), (a_cd_steps, .inl (cI, 1200, .inl cd_steps)), (a_cd_used, .inl (cI, 39, .inl (upd cd_used (cd_section : Int32).toNatClampNeg ((cd_used (cd_section : Int32).toNatClampNeg) ||| (15 <<< ((4 * x1) &&& 31))))))] H := hP
  have hD : va_D A [(a_cd, .inr (1, [.ref a_cd_steps, .ref a_cd_starts, .ref a_cd_stops, .ref a_cd_used, .ref a_cd_stack, .int cd_size, .int cd_section, .int cd_height])), (a_cd_steps, .inl (cI, 1200, .inl cd_steps)), (a_cd_used, .inl (cI, 39, .inl (upd cd_used (cd_section : Int32).toNatClampNeg ((cd_used (cd_section : Int32).toNatClampNeg) ||| (15 <<< ((4 * x1) &&& 31))))))] := hD
  refine lv_aload_n hx hb d_Code_addVariable_18 rfl (lv_at hl 0 rfl) ?_
  refine lv_bipush (v := 16) hx hb d_Code_addVariable_19 (by decide) ?_
  refine lv_iload_n hx hb d_Code_addVariable_21 rfl (lv_at hl 1 rfl) ?_
  refine lv_iadd hx hb d_Code_addVariable_22 ?_
  refine jn_v (wr := [(a_cd_used, .inl (cI, 39, .inl (upd cd_used (cd_section : Int32).toNatClampNeg ((cd_used (cd_section : Int32).toNatClampNeg) ||| (15 <<< ((4 * x1) &&& 31))))))]) (va_runV (As := [.int (16 + x1)]) (rest := []) ⟨hx, hb, hml, hown, hts⟩ (c_Code_add l dC dI cI cB cZ adK adV _ a_cd a_cd_steps a_cd_starts a_cd_stops a_cd_used a_cd_stack cd_size cd_section cd_height cd_steps (16 + x1) _ h) (cwV 1 hts (gv_ m_673 m_650 m_651 m_88 m_652) rfl rfl rfl pd_Code_add ⟨Nat.le_of_ble_eq_true rfl, Nat.le_of_ble_eq_true rfl⟩) ⟨pc_blind, va_recv hK hP (ci := 1) (q0 := 0) rfl rfl, pc_of (hP.sub [0, 1] rfl) hK (hD.sub [0, 1] (by decide) rfl) hN hT hS hA⟩ rfl rfl hl.1 rfl (lv_room (Nat.le_of_ble_eq_true rfl)) d_Code_addVariable_23 ⟨Nat.zero_le _, Nat.zero_le _⟩) hP hD hS hA [0, 1] [2] rfl rfl (by decide) (by decide) (fun u_ H locs h hP hD hS => ?_)
  obtain ⟨cd_size_1, cd_steps_2⟩ := u_
  have hP : va_P (dC, dI) vwCl [(a_cd_used, .inl (cI, 39, .inl (upd cd_used (cd_section : Int32).toNatClampNeg ((cd_used (cd_section : Int32).toNatClampNeg) ||| (15 <<< ((4 * x1) &&& 31)))))), (a_cd, .inr (1, [.ref a_cd_steps, .ref a_cd_starts, .ref a_cd_stops, .ref a_cd_used, .ref a_cd_stack, .int cd_size_1, .int cd_section, .int cd_height])), (a_cd_steps, .inl (cI, 1200, .inl cd_steps_2))] H := hP
  have hD : va_D A [(a_cd_used, .inl (cI, 39, .inl (upd cd_used (cd_section : Int32).toNatClampNeg ((cd_used (cd_section : Int32).toNatClampNeg) ||| (15 <<< ((4 * x1) &&& 31)))))), (a_cd, .inr (1, [.ref a_cd_steps, .ref a_cd_starts, .ref a_cd_stops, .ref a_cd_used, .ref a_cd_stack, .int cd_size_1, .int cd_section, .int cd_height])), (a_cd_steps, .inl (cI, 1200, .inl cd_steps_2))] := hD
  rw [← hQ]
  have hP9 := hP.sub (ws' := [(a_cd, .inr (1, [.ref a_cd_steps, .ref a_cd_starts, .ref a_cd_stops, .ref a_cd_used, .ref a_cd_stack, .int cd_size_1, .int cd_section, .int cd_height])), (a_cd_steps, .inl (cI, 1200, .inl cd_steps_2)), (a_cd_used, .inl (cI, 39, .inl (upd cd_used (cd_section : Int32).toNatClampNeg ((cd_used (cd_section : Int32).toNatClampNeg) ||| (15 <<< ((4 * x1) &&& 31))))))]) [1, 2, 0] rfl
  have hD9 := hD.sub (ws' := [(a_cd, .inr (1, [.ref a_cd_steps, .ref a_cd_starts, .ref a_cd_stops, .ref a_cd_used, .ref a_cd_stack, .int cd_size_1, .int cd_section, .int cd_height])), (a_cd_steps, .inl (cI, 1200, .inl cd_steps_2)), (a_cd_used, .inl (cI, 39, .inl (upd cd_used (cd_section : Int32).toNatClampNeg ((cd_used (cd_section : Int32).toNatClampNeg) ||| (15 <<< ((4 * x1) &&& 31))))))]) [1, 2, 0] (by decide) rfl
  exact W.vret hx hb hr (fun t ht hW => ⟨⟨(cd_size_1, cd_steps_2, upd cd_used (cd_section : Int32).toNatClampNeg ((cd_used (cd_section : Int32).toNatClampNeg) ||| (15 <<< ((4 * x1) &&& 31)))), rfl, h, by rw [ht]; exact hP9, va_K.moved hW.alike hK, hD9⟩, hS.F ht⟩) hS.2.2 d_Code_addVariable_26
def wp_Code_tabulate (_x1 : Int32) (_cd_height : Int32) (_cd_steps : Nat → Int32) (_cd_starts : Nat → Int32) (_cd_stops : Nat → Int32) (_cd_used : Nat → Int32) (_cd_stack : Nat → Int32) (_X1 : Nat → Int32) (_post : Int32 → (Nat → Int32) → (Nat → Int32) → Prop) : Prop := False
theorem c_Code_tabulate (l : Launch) (dC : Nat → ClassId) (dI : Nat → Nat → Nat) (cI cB cZ : ClassId) (adK adV : Nat → Nat) (sz : Nat) (a_cd a_cd_steps a_cd_starts a_cd_stops a_cd_used a_cd_stack a_X1 : Nat) (cd_size : Int32) (cd_section : Int32) (cd_height : Int32) (cd_steps : Nat → Int32) (cd_starts : Nat → Int32) (cd_stops : Nat → Int32) (cd_used : Nat → Int32) (cd_stack : Nat → Int32) (X1 : Nat → Int32) (x1 : Int32) (post : Int32 → (Nat → Int32) → (Nat → Int32) → Prop) (h : wp_Code_tabulate x1 cd_height cd_steps cd_starts cd_stops cd_used cd_stack X1 post) : Met l y_Code_tabulate w_Code_tabulate ({ frames := 2, cells := 0, slots := 0, locals := 48 }) (pc_ (dC, dI) [(cI, .int), (cB, .byte), (cZ, .boolean)] [(a_cd, .inr (1, [.ref a_cd_steps, .ref a_cd_starts, .ref a_cd_stops, .ref a_cd_used, .ref a_cd_stack, .int cd_size, .int cd_section, .int cd_height])), (a_cd_steps, .inl (cI, 1200, .inl cd_steps)), (a_cd_starts, .inl (cI, 39, .inl cd_starts)), (a_cd_stops, .inl (cI, 39, .inl cd_stops)), (a_cd_used, .inl (cI, 39, .inl cd_used)), (a_cd_stack, .inl (cI, 100, .inl cd_stack)), (a_X1, .inl (cI, 4096, .inl X1))] sz adK adV [.ref a_cd, .int x1, .ref a_X1]) (va_Qv (fun (u : Int32 × (Nat → Int32) × (Nat → Int32)) => post u.1 u.2.1 u.2.2) (fun (u : Int32 × (Nat → Int32) × (Nat → Int32)) t => bw_ (dC, dI) [(cI, .int), (cB, .byte), (cZ, .boolean)] (va_A [(a_cd, .inr (1, [.ref a_cd_steps, .ref a_cd_starts, .ref a_cd_stops, .ref a_cd_used, .ref a_cd_stack, .int cd_size, .int cd_section, .int cd_height])), (a_cd_steps, .inl (cI, 1200, .inl cd_steps)), (a_cd_starts, .inl (cI, 39, .inl cd_starts)), (a_cd_stops, .inl (cI, 39, .inl cd_stops)), (a_cd_used, .inl (cI, 39, .inl cd_used)), (a_cd_stack, .inl (cI, 100, .inl cd_stack)), (a_X1, .inl (cI, 4096, .inl X1))] sz) [(a_cd, .inr (1, [.ref a_cd_steps, .ref a_cd_starts, .ref a_cd_stops, .ref a_cd_used, .ref a_cd_stack, .int cd_size, .int cd_section, .int u.1])), (a_cd_steps, .inl (cI, 1200, .inl cd_steps)), (a_cd_starts, .inl (cI, 39, .inl cd_starts)), (a_cd_stops, .inl (cI, 39, .inl cd_stops)), (a_cd_used, .inl (cI, 39, .inl cd_used)), (a_cd_stack, .inl (cI, 100, .inl u.2.1)), (a_X1, .inl (cI, 4096, .inl u.2.2))] t) (va_A [(a_cd, .inr (1, [.ref a_cd_steps, .ref a_cd_starts, .ref a_cd_stops, .ref a_cd_used, .ref a_cd_stack, .int cd_size, .int cd_section, .int cd_height])), (a_cd_steps, .inl (cI, 1200, .inl cd_steps)), (a_cd_starts, .inl (cI, 39, .inl cd_starts)), (a_cd_stops, .inl (cI, 39, .inl cd_stops)), (a_cd_used, .inl (cI, 39, .inl cd_used)), (a_cd_stack, .inl (cI, 100, .inl cd_stack)), (a_X1, .inl (cI, 4096, .inl X1))] sz)) 0 0 (va_A [(a_cd, .inr (1, [.ref a_cd_steps, .ref a_cd_starts, .ref a_cd_stops, .ref a_cd_used, .ref a_cd_stack, .int cd_size, .int cd_section, .int cd_height])), (a_cd_steps, .inl (cI, 1200, .inl cd_steps)), (a_cd_starts, .inl (cI, 39, .inl cd_starts)), (a_cd_stops, .inl (cI, 39, .inl cd_stops)), (a_cd_used, .inl (cI, 39, .inl cd_used)), (a_cd_stack, .inl (cI, 100, .inl cd_stack)), (a_X1, .inl (cI, 4096, .inl X1))] sz) := (show False from h).elim
