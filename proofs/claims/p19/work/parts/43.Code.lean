abbrev b_Code_clear : ByteArray := prog_2_method_2_code
abbrev y_Code_clear : MethodName := ⟨"LoopInduction$Code", "clear", "()V"⟩
abbrev w_Code_clear : List Cond := .code y_Code_clear b_Code_clear 1 none :: allW
theorem pn_Code_clear : y_Code_clear.cls ≠ "java/lang/invoke/MethodHandle" ∧ y_Code_clear.cls ≠ "java/lang/invoke/VarHandle" ∧ (parseMethodDescriptor y_Code_clear.desc).map (fun d => d.parameters.length) = some 0 := by decide +kernel
theorem pd_Code_clear : y_Code_clear.cls = "LoopInduction$Code" ∧ y_Code_clear.cls ≠ "java/lang/invoke/MethodHandle" ∧ y_Code_clear.cls ≠ "java/lang/invoke/VarHandle" ∧ (parseMethodDescriptor y_Code_clear.desc).map (fun d => d.parameters.length) = some 0 := by decide +kernel
abbrev b_Code_open : ByteArray := prog_2_method_3_code
abbrev y_Code_open : MethodName := ⟨"LoopInduction$Code", "open", "(I)V"⟩
abbrev w_Code_open : List Cond := .code y_Code_open b_Code_open 2 none :: allW
theorem pn_Code_open : y_Code_open.cls ≠ "java/lang/invoke/MethodHandle" ∧ y_Code_open.cls ≠ "java/lang/invoke/VarHandle" ∧ (parseMethodDescriptor y_Code_open.desc).map (fun d => d.parameters.length) = some 1 := by decide +kernel
theorem pd_Code_open : y_Code_open.cls = "LoopInduction$Code" ∧ y_Code_open.cls ≠ "java/lang/invoke/MethodHandle" ∧ y_Code_open.cls ≠ "java/lang/invoke/VarHandle" ∧ (parseMethodDescriptor y_Code_open.desc).map (fun d => d.parameters.length) = some 1 := by decide +kernel
abbrev b_Code_close : ByteArray := prog_2_method_4_code
abbrev y_Code_close : MethodName := ⟨"LoopInduction$Code", "close", "()V"⟩
abbrev w_Code_close : List Cond := .code y_Code_close b_Code_close 1 none :: allW
theorem pn_Code_close : y_Code_close.cls ≠ "java/lang/invoke/MethodHandle" ∧ y_Code_close.cls ≠ "java/lang/invoke/VarHandle" ∧ (parseMethodDescriptor y_Code_close.desc).map (fun d => d.parameters.length) = some 0 := by decide +kernel
theorem pd_Code_close : y_Code_close.cls = "LoopInduction$Code" ∧ y_Code_close.cls ≠ "java/lang/invoke/MethodHandle" ∧ y_Code_close.cls ≠ "java/lang/invoke/VarHandle" ∧ (parseMethodDescriptor y_Code_close.desc).map (fun d => d.parameters.length) = some 0 := by decide +kernel
abbrev b_Code_isTold : ByteArray := prog_2_method_5_code
abbrev y_Code_isTold : MethodName := ⟨"LoopInduction$Code", "isTold", "(I)Z"⟩
abbrev w_Code_isTold : List Cond := .code y_Code_isTold b_Code_isTold 2 (some .boolean) :: allW
theorem pn_Code_isTold : y_Code_isTold.cls ≠ "java/lang/invoke/MethodHandle" ∧ y_Code_isTold.cls ≠ "java/lang/invoke/VarHandle" ∧ (parseMethodDescriptor y_Code_isTold.desc).map (fun d => d.parameters.length) = some 1 := by decide +kernel
theorem pd_Code_isTold : y_Code_isTold.cls = "LoopInduction$Code" ∧ y_Code_isTold.cls ≠ "java/lang/invoke/MethodHandle" ∧ y_Code_isTold.cls ≠ "java/lang/invoke/VarHandle" ∧ (parseMethodDescriptor y_Code_isTold.desc).map (fun d => d.parameters.length) = some 1 := by decide +kernel
abbrev b_Code_add : ByteArray := prog_2_method_7_code
abbrev y_Code_add : MethodName := ⟨"LoopInduction$Code", "add", "(I)V"⟩
abbrev w_Code_add : List Cond := .code y_Code_add b_Code_add 2 none :: allW
theorem pn_Code_add : y_Code_add.cls ≠ "java/lang/invoke/MethodHandle" ∧ y_Code_add.cls ≠ "java/lang/invoke/VarHandle" ∧ (parseMethodDescriptor y_Code_add.desc).map (fun d => d.parameters.length) = some 1 := by decide +kernel
theorem pd_Code_add : y_Code_add.cls = "LoopInduction$Code" ∧ y_Code_add.cls ≠ "java/lang/invoke/MethodHandle" ∧ y_Code_add.cls ≠ "java/lang/invoke/VarHandle" ∧ (parseMethodDescriptor y_Code_add.desc).map (fun d => d.parameters.length) = some 1 := by decide +kernel
abbrev b_Code_addVariable : ByteArray := prog_2_method_6_code
abbrev y_Code_addVariable : MethodName := ⟨"LoopInduction$Code", "addVariable", "(I)V"⟩
abbrev w_Code_addVariable : List Cond := .code y_Code_addVariable b_Code_addVariable 2 none :: allW
theorem pn_Code_addVariable : y_Code_addVariable.cls ≠ "java/lang/invoke/MethodHandle" ∧ y_Code_addVariable.cls ≠ "java/lang/invoke/VarHandle" ∧ (parseMethodDescriptor y_Code_addVariable.desc).map (fun d => d.parameters.length) = some 1 := by decide +kernel
theorem pd_Code_addVariable : y_Code_addVariable.cls = "LoopInduction$Code" ∧ y_Code_addVariable.cls ≠ "java/lang/invoke/MethodHandle" ∧ y_Code_addVariable.cls ≠ "java/lang/invoke/VarHandle" ∧ (parseMethodDescriptor y_Code_addVariable.desc).map (fun d => d.parameters.length) = some 1 := by decide +kernel
abbrev b_Code_push : ByteArray := prog_2_method_10_code
abbrev y_Code_push : MethodName := ⟨"LoopInduction$Code", "push", "(I)V"⟩
abbrev w_Code_push : List Cond := .code y_Code_push b_Code_push 2 none :: allW
theorem pn_Code_push : y_Code_push.cls ≠ "java/lang/invoke/MethodHandle" ∧ y_Code_push.cls ≠ "java/lang/invoke/VarHandle" ∧ (parseMethodDescriptor y_Code_push.desc).map (fun d => d.parameters.length) = some 1 := by decide +kernel
theorem pd_Code_push : y_Code_push.cls = "LoopInduction$Code" ∧ y_Code_push.cls ≠ "java/lang/invoke/MethodHandle" ∧ y_Code_push.cls ≠ "java/lang/invoke/VarHandle" ∧ (parseMethodDescriptor y_Code_push.desc).map (fun d => d.parameters.length) = some 1 := by decide +kernel
abbrev b_Code_pop : ByteArray := prog_2_method_11_code
abbrev y_Code_pop : MethodName := ⟨"LoopInduction$Code", "pop", "()I"⟩
abbrev w_Code_pop : List Cond := .code y_Code_pop b_Code_pop 1 (some .int) :: allW
theorem pn_Code_pop : y_Code_pop.cls ≠ "java/lang/invoke/MethodHandle" ∧ y_Code_pop.cls ≠ "java/lang/invoke/VarHandle" ∧ (parseMethodDescriptor y_Code_pop.desc).map (fun d => d.parameters.length) = some 0 := by decide +kernel
theorem pd_Code_pop : y_Code_pop.cls = "LoopInduction$Code" ∧ y_Code_pop.cls ≠ "java/lang/invoke/MethodHandle" ∧ y_Code_pop.cls ≠ "java/lang/invoke/VarHandle" ∧ (parseMethodDescriptor y_Code_pop.desc).map (fun d => d.parameters.length) = some 0 := by decide +kernel
abbrev b_Code_joined : ByteArray := prog_2_method_12_code
abbrev y_Code_joined : MethodName := ⟨"LoopInduction$Code", "joined", "(III)I"⟩
abbrev w_Code_joined : List Cond := .code y_Code_joined b_Code_joined 3 (some .int) :: allW
theorem pn_Code_joined : y_Code_joined.cls ≠ "java/lang/invoke/MethodHandle" ∧ y_Code_joined.cls ≠ "java/lang/invoke/VarHandle" ∧ (parseMethodDescriptor y_Code_joined.desc).map (fun d => d.parameters.length) = some 3 := by decide +kernel
theorem pd_Code_joined : y_Code_joined.cls = "LoopInduction$Code" ∧ y_Code_joined.cls ≠ "java/lang/invoke/MethodHandle" ∧ y_Code_joined.cls ≠ "java/lang/invoke/VarHandle" ∧ (parseMethodDescriptor y_Code_joined.desc).map (fun d => d.parameters.length) = some 3 := by decide +kernel
abbrev b_Code_valueIn : ByteArray := prog_2_method_9_code
abbrev y_Code_valueIn : MethodName := ⟨"LoopInduction$Code", "valueIn", "(III)I"⟩
abbrev w_Code_valueIn : List Cond := .code y_Code_valueIn b_Code_valueIn 7 (some .int) :: allW
theorem pn_Code_valueIn : y_Code_valueIn.cls ≠ "java/lang/invoke/MethodHandle" ∧ y_Code_valueIn.cls ≠ "java/lang/invoke/VarHandle" ∧ (parseMethodDescriptor y_Code_valueIn.desc).map (fun d => d.parameters.length) = some 3 := by decide +kernel
theorem pd_Code_valueIn : y_Code_valueIn.cls = "LoopInduction$Code" ∧ y_Code_valueIn.cls ≠ "java/lang/invoke/MethodHandle" ∧ y_Code_valueIn.cls ≠ "java/lang/invoke/VarHandle" ∧ (parseMethodDescriptor y_Code_valueIn.desc).map (fun d => d.parameters.length) = some 3 := by decide +kernel
abbrev b_Code_tabulate : ByteArray := prog_2_method_8_code
abbrev y_Code_tabulate : MethodName := ⟨"LoopInduction$Code", "tabulate", "(I[I)V"⟩
abbrev w_Code_tabulate : List Cond := .code y_Code_tabulate b_Code_tabulate 6 none :: allW
theorem pn_Code_tabulate : y_Code_tabulate.cls ≠ "java/lang/invoke/MethodHandle" ∧ y_Code_tabulate.cls ≠ "java/lang/invoke/VarHandle" ∧ (parseMethodDescriptor y_Code_tabulate.desc).map (fun d => d.parameters.length) = some 2 := by decide +kernel
theorem pd_Code_tabulate : y_Code_tabulate.cls = "LoopInduction$Code" ∧ y_Code_tabulate.cls ≠ "java/lang/invoke/MethodHandle" ∧ y_Code_tabulate.cls ≠ "java/lang/invoke/VarHandle" ∧ (parseMethodDescriptor y_Code_tabulate.desc).map (fun d => d.parameters.length) = some 2 := by decide +kernel
theorem d_Code_clear_0 : decode b_Code_clear 0 = .ok (.aload_n 0, 1) := by decide +kernel
theorem d_Code_clear_1 : decode b_Code_clear 1 = .ok (.iconst 0, 1) := by decide +kernel
theorem d_Code_clear_2 : decode b_Code_clear 2 = .ok (.putfield 29, 3) := by decide +kernel
theorem d_Code_clear_5 : decode b_Code_clear 5 = .ok (.aload_n 0, 1) := by decide +kernel
theorem d_Code_clear_6 : decode b_Code_clear 6 = .ok (.iconst 0, 1) := by decide +kernel
theorem d_Code_clear_7 : decode b_Code_clear 7 = .ok (.putfield 33, 3) := by decide +kernel
theorem d_Code_clear_10 : decode b_Code_clear 10 = .ok (.aload_n 0, 1) := by decide +kernel
theorem d_Code_clear_11 : decode b_Code_clear 11 = .ok (.getfield 17, 3) := by decide +kernel
theorem d_Code_clear_14 : decode b_Code_clear 14 = .ok (.iconst (-1), 1) := by decide +kernel
theorem d_Code_clear_15 : decode b_Code_clear 15 = .ok (.invokestatic 39, 3) := by decide +kernel
theorem d_Code_clear_18 : decode b_Code_clear 18 = .ok (.aload_n 0, 1) := by decide +kernel
theorem d_Code_clear_19 : decode b_Code_clear 19 = .ok (.getfield 20, 3) := by decide +kernel
theorem d_Code_clear_22 : decode b_Code_clear 22 = .ok (.iconst (-1), 1) := by decide +kernel
theorem d_Code_clear_23 : decode b_Code_clear 23 = .ok (.invokestatic 39, 3) := by decide +kernel
theorem d_Code_clear_26 : decode b_Code_clear 26 = .ok (.aload_n 0, 1) := by decide +kernel
theorem d_Code_clear_27 : decode b_Code_clear 27 = .ok (.getfield 23, 3) := by decide +kernel
theorem d_Code_clear_30 : decode b_Code_clear 30 = .ok (.iconst 0, 1) := by decide +kernel
theorem d_Code_clear_31 : decode b_Code_clear 31 = .ok (.invokestatic 39, 3) := by decide +kernel
theorem d_Code_clear_34 : decode b_Code_clear 34 = .ok (.return_, 1) := by decide +kernel
theorem d_Code_open_0 : decode b_Code_open 0 = .ok (.iload_n 1, 1) := by decide +kernel
theorem d_Code_open_1 : decode b_Code_open 1 = .ok (.ifCond .lt 27, 3) := by decide +kernel
theorem d_Code_open_4 : decode b_Code_open 4 = .ok (.iload_n 1, 1) := by decide +kernel
theorem d_Code_open_5 : decode b_Code_open 5 = .ok (.bipush 39, 2) := by decide +kernel
theorem d_Code_open_7 : decode b_Code_open 7 = .ok (.if_icmp .ge 21, 3) := by decide +kernel
theorem d_Code_open_10 : decode b_Code_open 10 = .ok (.aload_n 0, 1) := by decide +kernel
theorem d_Code_open_11 : decode b_Code_open 11 = .ok (.iload_n 1, 1) := by decide +kernel
theorem d_Code_open_12 : decode b_Code_open 12 = .ok (.putfield 33, 3) := by decide +kernel
theorem d_Code_open_15 : decode b_Code_open 15 = .ok (.aload_n 0, 1) := by decide +kernel
theorem d_Code_open_16 : decode b_Code_open 16 = .ok (.getfield 17, 3) := by decide +kernel
theorem d_Code_open_19 : decode b_Code_open 19 = .ok (.aload_n 0, 1) := by decide +kernel
theorem d_Code_open_20 : decode b_Code_open 20 = .ok (.getfield 33, 3) := by decide +kernel
theorem d_Code_open_23 : decode b_Code_open 23 = .ok (.aload_n 0, 1) := by decide +kernel
theorem d_Code_open_24 : decode b_Code_open 24 = .ok (.getfield 29, 3) := by decide +kernel
theorem d_Code_open_27 : decode b_Code_open 27 = .ok (.iastore, 1) := by decide +kernel
theorem d_Code_open_28 : decode b_Code_open 28 = .ok (.return_, 1) := by decide +kernel
theorem d_Code_close_0 : decode b_Code_close 0 = .ok (.aload_n 0, 1) := by decide +kernel
theorem d_Code_close_1 : decode b_Code_close 1 = .ok (.getfield 20, 3) := by decide +kernel
theorem d_Code_close_4 : decode b_Code_close 4 = .ok (.aload_n 0, 1) := by decide +kernel
theorem d_Code_close_5 : decode b_Code_close 5 = .ok (.getfield 33, 3) := by decide +kernel
theorem d_Code_close_8 : decode b_Code_close 8 = .ok (.aload_n 0, 1) := by decide +kernel
theorem d_Code_close_9 : decode b_Code_close 9 = .ok (.getfield 29, 3) := by decide +kernel
theorem d_Code_close_12 : decode b_Code_close 12 = .ok (.iastore, 1) := by decide +kernel
theorem d_Code_close_13 : decode b_Code_close 13 = .ok (.return_, 1) := by decide +kernel
theorem d_Code_isTold_0 : decode b_Code_isTold 0 = .ok (.iload_n 1, 1) := by decide +kernel
theorem d_Code_isTold_1 : decode b_Code_isTold 1 = .ok (.ifCond .lt 23, 3) := by decide +kernel
theorem d_Code_isTold_4 : decode b_Code_isTold 4 = .ok (.iload_n 1, 1) := by decide +kernel
theorem d_Code_isTold_5 : decode b_Code_isTold 5 = .ok (.bipush 39, 2) := by decide +kernel
theorem d_Code_isTold_7 : decode b_Code_isTold 7 = .ok (.if_icmp .ge 17, 3) := by decide +kernel
theorem d_Code_isTold_10 : decode b_Code_isTold 10 = .ok (.aload_n 0, 1) := by decide +kernel
theorem d_Code_isTold_11 : decode b_Code_isTold 11 = .ok (.getfield 17, 3) := by decide +kernel
theorem d_Code_isTold_14 : decode b_Code_isTold 14 = .ok (.iload_n 1, 1) := by decide +kernel
theorem d_Code_isTold_15 : decode b_Code_isTold 15 = .ok (.iaload, 1) := by decide +kernel
theorem d_Code_isTold_16 : decode b_Code_isTold 16 = .ok (.iconst (-1), 1) := by decide +kernel
theorem d_Code_isTold_17 : decode b_Code_isTold 17 = .ok (.if_icmp .eq 7, 3) := by decide +kernel
theorem d_Code_isTold_20 : decode b_Code_isTold 20 = .ok (.iconst 1, 1) := by decide +kernel
theorem d_Code_isTold_21 : decode b_Code_isTold 21 = .ok (.goto 4, 3) := by decide +kernel
theorem d_Code_isTold_24 : decode b_Code_isTold 24 = .ok (.iconst 0, 1) := by decide +kernel
theorem d_Code_isTold_25 : decode b_Code_isTold 25 = .ok (.ireturn, 1) := by decide +kernel
theorem d_Code_add_0 : decode b_Code_add 0 = .ok (.aload_n 0, 1) := by decide +kernel
theorem d_Code_add_1 : decode b_Code_add 1 = .ok (.getfield 29, 3) := by decide +kernel
theorem d_Code_add_4 : decode b_Code_add 4 = .ok (.aload_n 0, 1) := by decide +kernel
theorem d_Code_add_5 : decode b_Code_add 5 = .ok (.getfield 13, 3) := by decide +kernel
theorem d_Code_add_8 : decode b_Code_add 8 = .ok (.arraylength, 1) := by decide +kernel
theorem d_Code_add_9 : decode b_Code_add 9 = .ok (.if_icmp .ge 23, 3) := by decide +kernel
theorem d_Code_add_12 : decode b_Code_add 12 = .ok (.aload_n 0, 1) := by decide +kernel
theorem d_Code_add_13 : decode b_Code_add 13 = .ok (.getfield 13, 3) := by decide +kernel
theorem d_Code_add_16 : decode b_Code_add 16 = .ok (.aload_n 0, 1) := by decide +kernel
theorem d_Code_add_17 : decode b_Code_add 17 = .ok (.getfield 29, 3) := by decide +kernel
theorem d_Code_add_20 : decode b_Code_add 20 = .ok (.iload_n 1, 1) := by decide +kernel
theorem d_Code_add_21 : decode b_Code_add 21 = .ok (.iastore, 1) := by decide +kernel
theorem d_Code_add_22 : decode b_Code_add 22 = .ok (.aload_n 0, 1) := by decide +kernel
theorem d_Code_add_23 : decode b_Code_add 23 = .ok (.dup, 1) := by decide +kernel
theorem d_Code_add_24 : decode b_Code_add 24 = .ok (.getfield 29, 3) := by decide +kernel
theorem d_Code_add_27 : decode b_Code_add 27 = .ok (.iconst 1, 1) := by decide +kernel
theorem d_Code_add_28 : decode b_Code_add 28 = .ok (.iadd, 1) := by decide +kernel
theorem d_Code_add_29 : decode b_Code_add 29 = .ok (.putfield 29, 3) := by decide +kernel
theorem d_Code_add_32 : decode b_Code_add 32 = .ok (.return_, 1) := by decide +kernel
theorem d_Code_addVariable_0 : decode b_Code_addVariable 0 = .ok (.aload_n 0, 1) := by decide +kernel
theorem d_Code_addVariable_1 : decode b_Code_addVariable 1 = .ok (.getfield 23, 3) := by decide +kernel
theorem d_Code_addVariable_4 : decode b_Code_addVariable 4 = .ok (.aload_n 0, 1) := by decide +kernel
theorem d_Code_addVariable_5 : decode b_Code_addVariable 5 = .ok (.getfield 33, 3) := by decide +kernel
theorem d_Code_addVariable_8 : decode b_Code_addVariable 8 = .ok (.dup2, 1) := by decide +kernel
theorem d_Code_addVariable_9 : decode b_Code_addVariable 9 = .ok (.iaload, 1) := by decide +kernel
theorem d_Code_addVariable_10 : decode b_Code_addVariable 10 = .ok (.bipush 15, 2) := by decide +kernel
theorem d_Code_addVariable_12 : decode b_Code_addVariable 12 = .ok (.iconst 4, 1) := by decide +kernel
theorem d_Code_addVariable_13 : decode b_Code_addVariable 13 = .ok (.iload_n 1, 1) := by decide +kernel
theorem d_Code_addVariable_14 : decode b_Code_addVariable 14 = .ok (.imul, 1) := by decide +kernel
theorem d_Code_addVariable_15 : decode b_Code_addVariable 15 = .ok (.ishl, 1) := by decide +kernel
theorem d_Code_addVariable_16 : decode b_Code_addVariable 16 = .ok (.ior, 1) := by decide +kernel
theorem d_Code_addVariable_17 : decode b_Code_addVariable 17 = .ok (.iastore, 1) := by decide +kernel
theorem d_Code_addVariable_18 : decode b_Code_addVariable 18 = .ok (.aload_n 0, 1) := by decide +kernel
theorem d_Code_addVariable_19 : decode b_Code_addVariable 19 = .ok (.bipush 16, 2) := by decide +kernel
theorem d_Code_addVariable_21 : decode b_Code_addVariable 21 = .ok (.iload_n 1, 1) := by decide +kernel
theorem d_Code_addVariable_22 : decode b_Code_addVariable 22 = .ok (.iadd, 1) := by decide +kernel
theorem d_Code_addVariable_23 : decode b_Code_addVariable 23 = .ok (.invokevirtual 45, 3) := by decide +kernel
theorem d_Code_addVariable_26 : decode b_Code_addVariable 26 = .ok (.return_, 1) := by decide +kernel
theorem d_Code_push_0 : decode b_Code_push 0 = .ok (.aload_n 0, 1) := by decide +kernel
theorem d_Code_push_1 : decode b_Code_push 1 = .ok (.getfield 36, 3) := by decide +kernel
theorem d_Code_push_4 : decode b_Code_push 4 = .ok (.aload_n 0, 1) := by decide +kernel
theorem d_Code_push_5 : decode b_Code_push 5 = .ok (.getfield 26, 3) := by decide +kernel
theorem d_Code_push_8 : decode b_Code_push 8 = .ok (.arraylength, 1) := by decide +kernel
theorem d_Code_push_9 : decode b_Code_push 9 = .ok (.if_icmp .ge 23, 3) := by decide +kernel
theorem d_Code_push_12 : decode b_Code_push 12 = .ok (.aload_n 0, 1) := by decide +kernel
theorem d_Code_push_13 : decode b_Code_push 13 = .ok (.getfield 26, 3) := by decide +kernel
theorem d_Code_push_16 : decode b_Code_push 16 = .ok (.aload_n 0, 1) := by decide +kernel
theorem d_Code_push_17 : decode b_Code_push 17 = .ok (.getfield 36, 3) := by decide +kernel
theorem d_Code_push_20 : decode b_Code_push 20 = .ok (.iload_n 1, 1) := by decide +kernel
theorem d_Code_push_21 : decode b_Code_push 21 = .ok (.iastore, 1) := by decide +kernel
theorem d_Code_push_22 : decode b_Code_push 22 = .ok (.aload_n 0, 1) := by decide +kernel
theorem d_Code_push_23 : decode b_Code_push 23 = .ok (.dup, 1) := by decide +kernel
theorem d_Code_push_24 : decode b_Code_push 24 = .ok (.getfield 36, 3) := by decide +kernel
theorem d_Code_push_27 : decode b_Code_push 27 = .ok (.iconst 1, 1) := by decide +kernel
theorem d_Code_push_28 : decode b_Code_push 28 = .ok (.iadd, 1) := by decide +kernel
theorem d_Code_push_29 : decode b_Code_push 29 = .ok (.putfield 36, 3) := by decide +kernel
theorem d_Code_push_32 : decode b_Code_push 32 = .ok (.return_, 1) := by decide +kernel
theorem d_Code_pop_0 : decode b_Code_pop 0 = .ok (.aload_n 0, 1) := by decide +kernel
theorem d_Code_pop_1 : decode b_Code_pop 1 = .ok (.getfield 36, 3) := by decide +kernel
theorem d_Code_pop_4 : decode b_Code_pop 4 = .ok (.ifCond .gt 5, 3) := by decide +kernel
theorem d_Code_pop_7 : decode b_Code_pop 7 = .ok (.iconst 0, 1) := by decide +kernel
theorem d_Code_pop_8 : decode b_Code_pop 8 = .ok (.ireturn, 1) := by decide +kernel
theorem d_Code_pop_9 : decode b_Code_pop 9 = .ok (.aload_n 0, 1) := by decide +kernel
theorem d_Code_pop_10 : decode b_Code_pop 10 = .ok (.dup, 1) := by decide +kernel
theorem d_Code_pop_11 : decode b_Code_pop 11 = .ok (.getfield 36, 3) := by decide +kernel
theorem d_Code_pop_14 : decode b_Code_pop 14 = .ok (.iconst 1, 1) := by decide +kernel
theorem d_Code_pop_15 : decode b_Code_pop 15 = .ok (.isub, 1) := by decide +kernel
theorem d_Code_pop_16 : decode b_Code_pop 16 = .ok (.putfield 36, 3) := by decide +kernel
theorem d_Code_pop_19 : decode b_Code_pop 19 = .ok (.aload_n 0, 1) := by decide +kernel
theorem d_Code_pop_20 : decode b_Code_pop 20 = .ok (.getfield 26, 3) := by decide +kernel
theorem d_Code_pop_23 : decode b_Code_pop 23 = .ok (.aload_n 0, 1) := by decide +kernel
theorem d_Code_pop_24 : decode b_Code_pop 24 = .ok (.getfield 36, 3) := by decide +kernel
theorem d_Code_pop_27 : decode b_Code_pop 27 = .ok (.iaload, 1) := by decide +kernel
theorem d_Code_pop_28 : decode b_Code_pop 28 = .ok (.ireturn, 1) := by decide +kernel
theorem d_Code_joined_0 : decode b_Code_joined 0 = .ok (.iload_n 0, 1) := by decide +kernel
theorem d_Code_joined_1 : decode b_Code_joined 1 = .ok (.lookupswitch 125 #[(35, 110), (42, 81), (43, 67), (45, 74), (60, 88), (61, 99), (267, 121)], 67) := by decide +kernel
theorem d_Code_joined_68 : decode b_Code_joined 68 = .ok (.iload_n 1, 1) := by decide +kernel
theorem d_Code_joined_69 : decode b_Code_joined 69 = .ok (.iload_n 2, 1) := by decide +kernel
theorem d_Code_joined_70 : decode b_Code_joined 70 = .ok (.iadd, 1) := by decide +kernel
theorem d_Code_joined_71 : decode b_Code_joined 71 = .ok (.bipush 15, 2) := by decide +kernel
theorem d_Code_joined_73 : decode b_Code_joined 73 = .ok (.iand, 1) := by decide +kernel
theorem d_Code_joined_74 : decode b_Code_joined 74 = .ok (.ireturn, 1) := by decide +kernel
theorem d_Code_joined_75 : decode b_Code_joined 75 = .ok (.iload_n 1, 1) := by decide +kernel
theorem d_Code_joined_76 : decode b_Code_joined 76 = .ok (.iload_n 2, 1) := by decide +kernel
theorem d_Code_joined_77 : decode b_Code_joined 77 = .ok (.isub, 1) := by decide +kernel
theorem d_Code_joined_78 : decode b_Code_joined 78 = .ok (.bipush 15, 2) := by decide +kernel
theorem d_Code_joined_80 : decode b_Code_joined 80 = .ok (.iand, 1) := by decide +kernel
theorem d_Code_joined_81 : decode b_Code_joined 81 = .ok (.ireturn, 1) := by decide +kernel
theorem d_Code_joined_82 : decode b_Code_joined 82 = .ok (.iload_n 1, 1) := by decide +kernel
theorem d_Code_joined_83 : decode b_Code_joined 83 = .ok (.iload_n 2, 1) := by decide +kernel
theorem d_Code_joined_84 : decode b_Code_joined 84 = .ok (.imul, 1) := by decide +kernel
theorem d_Code_joined_85 : decode b_Code_joined 85 = .ok (.bipush 15, 2) := by decide +kernel
theorem d_Code_joined_87 : decode b_Code_joined 87 = .ok (.iand, 1) := by decide +kernel
theorem d_Code_joined_88 : decode b_Code_joined 88 = .ok (.ireturn, 1) := by decide +kernel
theorem d_Code_joined_89 : decode b_Code_joined 89 = .ok (.iload_n 1, 1) := by decide +kernel
theorem d_Code_joined_90 : decode b_Code_joined 90 = .ok (.iload_n 2, 1) := by decide +kernel
theorem d_Code_joined_91 : decode b_Code_joined 91 = .ok (.if_icmp .ge 7, 3) := by decide +kernel
theorem d_Code_joined_94 : decode b_Code_joined 94 = .ok (.iconst 1, 1) := by decide +kernel
theorem d_Code_joined_95 : decode b_Code_joined 95 = .ok (.goto 4, 3) := by decide +kernel
theorem d_Code_joined_98 : decode b_Code_joined 98 = .ok (.iconst 0, 1) := by decide +kernel
theorem d_Code_joined_99 : decode b_Code_joined 99 = .ok (.ireturn, 1) := by decide +kernel
theorem d_Code_joined_100 : decode b_Code_joined 100 = .ok (.iload_n 1, 1) := by decide +kernel
theorem d_Code_joined_101 : decode b_Code_joined 101 = .ok (.iload_n 2, 1) := by decide +kernel
theorem d_Code_joined_102 : decode b_Code_joined 102 = .ok (.if_icmp .ne 7, 3) := by decide +kernel
theorem d_Code_joined_105 : decode b_Code_joined 105 = .ok (.iconst 1, 1) := by decide +kernel
theorem d_Code_joined_106 : decode b_Code_joined 106 = .ok (.goto 4, 3) := by decide +kernel
theorem d_Code_joined_109 : decode b_Code_joined 109 = .ok (.iconst 0, 1) := by decide +kernel
theorem d_Code_joined_110 : decode b_Code_joined 110 = .ok (.ireturn, 1) := by decide +kernel
theorem d_Code_joined_111 : decode b_Code_joined 111 = .ok (.iload_n 1, 1) := by decide +kernel
theorem d_Code_joined_112 : decode b_Code_joined 112 = .ok (.iload_n 2, 1) := by decide +kernel
theorem d_Code_joined_113 : decode b_Code_joined 113 = .ok (.if_icmp .eq 7, 3) := by decide +kernel
theorem d_Code_joined_116 : decode b_Code_joined 116 = .ok (.iconst 1, 1) := by decide +kernel
theorem d_Code_joined_117 : decode b_Code_joined 117 = .ok (.goto 4, 3) := by decide +kernel
theorem d_Code_joined_120 : decode b_Code_joined 120 = .ok (.iconst 0, 1) := by decide +kernel
theorem d_Code_joined_121 : decode b_Code_joined 121 = .ok (.ireturn, 1) := by decide +kernel
theorem d_Code_joined_122 : decode b_Code_joined 122 = .ok (.iload_n 1, 1) := by decide +kernel
theorem d_Code_joined_123 : decode b_Code_joined 123 = .ok (.iload_n 2, 1) := by decide +kernel
theorem d_Code_joined_124 : decode b_Code_joined 124 = .ok (.iand, 1) := by decide +kernel
theorem d_Code_joined_125 : decode b_Code_joined 125 = .ok (.ireturn, 1) := by decide +kernel
theorem d_Code_joined_126 : decode b_Code_joined 126 = .ok (.iload_n 1, 1) := by decide +kernel
theorem d_Code_joined_127 : decode b_Code_joined 127 = .ok (.iload_n 2, 1) := by decide +kernel
theorem d_Code_joined_128 : decode b_Code_joined 128 = .ok (.ior, 1) := by decide +kernel
theorem d_Code_joined_129 : decode b_Code_joined 129 = .ok (.ireturn, 1) := by decide +kernel
theorem d_Code_valueIn_0 : decode b_Code_valueIn 0 = .ok (.aload_n 0, 1) := by decide +kernel
theorem d_Code_valueIn_1 : decode b_Code_valueIn 1 = .ok (.iconst 0, 1) := by decide +kernel
theorem d_Code_valueIn_2 : decode b_Code_valueIn 2 = .ok (.putfield 36, 3) := by decide +kernel
theorem d_Code_valueIn_5 : decode b_Code_valueIn 5 = .ok (.iload_n 2, 1) := by decide +kernel
theorem d_Code_valueIn_6 : decode b_Code_valueIn 6 = .ok (.istore 4, 2) := by decide +kernel
theorem d_Code_valueIn_8 : decode b_Code_valueIn 8 = .ok (.iload 4, 2) := by decide +kernel
theorem d_Code_valueIn_10 : decode b_Code_valueIn 10 = .ok (.ifCond .lt 141, 3) := by decide +kernel
theorem d_Code_valueIn_13 : decode b_Code_valueIn 13 = .ok (.iload 4, 2) := by decide +kernel
theorem d_Code_valueIn_15 : decode b_Code_valueIn 15 = .ok (.iload_n 3, 1) := by decide +kernel
theorem d_Code_valueIn_16 : decode b_Code_valueIn 16 = .ok (.if_icmp .ge 135, 3) := by decide +kernel
theorem d_Code_valueIn_19 : decode b_Code_valueIn 19 = .ok (.iload 4, 2) := by decide +kernel
theorem d_Code_valueIn_21 : decode b_Code_valueIn 21 = .ok (.aload_n 0, 1) := by decide +kernel
theorem d_Code_valueIn_22 : decode b_Code_valueIn 22 = .ok (.getfield 13, 3) := by decide +kernel
theorem d_Code_valueIn_25 : decode b_Code_valueIn 25 = .ok (.arraylength, 1) := by decide +kernel
theorem d_Code_valueIn_26 : decode b_Code_valueIn 26 = .ok (.if_icmp .ge 125, 3) := by decide +kernel
theorem d_Code_valueIn_29 : decode b_Code_valueIn 29 = .ok (.aload_n 0, 1) := by decide +kernel
theorem d_Code_valueIn_30 : decode b_Code_valueIn 30 = .ok (.getfield 13, 3) := by decide +kernel
theorem d_Code_valueIn_33 : decode b_Code_valueIn 33 = .ok (.iload 4, 2) := by decide +kernel
theorem d_Code_valueIn_35 : decode b_Code_valueIn 35 = .ok (.iaload, 1) := by decide +kernel
theorem d_Code_valueIn_36 : decode b_Code_valueIn 36 = .ok (.istore 5, 2) := by decide +kernel
theorem d_Code_valueIn_38 : decode b_Code_valueIn 38 = .ok (.iload 5, 2) := by decide +kernel
theorem d_Code_valueIn_40 : decode b_Code_valueIn 40 = .ok (.bipush 16, 2) := by decide +kernel
theorem d_Code_valueIn_42 : decode b_Code_valueIn 42 = .ok (.if_icmp .ge 12, 3) := by decide +kernel
theorem d_Code_valueIn_45 : decode b_Code_valueIn 45 = .ok (.aload_n 0, 1) := by decide +kernel
theorem d_Code_valueIn_46 : decode b_Code_valueIn 46 = .ok (.iload 5, 2) := by decide +kernel
theorem d_Code_valueIn_48 : decode b_Code_valueIn 48 = .ok (.invokevirtual 57, 3) := by decide +kernel
theorem d_Code_valueIn_51 : decode b_Code_valueIn 51 = .ok (.goto 94, 3) := by decide +kernel
theorem d_Code_valueIn_54 : decode b_Code_valueIn 54 = .ok (.iload 5, 2) := by decide +kernel
theorem d_Code_valueIn_56 : decode b_Code_valueIn 56 = .ok (.bipush 19, 2) := by decide +kernel
theorem d_Code_valueIn_58 : decode b_Code_valueIn 58 = .ok (.if_icmp .ge 22, 3) := by decide +kernel
theorem d_Code_valueIn_61 : decode b_Code_valueIn 61 = .ok (.aload_n 0, 1) := by decide +kernel
theorem d_Code_valueIn_62 : decode b_Code_valueIn 62 = .ok (.iload_n 1, 1) := by decide +kernel
theorem d_Code_valueIn_63 : decode b_Code_valueIn 63 = .ok (.iconst 4, 1) := by decide +kernel
theorem d_Code_valueIn_64 : decode b_Code_valueIn 64 = .ok (.iload 5, 2) := by decide +kernel
theorem d_Code_valueIn_66 : decode b_Code_valueIn 66 = .ok (.bipush 16, 2) := by decide +kernel
theorem d_Code_valueIn_68 : decode b_Code_valueIn 68 = .ok (.isub, 1) := by decide +kernel
theorem d_Code_valueIn_69 : decode b_Code_valueIn 69 = .ok (.imul, 1) := by decide +kernel
theorem d_Code_valueIn_70 : decode b_Code_valueIn 70 = .ok (.ishr, 1) := by decide +kernel
theorem d_Code_valueIn_71 : decode b_Code_valueIn 71 = .ok (.bipush 15, 2) := by decide +kernel
theorem d_Code_valueIn_73 : decode b_Code_valueIn 73 = .ok (.iand, 1) := by decide +kernel
theorem d_Code_valueIn_74 : decode b_Code_valueIn 74 = .ok (.invokevirtual 57, 3) := by decide +kernel
theorem d_Code_valueIn_77 : decode b_Code_valueIn 77 = .ok (.goto 68, 3) := by decide +kernel
theorem d_Code_valueIn_80 : decode b_Code_valueIn 80 = .ok (.iload 5, 2) := by decide +kernel
theorem d_Code_valueIn_82 : decode b_Code_valueIn 82 = .ok (.sipush 300, 3) := by decide +kernel
theorem d_Code_valueIn_85 : decode b_Code_valueIn 85 = .ok (.if_icmp .ne 18, 3) := by decide +kernel
theorem d_Code_valueIn_88 : decode b_Code_valueIn 88 = .ok (.aload_n 0, 1) := by decide +kernel
theorem d_Code_valueIn_89 : decode b_Code_valueIn 89 = .ok (.aload_n 0, 1) := by decide +kernel
theorem d_Code_valueIn_90 : decode b_Code_valueIn 90 = .ok (.invokevirtual 60, 3) := by decide +kernel
theorem d_Code_valueIn_93 : decode b_Code_valueIn 93 = .ok (.ineg, 1) := by decide +kernel
theorem d_Code_valueIn_94 : decode b_Code_valueIn 94 = .ok (.bipush 15, 2) := by decide +kernel
theorem d_Code_valueIn_96 : decode b_Code_valueIn 96 = .ok (.iand, 1) := by decide +kernel
theorem d_Code_valueIn_97 : decode b_Code_valueIn 97 = .ok (.invokevirtual 57, 3) := by decide +kernel
theorem d_Code_valueIn_100 : decode b_Code_valueIn 100 = .ok (.goto 45, 3) := by decide +kernel
theorem d_Code_valueIn_103 : decode b_Code_valueIn 103 = .ok (.iload 5, 2) := by decide +kernel
theorem d_Code_valueIn_105 : decode b_Code_valueIn 105 = .ok (.sipush 268, 3) := by decide +kernel
theorem d_Code_valueIn_108 : decode b_Code_valueIn 108 = .ok (.if_icmp .ne 16, 3) := by decide +kernel
theorem d_Code_valueIn_111 : decode b_Code_valueIn 111 = .ok (.aload_n 0, 1) := by decide +kernel
theorem d_Code_valueIn_112 : decode b_Code_valueIn 112 = .ok (.iconst 1, 1) := by decide +kernel
theorem d_Code_valueIn_113 : decode b_Code_valueIn 113 = .ok (.aload_n 0, 1) := by decide +kernel
theorem d_Code_valueIn_114 : decode b_Code_valueIn 114 = .ok (.invokevirtual 60, 3) := by decide +kernel
theorem d_Code_valueIn_117 : decode b_Code_valueIn 117 = .ok (.isub, 1) := by decide +kernel
theorem d_Code_valueIn_118 : decode b_Code_valueIn 118 = .ok (.invokevirtual 57, 3) := by decide +kernel
theorem d_Code_valueIn_121 : decode b_Code_valueIn 121 = .ok (.goto 24, 3) := by decide +kernel
theorem d_Code_valueIn_124 : decode b_Code_valueIn 124 = .ok (.aload_n 0, 1) := by decide +kernel
theorem d_Code_valueIn_125 : decode b_Code_valueIn 125 = .ok (.invokevirtual 60, 3) := by decide +kernel
theorem d_Code_valueIn_128 : decode b_Code_valueIn 128 = .ok (.istore 6, 2) := by decide +kernel
theorem d_Code_valueIn_130 : decode b_Code_valueIn 130 = .ok (.aload_n 0, 1) := by decide +kernel
theorem d_Code_valueIn_131 : decode b_Code_valueIn 131 = .ok (.iload 5, 2) := by decide +kernel
theorem d_Code_valueIn_133 : decode b_Code_valueIn 133 = .ok (.aload_n 0, 1) := by decide +kernel
theorem d_Code_valueIn_134 : decode b_Code_valueIn 134 = .ok (.invokevirtual 60, 3) := by decide +kernel
theorem d_Code_valueIn_137 : decode b_Code_valueIn 137 = .ok (.iload 6, 2) := by decide +kernel
theorem d_Code_valueIn_139 : decode b_Code_valueIn 139 = .ok (.invokestatic 66, 3) := by decide +kernel
theorem d_Code_valueIn_142 : decode b_Code_valueIn 142 = .ok (.invokevirtual 57, 3) := by decide +kernel
theorem d_Code_valueIn_145 : decode b_Code_valueIn 145 = .ok (.iinc 4 1, 3) := by decide +kernel
theorem d_Code_valueIn_148 : decode b_Code_valueIn 148 = .ok (.goto (-140), 3) := by decide +kernel
theorem d_Code_valueIn_151 : decode b_Code_valueIn 151 = .ok (.aload_n 0, 1) := by decide +kernel
theorem d_Code_valueIn_152 : decode b_Code_valueIn 152 = .ok (.invokevirtual 60, 3) := by decide +kernel
theorem d_Code_valueIn_155 : decode b_Code_valueIn 155 = .ok (.ireturn, 1) := by decide +kernel
theorem d_Code_tabulate_0 : decode b_Code_tabulate 0 = .ok (.aload_n 0, 1) := by decide +kernel
theorem d_Code_tabulate_1 : decode b_Code_tabulate 1 = .ok (.iload_n 1, 1) := by decide +kernel
theorem d_Code_tabulate_2 : decode b_Code_tabulate 2 = .ok (.invokevirtual 49, 3) := by decide +kernel
theorem d_Code_tabulate_5 : decode b_Code_tabulate 5 = .ok (.ifCond .ne 4, 3) := by decide +kernel
theorem d_Code_tabulate_8 : decode b_Code_tabulate 8 = .ok (.return_, 1) := by decide +kernel
theorem d_Code_tabulate_9 : decode b_Code_tabulate 9 = .ok (.aload_n 0, 1) := by decide +kernel
theorem d_Code_tabulate_10 : decode b_Code_tabulate 10 = .ok (.getfield 23, 3) := by decide +kernel
theorem d_Code_tabulate_13 : decode b_Code_tabulate 13 = .ok (.iload_n 1, 1) := by decide +kernel
theorem d_Code_tabulate_14 : decode b_Code_tabulate 14 = .ok (.iaload, 1) := by decide +kernel
theorem d_Code_tabulate_15 : decode b_Code_tabulate 15 = .ok (.istore_n 3, 1) := by decide +kernel
theorem d_Code_tabulate_16 : decode b_Code_tabulate 16 = .ok (.iconst 0, 1) := by decide +kernel
theorem d_Code_tabulate_17 : decode b_Code_tabulate 17 = .ok (.istore 4, 2) := by decide +kernel
theorem d_Code_tabulate_19 : decode b_Code_tabulate 19 = .ok (.iload 4, 2) := by decide +kernel
theorem d_Code_tabulate_21 : decode b_Code_tabulate 21 = .ok (.sipush 4096, 3) := by decide +kernel
theorem d_Code_tabulate_24 : decode b_Code_tabulate 24 = .ok (.if_icmp .ge 58, 3) := by decide +kernel
theorem d_Code_tabulate_27 : decode b_Code_tabulate 27 = .ok (.iload 4, 2) := by decide +kernel
theorem d_Code_tabulate_29 : decode b_Code_tabulate 29 = .ok (.aload_n 2, 1) := by decide +kernel
theorem d_Code_tabulate_30 : decode b_Code_tabulate 30 = .ok (.arraylength, 1) := by decide +kernel
theorem d_Code_tabulate_31 : decode b_Code_tabulate 31 = .ok (.if_icmp .ge 51, 3) := by decide +kernel
theorem d_Code_tabulate_34 : decode b_Code_tabulate 34 = .ok (.iload 4, 2) := by decide +kernel
theorem d_Code_tabulate_36 : decode b_Code_tabulate 36 = .ok (.iload_n 3, 1) := by decide +kernel
theorem d_Code_tabulate_37 : decode b_Code_tabulate 37 = .ok (.iand, 1) := by decide +kernel
theorem d_Code_tabulate_38 : decode b_Code_tabulate 38 = .ok (.istore 5, 2) := by decide +kernel
theorem d_Code_tabulate_40 : decode b_Code_tabulate 40 = .ok (.aload_n 2, 1) := by decide +kernel
theorem d_Code_tabulate_41 : decode b_Code_tabulate 41 = .ok (.iload 4, 2) := by decide +kernel
theorem d_Code_tabulate_43 : decode b_Code_tabulate 43 = .ok (.iload 5, 2) := by decide +kernel
theorem d_Code_tabulate_45 : decode b_Code_tabulate 45 = .ok (.iload 4, 2) := by decide +kernel
theorem d_Code_tabulate_47 : decode b_Code_tabulate 47 = .ok (.if_icmp .ge 10, 3) := by decide +kernel
theorem d_Code_tabulate_50 : decode b_Code_tabulate 50 = .ok (.aload_n 2, 1) := by decide +kernel
theorem d_Code_tabulate_51 : decode b_Code_tabulate 51 = .ok (.iload 5, 2) := by decide +kernel
theorem d_Code_tabulate_53 : decode b_Code_tabulate 53 = .ok (.iaload, 1) := by decide +kernel
theorem d_Code_tabulate_54 : decode b_Code_tabulate 54 = .ok (.goto 21, 3) := by decide +kernel
theorem d_Code_tabulate_57 : decode b_Code_tabulate 57 = .ok (.aload_n 0, 1) := by decide +kernel
theorem d_Code_tabulate_58 : decode b_Code_tabulate 58 = .ok (.iload 4, 2) := by decide +kernel
theorem d_Code_tabulate_60 : decode b_Code_tabulate 60 = .ok (.aload_n 0, 1) := by decide +kernel
theorem d_Code_tabulate_61 : decode b_Code_tabulate 61 = .ok (.getfield 17, 3) := by decide +kernel
theorem d_Code_tabulate_64 : decode b_Code_tabulate 64 = .ok (.iload_n 1, 1) := by decide +kernel
theorem d_Code_tabulate_65 : decode b_Code_tabulate 65 = .ok (.iaload, 1) := by decide +kernel
theorem d_Code_tabulate_66 : decode b_Code_tabulate 66 = .ok (.aload_n 0, 1) := by decide +kernel
theorem d_Code_tabulate_67 : decode b_Code_tabulate 67 = .ok (.getfield 20, 3) := by decide +kernel
theorem d_Code_tabulate_70 : decode b_Code_tabulate 70 = .ok (.iload_n 1, 1) := by decide +kernel
theorem d_Code_tabulate_71 : decode b_Code_tabulate 71 = .ok (.iaload, 1) := by decide +kernel
theorem d_Code_tabulate_72 : decode b_Code_tabulate 72 = .ok (.invokevirtual 53, 3) := by decide +kernel
theorem d_Code_tabulate_75 : decode b_Code_tabulate 75 = .ok (.iastore, 1) := by decide +kernel
theorem d_Code_tabulate_76 : decode b_Code_tabulate 76 = .ok (.iinc 4 1, 3) := by decide +kernel
theorem d_Code_tabulate_79 : decode b_Code_tabulate 79 = .ok (.goto (-60), 3) := by decide +kernel
theorem d_Code_tabulate_82 : decode b_Code_tabulate 82 = .ok (.return_, 1) := by decide +kernel
set_option maxHeartbeats 4000000 in
set_option maxRecDepth 100000 in
theorem c_Code_clear (l : Launch) (dC : Nat → ClassId) (dI : Nat → Nat → Nat) (cI cB cZ : ClassId) (adK adV : Nat → Nat) (sz : Nat) (a_cd a_cd_steps a_cd_starts a_cd_stops a_cd_used a_cd_stack : Nat) (cd_size : Int32) (cd_section : Int32) (cd_height : Int32) (cd_starts : Nat → Int32) (cd_stops : Nat → Int32) (cd_used : Nat → Int32) (post : Int32 → Int32 → (Nat → Int32) → (Nat → Int32) → (Nat → Int32) → Prop) (h : wp_Code_clear cd_size cd_section cd_starts cd_stops cd_used post) : Met l y_Code_clear w_Code_clear ({ frames := 1, cells := 0, slots := 0, locals := 23 }) (pc_ (dC, dI) [(cI, .int), (cB, .byte), (cZ, .boolean)] [(a_cd, .inr (1, [.ref a_cd_steps, .ref a_cd_starts, .ref a_cd_stops, .ref a_cd_used, .ref a_cd_stack, .int cd_size, .int cd_section, .int cd_height])), (a_cd_starts, .inl (cI, 39, .inl cd_starts)), (a_cd_stops, .inl (cI, 39, .inl cd_stops)), (a_cd_used, .inl (cI, 39, .inl cd_used))] sz adK adV [.ref a_cd]) (va_Qv (fun (u : Int32 × Int32 × (Nat → Int32) × (Nat → Int32) × (Nat → Int32)) => post u.1 u.2.1 u.2.2.1 u.2.2.2.1 u.2.2.2.2) (fun (u : Int32 × Int32 × (Nat → Int32) × (Nat → Int32) × (Nat → Int32)) t => bw_ (dC, dI) [(cI, .int), (cB, .byte), (cZ, .boolean)] (va_A [(a_cd, .inr (1, [.ref a_cd_steps, .ref a_cd_starts, .ref a_cd_stops, .ref a_cd_used, .ref a_cd_stack, .int cd_size, .int cd_section, .int cd_height])), (a_cd_starts, .inl (cI, 39, .inl cd_starts)), (a_cd_stops, .inl (cI, 39, .inl cd_stops)), (a_cd_used, .inl (cI, 39, .inl cd_used))] sz) [(a_cd, .inr (1, [.ref a_cd_steps, .ref a_cd_starts, .ref a_cd_stops, .ref a_cd_used, .ref a_cd_stack, .int u.1, .int u.2.1, .int cd_height])), (a_cd_starts, .inl (cI, 39, .inl u.2.2.1)), (a_cd_stops, .inl (cI, 39, .inl u.2.2.2.1)), (a_cd_used, .inl (cI, 39, .inl u.2.2.2.2))] t) (va_A [(a_cd, .inr (1, [.ref a_cd_steps, .ref a_cd_starts, .ref a_cd_stops, .ref a_cd_used, .ref a_cd_stack, .int cd_size, .int cd_section, .int cd_height])), (a_cd_starts, .inl (cI, 39, .inl cd_starts)), (a_cd_stops, .inl (cI, 39, .inl cd_stops)), (a_cd_used, .inl (cI, 39, .inl cd_used))] sz)) 0 0 (va_A [(a_cd, .inr (1, [.ref a_cd_steps, .ref a_cd_starts, .ref a_cd_stops, .ref a_cd_used, .ref a_cd_stack, .int cd_size, .int cd_section, .int cd_height])), (a_cd_starts, .inl (cI, 39, .inl cd_starts)), (a_cd_stops, .inl (cI, 39, .inl cd_stops)), (a_cd_used, .inl (cI, 39, .inl cd_used))] sz) := by
  refine Met.ofW (cc := b_Code_clear) (maxL := 1) (ret := none) (by decide) rfl ?_
  intro p e s m args below meth c s₁ B hml hv
  obtain ⟨rfl, hsz, hP, hK, hD0, hN, hT⟩ := hv
  have hx := B.exec
  have hb := B.bytes
  have hr := B.returns
  have hts := atoms_spec (ws := w_Code_clear) B.pre
  have hown : s.vm.findClass "LoopInduction$Code" = some m.cls := findClass_of_methodNamed B.named
  have hlocks := B.notSynchronized
  subst hsz
  have hD := hD0.self (sz := s.heap.size)
  generalize hAe : va_A [(a_cd, .inr (1, [.ref a_cd_steps, .ref a_cd_starts, .ref a_cd_stops, .ref a_cd_used, .ref a_cd_stack, .int cd_size, .int cd_section, .int cd_height])), (a_cd_starts, .inl (cI, 39, .inl cd_starts)), (a_cd_stops, .inl (cI, 39, .inl cd_stops)), (a_cd_used, .inl (cI, 39, .inl cd_used))] s.heap.size = A at hD hT ⊢
  have hA : ∀ q : Nat, s.heap.size ≤ q → A q := fun q h => by rw [← hAe]; exact Or.inr h
  have hS : va_S A s.heap s.heap [] := va_S.rf
  generalize hQ : MQ below _ _ s 0 0 _ = QQ
  have hl := lv_entry ([.ref a_cd]) (n := 1) (Nat.le_of_ble_eq_true rfl)
  rw [lg_entry_eq]
  generalize (lg_sl ([.ref a_cd]) ++ List.replicate (1 - (lg_sl ([.ref a_cd])).length) Slot.unset).toArray = ls at hl ⊢
  have hl : lv_has ls 1 [(0, .ref a_cd)] := hl
  have fl_17 := (hts _ (List.mem_cons_of_mem _ m_163))
  have fl_20 := (hts _ (List.mem_cons_of_mem _ m_164))
  have fl_23 := (hts _ (List.mem_cons_of_mem _ m_165))
  have fl_29 := (hts _ (List.mem_cons_of_mem _ m_167))
  have fl_33 := (hts _ (List.mem_cons_of_mem _ m_168))
  refine lv_aload_n hx hb d_Code_clear_0 rfl (lv_at hl 0 rfl) ?_
  refine lv_iconst (v := 0) hx hb d_Code_clear_1 (by decide) ?_
  refine va_put (D := (dC, dI)) (ci := 1) (v := .int 0) (ty := .int) (C := "LoopInduction$Code") (T := F_Code) (N := 8) hx hb hts iC_Code t_Code t_Code_ok n_Code hown hK hP hD hS 0 rfl rfl 5 (by decide) fl_29 (fun _ h9 => h9) rfl (by decide +kernel) rfl rfl (Nat.le_of_ble_eq_true rfl) d_Code_clear_2 (fun H locs hP hD hS => ?_)
  have hP : va_P (dC, dI) vwCl [(a_cd, .inr (1, [.ref a_cd_steps, .ref a_cd_starts, .ref a_cd_stops, .ref a_cd_used, .ref a_cd_stack, .int 0, .int cd_section, .int cd_height])), (a_cd_starts, .inl (cI, 39, .inl cd_starts)), (a_cd_stops, .inl (cI, 39, .inl cd_stops)), (a_cd_used, .inl (cI, 39, .inl cd_used))] H := hP
  have hD : va_D A [(a_cd, .inr (1, [.ref a_cd_steps, .ref a_cd_starts, .ref a_cd_stops, .ref a_cd_used, .ref a_cd_stack, .int 0, .int cd_section, .int cd_height])), (a_cd_starts, .inl (cI, 39, .inl cd_starts)), (a_cd_stops, .inl (cI, 39, .inl cd_stops)), (a_cd_used, .inl (cI, 39, .inl cd_used))] := hD
  refine lv_aload_n hx hb d_Code_clear_5 rfl (lv_at hl 0 rfl) ?_
  refine lv_iconst (v := 0) hx hb d_Code_clear_6 (by decide) ?_
  refine va_put (D := (dC, dI)) (ci := 1) (v := .int 0) (ty := .int) (C := "LoopInduction$Code") (T := F_Code) (N := 8) hx hb hts iC_Code t_Code t_Code_ok n_Code hown hK hP hD hS 0 rfl rfl 6 (by decide) fl_33 (fun _ h9 => h9) rfl (by decide +kernel) rfl rfl (Nat.le_of_ble_eq_true rfl) d_Code_clear_7 (fun H locs hP hD hS => ?_)
  have hP : va_P (dC, dI) vwCl [(a_cd, .inr (1, [.ref a_cd_steps, .ref a_cd_starts, .ref a_cd_stops, .ref a_cd_used, .ref a_cd_stack, .int 0, .int 0, .int cd_height])), (a_cd_starts, .inl (cI, 39, .inl cd_starts)), (a_cd_stops, .inl (cI, 39, .inl cd_stops)), (a_cd_used, .inl (cI, 39, .inl cd_used))] H := hP
  have hD : va_D A [(a_cd, .inr (1, [.ref a_cd_steps, .ref a_cd_starts, .ref a_cd_stops, .ref a_cd_used, .ref a_cd_stack, .int 0, .int 0, .int cd_height])), (a_cd_starts, .inl (cI, 39, .inl cd_starts)), (a_cd_stops, .inl (cI, 39, .inl cd_stops)), (a_cd_used, .inl (cI, 39, .inl cd_used))] := hD
  refine lv_aload_n hx hb d_Code_clear_10 rfl (lv_at hl 0 rfl) ?_
  refine va_get (D := (dC, dI)) (ci := 1) (v := .ref a_cd_starts) (C := "LoopInduction$Code") (T := F_Code) (N := 8) hx hb hts iC_Code hown hK hP 0 rfl rfl 1 (by decide) fl_17 (fun _ h9 => h9) rfl d_Code_clear_11 ?_
  refine lv_iconst (v := (-1)) hx hb d_Code_clear_14 (by decide) ?_
  refine jn_v (wr := [(a_cd, .inr (1, [.ref a_cd_steps, .ref a_cd_starts, .ref a_cd_stops, .ref a_cd_used, .ref a_cd_stack, .int 0, .int 0, .int cd_height])), (a_cd_stops, .inl (cI, 39, .inl cd_stops)), (a_cd_used, .inl (cI, 39, .inl cd_used))]) (va_runS (As := [.ref a_cd_starts, .int (-1)]) (rest := []) ⟨hx, hb, hml, hown, hts⟩ (c_fill l dC dI cI cB cZ adK adV _ a_cd_starts 39 cd_starts (-1) (by decide)) ⟨callB_of 2 hts (ga_ m_612) rfl rfl rfl (hts _ (List.mem_cons_of_mem _ m_103)) (hts _ (List.mem_cons_of_mem _ m_610)) pn_fill ⟨Nat.le_of_ble_eq_true rfl, Nat.le_of_ble_eq_true rfl⟩, (hts _ (List.mem_cons_of_mem _ m_611))⟩ ⟨pc_blind, pc_of (hP.sub [1] rfl) hK (hD.sub [1] (by decide) rfl) hN hT hS hA⟩ rfl rfl hl.1 rfl (lv_room (Nat.le_of_ble_eq_true rfl)) d_Code_clear_15 ⟨Nat.zero_le _, Nat.zero_le _⟩) hP hD hS hA [1] [0, 2, 3] rfl rfl (by decide) (by decide) (fun u_1 H locs eu_1 hP hD hS => ?_)
  subst eu_1
  have hP : va_P (dC, dI) vwCl [(a_cd, .inr (1, [.ref a_cd_steps, .ref a_cd_starts, .ref a_cd_stops, .ref a_cd_used, .ref a_cd_stack, .int 0, .int 0, .int cd_height])), (a_cd_stops, .inl (cI, 39, .inl cd_stops)), (a_cd_used, .inl (cI, 39, .inl cd_used)), (a_cd_starts, .inl (cI, 39, .inl (vp_fill cd_starts 39 (-1))))] H := hP
  have hD : va_D A [(a_cd, .inr (1, [.ref a_cd_steps, .ref a_cd_starts, .ref a_cd_stops, .ref a_cd_used, .ref a_cd_stack, .int 0, .int 0, .int cd_height])), (a_cd_stops, .inl (cI, 39, .inl cd_stops)), (a_cd_used, .inl (cI, 39, .inl cd_used)), (a_cd_starts, .inl (cI, 39, .inl (vp_fill cd_starts 39 (-1))))] := hD
  refine lv_aload_n hx hb d_Code_clear_18 rfl (lv_at hl 0 rfl) ?_
  refine va_get (D := (dC, dI)) (ci := 1) (v := .ref a_cd_stops) (C := "LoopInduction$Code") (T := F_Code) (N := 8) hx hb hts iC_Code hown hK hP 0 rfl rfl 2 (by decide) fl_20 (fun _ h9 => h9) rfl d_Code_clear_19 ?_
  refine lv_iconst (v := (-1)) hx hb d_Code_clear_22 (by decide) ?_
  refine jn_v (wr := [(a_cd, .inr (1, [.ref a_cd_steps, .ref a_cd_starts, .ref a_cd_stops, .ref a_cd_used, .ref a_cd_stack, .int 0, .int 0, .int cd_height])), (a_cd_used, .inl (cI, 39, .inl cd_used)), (a_cd_starts, .inl (cI, 39, .inl (vp_fill cd_starts 39 (-1))))]) (va_runS (As := [.ref a_cd_stops, .int (-1)]) (rest := []) ⟨hx, hb, hml, hown, hts⟩ (c_fill l dC dI cI cB cZ adK adV _ a_cd_stops 39 cd_stops (-1) (by decide)) ⟨callB_of 2 hts (ga_ m_612) rfl rfl rfl (hts _ (List.mem_cons_of_mem _ m_103)) (hts _ (List.mem_cons_of_mem _ m_610)) pn_fill ⟨Nat.le_of_ble_eq_true rfl, Nat.le_of_ble_eq_true rfl⟩, (hts _ (List.mem_cons_of_mem _ m_611))⟩ ⟨pc_blind, pc_of (hP.sub [1] rfl) hK (hD.sub [1] (by decide) rfl) hN hT hS hA⟩ rfl rfl hl.1 rfl (lv_room (Nat.le_of_ble_eq_true rfl)) d_Code_clear_23 ⟨Nat.zero_le _, Nat.zero_le _⟩) hP hD hS hA [1] [0, 2, 3] rfl rfl (by decide) (by decide) (fun u_2 H locs eu_2 hP hD hS => ?_)
  subst eu_2
  have hP : va_P (dC, dI) vwCl [(a_cd, .inr (1, [.ref a_cd_steps, .ref a_cd_starts, .ref a_cd_stops, .ref a_cd_used, .ref a_cd_stack, .int 0, .int 0, .int cd_height])), (a_cd_used, .inl (cI, 39, .inl cd_used)), (a_cd_starts, .inl (cI, 39, .inl (vp_fill cd_starts 39 (-1)))), (a_cd_stops, .inl (cI, 39, .inl (vp_fill cd_stops 39 (-1))))] H := hP
  have hD : va_D A [(a_cd, .inr (1, [.ref a_cd_steps, .ref a_cd_starts, .ref a_cd_stops, .ref a_cd_used, .ref a_cd_stack, .int 0, .int 0, .int cd_height])), (a_cd_used, .inl (cI, 39, .inl cd_used)), (a_cd_starts, .inl (cI, 39, .inl (vp_fill cd_starts 39 (-1)))), (a_cd_stops, .inl (cI, 39, .inl (vp_fill cd_stops 39 (-1))))] := hD
  refine lv_aload_n hx hb d_Code_clear_26 rfl (lv_at hl 0 rfl) ?_
  refine va_get (D := (dC, dI)) (ci := 1) (v := .ref a_cd_used) (C := "LoopInduction$Code") (T := F_Code) (N := 8) hx hb hts iC_Code hown hK hP 0 rfl rfl 3 (by decide) fl_23 (fun _ h9 => h9) rfl d_Code_clear_27 ?_
  refine lv_iconst (v := 0) hx hb d_Code_clear_30 (by decide) ?_
  refine jn_v (wr := [(a_cd, .inr (1, [.ref a_cd_steps, .ref a_cd_starts, .ref a_cd_stops, .ref a_cd_used, .ref a_cd_stack, .int 0, .int 0, .int cd_height])), (a_cd_starts, .inl (cI, 39, .inl (vp_fill cd_starts 39 (-1)))), (a_cd_stops, .inl (cI, 39, .inl (vp_fill cd_stops 39 (-1))))]) (va_runS (As := [.ref a_cd_used, .int 0]) (rest := []) ⟨hx, hb, hml, hown, hts⟩ (c_fill l dC dI cI cB cZ adK adV _ a_cd_used 39 cd_used 0 (by decide)) ⟨callB_of 2 hts (ga_ m_612) rfl rfl rfl (hts _ (List.mem_cons_of_mem _ m_103)) (hts _ (List.mem_cons_of_mem _ m_610)) pn_fill ⟨Nat.le_of_ble_eq_true rfl, Nat.le_of_ble_eq_true rfl⟩, (hts _ (List.mem_cons_of_mem _ m_611))⟩ ⟨pc_blind, pc_of (hP.sub [1] rfl) hK (hD.sub [1] (by decide) rfl) hN hT hS hA⟩ rfl rfl hl.1 rfl (lv_room (Nat.le_of_ble_eq_true rfl)) d_Code_clear_31 ⟨Nat.zero_le _, Nat.zero_le _⟩) hP hD hS hA [1] [0, 2, 3] rfl rfl (by decide) (by decide) (fun u_3 H locs eu_3 hP hD hS => ?_)
  subst eu_3
  have hP : va_P (dC, dI) vwCl [(a_cd, .inr (1, [.ref a_cd_steps, .ref a_cd_starts, .ref a_cd_stops, .ref a_cd_used, .ref a_cd_stack, .int 0, .int 0, .int cd_height])), (a_cd_starts, .inl (cI, 39, .inl (vp_fill cd_starts 39 (-1)))), (a_cd_stops, .inl (cI, 39, .inl (vp_fill cd_stops 39 (-1)))), (a_cd_used, .inl (cI, 39, .inl (vp_fill cd_used 39 0)))] H := hP
  have hD : va_D A [(a_cd, .inr (1, [.ref a_cd_steps, .ref a_cd_starts, .ref a_cd_stops, .ref a_cd_used, .ref a_cd_stack, .int 0, .int 0, .int cd_height])), (a_cd_starts, .inl (cI, 39, .inl (vp_fill cd_starts 39 (-1)))), (a_cd_stops, .inl (cI, 39, .inl (vp_fill cd_stops 39 (-1)))), (a_cd_used, .inl (cI, 39, .inl (vp_fill cd_used 39 0)))] := hD
  rw [← hQ]
  have hP9 := hP
  have hD9 := hD
  exact W.vret hx hb hr (fun t ht hW => ⟨⟨(0, 0, vp_fill cd_starts 39 (-1), vp_fill cd_stops 39 (-1), vp_fill cd_used 39 0), rfl, h, by rw [ht]; exact hP9, va_K.moved hW.alike hK, hD9⟩, hS.F ht⟩) hS.2.2 d_Code_clear_34
set_option maxHeartbeats 4000000 in
set_option maxRecDepth 100000 in
theorem c_Code_open (l : Launch) (dC : Nat → ClassId) (dI : Nat → Nat → Nat) (cI cB cZ : ClassId) (adK adV : Nat → Nat) (sz : Nat) (a_cd a_cd_steps a_cd_starts a_cd_stops a_cd_used a_cd_stack : Nat) (cd_size : Int32) (cd_section : Int32) (cd_height : Int32) (cd_starts : Nat → Int32) (x1 : Int32) (post : Int32 → (Nat → Int32) → Prop) (h : wp_Code_open x1 cd_size cd_section cd_starts post) : Met l y_Code_open w_Code_open ({ frames := 0, cells := 0, slots := 0, locals := 0 }) (pc_ (dC, dI) [(cI, .int), (cB, .byte), (cZ, .boolean)] [(a_cd, .inr (1, [.ref a_cd_steps, .ref a_cd_starts, .ref a_cd_stops, .ref a_cd_used, .ref a_cd_stack, .int cd_size, .int cd_section, .int cd_height])), (a_cd_starts, .inl (cI, 39, .inl cd_starts))] sz adK adV [.ref a_cd, .int x1]) (va_Qv (fun (u : Int32 × (Nat → Int32)) => post u.1 u.2) (fun (u : Int32 × (Nat → Int32)) t => bw_ (dC, dI) [(cI, .int), (cB, .byte), (cZ, .boolean)] (va_A [(a_cd, .inr (1, [.ref a_cd_steps, .ref a_cd_starts, .ref a_cd_stops, .ref a_cd_used, .ref a_cd_stack, .int cd_size, .int cd_section, .int cd_height])), (a_cd_starts, .inl (cI, 39, .inl cd_starts))] sz) [(a_cd, .inr (1, [.ref a_cd_steps, .ref a_cd_starts, .ref a_cd_stops, .ref a_cd_used, .ref a_cd_stack, .int cd_size, .int u.1, .int cd_height])), (a_cd_starts, .inl (cI, 39, .inl u.2))] t) (va_A [(a_cd, .inr (1, [.ref a_cd_steps, .ref a_cd_starts, .ref a_cd_stops, .ref a_cd_used, .ref a_cd_stack, .int cd_size, .int cd_section, .int cd_height])), (a_cd_starts, .inl (cI, 39, .inl cd_starts))] sz)) 0 0 (va_A [(a_cd, .inr (1, [.ref a_cd_steps, .ref a_cd_starts, .ref a_cd_stops, .ref a_cd_used, .ref a_cd_stack, .int cd_size, .int cd_section, .int cd_height])), (a_cd_starts, .inl (cI, 39, .inl cd_starts))] sz) := by
  refine Met.ofW (cc := b_Code_open) (maxL := 2) (ret := none) (by decide) rfl ?_
  intro p e s m args below meth c s₁ B hml hv
  obtain ⟨rfl, hsz, hP, hK, hD0, hN, hT⟩ := hv
  have hx := B.exec
  have hb := B.bytes
  have hr := B.returns
  have hts := atoms_spec (ws := w_Code_open) B.pre
  have hown : s.vm.findClass "LoopInduction$Code" = some m.cls := findClass_of_methodNamed B.named
  have hlocks := B.notSynchronized
  subst hsz
  have hD := hD0.self (sz := s.heap.size)
  generalize hAe : va_A [(a_cd, .inr (1, [.ref a_cd_steps, .ref a_cd_starts, .ref a_cd_stops, .ref a_cd_used, .ref a_cd_stack, .int cd_size, .int cd_section, .int cd_height])), (a_cd_starts, .inl (cI, 39, .inl cd_starts))] s.heap.size = A at hD hT ⊢
  have hA : ∀ q : Nat, s.heap.size ≤ q → A q := fun q h => by rw [← hAe]; exact Or.inr h
  have hS : va_S A s.heap s.heap [] := va_S.rf
  generalize hQ : MQ below _ _ s 0 0 _ = QQ
  have hl := lv_entry ([.ref a_cd, .int x1]) (n := 2) (Nat.le_of_ble_eq_true rfl)
  rw [lg_entry_eq]
  generalize (lg_sl ([.ref a_cd, .int x1]) ++ List.replicate (2 - (lg_sl ([.ref a_cd, .int x1])).length) Slot.unset).toArray = ls at hl ⊢
  have hl : lv_has ls 2 [(0, .ref a_cd), (1, .int x1)] := hl
  have fl_17 := (hts _ (List.mem_cons_of_mem _ m_163))
  have fl_29 := (hts _ (List.mem_cons_of_mem _ m_167))
  have fl_33 := (hts _ (List.mem_cons_of_mem _ m_168))
  refine lv_iload_n hx hb d_Code_open_0 rfl (lv_at hl 1 rfl) ?_
  refine lv_if_lt (tgt := 28) hx hb d_Code_open_1 (by decide) (fun c_1 => ?_) (fun c_1 => ?_)
  · have h := And.left h c_1
    rw [← hQ]
    have hP9 := hP
    have hD9 := hD
    exact W.vret hx hb hr (fun t ht hW => ⟨⟨(cd_section, cd_starts), rfl, h, by rw [ht]; exact hP9, va_K.moved hW.alike hK, hD9⟩, hS.F ht⟩) hS.2.2 d_Code_open_28
  · have h := And.right h c_1
    refine lv_iload_n hx hb d_Code_open_4 rfl (lv_at hl 1 rfl) ?_
    refine lv_bipush (v := 39) hx hb d_Code_open_5 (by decide) ?_
    refine lv_icmp_ge (tgt := 28) hx hb d_Code_open_7 (by decide) (fun c_7 => ?_) (fun c_7 => ?_)
    · have h := And.left h c_7
      rw [← hQ]
      have hP9 := hP
      have hD9 := hD
      exact W.vret hx hb hr (fun t ht hW => ⟨⟨(cd_section, cd_starts), rfl, h, by rw [ht]; exact hP9, va_K.moved hW.alike hK, hD9⟩, hS.F ht⟩) hS.2.2 d_Code_open_28
    · have h := And.right h c_7
      refine lv_aload_n hx hb d_Code_open_10 rfl (lv_at hl 0 rfl) ?_
      refine lv_iload_n hx hb d_Code_open_11 rfl (lv_at hl 1 rfl) ?_
      refine va_put (D := (dC, dI)) (ci := 1) (v := .int x1) (ty := .int) (C := "LoopInduction$Code") (T := F_Code) (N := 8) hx hb hts iC_Code t_Code t_Code_ok n_Code hown hK hP hD hS 0 rfl rfl 6 (by decide) fl_33 (fun _ h9 => h9) rfl (by decide +kernel) rfl rfl (Nat.le_of_ble_eq_true rfl) d_Code_open_12 (fun H locs hP hD hS => ?_)
      have hP : va_P (dC, dI) vwCl [(a_cd, .inr (1, [.ref a_cd_steps, .ref a_cd_starts, .ref a_cd_stops, .ref a_cd_used, .ref a_cd_stack, .int cd_size, .int x1, .int cd_height])), (a_cd_starts, .inl (cI, 39, .inl cd_starts))] H := hP
      have hD : va_D A [(a_cd, .inr (1, [.ref a_cd_steps, .ref a_cd_starts, .ref a_cd_stops, .ref a_cd_used, .ref a_cd_stack, .int cd_size, .int x1, .int cd_height])), (a_cd_starts, .inl (cI, 39, .inl cd_starts))] := hD
      refine lv_aload_n hx hb d_Code_open_15 rfl (lv_at hl 0 rfl) ?_
      refine va_get (D := (dC, dI)) (ci := 1) (v := .ref a_cd_starts) (C := "LoopInduction$Code") (T := F_Code) (N := 8) hx hb hts iC_Code hown hK hP 0 rfl rfl 1 (by decide) fl_17 (fun _ h9 => h9) rfl d_Code_open_16 ?_
      refine lv_aload_n hx hb d_Code_open_19 rfl (lv_at hl 0 rfl) ?_
      refine va_get (D := (dC, dI)) (ci := 1) (v := .int x1) (C := "LoopInduction$Code") (T := F_Code) (N := 8) hx hb hts iC_Code hown hK hP 0 rfl rfl 6 (by decide) fl_33 (fun _ h9 => h9) rfl d_Code_open_20 ?_
      refine lv_aload_n hx hb d_Code_open_23 rfl (lv_at hl 0 rfl) ?_
      refine va_get (D := (dC, dI)) (ci := 1) (v := .int cd_size) (C := "LoopInduction$Code") (T := F_Code) (N := 8) hx hb hts iC_Code hown hK hP 0 rfl rfl 5 (by decide) fl_29 (fun _ h9 => h9) rfl d_Code_open_24 ?_
      obtain ⟨hin_27, h⟩ := h
      refine va_iast hx hb hK hP hD hS 1 0 rfl rfl hin_27 d_Code_open_27 (fun H locs hP hD hS => ?_)
      have hP : va_P (dC, dI) vwCl [(a_cd, .inr (1, [.ref a_cd_steps, .ref a_cd_starts, .ref a_cd_stops, .ref a_cd_used, .ref a_cd_stack, .int cd_size, .int x1, .int cd_height])), (a_cd_starts, .inl (cI, 39, .inl (upd cd_starts (x1 : Int32).toNatClampNeg cd_size)))] H := hP
      have hD : va_D A [(a_cd, .inr (1, [.ref a_cd_steps, .ref a_cd_starts, .ref a_cd_stops, .ref a_cd_used, .ref a_cd_stack, .int cd_size, .int x1, .int cd_height])), (a_cd_starts, .inl (cI, 39, .inl (upd cd_starts (x1 : Int32).toNatClampNeg cd_size)))] := hD
      rw [← hQ]
      have hP9 := hP
      have hD9 := hD
      exact W.vret hx hb hr (fun t ht hW => ⟨⟨(x1, upd cd_starts (x1 : Int32).toNatClampNeg cd_size), rfl, h, by rw [ht]; exact hP9, va_K.moved hW.alike hK, hD9⟩, hS.F ht⟩) hS.2.2 d_Code_open_28
set_option maxHeartbeats 4000000 in
set_option maxRecDepth 100000 in
theorem c_Code_close (l : Launch) (dC : Nat → ClassId) (dI : Nat → Nat → Nat) (cI cB cZ : ClassId) (adK adV : Nat → Nat) (sz : Nat) (a_cd a_cd_steps a_cd_starts a_cd_stops a_cd_used a_cd_stack : Nat) (cd_size : Int32) (cd_section : Int32) (cd_height : Int32) (cd_stops : Nat → Int32) (post : (Nat → Int32) → Prop) (h : wp_Code_close cd_size cd_section cd_stops post) : Met l y_Code_close w_Code_close ({ frames := 0, cells := 0, slots := 0, locals := 0 }) (pc_ (dC, dI) [(cI, .int), (cB, .byte), (cZ, .boolean)] [(a_cd, .inr (1, [.ref a_cd_steps, .ref a_cd_starts, .ref a_cd_stops, .ref a_cd_used, .ref a_cd_stack, .int cd_size, .int cd_section, .int cd_height])), (a_cd_stops, .inl (cI, 39, .inl cd_stops))] sz adK adV [.ref a_cd]) (va_Qv (fun (u : (Nat → Int32)) => post u) (fun (u : (Nat → Int32)) t => bw_ (dC, dI) [(cI, .int), (cB, .byte), (cZ, .boolean)] (va_A [(a_cd, .inr (1, [.ref a_cd_steps, .ref a_cd_starts, .ref a_cd_stops, .ref a_cd_used, .ref a_cd_stack, .int cd_size, .int cd_section, .int cd_height])), (a_cd_stops, .inl (cI, 39, .inl cd_stops))] sz) [(a_cd, .inr (1, [.ref a_cd_steps, .ref a_cd_starts, .ref a_cd_stops, .ref a_cd_used, .ref a_cd_stack, .int cd_size, .int cd_section, .int cd_height])), (a_cd_stops, .inl (cI, 39, .inl u))] t) (va_A [(a_cd, .inr (1, [.ref a_cd_steps, .ref a_cd_starts, .ref a_cd_stops, .ref a_cd_used, .ref a_cd_stack, .int cd_size, .int cd_section, .int cd_height])), (a_cd_stops, .inl (cI, 39, .inl cd_stops))] sz)) 0 0 (va_A [(a_cd, .inr (1, [.ref a_cd_steps, .ref a_cd_starts, .ref a_cd_stops, .ref a_cd_used, .ref a_cd_stack, .int cd_size, .int cd_section, .int cd_height])), (a_cd_stops, .inl (cI, 39, .inl cd_stops))] sz) := by
  refine Met.ofW (cc := b_Code_close) (maxL := 1) (ret := none) (by decide) rfl ?_
  intro p e s m args below meth c s₁ B hml hv
  obtain ⟨rfl, hsz, hP, hK, hD0, hN, hT⟩ := hv
  have hx := B.exec
  have hb := B.bytes
  have hr := B.returns
  have hts := atoms_spec (ws := w_Code_close) B.pre
  have hown : s.vm.findClass "LoopInduction$Code" = some m.cls := findClass_of_methodNamed B.named
  have hlocks := B.notSynchronized
  subst hsz
  have hD := hD0.self (sz := s.heap.size)
  generalize hAe : va_A [(a_cd, .inr (1, [.ref a_cd_steps, .ref a_cd_starts, .ref a_cd_stops, .ref a_cd_used, .ref a_cd_stack, .int cd_size, .int cd_section, .int cd_height])), (a_cd_stops, .inl (cI, 39, .inl cd_stops))] s.heap.size = A at hD hT ⊢
  have hA : ∀ q : Nat, s.heap.size ≤ q → A q := fun q h => by rw [← hAe]; exact Or.inr h
  have hS : va_S A s.heap s.heap [] := va_S.rf
  generalize hQ : MQ below _ _ s 0 0 _ = QQ
  have hl := lv_entry ([.ref a_cd]) (n := 1) (Nat.le_of_ble_eq_true rfl)
  rw [lg_entry_eq]
  generalize (lg_sl ([.ref a_cd]) ++ List.replicate (1 - (lg_sl ([.ref a_cd])).length) Slot.unset).toArray = ls at hl ⊢
  have hl : lv_has ls 1 [(0, .ref a_cd)] := hl
  have fl_20 := (hts _ (List.mem_cons_of_mem _ m_164))
  have fl_29 := (hts _ (List.mem_cons_of_mem _ m_167))
  have fl_33 := (hts _ (List.mem_cons_of_mem _ m_168))
  refine lv_aload_n hx hb d_Code_close_0 rfl (lv_at hl 0 rfl) ?_
  refine va_get (D := (dC, dI)) (ci := 1) (v := .ref a_cd_stops) (C := "LoopInduction$Code") (T := F_Code) (N := 8) hx hb hts iC_Code hown hK hP 0 rfl rfl 2 (by decide) fl_20 (fun _ h9 => h9) rfl d_Code_close_1 ?_
  refine lv_aload_n hx hb d_Code_close_4 rfl (lv_at hl 0 rfl) ?_
  refine va_get (D := (dC, dI)) (ci := 1) (v := .int cd_section) (C := "LoopInduction$Code") (T := F_Code) (N := 8) hx hb hts iC_Code hown hK hP 0 rfl rfl 6 (by decide) fl_33 (fun _ h9 => h9) rfl d_Code_close_5 ?_
  refine lv_aload_n hx hb d_Code_close_8 rfl (lv_at hl 0 rfl) ?_
  refine va_get (D := (dC, dI)) (ci := 1) (v := .int cd_size) (C := "LoopInduction$Code") (T := F_Code) (N := 8) hx hb hts iC_Code hown hK hP 0 rfl rfl 5 (by decide) fl_29 (fun _ h9 => h9) rfl d_Code_close_9 ?_
  obtain ⟨hin_12, h⟩ := h
  refine va_iast hx hb hK hP hD hS 1 0 rfl rfl hin_12 d_Code_close_12 (fun H locs hP hD hS => ?_)
  have hP : va_P (dC, dI) vwCl [(a_cd, .inr (1, [.ref a_cd_steps, .ref a_cd_starts, .ref a_cd_stops, .ref a_cd_used, .ref a_cd_stack, .int cd_size, .int cd_section, .int cd_height])), (a_cd_stops, .inl (cI, 39, .inl (upd cd_stops (cd_section : Int32).toNatClampNeg cd_size)))] H := hP
  have hD : va_D A [(a_cd, .inr (1, [.ref a_cd_steps, .ref a_cd_starts, .ref a_cd_stops, .ref a_cd_used, .ref a_cd_stack, .int cd_size, .int cd_section, .int cd_height])), (a_cd_stops, .inl (cI, 39, .inl (upd cd_stops (cd_section : Int32).toNatClampNeg cd_size)))] := hD
  rw [← hQ]
  have hP9 := hP
  have hD9 := hD
  exact W.vret hx hb hr (fun t ht hW => ⟨⟨(upd cd_stops (cd_section : Int32).toNatClampNeg cd_size), rfl, h, by rw [ht]; exact hP9, va_K.moved hW.alike hK, hD9⟩, hS.F ht⟩) hS.2.2 d_Code_close_13
set_option maxHeartbeats 4000000 in
set_option maxRecDepth 100000 in
theorem c_Code_isTold (l : Launch) (dC : Nat → ClassId) (dI : Nat → Nat → Nat) (cI cB cZ : ClassId) (adK adV : Nat → Nat) (sz : Nat) (a_cd a_cd_steps a_cd_starts a_cd_stops a_cd_used a_cd_stack : Nat) (cd_size : Int32) (cd_section : Int32) (cd_height : Int32) (cd_starts : Nat → Int32) (x1 : Int32) (post : Int32 → Prop) (h : wp_Code_isTold x1 cd_starts post) : Met l y_Code_isTold w_Code_isTold ({ frames := 0, cells := 0, slots := 0, locals := 0 }) (pc_ (dC, dI) [(cI, .int), (cB, .byte), (cZ, .boolean)] [(a_cd, .inr (1, [.ref a_cd_steps, .ref a_cd_starts, .ref a_cd_stops, .ref a_cd_used, .ref a_cd_stack, .int cd_size, .int cd_section, .int cd_height])), (a_cd_starts, .inl (cI, 39, .inl cd_starts))] sz adK adV [.ref a_cd, .int x1]) (va_Qi (fun (r : Int32) (u : Unit) => post r ) (fun (u : Unit) t => bw_ (dC, dI) [(cI, .int), (cB, .byte), (cZ, .boolean)] (va_A [(a_cd, .inr (1, [.ref a_cd_steps, .ref a_cd_starts, .ref a_cd_stops, .ref a_cd_used, .ref a_cd_stack, .int cd_size, .int cd_section, .int cd_height])), (a_cd_starts, .inl (cI, 39, .inl cd_starts))] sz) [(a_cd, .inr (1, [.ref a_cd_steps, .ref a_cd_starts, .ref a_cd_stops, .ref a_cd_used, .ref a_cd_stack, .int cd_size, .int cd_section, .int cd_height])), (a_cd_starts, .inl (cI, 39, .inl cd_starts))] t) (va_A [(a_cd, .inr (1, [.ref a_cd_steps, .ref a_cd_starts, .ref a_cd_stops, .ref a_cd_used, .ref a_cd_stack, .int cd_size, .int cd_section, .int cd_height])), (a_cd_starts, .inl (cI, 39, .inl cd_starts))] sz)) 0 0 (va_A [(a_cd, .inr (1, [.ref a_cd_steps, .ref a_cd_starts, .ref a_cd_stops, .ref a_cd_used, .ref a_cd_stack, .int cd_size, .int cd_section, .int cd_height])), (a_cd_starts, .inl (cI, 39, .inl cd_starts))] sz) := by
  refine Met.ofW (cc := b_Code_isTold) (maxL := 2) (ret := (some .boolean)) (by decide) rfl ?_
  intro p e s m args below meth c s₁ B hml hv
  obtain ⟨rfl, hsz, hP, hK, hD0, hN, hT⟩ := hv
  have hx := B.exec
  have hb := B.bytes
  have hr := B.returns
  have hts := atoms_spec (ws := w_Code_isTold) B.pre
  have hown : s.vm.findClass "LoopInduction$Code" = some m.cls := findClass_of_methodNamed B.named
  have hlocks := B.notSynchronized
  subst hsz
  have hD := hD0.self (sz := s.heap.size)
  generalize hAe : va_A [(a_cd, .inr (1, [.ref a_cd_steps, .ref a_cd_starts, .ref a_cd_stops, .ref a_cd_used, .ref a_cd_stack, .int cd_size, .int cd_section, .int cd_height])), (a_cd_starts, .inl (cI, 39, .inl cd_starts))] s.heap.size = A at hD hT ⊢
  have hA : ∀ q : Nat, s.heap.size ≤ q → A q := fun q h => by rw [← hAe]; exact Or.inr h
  have hS : va_S A s.heap s.heap [] := va_S.rf
  generalize hQ : MQ below _ _ s 0 0 _ = QQ
  have hl := lv_entry ([.ref a_cd, .int x1]) (n := 2) (Nat.le_of_ble_eq_true rfl)
  rw [lg_entry_eq]
  generalize (lg_sl ([.ref a_cd, .int x1]) ++ List.replicate (2 - (lg_sl ([.ref a_cd, .int x1])).length) Slot.unset).toArray = ls at hl ⊢
  have hl : lv_has ls 2 [(0, .ref a_cd), (1, .int x1)] := hl
  have fl_17 := (hts _ (List.mem_cons_of_mem _ m_163))
  refine lv_iload_n hx hb d_Code_isTold_0 rfl (lv_at hl 1 rfl) ?_
  refine lv_if_lt (tgt := 24) hx hb d_Code_isTold_1 (by decide) (fun c_1 => ?_) (fun c_1 => ?_)
  · have h := And.left h c_1
    refine lv_iconst (v := 0) hx hb d_Code_isTold_24 (by decide) ?_
    rw [← hQ]
    have hP9 := hP
    have hD9 := hD
    exact W.zret (v := 0) hx hb hr rfl (fun t ht hW => ⟨⟨0, (), rfl, h, by rw [ht]; exact hP9, va_K.moved hW.alike hK, hD9⟩, hS.F ht⟩) hS.2.2 d_Code_isTold_25
  · have h := And.right h c_1
    refine lv_iload_n hx hb d_Code_isTold_4 rfl (lv_at hl 1 rfl) ?_
    refine lv_bipush (v := 39) hx hb d_Code_isTold_5 (by decide) ?_
    refine lv_icmp_ge (tgt := 24) hx hb d_Code_isTold_7 (by decide) (fun c_7 => ?_) (fun c_7 => ?_)
    · have h := And.left h c_7
      refine lv_iconst (v := 0) hx hb d_Code_isTold_24 (by decide) ?_
      rw [← hQ]
      have hP9 := hP
      have hD9 := hD
      exact W.zret (v := 0) hx hb hr rfl (fun t ht hW => ⟨⟨0, (), rfl, h, by rw [ht]; exact hP9, va_K.moved hW.alike hK, hD9⟩, hS.F ht⟩) hS.2.2 d_Code_isTold_25
    · have h := And.right h c_7
      refine lv_aload_n hx hb d_Code_isTold_10 rfl (lv_at hl 0 rfl) ?_
      refine va_get (D := (dC, dI)) (ci := 1) (v := .ref a_cd_starts) (C := "LoopInduction$Code") (T := F_Code) (N := 8) hx hb hts iC_Code hown hK hP 0 rfl rfl 1 (by decide) fl_17 (fun _ h9 => h9) rfl d_Code_isTold_11 ?_
      refine lv_iload_n hx hb d_Code_isTold_14 rfl (lv_at hl 1 rfl) ?_
      obtain ⟨hin_15, h⟩ := h
      refine va_iald hx hb hK hP 1 0 rfl rfl hin_15 d_Code_isTold_15 ?_
      refine lv_iconst (v := (-1)) hx hb d_Code_isTold_16 (by decide) ?_
      refine lv_icmp_eq (tgt := 24) hx hb d_Code_isTold_17 (by decide) (fun c_17 => ?_) (fun c_17 => ?_)
      · have h := And.left h c_17
        refine lv_iconst (v := 0) hx hb d_Code_isTold_24 (by decide) ?_
        rw [← hQ]
        have hP9 := hP
        have hD9 := hD
        exact W.zret (v := 0) hx hb hr rfl (fun t ht hW => ⟨⟨0, (), rfl, h, by rw [ht]; exact hP9, va_K.moved hW.alike hK, hD9⟩, hS.F ht⟩) hS.2.2 d_Code_isTold_25
      · have h := And.right h c_17
        refine lv_iconst (v := 1) hx hb d_Code_isTold_20 (by decide) ?_
        refine lv_goto (tgt := 25) hx hb d_Code_isTold_21 (by decide) ?_
        rw [← hQ]
        have hP9 := hP
        have hD9 := hD
        exact W.zret (v := 1) hx hb hr rfl (fun t ht hW => ⟨⟨1, (), rfl, h, by rw [ht]; exact hP9, va_K.moved hW.alike hK, hD9⟩, hS.F ht⟩) hS.2.2 d_Code_isTold_25
set_option maxHeartbeats 4000000 in
set_option maxRecDepth 100000 in
theorem c_Code_add (l : Launch) (dC : Nat → ClassId) (dI : Nat → Nat → Nat) (cI cB cZ : ClassId) (adK adV : Nat → Nat) (sz : Nat) (a_cd a_cd_steps a_cd_starts a_cd_stops a_cd_used a_cd_stack : Nat) (cd_size : Int32) (cd_section : Int32) (cd_height : Int32) (cd_steps : Nat → Int32) (x1 : Int32) (post : Int32 → (Nat → Int32) → Prop) (h : wp_Code_add x1 cd_size cd_steps post) : Met l y_Code_add w_Code_add ({ frames := 0, cells := 0, slots := 0, locals := 0 }) (pc_ (dC, dI) [(cI, .int), (cB, .byte), (cZ, .boolean)] [(a_cd, .inr (1, [.ref a_cd_steps, .ref a_cd_starts, .ref a_cd_stops, .ref a_cd_used, .ref a_cd_stack, .int cd_size, .int cd_section, .int cd_height])), (a_cd_steps, .inl (cI, 1200, .inl cd_steps))] sz adK adV [.ref a_cd, .int x1]) (va_Qv (fun (u : Int32 × (Nat → Int32)) => post u.1 u.2) (fun (u : Int32 × (Nat → Int32)) t => bw_ (dC, dI) [(cI, .int), (cB, .byte), (cZ, .boolean)] (va_A [(a_cd, .inr (1, [.ref a_cd_steps, .ref a_cd_starts, .ref a_cd_stops, .ref a_cd_used, .ref a_cd_stack, .int cd_size, .int cd_section, .int cd_height])), (a_cd_steps, .inl (cI, 1200, .inl cd_steps))] sz) [(a_cd, .inr (1, [.ref a_cd_steps, .ref a_cd_starts, .ref a_cd_stops, .ref a_cd_used, .ref a_cd_stack, .int u.1, .int cd_section, .int cd_height])), (a_cd_steps, .inl (cI, 1200, .inl u.2))] t) (va_A [(a_cd, .inr (1, [.ref a_cd_steps, .ref a_cd_starts, .ref a_cd_stops, .ref a_cd_used, .ref a_cd_stack, .int cd_size, .int cd_section, .int cd_height])), (a_cd_steps, .inl (cI, 1200, .inl cd_steps))] sz)) 0 0 (va_A [(a_cd, .inr (1, [.ref a_cd_steps, .ref a_cd_starts, .ref a_cd_stops, .ref a_cd_used, .ref a_cd_stack, .int cd_size, .int cd_section, .int cd_height])), (a_cd_steps, .inl (cI, 1200, .inl cd_steps))] sz) := by
  refine Met.ofW (cc := b_Code_add) (maxL := 2) (ret := none) (by decide) rfl ?_
  intro p e s m args below meth c s₁ B hml hv
  obtain ⟨rfl, hsz, hP, hK, hD0, hN, hT⟩ := hv
  have hx := B.exec
  have hb := B.bytes
  have hr := B.returns
  have hts := atoms_spec (ws := w_Code_add) B.pre
  have hown : s.vm.findClass "LoopInduction$Code" = some m.cls := findClass_of_methodNamed B.named
  have hlocks := B.notSynchronized
  subst hsz
  have hD := hD0.self (sz := s.heap.size)
  generalize hAe : va_A [(a_cd, .inr (1, [.ref a_cd_steps, .ref a_cd_starts, .ref a_cd_stops, .ref a_cd_used, .ref a_cd_stack, .int cd_size, .int cd_section, .int cd_height])), (a_cd_steps, .inl (cI, 1200, .inl cd_steps))] s.heap.size = A at hD hT ⊢
  have hA : ∀ q : Nat, s.heap.size ≤ q → A q := fun q h => by rw [← hAe]; exact Or.inr h
  have hS : va_S A s.heap s.heap [] := va_S.rf
  generalize hQ : MQ below _ _ s 0 0 _ = QQ
  have hl := lv_entry ([.ref a_cd, .int x1]) (n := 2) (Nat.le_of_ble_eq_true rfl)
  rw [lg_entry_eq]
  generalize (lg_sl ([.ref a_cd, .int x1]) ++ List.replicate (2 - (lg_sl ([.ref a_cd, .int x1])).length) Slot.unset).toArray = ls at hl ⊢
  have hl : lv_has ls 2 [(0, .ref a_cd), (1, .int x1)] := hl
  have fl_13 := (hts _ (List.mem_cons_of_mem _ m_162))
  have fl_29 := (hts _ (List.mem_cons_of_mem _ m_167))
  refine lv_aload_n hx hb d_Code_add_0 rfl (lv_at hl 0 rfl) ?_
  refine va_get (D := (dC, dI)) (ci := 1) (v := .int cd_size) (C := "LoopInduction$Code") (T := F_Code) (N := 8) hx hb hts iC_Code hown hK hP 0 rfl rfl 5 (by decide) fl_29 (fun _ h9 => h9) rfl d_Code_add_1 ?_
  refine lv_aload_n hx hb d_Code_add_4 rfl (lv_at hl 0 rfl) ?_
  refine va_get (D := (dC, dI)) (ci := 1) (v := .ref a_cd_steps) (C := "LoopInduction$Code") (T := F_Code) (N := 8) hx hb hts iC_Code hown hK hP 0 rfl rfl 0 (by decide) fl_13 (fun _ h9 => h9) rfl d_Code_add_5 ?_
  refine va_alen (v := 1200) hx hb hK hP 1 0 rfl rfl rfl d_Code_add_8 ?_
  refine lv_icmp_ge (tgt := 32) hx hb d_Code_add_9 (by decide) (fun c_9 => ?_) (fun c_9 => ?_)
  · have h := And.left h c_9
    rw [← hQ]
    have hP9 := hP
    have hD9 := hD
    exact W.vret hx hb hr (fun t ht hW => ⟨⟨(cd_size, cd_steps), rfl, h, by rw [ht]; exact hP9, va_K.moved hW.alike hK, hD9⟩, hS.F ht⟩) hS.2.2 d_Code_add_32
  · have h := And.right h c_9
    refine lv_aload_n hx hb d_Code_add_12 rfl (lv_at hl 0 rfl) ?_
    refine va_get (D := (dC, dI)) (ci := 1) (v := .ref a_cd_steps) (C := "LoopInduction$Code") (T := F_Code) (N := 8) hx hb hts iC_Code hown hK hP 0 rfl rfl 0 (by decide) fl_13 (fun _ h9 => h9) rfl d_Code_add_13 ?_
    refine lv_aload_n hx hb d_Code_add_16 rfl (lv_at hl 0 rfl) ?_
    refine va_get (D := (dC, dI)) (ci := 1) (v := .int cd_size) (C := "LoopInduction$Code") (T := F_Code) (N := 8) hx hb hts iC_Code hown hK hP 0 rfl rfl 5 (by decide) fl_29 (fun _ h9 => h9) rfl d_Code_add_17 ?_
    refine lv_iload_n hx hb d_Code_add_20 rfl (lv_at hl 1 rfl) ?_
    obtain ⟨hin_21, h⟩ := h
    refine va_iast hx hb hK hP hD hS 1 0 rfl rfl hin_21 d_Code_add_21 (fun H locs hP hD hS => ?_)
    have hP : va_P (dC, dI) vwCl [(a_cd, .inr (1, [.ref a_cd_steps, .ref a_cd_starts, .ref a_cd_stops, .ref a_cd_used, .ref a_cd_stack, .int cd_size, .int cd_section, .int cd_height])), (a_cd_steps, .inl (cI, 1200, .inl (upd cd_steps (cd_size : Int32).toNatClampNeg x1)))] H := hP
    have hD : va_D A [(a_cd, .inr (1, [.ref a_cd_steps, .ref a_cd_starts, .ref a_cd_stops, .ref a_cd_used, .ref a_cd_stack, .int cd_size, .int cd_section, .int cd_height])), (a_cd_steps, .inl (cI, 1200, .inl (upd cd_steps (cd_size : Int32).toNatClampNeg x1)))] := hD
    refine lv_aload_n hx hb d_Code_add_22 rfl (lv_at hl 0 rfl) ?_
    refine lv_dup hx hb d_Code_add_23 rfl ?_
    refine va_get (D := (dC, dI)) (ci := 1) (v := .int cd_size) (C := "LoopInduction$Code") (T := F_Code) (N := 8) hx hb hts iC_Code hown hK hP 0 rfl rfl 5 (by decide) fl_29 (fun _ h9 => h9) rfl d_Code_add_24 ?_
    refine lv_iconst (v := 1) hx hb d_Code_add_27 (by decide) ?_
    refine lv_iadd hx hb d_Code_add_28 ?_
    refine va_put (D := (dC, dI)) (ci := 1) (v := .int (cd_size + 1)) (ty := .int) (C := "LoopInduction$Code") (T := F_Code) (N := 8) hx hb hts iC_Code t_Code t_Code_ok n_Code hown hK hP hD hS 0 rfl rfl 5 (by decide) fl_29 (fun _ h9 => h9) rfl (by decide +kernel) rfl rfl (Nat.le_of_ble_eq_true rfl) d_Code_add_29 (fun H locs hP hD hS => ?_)
    have hP : va_P (dC, dI) vwCl [(a_cd, .inr (1, [.ref a_cd_steps, .ref a_cd_starts, .ref a_cd_stops, .ref a_cd_used, .ref a_cd_stack, .int (cd_size + 1), .int cd_section, .int cd_height])), (a_cd_steps, .inl (cI, 1200, .inl (upd cd_steps (cd_size : Int32).toNatClampNeg x1)))] H := hP
    have hD : va_D A [(a_cd, .inr (1, [.ref a_cd_steps, .ref a_cd_starts, .ref a_cd_stops, .ref a_cd_used, .ref a_cd_stack, .int (cd_size + 1), .int cd_section, .int cd_height])), (a_cd_steps, .inl (cI, 1200, .inl (upd cd_steps (cd_size : Int32).toNatClampNeg x1)))] := hD
    rw [← hQ]
    have hP9 := hP
    have hD9 := hD
    exact W.vret hx hb hr (fun t ht hW => ⟨⟨(cd_size + 1, upd cd_steps (cd_size : Int32).toNatClampNeg x1), rfl, h, by rw [ht]; exact hP9, va_K.moved hW.alike hK, hD9⟩, hS.F ht⟩) hS.2.2 d_Code_add_32
set_option maxHeartbeats 4000000 in
set_option maxRecDepth 100000 in
theorem c_Code_addVariable (l : Launch) (dC : Nat → ClassId) (dI : Nat → Nat → Nat) (cI cB cZ : ClassId) (adK adV : Nat → Nat) (sz : Nat) (a_cd a_cd_steps a_cd_starts a_cd_stops a_cd_used a_cd_stack : Nat) (cd_size : Int32) (cd_section : Int32) (cd_height : Int32) (cd_steps : Nat → Int32) (cd_used : Nat → Int32) (x1 : Int32) (post : Int32 → (Nat → Int32) → (Nat → Int32) → Prop) (h : wp_Code_addVariable x1 cd_size cd_section cd_steps cd_used post) : Met l y_Code_addVariable w_Code_addVariable ({ frames := 1, cells := 0, slots := 0, locals := 21 }) (pc_ (dC, dI) [(cI, .int), (cB, .byte), (cZ, .boolean)] [(a_cd, .inr (1, [.ref a_cd_steps, .ref a_cd_starts, .ref a_cd_stops, .ref a_cd_used, .ref a_cd_stack, .int cd_size, .int cd_section, .int cd_height])), (a_cd_steps, .inl (cI, 1200, .inl cd_steps)), (a_cd_used, .inl (cI, 39, .inl cd_used))] sz adK adV [.ref a_cd, .int x1]) (va_Qv (fun (u : Int32 × (Nat → Int32) × (Nat → Int32)) => post u.1 u.2.1 u.2.2) (fun (u : Int32 × (Nat → Int32) × (Nat → Int32)) t => bw_ (dC, dI) [(cI, .int), (cB, .byte), (cZ, .boolean)] (va_A [(a_cd, .inr (1, [.ref a_cd_steps, .ref a_cd_starts, .ref a_cd_stops, .ref a_cd_used, .ref a_cd_stack, .int cd_size, .int cd_section, .int cd_height])), (a_cd_steps, .inl (cI, 1200, .inl cd_steps)), (a_cd_used, .inl (cI, 39, .inl cd_used))] sz) [(a_cd, .inr (1, [.ref a_cd_steps, .ref a_cd_starts, .ref a_cd_stops, .ref a_cd_used, .ref a_cd_stack, .int u.1, .int cd_section, .int cd_height])), (a_cd_steps, .inl (cI, 1200, .inl u.2.1)), (a_cd_used, .inl (cI, 39, .inl u.2.2))] t) (va_A [(a_cd, .inr (1, [.ref a_cd_steps, .ref a_cd_starts, .ref a_cd_stops, .ref a_cd_used, .ref a_cd_stack, .int cd_size, .int cd_section, .int cd_height])), (a_cd_steps, .inl (cI, 1200, .inl cd_steps)), (a_cd_used, .inl (cI, 39, .inl cd_used))] sz)) 0 0 (va_A [(a_cd, .inr (1, [.ref a_cd_steps, .ref a_cd_starts, .ref a_cd_stops, .ref a_cd_used, .ref a_cd_stack, .int cd_size, .int cd_section, .int cd_height])), (a_cd_steps, .inl (cI, 1200, .inl cd_steps)), (a_cd_used, .inl (cI, 39, .inl cd_used))] sz) := by
  refine Met.ofW (cc := b_Code_addVariable) (maxL := 2) (ret := none) (by decide) rfl ?_
  intro p e s m args below meth c s₁ B hml hv
  obtain ⟨rfl, hsz, hP, hK, hD0, hN, hT⟩ := hv
  have hx := B.exec
  have hb := B.bytes
  have hr := B.returns
  have hts := atoms_spec (ws := w_Code_addVariable) B.pre
  have hown : s.vm.findClass "LoopInduction$Code" = some m.cls := findClass_of_methodNamed B.named
  have hlocks := B.notSynchronized
  subst hsz
  have hD := hD0.self (sz := s.heap.size)
  generalize hAe : va_A [(a_cd, .inr (1, [.ref a_cd_steps, .ref a_cd_starts, .ref a_cd_stops, .ref a_cd_used, .ref a_cd_stack, .int cd_size, .int cd_section, .int cd_height])), (a_cd_steps, .inl (cI, 1200, .inl cd_steps)), (a_cd_used, .inl (cI, 39, .inl cd_used))] s.heap.size = A at hD hT ⊢
  have hA : ∀ q : Nat, s.heap.size ≤ q → A q := fun q h => by rw [← hAe]; exact Or.inr h
  have hS : va_S A s.heap s.heap [] := va_S.rf
  generalize hQ : MQ below _ _ s 0 0 _ = QQ
  have hl := lv_entry ([.ref a_cd, .int x1]) (n := 2) (Nat.le_of_ble_eq_true rfl)
  rw [lg_entry_eq]
  generalize (lg_sl ([.ref a_cd, .int x1]) ++ List.replicate (2 - (lg_sl ([.ref a_cd, .int x1])).length) Slot.unset).toArray = ls at hl ⊢
  have hl : lv_has ls 2 [(0, .ref a_cd), (1, .int x1)] := hl
  have fl_23 := (hts _ (List.mem_cons_of_mem _ m_165))
  have fl_33 := (hts _ (List.mem_cons_of_mem _ m_168))
  refine lv_aload_n hx hb d_Code_addVariable_0 rfl (lv_at hl 0 rfl) ?_
  refine va_get (D := (dC, dI)) (ci := 1) (v := .ref a_cd_used) (C := "LoopInduction$Code") (T := F_Code) (N := 8) hx hb hts iC_Code hown hK hP 0 rfl rfl 3 (by decide) fl_23 (fun _ h9 => h9) rfl d_Code_addVariable_1 ?_
  refine lv_aload_n hx hb d_Code_addVariable_4 rfl (lv_at hl 0 rfl) ?_
  refine va_get (D := (dC, dI)) (ci := 1) (v := .int cd_section) (C := "LoopInduction$Code") (T := F_Code) (N := 8) hx hb hts iC_Code hown hK hP 0 rfl rfl 6 (by decide) fl_33 (fun _ h9 => h9) rfl d_Code_addVariable_5 ?_
  refine lv_dup2_11 hx hb d_Code_addVariable_8 rfl rfl ?_
  obtain ⟨hin_9, h⟩ := h
  refine va_iald hx hb hK hP 2 0 rfl rfl hin_9 d_Code_addVariable_9 ?_
  refine lv_bipush (v := 15) hx hb d_Code_addVariable_10 (by decide) ?_
  refine lv_iconst (v := 4) hx hb d_Code_addVariable_12 (by decide) ?_
  refine lv_iload_n hx hb d_Code_addVariable_13 rfl (lv_at hl 1 rfl) ?_
  refine lv_imul hx hb d_Code_addVariable_14 ?_
  refine lv_ishl hx hb d_Code_addVariable_15 ?_
  refine lv_ior hx hb d_Code_addVariable_16 ?_
  obtain ⟨hin_17, h⟩ := h
  refine va_iast hx hb hK hP hD hS 2 0 rfl rfl hin_17 d_Code_addVariable_17 (fun H locs hP hD hS => ?_)
  have hP : va_P (dC, dI) vwCl [(a_cd, .inr (1, [.ref a_cd_steps, .ref a_cd_starts, .ref a_cd_stops, .ref a_cd_used, .ref a_cd_stack, .int cd_size, .int cd_section, .int cd_height])), (a_cd_steps, .inl (cI, 1200, .inl cd_steps)), (a_cd_used, .inl (cI, 39, .inl (upd cd_used (cd_section : Int32).toNatClampNeg ((cd_used (cd_section : Int32).toNatClampNeg) ||| (15 <<< ((4 * x1) &&& 31))))))] H := hP
  have hD : va_D A [(a_cd, .inr (1, [.ref a_cd_steps, .ref a_cd_starts, .ref a_cd_stops, .ref a_cd_used, .ref a_cd_stack, .int cd_size, .int cd_section, .int cd_height])), (a_cd_steps, .inl (cI, 1200, .inl cd_steps)), (a_cd_used, .inl (cI, 39, .inl (upd cd_used (cd_section : Int32).toNatClampNeg ((cd_used (cd_section : Int32).toNatClampNeg) ||| (15 <<< ((4 * x1) &&& 31))))))] := hD
  refine lv_aload_n hx hb d_Code_addVariable_18 rfl (lv_at hl 0 rfl) ?_
  refine lv_bipush (v := 16) hx hb d_Code_addVariable_19 (by decide) ?_
  refine lv_iload_n hx hb d_Code_addVariable_21 rfl (lv_at hl 1 rfl) ?_
  refine lv_iadd hx hb d_Code_addVariable_22 ?_
  refine jn_v (wr := [(a_cd_used, .inl (cI, 39, .inl (upd cd_used (cd_section : Int32).toNatClampNeg ((cd_used (cd_section : Int32).toNatClampNeg) ||| (15 <<< ((4 * x1) &&& 31))))))]) (va_runV (As := [.int (16 + x1)]) (rest := []) ⟨hx, hb, hml, hown, hts⟩ (c_Code_add l dC dI cI cB cZ adK adV _ a_cd a_cd_steps a_cd_starts a_cd_stops a_cd_used a_cd_stack cd_size cd_section cd_height cd_steps (16 + x1) _ h) (cwV 1 hts (gv_ m_673 m_650 m_651 m_88 m_652) rfl rfl rfl pd_Code_add ⟨Nat.le_of_ble_eq_true rfl, Nat.le_of_ble_eq_true rfl⟩) ⟨pc_blind, va_recv hK hP (ci := 1) (q0 := 0) rfl rfl, pc_of (hP.sub [0, 1] rfl) hK (hD.sub [0, 1] (by decide) rfl) hN hT hS hA⟩ rfl rfl hl.1 rfl (lv_room (Nat.le_of_ble_eq_true rfl)) d_Code_addVariable_23 ⟨Nat.zero_le _, Nat.zero_le _⟩) hP hD hS hA [0, 1] [2] rfl rfl (by decide) (by decide) (fun u_ H locs h hP hD hS => ?_)
  obtain ⟨cd_size_1, cd_steps_2⟩ := u_
  have hP : va_P (dC, dI) vwCl [(a_cd_used, .inl (cI, 39, .inl (upd cd_used (cd_section : Int32).toNatClampNeg ((cd_used (cd_section : Int32).toNatClampNeg) ||| (15 <<< ((4 * x1) &&& 31)))))), (a_cd, .inr (1, [.ref a_cd_steps, .ref a_cd_starts, .ref a_cd_stops, .ref a_cd_used, .ref a_cd_stack, .int cd_size_1, .int cd_section, .int cd_height])), (a_cd_steps, .inl (cI, 1200, .inl cd_steps_2))] H := hP
  have hD : va_D A [(a_cd_used, .inl (cI, 39, .inl (upd cd_used (cd_section : Int32).toNatClampNeg ((cd_used (cd_section : Int32).toNatClampNeg) ||| (15 <<< ((4 * x1) &&& 31)))))), (a_cd, .inr (1, [.ref a_cd_steps, .ref a_cd_starts, .ref a_cd_stops, .ref a_cd_used, .ref a_cd_stack, .int cd_size_1, .int cd_section, .int cd_height])), (a_cd_steps, .inl (cI, 1200, .inl cd_steps_2))] := hD
  rw [← hQ]
  have hP9 := hP.sub (ws' := [(a_cd, .inr (1, [.ref a_cd_steps, .ref a_cd_starts, .ref a_cd_stops, .ref a_cd_used, .ref a_cd_stack, .int cd_size_1, .int cd_section, .int cd_height])), (a_cd_steps, .inl (cI, 1200, .inl cd_steps_2)), (a_cd_used, .inl (cI, 39, .inl (upd cd_used (cd_section : Int32).toNatClampNeg ((cd_used (cd_section : Int32).toNatClampNeg) ||| (15 <<< ((4 * x1) &&& 31))))))]) [1, 2, 0] rfl
  have hD9 := hD.sub (ws' := [(a_cd, .inr (1, [.ref a_cd_steps, .ref a_cd_starts, .ref a_cd_stops, .ref a_cd_used, .ref a_cd_stack, .int cd_size_1, .int cd_section, .int cd_height])), (a_cd_steps, .inl (cI, 1200, .inl cd_steps_2)), (a_cd_used, .inl (cI, 39, .inl (upd cd_used (cd_section : Int32).toNatClampNeg ((cd_used (cd_section : Int32).toNatClampNeg) ||| (15 <<< ((4 * x1) &&& 31))))))]) [1, 2, 0] (by decide) rfl
  exact W.vret hx hb hr (fun t ht hW => ⟨⟨(cd_size_1, cd_steps_2, upd cd_used (cd_section : Int32).toNatClampNeg ((cd_used (cd_section : Int32).toNatClampNeg) ||| (15 <<< ((4 * x1) &&& 31)))), rfl, h, by rw [ht]; exact hP9, va_K.moved hW.alike hK, hD9⟩, hS.F ht⟩) hS.2.2 d_Code_addVariable_26
set_option maxHeartbeats 4000000 in
set_option maxRecDepth 100000 in
theorem c_Code_push (l : Launch) (dC : Nat → ClassId) (dI : Nat → Nat → Nat) (cI cB cZ : ClassId) (adK adV : Nat → Nat) (sz : Nat) (a_cd a_cd_steps a_cd_starts a_cd_stops a_cd_used a_cd_stack : Nat) (cd_size : Int32) (cd_section : Int32) (cd_height : Int32) (cd_stack : Nat → Int32) (x1 : Int32) (post : Int32 → (Nat → Int32) → Prop) (h : wp_Code_push x1 cd_height cd_stack post) : Met l y_Code_push w_Code_push ({ frames := 0, cells := 0, slots := 0, locals := 0 }) (pc_ (dC, dI) [(cI, .int), (cB, .byte), (cZ, .boolean)] [(a_cd, .inr (1, [.ref a_cd_steps, .ref a_cd_starts, .ref a_cd_stops, .ref a_cd_used, .ref a_cd_stack, .int cd_size, .int cd_section, .int cd_height])), (a_cd_stack, .inl (cI, 100, .inl cd_stack))] sz adK adV [.ref a_cd, .int x1]) (va_Qv (fun (u : Int32 × (Nat → Int32)) => post u.1 u.2) (fun (u : Int32 × (Nat → Int32)) t => bw_ (dC, dI) [(cI, .int), (cB, .byte), (cZ, .boolean)] (va_A [(a_cd, .inr (1, [.ref a_cd_steps, .ref a_cd_starts, .ref a_cd_stops, .ref a_cd_used, .ref a_cd_stack, .int cd_size, .int cd_section, .int cd_height])), (a_cd_stack, .inl (cI, 100, .inl cd_stack))] sz) [(a_cd, .inr (1, [.ref a_cd_steps, .ref a_cd_starts, .ref a_cd_stops, .ref a_cd_used, .ref a_cd_stack, .int cd_size, .int cd_section, .int u.1])), (a_cd_stack, .inl (cI, 100, .inl u.2))] t) (va_A [(a_cd, .inr (1, [.ref a_cd_steps, .ref a_cd_starts, .ref a_cd_stops, .ref a_cd_used, .ref a_cd_stack, .int cd_size, .int cd_section, .int cd_height])), (a_cd_stack, .inl (cI, 100, .inl cd_stack))] sz)) 0 0 (va_A [(a_cd, .inr (1, [.ref a_cd_steps, .ref a_cd_starts, .ref a_cd_stops, .ref a_cd_used, .ref a_cd_stack, .int cd_size, .int cd_section, .int cd_height])), (a_cd_stack, .inl (cI, 100, .inl cd_stack))] sz) := by
  refine Met.ofW (cc := b_Code_push) (maxL := 2) (ret := none) (by decide) rfl ?_
  intro p e s m args below meth c s₁ B hml hv
  obtain ⟨rfl, hsz, hP, hK, hD0, hN, hT⟩ := hv
  have hx := B.exec
  have hb := B.bytes
  have hr := B.returns
  have hts := atoms_spec (ws := w_Code_push) B.pre
  have hown : s.vm.findClass "LoopInduction$Code" = some m.cls := findClass_of_methodNamed B.named
  have hlocks := B.notSynchronized
  subst hsz
  have hD := hD0.self (sz := s.heap.size)
  generalize hAe : va_A [(a_cd, .inr (1, [.ref a_cd_steps, .ref a_cd_starts, .ref a_cd_stops, .ref a_cd_used, .ref a_cd_stack, .int cd_size, .int cd_section, .int cd_height])), (a_cd_stack, .inl (cI, 100, .inl cd_stack))] s.heap.size = A at hD hT ⊢
  have hA : ∀ q : Nat, s.heap.size ≤ q → A q := fun q h => by rw [← hAe]; exact Or.inr h
  have hS : va_S A s.heap s.heap [] := va_S.rf
  generalize hQ : MQ below _ _ s 0 0 _ = QQ
  have hl := lv_entry ([.ref a_cd, .int x1]) (n := 2) (Nat.le_of_ble_eq_true rfl)
  rw [lg_entry_eq]
  generalize (lg_sl ([.ref a_cd, .int x1]) ++ List.replicate (2 - (lg_sl ([.ref a_cd, .int x1])).length) Slot.unset).toArray = ls at hl ⊢
  have hl : lv_has ls 2 [(0, .ref a_cd), (1, .int x1)] := hl
  have fl_26 := (hts _ (List.mem_cons_of_mem _ m_166))
  have fl_36 := (hts _ (List.mem_cons_of_mem _ m_169))
  refine lv_aload_n hx hb d_Code_push_0 rfl (lv_at hl 0 rfl) ?_
  refine va_get (D := (dC, dI)) (ci := 1) (v := .int cd_height) (C := "LoopInduction$Code") (T := F_Code) (N := 8) hx hb hts iC_Code hown hK hP 0 rfl rfl 7 (by decide) fl_36 (fun _ h9 => h9) rfl d_Code_push_1 ?_
  refine lv_aload_n hx hb d_Code_push_4 rfl (lv_at hl 0 rfl) ?_
  refine va_get (D := (dC, dI)) (ci := 1) (v := .ref a_cd_stack) (C := "LoopInduction$Code") (T := F_Code) (N := 8) hx hb hts iC_Code hown hK hP 0 rfl rfl 4 (by decide) fl_26 (fun _ h9 => h9) rfl d_Code_push_5 ?_
  refine va_alen (v := 100) hx hb hK hP 1 0 rfl rfl rfl d_Code_push_8 ?_
  refine lv_icmp_ge (tgt := 32) hx hb d_Code_push_9 (by decide) (fun c_9 => ?_) (fun c_9 => ?_)
  · have h := And.left h c_9
    rw [← hQ]
    have hP9 := hP
    have hD9 := hD
    exact W.vret hx hb hr (fun t ht hW => ⟨⟨(cd_height, cd_stack), rfl, h, by rw [ht]; exact hP9, va_K.moved hW.alike hK, hD9⟩, hS.F ht⟩) hS.2.2 d_Code_push_32
  · have h := And.right h c_9
    refine lv_aload_n hx hb d_Code_push_12 rfl (lv_at hl 0 rfl) ?_
    refine va_get (D := (dC, dI)) (ci := 1) (v := .ref a_cd_stack) (C := "LoopInduction$Code") (T := F_Code) (N := 8) hx hb hts iC_Code hown hK hP 0 rfl rfl 4 (by decide) fl_26 (fun _ h9 => h9) rfl d_Code_push_13 ?_
    refine lv_aload_n hx hb d_Code_push_16 rfl (lv_at hl 0 rfl) ?_
    refine va_get (D := (dC, dI)) (ci := 1) (v := .int cd_height) (C := "LoopInduction$Code") (T := F_Code) (N := 8) hx hb hts iC_Code hown hK hP 0 rfl rfl 7 (by decide) fl_36 (fun _ h9 => h9) rfl d_Code_push_17 ?_
    refine lv_iload_n hx hb d_Code_push_20 rfl (lv_at hl 1 rfl) ?_
    obtain ⟨hin_21, h⟩ := h
    refine va_iast hx hb hK hP hD hS 1 0 rfl rfl hin_21 d_Code_push_21 (fun H locs hP hD hS => ?_)
    have hP : va_P (dC, dI) vwCl [(a_cd, .inr (1, [.ref a_cd_steps, .ref a_cd_starts, .ref a_cd_stops, .ref a_cd_used, .ref a_cd_stack, .int cd_size, .int cd_section, .int cd_height])), (a_cd_stack, .inl (cI, 100, .inl (upd cd_stack (cd_height : Int32).toNatClampNeg x1)))] H := hP
    have hD : va_D A [(a_cd, .inr (1, [.ref a_cd_steps, .ref a_cd_starts, .ref a_cd_stops, .ref a_cd_used, .ref a_cd_stack, .int cd_size, .int cd_section, .int cd_height])), (a_cd_stack, .inl (cI, 100, .inl (upd cd_stack (cd_height : Int32).toNatClampNeg x1)))] := hD
    refine lv_aload_n hx hb d_Code_push_22 rfl (lv_at hl 0 rfl) ?_
    refine lv_dup hx hb d_Code_push_23 rfl ?_
    refine va_get (D := (dC, dI)) (ci := 1) (v := .int cd_height) (C := "LoopInduction$Code") (T := F_Code) (N := 8) hx hb hts iC_Code hown hK hP 0 rfl rfl 7 (by decide) fl_36 (fun _ h9 => h9) rfl d_Code_push_24 ?_
    refine lv_iconst (v := 1) hx hb d_Code_push_27 (by decide) ?_
    refine lv_iadd hx hb d_Code_push_28 ?_
    refine va_put (D := (dC, dI)) (ci := 1) (v := .int (cd_height + 1)) (ty := .int) (C := "LoopInduction$Code") (T := F_Code) (N := 8) hx hb hts iC_Code t_Code t_Code_ok n_Code hown hK hP hD hS 0 rfl rfl 7 (by decide) fl_36 (fun _ h9 => h9) rfl (by decide +kernel) rfl rfl (Nat.le_of_ble_eq_true rfl) d_Code_push_29 (fun H locs hP hD hS => ?_)
    have hP : va_P (dC, dI) vwCl [(a_cd, .inr (1, [.ref a_cd_steps, .ref a_cd_starts, .ref a_cd_stops, .ref a_cd_used, .ref a_cd_stack, .int cd_size, .int cd_section, .int (cd_height + 1)])), (a_cd_stack, .inl (cI, 100, .inl (upd cd_stack (cd_height : Int32).toNatClampNeg x1)))] H := hP
    have hD : va_D A [(a_cd, .inr (1, [.ref a_cd_steps, .ref a_cd_starts, .ref a_cd_stops, .ref a_cd_used, .ref a_cd_stack, .int cd_size, .int cd_section, .int (cd_height + 1)])), (a_cd_stack, .inl (cI, 100, .inl (upd cd_stack (cd_height : Int32).toNatClampNeg x1)))] := hD
    rw [← hQ]
    have hP9 := hP
    have hD9 := hD
    exact W.vret hx hb hr (fun t ht hW => ⟨⟨(cd_height + 1, upd cd_stack (cd_height : Int32).toNatClampNeg x1), rfl, h, by rw [ht]; exact hP9, va_K.moved hW.alike hK, hD9⟩, hS.F ht⟩) hS.2.2 d_Code_push_32
set_option maxHeartbeats 4000000 in
set_option maxRecDepth 100000 in
theorem c_Code_pop (l : Launch) (dC : Nat → ClassId) (dI : Nat → Nat → Nat) (cI cB cZ : ClassId) (adK adV : Nat → Nat) (sz : Nat) (a_cd a_cd_steps a_cd_starts a_cd_stops a_cd_used a_cd_stack : Nat) (cd_size : Int32) (cd_section : Int32) (cd_height : Int32) (cd_stack : Nat → Int32) (post : Int32 → Int32 → Prop) (h : wp_Code_pop cd_height cd_stack post) : Met l y_Code_pop w_Code_pop ({ frames := 0, cells := 0, slots := 0, locals := 0 }) (pc_ (dC, dI) [(cI, .int), (cB, .byte), (cZ, .boolean)] [(a_cd, .inr (1, [.ref a_cd_steps, .ref a_cd_starts, .ref a_cd_stops, .ref a_cd_used, .ref a_cd_stack, .int cd_size, .int cd_section, .int cd_height])), (a_cd_stack, .inl (cI, 100, .inl cd_stack))] sz adK adV [.ref a_cd]) (va_Qi (fun (r : Int32) (u : Int32) => post r u) (fun (u : Int32) t => bw_ (dC, dI) [(cI, .int), (cB, .byte), (cZ, .boolean)] (va_A [(a_cd, .inr (1, [.ref a_cd_steps, .ref a_cd_starts, .ref a_cd_stops, .ref a_cd_used, .ref a_cd_stack, .int cd_size, .int cd_section, .int cd_height])), (a_cd_stack, .inl (cI, 100, .inl cd_stack))] sz) [(a_cd, .inr (1, [.ref a_cd_steps, .ref a_cd_starts, .ref a_cd_stops, .ref a_cd_used, .ref a_cd_stack, .int cd_size, .int cd_section, .int u])), (a_cd_stack, .inl (cI, 100, .inl cd_stack))] t) (va_A [(a_cd, .inr (1, [.ref a_cd_steps, .ref a_cd_starts, .ref a_cd_stops, .ref a_cd_used, .ref a_cd_stack, .int cd_size, .int cd_section, .int cd_height])), (a_cd_stack, .inl (cI, 100, .inl cd_stack))] sz)) 0 0 (va_A [(a_cd, .inr (1, [.ref a_cd_steps, .ref a_cd_starts, .ref a_cd_stops, .ref a_cd_used, .ref a_cd_stack, .int cd_size, .int cd_section, .int cd_height])), (a_cd_stack, .inl (cI, 100, .inl cd_stack))] sz) := by
  refine Met.ofW (cc := b_Code_pop) (maxL := 1) (ret := (some .int)) (by decide) rfl ?_
  intro p e s m args below meth c s₁ B hml hv
  obtain ⟨rfl, hsz, hP, hK, hD0, hN, hT⟩ := hv
  have hx := B.exec
  have hb := B.bytes
  have hr := B.returns
  have hts := atoms_spec (ws := w_Code_pop) B.pre
  have hown : s.vm.findClass "LoopInduction$Code" = some m.cls := findClass_of_methodNamed B.named
  have hlocks := B.notSynchronized
  subst hsz
  have hD := hD0.self (sz := s.heap.size)
  generalize hAe : va_A [(a_cd, .inr (1, [.ref a_cd_steps, .ref a_cd_starts, .ref a_cd_stops, .ref a_cd_used, .ref a_cd_stack, .int cd_size, .int cd_section, .int cd_height])), (a_cd_stack, .inl (cI, 100, .inl cd_stack))] s.heap.size = A at hD hT ⊢
  have hA : ∀ q : Nat, s.heap.size ≤ q → A q := fun q h => by rw [← hAe]; exact Or.inr h
  have hS : va_S A s.heap s.heap [] := va_S.rf
  generalize hQ : MQ below _ _ s 0 0 _ = QQ
  have hl := lv_entry ([.ref a_cd]) (n := 1) (Nat.le_of_ble_eq_true rfl)
  rw [lg_entry_eq]
  generalize (lg_sl ([.ref a_cd]) ++ List.replicate (1 - (lg_sl ([.ref a_cd])).length) Slot.unset).toArray = ls at hl ⊢
  have hl : lv_has ls 1 [(0, .ref a_cd)] := hl
  have fl_26 := (hts _ (List.mem_cons_of_mem _ m_166))
  have fl_36 := (hts _ (List.mem_cons_of_mem _ m_169))
  refine lv_aload_n hx hb d_Code_pop_0 rfl (lv_at hl 0 rfl) ?_
  refine va_get (D := (dC, dI)) (ci := 1) (v := .int cd_height) (C := "LoopInduction$Code") (T := F_Code) (N := 8) hx hb hts iC_Code hown hK hP 0 rfl rfl 7 (by decide) fl_36 (fun _ h9 => h9) rfl d_Code_pop_1 ?_
  refine lv_if_gt (tgt := 9) hx hb d_Code_pop_4 (by decide) (fun c_4 => ?_) (fun c_4 => ?_)
  · have h := And.left h c_4
    refine lv_aload_n hx hb d_Code_pop_9 rfl (lv_at hl 0 rfl) ?_
    refine lv_dup hx hb d_Code_pop_10 rfl ?_
    refine va_get (D := (dC, dI)) (ci := 1) (v := .int cd_height) (C := "LoopInduction$Code") (T := F_Code) (N := 8) hx hb hts iC_Code hown hK hP 0 rfl rfl 7 (by decide) fl_36 (fun _ h9 => h9) rfl d_Code_pop_11 ?_
    refine lv_iconst (v := 1) hx hb d_Code_pop_14 (by decide) ?_
    refine lv_isub hx hb d_Code_pop_15 ?_
    refine va_put (D := (dC, dI)) (ci := 1) (v := .int (cd_height - 1)) (ty := .int) (C := "LoopInduction$Code") (T := F_Code) (N := 8) hx hb hts iC_Code t_Code t_Code_ok n_Code hown hK hP hD hS 0 rfl rfl 7 (by decide) fl_36 (fun _ h9 => h9) rfl (by decide +kernel) rfl rfl (Nat.le_of_ble_eq_true rfl) d_Code_pop_16 (fun H locs hP hD hS => ?_)
    have hP : va_P (dC, dI) vwCl [(a_cd, .inr (1, [.ref a_cd_steps, .ref a_cd_starts, .ref a_cd_stops, .ref a_cd_used, .ref a_cd_stack, .int cd_size, .int cd_section, .int (cd_height - 1)])), (a_cd_stack, .inl (cI, 100, .inl cd_stack))] H := hP
    have hD : va_D A [(a_cd, .inr (1, [.ref a_cd_steps, .ref a_cd_starts, .ref a_cd_stops, .ref a_cd_used, .ref a_cd_stack, .int cd_size, .int cd_section, .int (cd_height - 1)])), (a_cd_stack, .inl (cI, 100, .inl cd_stack))] := hD
    refine lv_aload_n hx hb d_Code_pop_19 rfl (lv_at hl 0 rfl) ?_
    refine va_get (D := (dC, dI)) (ci := 1) (v := .ref a_cd_stack) (C := "LoopInduction$Code") (T := F_Code) (N := 8) hx hb hts iC_Code hown hK hP 0 rfl rfl 4 (by decide) fl_26 (fun _ h9 => h9) rfl d_Code_pop_20 ?_
    refine lv_aload_n hx hb d_Code_pop_23 rfl (lv_at hl 0 rfl) ?_
    refine va_get (D := (dC, dI)) (ci := 1) (v := .int (cd_height - 1)) (C := "LoopInduction$Code") (T := F_Code) (N := 8) hx hb hts iC_Code hown hK hP 0 rfl rfl 7 (by decide) fl_36 (fun _ h9 => h9) rfl d_Code_pop_24 ?_
    obtain ⟨hin_27, h⟩ := h
    refine va_iald hx hb hK hP 1 0 rfl rfl hin_27 d_Code_pop_27 ?_
    rw [← hQ]
    have hP9 := hP
    have hD9 := hD
    exact W.iret (v := cd_stack (cd_height - 1 : Int32).toNatClampNeg) hx hb hr (fun t ht hW => ⟨⟨(cd_stack (cd_height - 1 : Int32).toNatClampNeg), (cd_height - 1), rfl, h, by rw [ht]; exact hP9, va_K.moved hW.alike hK, hD9⟩, hS.F ht⟩) hS.2.2 d_Code_pop_28
  · have h := And.right h c_4
    refine lv_iconst (v := 0) hx hb d_Code_pop_7 (by decide) ?_
    rw [← hQ]
    have hP9 := hP
    have hD9 := hD
    exact W.iret (v := 0) hx hb hr (fun t ht hW => ⟨⟨0, (cd_height), rfl, h, by rw [ht]; exact hP9, va_K.moved hW.alike hK, hD9⟩, hS.F ht⟩) hS.2.2 d_Code_pop_8
set_option maxHeartbeats 4000000 in
set_option maxRecDepth 100000 in
theorem c_Code_joined (l : Launch) (dC : Nat → ClassId) (dI : Nat → Nat → Nat) (cI cB cZ : ClassId) (adK adV : Nat → Nat) (sz : Nat) (x0 : Int32) (x1 : Int32) (x2 : Int32) (post : Int32 → Prop) (h : wp_Code_joined x0 x1 x2 post) : Met l y_Code_joined w_Code_joined ({ frames := 0, cells := 0, slots := 0, locals := 0 }) (pc_ (dC, dI) [(cI, .int), (cB, .byte), (cZ, .boolean)] [] sz adK adV [.int x0, .int x1, .int x2]) (va_Qi (fun (r : Int32) (u : Unit) => post r ) (fun (u : Unit) t => bw_ (dC, dI) [(cI, .int), (cB, .byte), (cZ, .boolean)] (va_A [] sz) [] t) (va_A [] sz)) 0 0 (va_A [] sz) := by
  refine Met.ofW (cc := b_Code_joined) (maxL := 3) (ret := (some .int)) (by decide) rfl ?_
  intro p e s m args below meth c s₁ B hml hv
  obtain ⟨rfl, hsz, hP, hK, hD0, hN, hT⟩ := hv
  have hx := B.exec
  have hb := B.bytes
  have hr := B.returns
  have hts := atoms_spec (ws := w_Code_joined) B.pre
  have hown : s.vm.findClass "LoopInduction$Code" = some m.cls := findClass_of_methodNamed B.named
  have hlocks := B.notSynchronized
  subst hsz
  have hD := hD0.self (sz := s.heap.size)
  generalize hAe : va_A [] s.heap.size = A at hD hT ⊢
  have hA : ∀ q : Nat, s.heap.size ≤ q → A q := fun q h => by rw [← hAe]; exact Or.inr h
  have hS : va_S A s.heap s.heap [] := va_S.rf
  generalize hQ : MQ below _ _ s 0 0 _ = QQ
  have hl := lv_entry ([.int x0, .int x1, .int x2]) (n := 3) (Nat.le_of_ble_eq_true rfl)
  rw [lg_entry_eq]
  generalize (lg_sl ([.int x0, .int x1, .int x2]) ++ List.replicate (3 - (lg_sl ([.int x0, .int x1, .int x2])).length) Slot.unset).toArray = ls at hl ⊢
  have hl : lv_has ls 3 [(0, .int x0), (1, .int x1), (2, .int x2)] := hl
  refine lv_iload_n hx hb d_Code_joined_0 rfl (lv_at hl 0 rfl) ?_
  rcases Classical.em ((x0 : Int32) = 35) with e_1_0 | e_1_0
  · have h := h.1 e_1_0
    refine lv_lookup (off := 110) (tgt := 111) hx hb d_Code_joined_1 (by decide) (by rw [e_1_0]; rfl) (by decide) ?_
    refine lv_iload_n hx hb d_Code_joined_111 rfl (lv_at hl 1 rfl) ?_
    refine lv_iload_n hx hb d_Code_joined_112 rfl (lv_at hl 2 rfl) ?_
    refine lv_icmp_eq (tgt := 120) hx hb d_Code_joined_113 (by decide) (fun c_113 => ?_) (fun c_113 => ?_)
    · have h := And.left h c_113
      refine lv_iconst (v := 0) hx hb d_Code_joined_120 (by decide) ?_
      rw [← hQ]
      have hP9 := hP
      have hD9 := hD
      exact W.iret (v := 0) hx hb hr (fun t ht hW => ⟨⟨0, (), rfl, h, by rw [ht]; exact hP9, va_K.moved hW.alike hK, hD9⟩, hS.F ht⟩) hS.2.2 d_Code_joined_121
    · have h := And.right h c_113
      refine lv_iconst (v := 1) hx hb d_Code_joined_116 (by decide) ?_
      refine lv_goto (tgt := 121) hx hb d_Code_joined_117 (by decide) ?_
      rw [← hQ]
      have hP9 := hP
      have hD9 := hD
      exact W.iret (v := 1) hx hb hr (fun t ht hW => ⟨⟨1, (), rfl, h, by rw [ht]; exact hP9, va_K.moved hW.alike hK, hD9⟩, hS.F ht⟩) hS.2.2 d_Code_joined_121
  rcases Classical.em ((x0 : Int32) = 42) with e_1_1 | e_1_1
  · have h := h.2.1 e_1_1
    refine lv_lookup (off := 81) (tgt := 82) hx hb d_Code_joined_1 (by decide) (by rw [lv_osw e_1_0 (a := 35) (by decide)]; rw [e_1_1]; rfl) (by decide) ?_
    refine lv_iload_n hx hb d_Code_joined_82 rfl (lv_at hl 1 rfl) ?_
    refine lv_iload_n hx hb d_Code_joined_83 rfl (lv_at hl 2 rfl) ?_
    refine lv_imul hx hb d_Code_joined_84 ?_
    refine lv_bipush (v := 15) hx hb d_Code_joined_85 (by decide) ?_
    refine lv_iand hx hb d_Code_joined_87 ?_
    rw [← hQ]
    have hP9 := hP
    have hD9 := hD
    exact W.iret (v := (x1 * x2) &&& 15) hx hb hr (fun t ht hW => ⟨⟨((x1 * x2) &&& 15), (), rfl, h, by rw [ht]; exact hP9, va_K.moved hW.alike hK, hD9⟩, hS.F ht⟩) hS.2.2 d_Code_joined_88
  rcases Classical.em ((x0 : Int32) = 43) with e_1_2 | e_1_2
  · have h := h.2.2.1 e_1_2
    refine lv_lookup (off := 67) (tgt := 68) hx hb d_Code_joined_1 (by decide) (by rw [lv_osw e_1_0 (a := 35) (by decide)]; rw [lv_osw e_1_1 (a := 42) (by decide)]; rw [e_1_2]; rfl) (by decide) ?_
    refine lv_iload_n hx hb d_Code_joined_68 rfl (lv_at hl 1 rfl) ?_
    refine lv_iload_n hx hb d_Code_joined_69 rfl (lv_at hl 2 rfl) ?_
    refine lv_iadd hx hb d_Code_joined_70 ?_
    refine lv_bipush (v := 15) hx hb d_Code_joined_71 (by decide) ?_
    refine lv_iand hx hb d_Code_joined_73 ?_
    rw [← hQ]
    have hP9 := hP
    have hD9 := hD
    exact W.iret (v := (x1 + x2) &&& 15) hx hb hr (fun t ht hW => ⟨⟨((x1 + x2) &&& 15), (), rfl, h, by rw [ht]; exact hP9, va_K.moved hW.alike hK, hD9⟩, hS.F ht⟩) hS.2.2 d_Code_joined_74
  rcases Classical.em ((x0 : Int32) = 45) with e_1_3 | e_1_3
  · have h := h.2.2.2.1 e_1_3
    refine lv_lookup (off := 74) (tgt := 75) hx hb d_Code_joined_1 (by decide) (by rw [lv_osw e_1_0 (a := 35) (by decide)]; rw [lv_osw e_1_1 (a := 42) (by decide)]; rw [lv_osw e_1_2 (a := 43) (by decide)]; rw [e_1_3]; rfl) (by decide) ?_
    refine lv_iload_n hx hb d_Code_joined_75 rfl (lv_at hl 1 rfl) ?_
    refine lv_iload_n hx hb d_Code_joined_76 rfl (lv_at hl 2 rfl) ?_
    refine lv_isub hx hb d_Code_joined_77 ?_
    refine lv_bipush (v := 15) hx hb d_Code_joined_78 (by decide) ?_
    refine lv_iand hx hb d_Code_joined_80 ?_
    rw [← hQ]
    have hP9 := hP
    have hD9 := hD
    exact W.iret (v := (x1 - x2) &&& 15) hx hb hr (fun t ht hW => ⟨⟨((x1 - x2) &&& 15), (), rfl, h, by rw [ht]; exact hP9, va_K.moved hW.alike hK, hD9⟩, hS.F ht⟩) hS.2.2 d_Code_joined_81
  rcases Classical.em ((x0 : Int32) = 60) with e_1_4 | e_1_4
  · have h := h.2.2.2.2.1 e_1_4
    refine lv_lookup (off := 88) (tgt := 89) hx hb d_Code_joined_1 (by decide) (by rw [lv_osw e_1_0 (a := 35) (by decide)]; rw [lv_osw e_1_1 (a := 42) (by decide)]; rw [lv_osw e_1_2 (a := 43) (by decide)]; rw [lv_osw e_1_3 (a := 45) (by decide)]; rw [e_1_4]; rfl) (by decide) ?_
    refine lv_iload_n hx hb d_Code_joined_89 rfl (lv_at hl 1 rfl) ?_
    refine lv_iload_n hx hb d_Code_joined_90 rfl (lv_at hl 2 rfl) ?_
    refine lv_icmp_ge (tgt := 98) hx hb d_Code_joined_91 (by decide) (fun c_91 => ?_) (fun c_91 => ?_)
    · have h := And.left h c_91
      refine lv_iconst (v := 0) hx hb d_Code_joined_98 (by decide) ?_
      rw [← hQ]
      have hP9 := hP
      have hD9 := hD
      exact W.iret (v := 0) hx hb hr (fun t ht hW => ⟨⟨0, (), rfl, h, by rw [ht]; exact hP9, va_K.moved hW.alike hK, hD9⟩, hS.F ht⟩) hS.2.2 d_Code_joined_99
    · have h := And.right h c_91
      refine lv_iconst (v := 1) hx hb d_Code_joined_94 (by decide) ?_
      refine lv_goto (tgt := 99) hx hb d_Code_joined_95 (by decide) ?_
      rw [← hQ]
      have hP9 := hP
      have hD9 := hD
      exact W.iret (v := 1) hx hb hr (fun t ht hW => ⟨⟨1, (), rfl, h, by rw [ht]; exact hP9, va_K.moved hW.alike hK, hD9⟩, hS.F ht⟩) hS.2.2 d_Code_joined_99
  rcases Classical.em ((x0 : Int32) = 61) with e_1_5 | e_1_5
  · have h := h.2.2.2.2.2.1 e_1_5
    refine lv_lookup (off := 99) (tgt := 100) hx hb d_Code_joined_1 (by decide) (by rw [lv_osw e_1_0 (a := 35) (by decide)]; rw [lv_osw e_1_1 (a := 42) (by decide)]; rw [lv_osw e_1_2 (a := 43) (by decide)]; rw [lv_osw e_1_3 (a := 45) (by decide)]; rw [lv_osw e_1_4 (a := 60) (by decide)]; rw [e_1_5]; rfl) (by decide) ?_
    refine lv_iload_n hx hb d_Code_joined_100 rfl (lv_at hl 1 rfl) ?_
    refine lv_iload_n hx hb d_Code_joined_101 rfl (lv_at hl 2 rfl) ?_
    refine lv_icmp_ne (tgt := 109) hx hb d_Code_joined_102 (by decide) (fun c_102 => ?_) (fun c_102 => ?_)
    · have h := And.left h c_102
      refine lv_iconst (v := 0) hx hb d_Code_joined_109 (by decide) ?_
      rw [← hQ]
      have hP9 := hP
      have hD9 := hD
      exact W.iret (v := 0) hx hb hr (fun t ht hW => ⟨⟨0, (), rfl, h, by rw [ht]; exact hP9, va_K.moved hW.alike hK, hD9⟩, hS.F ht⟩) hS.2.2 d_Code_joined_110
    · have h := And.right h c_102
      refine lv_iconst (v := 1) hx hb d_Code_joined_105 (by decide) ?_
      refine lv_goto (tgt := 110) hx hb d_Code_joined_106 (by decide) ?_
      rw [← hQ]
      have hP9 := hP
      have hD9 := hD
      exact W.iret (v := 1) hx hb hr (fun t ht hW => ⟨⟨1, (), rfl, h, by rw [ht]; exact hP9, va_K.moved hW.alike hK, hD9⟩, hS.F ht⟩) hS.2.2 d_Code_joined_110
  rcases Classical.em ((x0 : Int32) = 267) with e_1_6 | e_1_6
  · have h := h.2.2.2.2.2.2.1 e_1_6
    refine lv_lookup (off := 121) (tgt := 122) hx hb d_Code_joined_1 (by decide) (by rw [lv_osw e_1_0 (a := 35) (by decide)]; rw [lv_osw e_1_1 (a := 42) (by decide)]; rw [lv_osw e_1_2 (a := 43) (by decide)]; rw [lv_osw e_1_3 (a := 45) (by decide)]; rw [lv_osw e_1_4 (a := 60) (by decide)]; rw [lv_osw e_1_5 (a := 61) (by decide)]; rw [e_1_6]; rfl) (by decide) ?_
    refine lv_iload_n hx hb d_Code_joined_122 rfl (lv_at hl 1 rfl) ?_
    refine lv_iload_n hx hb d_Code_joined_123 rfl (lv_at hl 2 rfl) ?_
    refine lv_iand hx hb d_Code_joined_124 ?_
    rw [← hQ]
    have hP9 := hP
    have hD9 := hD
    exact W.iret (v := x1 &&& x2) hx hb hr (fun t ht hW => ⟨⟨(x1 &&& x2), (), rfl, h, by rw [ht]; exact hP9, va_K.moved hW.alike hK, hD9⟩, hS.F ht⟩) hS.2.2 d_Code_joined_125
  have h := h.2.2.2.2.2.2.2 e_1_0 e_1_1 e_1_2 e_1_3 e_1_4 e_1_5 e_1_6
  refine lv_lookup (off := 125) (tgt := 126) hx hb d_Code_joined_1 (by decide) (by rw [lv_osw e_1_0 (a := 35) (by decide)]; rw [lv_osw e_1_1 (a := 42) (by decide)]; rw [lv_osw e_1_2 (a := 43) (by decide)]; rw [lv_osw e_1_3 (a := 45) (by decide)]; rw [lv_osw e_1_4 (a := 60) (by decide)]; rw [lv_osw e_1_5 (a := 61) (by decide)]; rw [lv_osw e_1_6 (a := 267) (by decide)]; rfl) (by decide) ?_
  refine lv_iload_n hx hb d_Code_joined_126 rfl (lv_at hl 1 rfl) ?_
  refine lv_iload_n hx hb d_Code_joined_127 rfl (lv_at hl 2 rfl) ?_
  refine lv_ior hx hb d_Code_joined_128 ?_
  rw [← hQ]
  have hP9 := hP
  have hD9 := hD
  exact W.iret (v := x1 ||| x2) hx hb hr (fun t ht hW => ⟨⟨(x1 ||| x2), (), rfl, h, by rw [ht]; exact hP9, va_K.moved hW.alike hK, hD9⟩, hS.F ht⟩) hS.2.2 d_Code_joined_129
set_option maxHeartbeats 4000000 in
set_option maxRecDepth 100000 in
theorem c_Code_valueIn (l : Launch) (dC : Nat → ClassId) (dI : Nat → Nat → Nat) (cI cB cZ : ClassId) (adK adV : Nat → Nat) (sz : Nat) (a_cd a_cd_steps a_cd_starts a_cd_stops a_cd_used a_cd_stack : Nat) (cd_size : Int32) (cd_section : Int32) (cd_height : Int32) (cd_steps : Nat → Int32) (cd_stack : Nat → Int32) (x1 : Int32) (x2 : Int32) (x3 : Int32) (post : Int32 → Int32 → (Nat → Int32) → Prop) (h : wp_Code_valueIn x1 x2 x3 cd_height cd_steps cd_stack post) : Met l y_Code_valueIn w_Code_valueIn ({ frames := 1, cells := 0, slots := 0, locals := 22 }) (pc_ (dC, dI) [(cI, .int), (cB, .byte), (cZ, .boolean)] [(a_cd, .inr (1, [.ref a_cd_steps, .ref a_cd_starts, .ref a_cd_stops, .ref a_cd_used, .ref a_cd_stack, .int cd_size, .int cd_section, .int cd_height])), (a_cd_steps, .inl (cI, 1200, .inl cd_steps)), (a_cd_stack, .inl (cI, 100, .inl cd_stack))] sz adK adV [.ref a_cd, .int x1, .int x2, .int x3]) (va_Qi (fun (r : Int32) (u : Int32 × (Nat → Int32)) => post r u.1 u.2) (fun (u : Int32 × (Nat → Int32)) t => bw_ (dC, dI) [(cI, .int), (cB, .byte), (cZ, .boolean)] (va_A [(a_cd, .inr (1, [.ref a_cd_steps, .ref a_cd_starts, .ref a_cd_stops, .ref a_cd_used, .ref a_cd_stack, .int cd_size, .int cd_section, .int cd_height])), (a_cd_steps, .inl (cI, 1200, .inl cd_steps)), (a_cd_stack, .inl (cI, 100, .inl cd_stack))] sz) [(a_cd, .inr (1, [.ref a_cd_steps, .ref a_cd_starts, .ref a_cd_stops, .ref a_cd_used, .ref a_cd_stack, .int cd_size, .int cd_section, .int u.1])), (a_cd_steps, .inl (cI, 1200, .inl cd_steps)), (a_cd_stack, .inl (cI, 100, .inl u.2))] t) (va_A [(a_cd, .inr (1, [.ref a_cd_steps, .ref a_cd_starts, .ref a_cd_stops, .ref a_cd_used, .ref a_cd_stack, .int cd_size, .int cd_section, .int cd_height])), (a_cd_steps, .inl (cI, 1200, .inl cd_steps)), (a_cd_stack, .inl (cI, 100, .inl cd_stack))] sz)) 0 0 (va_A [(a_cd, .inr (1, [.ref a_cd_steps, .ref a_cd_starts, .ref a_cd_stops, .ref a_cd_used, .ref a_cd_stack, .int cd_size, .int cd_section, .int cd_height])), (a_cd_steps, .inl (cI, 1200, .inl cd_steps)), (a_cd_stack, .inl (cI, 100, .inl cd_stack))] sz) := by
  refine Met.ofW (cc := b_Code_valueIn) (maxL := 7) (ret := (some .int)) (by decide) rfl ?_
  intro p e s m args below meth c s₁ B hml hv
  obtain ⟨rfl, hsz, hP, hK, hD0, hN, hT⟩ := hv
  have hx := B.exec
  have hb := B.bytes
  have hr := B.returns
  have hts := atoms_spec (ws := w_Code_valueIn) B.pre
  have hown : s.vm.findClass "LoopInduction$Code" = some m.cls := findClass_of_methodNamed B.named
  have hlocks := B.notSynchronized
  subst hsz
  have hD := hD0.self (sz := s.heap.size)
  generalize hAe : va_A [(a_cd, .inr (1, [.ref a_cd_steps, .ref a_cd_starts, .ref a_cd_stops, .ref a_cd_used, .ref a_cd_stack, .int cd_size, .int cd_section, .int cd_height])), (a_cd_steps, .inl (cI, 1200, .inl cd_steps)), (a_cd_stack, .inl (cI, 100, .inl cd_stack))] s.heap.size = A at hD hT ⊢
  have hA : ∀ q : Nat, s.heap.size ≤ q → A q := fun q h => by rw [← hAe]; exact Or.inr h
  have hS : va_S A s.heap s.heap [] := va_S.rf
  generalize hQ : MQ below _ _ s 0 0 _ = QQ
  have hl := lv_entry ([.ref a_cd, .int x1, .int x2, .int x3]) (n := 7) (Nat.le_of_ble_eq_true rfl)
  rw [lg_entry_eq]
  generalize (lg_sl ([.ref a_cd, .int x1, .int x2, .int x3]) ++ List.replicate (7 - (lg_sl ([.ref a_cd, .int x1, .int x2, .int x3])).length) Slot.unset).toArray = ls at hl ⊢
  have hl : lv_has ls 7 [(0, .ref a_cd), (1, .int x1), (2, .int x2), (3, .int x3)] := hl
  have fl_13 := (hts _ (List.mem_cons_of_mem _ m_162))
  have fl_36 := (hts _ (List.mem_cons_of_mem _ m_169))
  refine lv_aload_n hx hb d_Code_valueIn_0 rfl (lv_at hl 0 rfl) ?_
  refine lv_iconst (v := 0) hx hb d_Code_valueIn_1 (by decide) ?_
  refine va_put (D := (dC, dI)) (ci := 1) (v := .int 0) (ty := .int) (C := "LoopInduction$Code") (T := F_Code) (N := 8) hx hb hts iC_Code t_Code t_Code_ok n_Code hown hK hP hD hS 0 rfl rfl 7 (by decide) fl_36 (fun _ h9 => h9) rfl (by decide +kernel) rfl rfl (Nat.le_of_ble_eq_true rfl) d_Code_valueIn_2 (fun H locs hP hD hS => ?_)
  have hP : va_P (dC, dI) vwCl [(a_cd, .inr (1, [.ref a_cd_steps, .ref a_cd_starts, .ref a_cd_stops, .ref a_cd_used, .ref a_cd_stack, .int cd_size, .int cd_section, .int 0])), (a_cd_steps, .inl (cI, 1200, .inl cd_steps)), (a_cd_stack, .inl (cI, 100, .inl cd_stack))] H := hP
  have hD : va_D A [(a_cd, .inr (1, [.ref a_cd_steps, .ref a_cd_starts, .ref a_cd_stops, .ref a_cd_used, .ref a_cd_stack, .int cd_size, .int cd_section, .int 0])), (a_cd_steps, .inl (cI, 1200, .inl cd_steps)), (a_cd_stack, .inl (cI, 100, .inl cd_stack))] := hD
  refine lv_iload_n hx hb d_Code_valueIn_5 rfl (lv_at hl 2 rfl) ?_
  refine lv_istore (lv' := [(4, .int x2), (0, .ref a_cd), (1, .int x1), (2, .int x2), (3, .int x3)]) hx hb d_Code_valueIn_6 hl (by decide) rfl (fun ls hl => ?_)
  have L8_q_4 : ∀ (k151 : (Int32) → (Nat → Int32) → Prop) (hk151 : ∀ (cd_height_5 : Int32) (cd_stack_6 : Nat → Int32), k151 cd_height_5 cd_stack_6 → ∀ (H : Heap) (locs : List Loc), va_P (dC, dI) vwCl [(a_cd, .inr (1, [.ref a_cd_steps, .ref a_cd_starts, .ref a_cd_stops, .ref a_cd_used, .ref a_cd_stack, .int cd_size, .int cd_section, .int cd_height_5])), (a_cd_steps, .inl (cI, 1200, .inl cd_steps)), (a_cd_stack, .inl (cI, 100, .inl cd_stack_6))] H → va_D A [(a_cd, .inr (1, [.ref a_cd_steps, .ref a_cd_starts, .ref a_cd_stops, .ref a_cd_used, .ref a_cd_stack, .int cd_size, .int cd_section, .int cd_height_5])), (a_cd_steps, .inl (cI, 1200, .inl cd_steps)), (a_cd_stack, .inl (cI, 100, .inl cd_stack_6))] → va_S A s.heap H locs → ∀ ls : Array Slot, lv_has ls 7 [(0, .ref a_cd)] → W p l e (headSpec w_Code_valueIn ({ frames := 1, cells := 0, slots := 0, locals := 22 })).room s m (([.ref a_cd, .int x1, .int x2, .int x3] : List Value).toArray) below meth c H locs 0 0 QQ (F0 m 151 ls [])) (n : Nat) (x4_1 : Int32) (cd_height_2 : Int32) (cd_stack_3 : Nat → Int32), wp_Code_valueIn_L8 x1 x3 cd_steps k151 n x4_1 cd_height_2 cd_stack_3 → ∀ (H : Heap) (locs : List Loc), va_P (dC, dI) vwCl [(a_cd, .inr (1, [.ref a_cd_steps, .ref a_cd_starts, .ref a_cd_stops, .ref a_cd_used, .ref a_cd_stack, .int cd_size, .int cd_section, .int cd_height_2])), (a_cd_steps, .inl (cI, 1200, .inl cd_steps)), (a_cd_stack, .inl (cI, 100, .inl cd_stack_3))] H → va_D A [(a_cd, .inr (1, [.ref a_cd_steps, .ref a_cd_starts, .ref a_cd_stops, .ref a_cd_used, .ref a_cd_stack, .int cd_size, .int cd_section, .int cd_height_2])), (a_cd_steps, .inl (cI, 1200, .inl cd_steps)), (a_cd_stack, .inl (cI, 100, .inl cd_stack_3))] → va_S A s.heap H locs → ∀ ls : Array Slot, lv_has ls 7 [(0, .ref a_cd), (1, .int x1), (3, .int x3), (4, .int x4_1)] → W p l e (headSpec w_Code_valueIn ({ frames := 1, cells := 0, slots := 0, locals := 22 })).room s m (([.ref a_cd, .int x1, .int x2, .int x3] : List Value).toArray) below meth c H locs 0 0 QQ (F0 m 8 ls []) := by
    intro k151 hk151 n
    induction n with
    | zero => intro x4_1 cd_height_2 cd_stack_3 h; exact (show False from h).elim
    | succ n il =>
      intro x4_1 cd_height_2 cd_stack_3 h
      intro H locs hP hD hS ls hl
      refine lv_iload hx hb d_Code_valueIn_8 (lv_at hl 3 rfl) ?_
      refine lv_if_lt (tgt := 151) hx hb d_Code_valueIn_10 (by decide) (fun c_10 => ?_) (fun c_10 => ?_)
      · have h := And.left h c_10
        exact hk151 _ _ h _ _ hP hD hS _ (lv_sub hl [0] rfl)
      · have h := And.right h c_10
        refine lv_iload hx hb d_Code_valueIn_13 (lv_at hl 3 rfl) ?_
        refine lv_iload_n hx hb d_Code_valueIn_15 rfl (lv_at hl 2 rfl) ?_
        refine lv_icmp_ge (tgt := 151) hx hb d_Code_valueIn_16 (by decide) (fun c_16 => ?_) (fun c_16 => ?_)
        · have h := And.left h c_16
          exact hk151 _ _ h _ _ hP hD hS _ (lv_sub hl [0] rfl)
        · have h := And.right h c_16
          refine lv_iload hx hb d_Code_valueIn_19 (lv_at hl 3 rfl) ?_
          refine lv_aload_n hx hb d_Code_valueIn_21 rfl (lv_at hl 0 rfl) ?_
          refine va_get (D := (dC, dI)) (ci := 1) (v := .ref a_cd_steps) (C := "LoopInduction$Code") (T := F_Code) (N := 8) hx hb hts iC_Code hown hK hP 0 rfl rfl 0 (by decide) fl_13 (fun _ h9 => h9) rfl d_Code_valueIn_22 ?_
          refine va_alen (v := 1200) hx hb hK hP 1 0 rfl rfl rfl d_Code_valueIn_25 ?_
          refine lv_icmp_ge (tgt := 151) hx hb d_Code_valueIn_26 (by decide) (fun c_26 => ?_) (fun c_26 => ?_)
          · have h := And.left h c_26
            exact hk151 _ _ h _ _ hP hD hS _ (lv_sub hl [0] rfl)
          · have h := And.right h c_26
            refine lv_aload_n hx hb d_Code_valueIn_29 rfl (lv_at hl 0 rfl) ?_
            refine va_get (D := (dC, dI)) (ci := 1) (v := .ref a_cd_steps) (C := "LoopInduction$Code") (T := F_Code) (N := 8) hx hb hts iC_Code hown hK hP 0 rfl rfl 0 (by decide) fl_13 (fun _ h9 => h9) rfl d_Code_valueIn_30 ?_
            refine lv_iload hx hb d_Code_valueIn_33 (lv_at hl 3 rfl) ?_
            obtain ⟨hin_35, h⟩ := h
            refine va_iald hx hb hK hP 1 0 rfl rfl hin_35 d_Code_valueIn_35 ?_
            refine lv_topi (fun x5_7 ex5_7 => ?_)
            have h := h x5_7 ex5_7
            refine lv_istore (lv' := [(5, .int x5_7), (0, .ref a_cd), (1, .int x1), (3, .int x3), (4, .int x4_1)]) hx hb d_Code_valueIn_36 hl (by decide) rfl (fun ls hl => ?_)
            refine lv_iload hx hb d_Code_valueIn_38 (lv_at hl 0 rfl) ?_
            refine lv_bipush (v := 16) hx hb d_Code_valueIn_40 (by decide) ?_
            refine lv_icmp_ge (tgt := 54) hx hb d_Code_valueIn_42 (by decide) (fun c_42 => ?_) (fun c_42 => ?_)
            · have h := And.left h c_42
              refine lv_iload hx hb d_Code_valueIn_54 (lv_at hl 0 rfl) ?_
              refine lv_bipush (v := 19) hx hb d_Code_valueIn_56 (by decide) ?_
              refine lv_icmp_ge (tgt := 80) hx hb d_Code_valueIn_58 (by decide) (fun c_58 => ?_) (fun c_58 => ?_)
              · have h := And.left h c_58
                refine lv_iload hx hb d_Code_valueIn_80 (lv_at hl 0 rfl) ?_
                refine lv_sipush (v := 300) hx hb d_Code_valueIn_82 (by decide) ?_
                refine lv_icmp_ne (tgt := 103) hx hb d_Code_valueIn_85 (by decide) (fun c_85 => ?_) (fun c_85 => ?_)
                · have h := And.left h c_85
                  refine lv_iload hx hb d_Code_valueIn_103 (lv_at hl 0 rfl) ?_
                  refine lv_sipush (v := 268) hx hb d_Code_valueIn_105 (by decide) ?_
                  refine lv_icmp_ne (tgt := 124) hx hb d_Code_valueIn_108 (by decide) (fun c_108 => ?_) (fun c_108 => ?_)
                  · have h := And.left h c_108
                    refine lv_aload_n hx hb d_Code_valueIn_124 rfl (lv_at hl 1 rfl) ?_
                    refine jn_i (wr := [(a_cd_steps, .inl (cI, 1200, .inl cd_steps))]) (va_runV (As := []) (rest := []) ⟨hx, hb, hml, hown, hts⟩ (c_Code_pop l dC dI cI cB cZ adK adV _ a_cd a_cd_steps a_cd_starts a_cd_stops a_cd_used a_cd_stack cd_size cd_section cd_height_2 cd_stack_3 _ h) (cwV 0 hts (gv_ m_733 m_735 m_23 m_88 m_736) rfl rfl rfl pd_Code_pop ⟨Nat.le_of_ble_eq_true rfl, Nat.le_of_ble_eq_true rfl⟩) ⟨pc_blind, va_recv hK hP (ci := 1) (q0 := 0) rfl rfl, pc_of (hP.sub [0, 2] rfl) hK (hD.sub [0, 2] (by decide) rfl) hN hT hS hA⟩ rfl rfl hl.1 rfl (lv_room (Nat.le_of_ble_eq_true rfl)) d_Code_valueIn_125 ⟨Nat.zero_le _, Nat.zero_le _⟩) hP hD hS hA [0, 2] [1] rfl rfl (by decide) (by decide) (fun r_8 cd_height_9 H locs h hP hD hS => ?_)
                    have hP : va_P (dC, dI) vwCl [(a_cd_steps, .inl (cI, 1200, .inl cd_steps)), (a_cd, .inr (1, [.ref a_cd_steps, .ref a_cd_starts, .ref a_cd_stops, .ref a_cd_used, .ref a_cd_stack, .int cd_size, .int cd_section, .int cd_height_9])), (a_cd_stack, .inl (cI, 100, .inl cd_stack_3))] H := hP
                    have hD : va_D A [(a_cd_steps, .inl (cI, 1200, .inl cd_steps)), (a_cd, .inr (1, [.ref a_cd_steps, .ref a_cd_starts, .ref a_cd_stops, .ref a_cd_used, .ref a_cd_stack, .int cd_size, .int cd_section, .int cd_height_9])), (a_cd_stack, .inl (cI, 100, .inl cd_stack_3))] := hD
                    refine lv_istore (lv' := [(6, .int r_8), (5, .int x5_7), (0, .ref a_cd), (1, .int x1), (3, .int x3), (4, .int x4_1)]) hx hb d_Code_valueIn_128 hl (by decide) rfl (fun ls hl => ?_)
                    refine lv_aload_n hx hb d_Code_valueIn_130 rfl (lv_at hl 2 rfl) ?_
                    refine lv_iload hx hb d_Code_valueIn_131 (lv_at hl 1 rfl) ?_
                    refine lv_aload_n hx hb d_Code_valueIn_133 rfl (lv_at hl 2 rfl) ?_
                    refine jn_i (wr := [(a_cd_steps, .inl (cI, 1200, .inl cd_steps))]) (va_runV (As := []) (rest := [.int x5_7, .ref a_cd]) ⟨hx, hb, hml, hown, hts⟩ (c_Code_pop l dC dI cI cB cZ adK adV _ a_cd a_cd_steps a_cd_starts a_cd_stops a_cd_used a_cd_stack cd_size cd_section cd_height_9 cd_stack_3 _ h) (cwV 0 hts (gv_ m_733 m_735 m_23 m_88 m_736) rfl rfl rfl pd_Code_pop ⟨Nat.le_of_ble_eq_true rfl, Nat.le_of_ble_eq_true rfl⟩) ⟨pc_blind, va_recv hK hP (ci := 1) (q0 := 1) rfl rfl, pc_of (hP.sub [1, 2] rfl) hK (hD.sub [1, 2] (by decide) rfl) hN hT hS hA⟩ rfl rfl hl.1 rfl (lv_room (Nat.le_of_ble_eq_true rfl)) d_Code_valueIn_134 ⟨Nat.zero_le _, Nat.zero_le _⟩) hP hD hS hA [1, 2] [0] rfl rfl (by decide) (by decide) (fun r_10 cd_height_11 H locs h hP hD hS => ?_)
                    have hP : va_P (dC, dI) vwCl [(a_cd_steps, .inl (cI, 1200, .inl cd_steps)), (a_cd, .inr (1, [.ref a_cd_steps, .ref a_cd_starts, .ref a_cd_stops, .ref a_cd_used, .ref a_cd_stack, .int cd_size, .int cd_section, .int cd_height_11])), (a_cd_stack, .inl (cI, 100, .inl cd_stack_3))] H := hP
                    have hD : va_D A [(a_cd_steps, .inl (cI, 1200, .inl cd_steps)), (a_cd, .inr (1, [.ref a_cd_steps, .ref a_cd_starts, .ref a_cd_stops, .ref a_cd_used, .ref a_cd_stack, .int cd_size, .int cd_section, .int cd_height_11])), (a_cd_stack, .inl (cI, 100, .inl cd_stack_3))] := hD
                    refine lv_iload hx hb d_Code_valueIn_137 (lv_at hl 0 rfl) ?_
                    refine jn_i (wr := [(a_cd_steps, .inl (cI, 1200, .inl cd_steps)), (a_cd, .inr (1, [.ref a_cd_steps, .ref a_cd_starts, .ref a_cd_stops, .ref a_cd_used, .ref a_cd_stack, .int cd_size, .int cd_section, .int cd_height_11])), (a_cd_stack, .inl (cI, 100, .inl cd_stack_3))]) (va_runS (As := [.int x5_7, .int r_10, .int r_8]) (rest := [.ref a_cd]) ⟨hx, hb, hml, hown, hts⟩ (c_Code_joined l dC dI cI cB cZ adK adV _ x5_7 r_10 r_8 _ h) (cwS 3 hts (gs_ m_737 m_738 m_88 m_739) rfl rfl rfl pd_Code_joined ⟨Nat.le_of_ble_eq_true rfl, Nat.le_of_ble_eq_true rfl⟩) ⟨pc_blind, pc_of (hP.sub [] rfl) hK (hD.sub [] (by decide) rfl) hN hT hS hA⟩ rfl rfl hl.1 rfl (lv_room (Nat.le_of_ble_eq_true rfl)) d_Code_valueIn_139 ⟨Nat.zero_le _, Nat.zero_le _⟩) hP hD hS hA [] [0, 1, 2] rfl rfl (by decide) (by decide) (fun r_12 u_ H locs h hP hD hS => ?_)
                    have hP : va_P (dC, dI) vwCl [(a_cd_steps, .inl (cI, 1200, .inl cd_steps)), (a_cd, .inr (1, [.ref a_cd_steps, .ref a_cd_starts, .ref a_cd_stops, .ref a_cd_used, .ref a_cd_stack, .int cd_size, .int cd_section, .int cd_height_11])), (a_cd_stack, .inl (cI, 100, .inl cd_stack_3))] H := hP
                    have hD : va_D A [(a_cd_steps, .inl (cI, 1200, .inl cd_steps)), (a_cd, .inr (1, [.ref a_cd_steps, .ref a_cd_starts, .ref a_cd_stops, .ref a_cd_used, .ref a_cd_stack, .int cd_size, .int cd_section, .int cd_height_11])), (a_cd_stack, .inl (cI, 100, .inl cd_stack_3))] := hD
                    refine jn_v (wr := [(a_cd_steps, .inl (cI, 1200, .inl cd_steps))]) (va_runV (As := [.int r_12]) (rest := []) ⟨hx, hb, hml, hown, hts⟩ (c_Code_push l dC dI cI cB cZ adK adV _ a_cd a_cd_steps a_cd_starts a_cd_stops a_cd_used a_cd_stack cd_size cd_section cd_height_11 cd_stack_3 r_12 _ h) (cwV 1 hts (gv_ m_729 m_731 m_22 m_88 m_732) rfl rfl rfl pd_Code_push ⟨Nat.le_of_ble_eq_true rfl, Nat.le_of_ble_eq_true rfl⟩) ⟨pc_blind, va_recv hK hP (ci := 1) (q0 := 1) rfl rfl, pc_of (hP.sub [1, 2] rfl) hK (hD.sub [1, 2] (by decide) rfl) hN hT hS hA⟩ rfl rfl hl.1 rfl (lv_room (Nat.le_of_ble_eq_true rfl)) d_Code_valueIn_142 ⟨Nat.zero_le _, Nat.zero_le _⟩) hP hD hS hA [1, 2] [0] rfl rfl (by decide) (by decide) (fun u_ H locs h hP hD hS => ?_)
                    obtain ⟨cd_height_13, cd_stack_14⟩ := u_
                    have hP : va_P (dC, dI) vwCl [(a_cd_steps, .inl (cI, 1200, .inl cd_steps)), (a_cd, .inr (1, [.ref a_cd_steps, .ref a_cd_starts, .ref a_cd_stops, .ref a_cd_used, .ref a_cd_stack, .int cd_size, .int cd_section, .int cd_height_13])), (a_cd_stack, .inl (cI, 100, .inl cd_stack_14))] H := hP
                    have hD : va_D A [(a_cd_steps, .inl (cI, 1200, .inl cd_steps)), (a_cd, .inr (1, [.ref a_cd_steps, .ref a_cd_starts, .ref a_cd_stops, .ref a_cd_used, .ref a_cd_stack, .int cd_size, .int cd_section, .int cd_height_13])), (a_cd_stack, .inl (cI, 100, .inl cd_stack_14))] := hD
                    refine lv_iinc (v := x4_1 + 1) (lv' := [(4, .int (x4_1 + 1)), (6, .int r_8), (5, .int x5_7), (0, .ref a_cd), (1, .int x1), (3, .int x3)]) hx hb d_Code_valueIn_145 hl (k := 5) rfl rfl (by decide) rfl (fun ls hl => ?_)
                    refine lv_goto (tgt := 8) hx hb d_Code_valueIn_148 (by decide) ?_
                    exact il _ _ _ h _ _ (hP.sub [1, 0, 2] rfl) (hD.sub [1, 0, 2] (by decide) rfl) hS _ (lv_sub hl [3, 4, 5, 0] rfl)
                  · have h := And.right h c_108
                    refine lv_aload_n hx hb d_Code_valueIn_111 rfl (lv_at hl 1 rfl) ?_
                    refine lv_iconst (v := 1) hx hb d_Code_valueIn_112 (by decide) ?_
                    refine lv_aload_n hx hb d_Code_valueIn_113 rfl (lv_at hl 1 rfl) ?_
                    refine jn_i (wr := [(a_cd_steps, .inl (cI, 1200, .inl cd_steps))]) (va_runV (As := []) (rest := [.int 1, .ref a_cd]) ⟨hx, hb, hml, hown, hts⟩ (c_Code_pop l dC dI cI cB cZ adK adV _ a_cd a_cd_steps a_cd_starts a_cd_stops a_cd_used a_cd_stack cd_size cd_section cd_height_2 cd_stack_3 _ h) (cwV 0 hts (gv_ m_733 m_735 m_23 m_88 m_736) rfl rfl rfl pd_Code_pop ⟨Nat.le_of_ble_eq_true rfl, Nat.le_of_ble_eq_true rfl⟩) ⟨pc_blind, va_recv hK hP (ci := 1) (q0 := 0) rfl rfl, pc_of (hP.sub [0, 2] rfl) hK (hD.sub [0, 2] (by decide) rfl) hN hT hS hA⟩ rfl rfl hl.1 rfl (lv_room (Nat.le_of_ble_eq_true rfl)) d_Code_valueIn_114 ⟨Nat.zero_le _, Nat.zero_le _⟩) hP hD hS hA [0, 2] [1] rfl rfl (by decide) (by decide) (fun r_15 cd_height_16 H locs h hP hD hS => ?_)
                    have hP : va_P (dC, dI) vwCl [(a_cd_steps, .inl (cI, 1200, .inl cd_steps)), (a_cd, .inr (1, [.ref a_cd_steps, .ref a_cd_starts, .ref a_cd_stops, .ref a_cd_used, .ref a_cd_stack, .int cd_size, .int cd_section, .int cd_height_16])), (a_cd_stack, .inl (cI, 100, .inl cd_stack_3))] H := hP
                    have hD : va_D A [(a_cd_steps, .inl (cI, 1200, .inl cd_steps)), (a_cd, .inr (1, [.ref a_cd_steps, .ref a_cd_starts, .ref a_cd_stops, .ref a_cd_used, .ref a_cd_stack, .int cd_size, .int cd_section, .int cd_height_16])), (a_cd_stack, .inl (cI, 100, .inl cd_stack_3))] := hD
                    refine lv_isub hx hb d_Code_valueIn_117 ?_
                    refine jn_v (wr := [(a_cd_steps, .inl (cI, 1200, .inl cd_steps))]) (va_runV (As := [.int (1 - r_15)]) (rest := []) ⟨hx, hb, hml, hown, hts⟩ (c_Code_push l dC dI cI cB cZ adK adV _ a_cd a_cd_steps a_cd_starts a_cd_stops a_cd_used a_cd_stack cd_size cd_section cd_height_16 cd_stack_3 (1 - r_15) _ h) (cwV 1 hts (gv_ m_729 m_731 m_22 m_88 m_732) rfl rfl rfl pd_Code_push ⟨Nat.le_of_ble_eq_true rfl, Nat.le_of_ble_eq_true rfl⟩) ⟨pc_blind, va_recv hK hP (ci := 1) (q0 := 1) rfl rfl, pc_of (hP.sub [1, 2] rfl) hK (hD.sub [1, 2] (by decide) rfl) hN hT hS hA⟩ rfl rfl hl.1 rfl (lv_room (Nat.le_of_ble_eq_true rfl)) d_Code_valueIn_118 ⟨Nat.zero_le _, Nat.zero_le _⟩) hP hD hS hA [1, 2] [0] rfl rfl (by decide) (by decide) (fun u_ H locs h hP hD hS => ?_)
                    obtain ⟨cd_height_17, cd_stack_18⟩ := u_
                    have hP : va_P (dC, dI) vwCl [(a_cd_steps, .inl (cI, 1200, .inl cd_steps)), (a_cd, .inr (1, [.ref a_cd_steps, .ref a_cd_starts, .ref a_cd_stops, .ref a_cd_used, .ref a_cd_stack, .int cd_size, .int cd_section, .int cd_height_17])), (a_cd_stack, .inl (cI, 100, .inl cd_stack_18))] H := hP
                    have hD : va_D A [(a_cd_steps, .inl (cI, 1200, .inl cd_steps)), (a_cd, .inr (1, [.ref a_cd_steps, .ref a_cd_starts, .ref a_cd_stops, .ref a_cd_used, .ref a_cd_stack, .int cd_size, .int cd_section, .int cd_height_17])), (a_cd_stack, .inl (cI, 100, .inl cd_stack_18))] := hD
                    refine lv_goto (tgt := 145) hx hb d_Code_valueIn_121 (by decide) ?_
                    refine lv_iinc (v := x4_1 + 1) (lv' := [(4, .int (x4_1 + 1)), (5, .int x5_7), (0, .ref a_cd), (1, .int x1), (3, .int x3)]) hx hb d_Code_valueIn_145 hl (k := 4) rfl rfl (by decide) rfl (fun ls hl => ?_)
                    refine lv_goto (tgt := 8) hx hb d_Code_valueIn_148 (by decide) ?_
                    exact il _ _ _ h _ _ (hP.sub [1, 0, 2] rfl) (hD.sub [1, 0, 2] (by decide) rfl) hS _ (lv_sub hl [2, 3, 4, 0] rfl)
                · have h := And.right h c_85
                  refine lv_aload_n hx hb d_Code_valueIn_88 rfl (lv_at hl 1 rfl) ?_
                  refine lv_aload_n hx hb d_Code_valueIn_89 rfl (lv_at hl 1 rfl) ?_
                  refine jn_i (wr := [(a_cd_steps, .inl (cI, 1200, .inl cd_steps))]) (va_runV (As := []) (rest := [.ref a_cd]) ⟨hx, hb, hml, hown, hts⟩ (c_Code_pop l dC dI cI cB cZ adK adV _ a_cd a_cd_steps a_cd_starts a_cd_stops a_cd_used a_cd_stack cd_size cd_section cd_height_2 cd_stack_3 _ h) (cwV 0 hts (gv_ m_733 m_735 m_23 m_88 m_736) rfl rfl rfl pd_Code_pop ⟨Nat.le_of_ble_eq_true rfl, Nat.le_of_ble_eq_true rfl⟩) ⟨pc_blind, va_recv hK hP (ci := 1) (q0 := 0) rfl rfl, pc_of (hP.sub [0, 2] rfl) hK (hD.sub [0, 2] (by decide) rfl) hN hT hS hA⟩ rfl rfl hl.1 rfl (lv_room (Nat.le_of_ble_eq_true rfl)) d_Code_valueIn_90 ⟨Nat.zero_le _, Nat.zero_le _⟩) hP hD hS hA [0, 2] [1] rfl rfl (by decide) (by decide) (fun r_19 cd_height_20 H locs h hP hD hS => ?_)
                  have hP : va_P (dC, dI) vwCl [(a_cd_steps, .inl (cI, 1200, .inl cd_steps)), (a_cd, .inr (1, [.ref a_cd_steps, .ref a_cd_starts, .ref a_cd_stops, .ref a_cd_used, .ref a_cd_stack, .int cd_size, .int cd_section, .int cd_height_20])), (a_cd_stack, .inl (cI, 100, .inl cd_stack_3))] H := hP
                  have hD : va_D A [(a_cd_steps, .inl (cI, 1200, .inl cd_steps)), (a_cd, .inr (1, [.ref a_cd_steps, .ref a_cd_starts, .ref a_cd_stops, .ref a_cd_used, .ref a_cd_stack, .int cd_size, .int cd_section, .int cd_height_20])), (a_cd_stack, .inl (cI, 100, .inl cd_stack_3))] := hD
                  refine lv_ineg hx hb d_Code_valueIn_93 ?_
                  refine lv_bipush (v := 15) hx hb d_Code_valueIn_94 (by decide) ?_
                  refine lv_iand hx hb d_Code_valueIn_96 ?_
                  refine jn_v (wr := [(a_cd_steps, .inl (cI, 1200, .inl cd_steps))]) (va_runV (As := [.int ((-r_19) &&& 15)]) (rest := []) ⟨hx, hb, hml, hown, hts⟩ (c_Code_push l dC dI cI cB cZ adK adV _ a_cd a_cd_steps a_cd_starts a_cd_stops a_cd_used a_cd_stack cd_size cd_section cd_height_20 cd_stack_3 ((-r_19) &&& 15) _ h) (cwV 1 hts (gv_ m_729 m_731 m_22 m_88 m_732) rfl rfl rfl pd_Code_push ⟨Nat.le_of_ble_eq_true rfl, Nat.le_of_ble_eq_true rfl⟩) ⟨pc_blind, va_recv hK hP (ci := 1) (q0 := 1) rfl rfl, pc_of (hP.sub [1, 2] rfl) hK (hD.sub [1, 2] (by decide) rfl) hN hT hS hA⟩ rfl rfl hl.1 rfl (lv_room (Nat.le_of_ble_eq_true rfl)) d_Code_valueIn_97 ⟨Nat.zero_le _, Nat.zero_le _⟩) hP hD hS hA [1, 2] [0] rfl rfl (by decide) (by decide) (fun u_ H locs h hP hD hS => ?_)
                  obtain ⟨cd_height_21, cd_stack_22⟩ := u_
                  have hP : va_P (dC, dI) vwCl [(a_cd_steps, .inl (cI, 1200, .inl cd_steps)), (a_cd, .inr (1, [.ref a_cd_steps, .ref a_cd_starts, .ref a_cd_stops, .ref a_cd_used, .ref a_cd_stack, .int cd_size, .int cd_section, .int cd_height_21])), (a_cd_stack, .inl (cI, 100, .inl cd_stack_22))] H := hP
                  have hD : va_D A [(a_cd_steps, .inl (cI, 1200, .inl cd_steps)), (a_cd, .inr (1, [.ref a_cd_steps, .ref a_cd_starts, .ref a_cd_stops, .ref a_cd_used, .ref a_cd_stack, .int cd_size, .int cd_section, .int cd_height_21])), (a_cd_stack, .inl (cI, 100, .inl cd_stack_22))] := hD
                  refine lv_goto (tgt := 145) hx hb d_Code_valueIn_100 (by decide) ?_
                  refine lv_iinc (v := x4_1 + 1) (lv' := [(4, .int (x4_1 + 1)), (5, .int x5_7), (0, .ref a_cd), (1, .int x1), (3, .int x3)]) hx hb d_Code_valueIn_145 hl (k := 4) rfl rfl (by decide) rfl (fun ls hl => ?_)
                  refine lv_goto (tgt := 8) hx hb d_Code_valueIn_148 (by decide) ?_
                  exact il _ _ _ h _ _ (hP.sub [1, 0, 2] rfl) (hD.sub [1, 0, 2] (by decide) rfl) hS _ (lv_sub hl [2, 3, 4, 0] rfl)
              · have h := And.right h c_58
                refine lv_aload_n hx hb d_Code_valueIn_61 rfl (lv_at hl 1 rfl) ?_
                refine lv_iload_n hx hb d_Code_valueIn_62 rfl (lv_at hl 2 rfl) ?_
                refine lv_iconst (v := 4) hx hb d_Code_valueIn_63 (by decide) ?_
                refine lv_iload hx hb d_Code_valueIn_64 (lv_at hl 0 rfl) ?_
                refine lv_bipush (v := 16) hx hb d_Code_valueIn_66 (by decide) ?_
                refine lv_isub hx hb d_Code_valueIn_68 ?_
                refine lv_imul hx hb d_Code_valueIn_69 ?_
                refine lv_ishr hx hb d_Code_valueIn_70 ?_
                refine lv_bipush (v := 15) hx hb d_Code_valueIn_71 (by decide) ?_
                refine lv_iand hx hb d_Code_valueIn_73 ?_
                refine jn_v (wr := [(a_cd_steps, .inl (cI, 1200, .inl cd_steps))]) (va_runV (As := [.int ((x1 >>> ((4 * (x5_7 - 16)) &&& 31)) &&& 15)]) (rest := []) ⟨hx, hb, hml, hown, hts⟩ (c_Code_push l dC dI cI cB cZ adK adV _ a_cd a_cd_steps a_cd_starts a_cd_stops a_cd_used a_cd_stack cd_size cd_section cd_height_2 cd_stack_3 ((x1 >>> ((4 * (x5_7 - 16)) &&& 31)) &&& 15) _ h) (cwV 1 hts (gv_ m_729 m_731 m_22 m_88 m_732) rfl rfl rfl pd_Code_push ⟨Nat.le_of_ble_eq_true rfl, Nat.le_of_ble_eq_true rfl⟩) ⟨pc_blind, va_recv hK hP (ci := 1) (q0 := 0) rfl rfl, pc_of (hP.sub [0, 2] rfl) hK (hD.sub [0, 2] (by decide) rfl) hN hT hS hA⟩ rfl rfl hl.1 rfl (lv_room (Nat.le_of_ble_eq_true rfl)) d_Code_valueIn_74 ⟨Nat.zero_le _, Nat.zero_le _⟩) hP hD hS hA [0, 2] [1] rfl rfl (by decide) (by decide) (fun u_ H locs h hP hD hS => ?_)
                obtain ⟨cd_height_23, cd_stack_24⟩ := u_
                have hP : va_P (dC, dI) vwCl [(a_cd_steps, .inl (cI, 1200, .inl cd_steps)), (a_cd, .inr (1, [.ref a_cd_steps, .ref a_cd_starts, .ref a_cd_stops, .ref a_cd_used, .ref a_cd_stack, .int cd_size, .int cd_section, .int cd_height_23])), (a_cd_stack, .inl (cI, 100, .inl cd_stack_24))] H := hP
                have hD : va_D A [(a_cd_steps, .inl (cI, 1200, .inl cd_steps)), (a_cd, .inr (1, [.ref a_cd_steps, .ref a_cd_starts, .ref a_cd_stops, .ref a_cd_used, .ref a_cd_stack, .int cd_size, .int cd_section, .int cd_height_23])), (a_cd_stack, .inl (cI, 100, .inl cd_stack_24))] := hD
                refine lv_goto (tgt := 145) hx hb d_Code_valueIn_77 (by decide) ?_
                refine lv_iinc (v := x4_1 + 1) (lv' := [(4, .int (x4_1 + 1)), (5, .int x5_7), (0, .ref a_cd), (1, .int x1), (3, .int x3)]) hx hb d_Code_valueIn_145 hl (k := 4) rfl rfl (by decide) rfl (fun ls hl => ?_)
                refine lv_goto (tgt := 8) hx hb d_Code_valueIn_148 (by decide) ?_
                exact il _ _ _ h _ _ (hP.sub [1, 0, 2] rfl) (hD.sub [1, 0, 2] (by decide) rfl) hS _ (lv_sub hl [2, 3, 4, 0] rfl)
            · have h := And.right h c_42
              refine lv_aload_n hx hb d_Code_valueIn_45 rfl (lv_at hl 1 rfl) ?_
              refine lv_iload hx hb d_Code_valueIn_46 (lv_at hl 0 rfl) ?_
              refine jn_v (wr := [(a_cd_steps, .inl (cI, 1200, .inl cd_steps))]) (va_runV (As := [.int x5_7]) (rest := []) ⟨hx, hb, hml, hown, hts⟩ (c_Code_push l dC dI cI cB cZ adK adV _ a_cd a_cd_steps a_cd_starts a_cd_stops a_cd_used a_cd_stack cd_size cd_section cd_height_2 cd_stack_3 x5_7 _ h) (cwV 1 hts (gv_ m_729 m_731 m_22 m_88 m_732) rfl rfl rfl pd_Code_push ⟨Nat.le_of_ble_eq_true rfl, Nat.le_of_ble_eq_true rfl⟩) ⟨pc_blind, va_recv hK hP (ci := 1) (q0 := 0) rfl rfl, pc_of (hP.sub [0, 2] rfl) hK (hD.sub [0, 2] (by decide) rfl) hN hT hS hA⟩ rfl rfl hl.1 rfl (lv_room (Nat.le_of_ble_eq_true rfl)) d_Code_valueIn_48 ⟨Nat.zero_le _, Nat.zero_le _⟩) hP hD hS hA [0, 2] [1] rfl rfl (by decide) (by decide) (fun u_ H locs h hP hD hS => ?_)
              obtain ⟨cd_height_25, cd_stack_26⟩ := u_
              have hP : va_P (dC, dI) vwCl [(a_cd_steps, .inl (cI, 1200, .inl cd_steps)), (a_cd, .inr (1, [.ref a_cd_steps, .ref a_cd_starts, .ref a_cd_stops, .ref a_cd_used, .ref a_cd_stack, .int cd_size, .int cd_section, .int cd_height_25])), (a_cd_stack, .inl (cI, 100, .inl cd_stack_26))] H := hP
              have hD : va_D A [(a_cd_steps, .inl (cI, 1200, .inl cd_steps)), (a_cd, .inr (1, [.ref a_cd_steps, .ref a_cd_starts, .ref a_cd_stops, .ref a_cd_used, .ref a_cd_stack, .int cd_size, .int cd_section, .int cd_height_25])), (a_cd_stack, .inl (cI, 100, .inl cd_stack_26))] := hD
              refine lv_goto (tgt := 145) hx hb d_Code_valueIn_51 (by decide) ?_
              refine lv_iinc (v := x4_1 + 1) (lv' := [(4, .int (x4_1 + 1)), (5, .int x5_7), (0, .ref a_cd), (1, .int x1), (3, .int x3)]) hx hb d_Code_valueIn_145 hl (k := 4) rfl rfl (by decide) rfl (fun ls hl => ?_)
              refine lv_goto (tgt := 8) hx hb d_Code_valueIn_148 (by decide) ?_
              exact il _ _ _ h _ _ (hP.sub [1, 0, 2] rfl) (hD.sub [1, 0, 2] (by decide) rfl) hS _ (lv_sub hl [2, 3, 4, 0] rfl)
  obtain ⟨n_, h⟩ := h
  refine L8_q_4 _ ?_ n_ _ _ _ h _ _ hP hD hS _ (lv_sub hl [1, 2, 4, 0] rfl)
  intro cd_height_27 cd_stack_28 h
  intro H locs hP hD hS ls hl
  refine lv_aload_n hx hb d_Code_valueIn_151 rfl (lv_at hl 0 rfl) ?_
  refine jn_i (wr := [(a_cd_steps, .inl (cI, 1200, .inl cd_steps))]) (va_runV (As := []) (rest := []) ⟨hx, hb, hml, hown, hts⟩ (c_Code_pop l dC dI cI cB cZ adK adV _ a_cd a_cd_steps a_cd_starts a_cd_stops a_cd_used a_cd_stack cd_size cd_section cd_height_27 cd_stack_28 _ h) (cwV 0 hts (gv_ m_733 m_735 m_23 m_88 m_736) rfl rfl rfl pd_Code_pop ⟨Nat.le_of_ble_eq_true rfl, Nat.le_of_ble_eq_true rfl⟩) ⟨pc_blind, va_recv hK hP (ci := 1) (q0 := 0) rfl rfl, pc_of (hP.sub [0, 2] rfl) hK (hD.sub [0, 2] (by decide) rfl) hN hT hS hA⟩ rfl rfl hl.1 rfl (lv_room (Nat.le_of_ble_eq_true rfl)) d_Code_valueIn_152 ⟨Nat.zero_le _, Nat.zero_le _⟩) hP hD hS hA [0, 2] [1] rfl rfl (by decide) (by decide) (fun r_29 cd_height_30 H locs h hP hD hS => ?_)
  have hP : va_P (dC, dI) vwCl [(a_cd_steps, .inl (cI, 1200, .inl cd_steps)), (a_cd, .inr (1, [.ref a_cd_steps, .ref a_cd_starts, .ref a_cd_stops, .ref a_cd_used, .ref a_cd_stack, .int cd_size, .int cd_section, .int cd_height_30])), (a_cd_stack, .inl (cI, 100, .inl cd_stack_28))] H := hP
  have hD : va_D A [(a_cd_steps, .inl (cI, 1200, .inl cd_steps)), (a_cd, .inr (1, [.ref a_cd_steps, .ref a_cd_starts, .ref a_cd_stops, .ref a_cd_used, .ref a_cd_stack, .int cd_size, .int cd_section, .int cd_height_30])), (a_cd_stack, .inl (cI, 100, .inl cd_stack_28))] := hD
  rw [← hQ]
  have hP9 := hP.sub (ws' := [(a_cd, .inr (1, [.ref a_cd_steps, .ref a_cd_starts, .ref a_cd_stops, .ref a_cd_used, .ref a_cd_stack, .int cd_size, .int cd_section, .int cd_height_30])), (a_cd_steps, .inl (cI, 1200, .inl cd_steps)), (a_cd_stack, .inl (cI, 100, .inl cd_stack_28))]) [1, 0, 2] rfl
  have hD9 := hD.sub (ws' := [(a_cd, .inr (1, [.ref a_cd_steps, .ref a_cd_starts, .ref a_cd_stops, .ref a_cd_used, .ref a_cd_stack, .int cd_size, .int cd_section, .int cd_height_30])), (a_cd_steps, .inl (cI, 1200, .inl cd_steps)), (a_cd_stack, .inl (cI, 100, .inl cd_stack_28))]) [1, 0, 2] (by decide) rfl
  exact W.iret (v := r_29) hx hb hr (fun t ht hW => ⟨⟨r_29, (cd_height_30, cd_stack_28), rfl, h, by rw [ht]; exact hP9, va_K.moved hW.alike hK, hD9⟩, hS.F ht⟩) hS.2.2 d_Code_valueIn_155
set_option maxHeartbeats 4000000 in
set_option maxRecDepth 100000 in
theorem c_Code_tabulate (l : Launch) (dC : Nat → ClassId) (dI : Nat → Nat → Nat) (cI cB cZ : ClassId) (adK adV : Nat → Nat) (sz : Nat) (a_cd a_cd_steps a_cd_starts a_cd_stops a_cd_used a_cd_stack a_X1 : Nat) (cd_size : Int32) (cd_section : Int32) (cd_height : Int32) (cd_steps : Nat → Int32) (cd_starts : Nat → Int32) (cd_stops : Nat → Int32) (cd_used : Nat → Int32) (cd_stack : Nat → Int32) (X1 : Nat → Int32) (x1 : Int32) (post : Int32 → (Nat → Int32) → (Nat → Int32) → Prop) (h : wp_Code_tabulate x1 cd_height cd_steps cd_starts cd_stops cd_used cd_stack X1 post) : Met l y_Code_tabulate w_Code_tabulate ({ frames := 2, cells := 0, slots := 0, locals := 48 }) (pc_ (dC, dI) [(cI, .int), (cB, .byte), (cZ, .boolean)] [(a_cd, .inr (1, [.ref a_cd_steps, .ref a_cd_starts, .ref a_cd_stops, .ref a_cd_used, .ref a_cd_stack, .int cd_size, .int cd_section, .int cd_height])), (a_cd_steps, .inl (cI, 1200, .inl cd_steps)), (a_cd_starts, .inl (cI, 39, .inl cd_starts)), (a_cd_stops, .inl (cI, 39, .inl cd_stops)), (a_cd_used, .inl (cI, 39, .inl cd_used)), (a_cd_stack, .inl (cI, 100, .inl cd_stack)), (a_X1, .inl (cI, 4096, .inl X1))] sz adK adV [.ref a_cd, .int x1, .ref a_X1]) (va_Qv (fun (u : Int32 × (Nat → Int32) × (Nat → Int32)) => post u.1 u.2.1 u.2.2) (fun (u : Int32 × (Nat → Int32) × (Nat → Int32)) t => bw_ (dC, dI) [(cI, .int), (cB, .byte), (cZ, .boolean)] (va_A [(a_cd, .inr (1, [.ref a_cd_steps, .ref a_cd_starts, .ref a_cd_stops, .ref a_cd_used, .ref a_cd_stack, .int cd_size, .int cd_section, .int cd_height])), (a_cd_steps, .inl (cI, 1200, .inl cd_steps)), (a_cd_starts, .inl (cI, 39, .inl cd_starts)), (a_cd_stops, .inl (cI, 39, .inl cd_stops)), (a_cd_used, .inl (cI, 39, .inl cd_used)), (a_cd_stack, .inl (cI, 100, .inl cd_stack)), (a_X1, .inl (cI, 4096, .inl X1))] sz) [(a_cd, .inr (1, [.ref a_cd_steps, .ref a_cd_starts, .ref a_cd_stops, .ref a_cd_used, .ref a_cd_stack, .int cd_size, .int cd_section, .int u.1])), (a_cd_steps, .inl (cI, 1200, .inl cd_steps)), (a_cd_starts, .inl (cI, 39, .inl cd_starts)), (a_cd_stops, .inl (cI, 39, .inl cd_stops)), (a_cd_used, .inl (cI, 39, .inl cd_used)), (a_cd_stack, .inl (cI, 100, .inl u.2.1)), (a_X1, .inl (cI, 4096, .inl u.2.2))] t) (va_A [(a_cd, .inr (1, [.ref a_cd_steps, .ref a_cd_starts, .ref a_cd_stops, .ref a_cd_used, .ref a_cd_stack, .int cd_size, .int cd_section, .int cd_height])), (a_cd_steps, .inl (cI, 1200, .inl cd_steps)), (a_cd_starts, .inl (cI, 39, .inl cd_starts)), (a_cd_stops, .inl (cI, 39, .inl cd_stops)), (a_cd_used, .inl (cI, 39, .inl cd_used)), (a_cd_stack, .inl (cI, 100, .inl cd_stack)), (a_X1, .inl (cI, 4096, .inl X1))] sz)) 0 0 (va_A [(a_cd, .inr (1, [.ref a_cd_steps, .ref a_cd_starts, .ref a_cd_stops, .ref a_cd_used, .ref a_cd_stack, .int cd_size, .int cd_section, .int cd_height])), (a_cd_steps, .inl (cI, 1200, .inl cd_steps)), (a_cd_starts, .inl (cI, 39, .inl cd_starts)), (a_cd_stops, .inl (cI, 39, .inl cd_stops)), (a_cd_used, .inl (cI, 39, .inl cd_used)), (a_cd_stack, .inl (cI, 100, .inl cd_stack)), (a_X1, .inl (cI, 4096, .inl X1))] sz) := by
  refine Met.ofW (cc := b_Code_tabulate) (maxL := 6) (ret := none) (by decide) rfl ?_
  intro p e s m args below meth c s₁ B hml hv
  obtain ⟨rfl, hsz, hP, hK, hD0, hN, hT⟩ := hv
  have hx := B.exec
  have hb := B.bytes
  have hr := B.returns
  have hts := atoms_spec (ws := w_Code_tabulate) B.pre
  have hown : s.vm.findClass "LoopInduction$Code" = some m.cls := findClass_of_methodNamed B.named
  have hlocks := B.notSynchronized
  subst hsz
  have hD := hD0.self (sz := s.heap.size)
  generalize hAe : va_A [(a_cd, .inr (1, [.ref a_cd_steps, .ref a_cd_starts, .ref a_cd_stops, .ref a_cd_used, .ref a_cd_stack, .int cd_size, .int cd_section, .int cd_height])), (a_cd_steps, .inl (cI, 1200, .inl cd_steps)), (a_cd_starts, .inl (cI, 39, .inl cd_starts)), (a_cd_stops, .inl (cI, 39, .inl cd_stops)), (a_cd_used, .inl (cI, 39, .inl cd_used)), (a_cd_stack, .inl (cI, 100, .inl cd_stack)), (a_X1, .inl (cI, 4096, .inl X1))] s.heap.size = A at hD hT ⊢
  have hA : ∀ q : Nat, s.heap.size ≤ q → A q := fun q h => by rw [← hAe]; exact Or.inr h
  have hS : va_S A s.heap s.heap [] := va_S.rf
  generalize hQ : MQ below _ _ s 0 0 _ = QQ
  have hl := lv_entry ([.ref a_cd, .int x1, .ref a_X1]) (n := 6) (Nat.le_of_ble_eq_true rfl)
  rw [lg_entry_eq]
  generalize (lg_sl ([.ref a_cd, .int x1, .ref a_X1]) ++ List.replicate (6 - (lg_sl ([.ref a_cd, .int x1, .ref a_X1])).length) Slot.unset).toArray = ls at hl ⊢
  have hl : lv_has ls 6 [(0, .ref a_cd), (1, .int x1), (2, .ref a_X1)] := hl
  have fl_17 := (hts _ (List.mem_cons_of_mem _ m_163))
  have fl_20 := (hts _ (List.mem_cons_of_mem _ m_164))
  have fl_23 := (hts _ (List.mem_cons_of_mem _ m_165))
  refine lv_aload_n hx hb d_Code_tabulate_0 rfl (lv_at hl 0 rfl) ?_
  refine lv_iload_n hx hb d_Code_tabulate_1 rfl (lv_at hl 1 rfl) ?_
  refine jn_i (wr := [(a_cd_steps, .inl (cI, 1200, .inl cd_steps)), (a_cd_stops, .inl (cI, 39, .inl cd_stops)), (a_cd_used, .inl (cI, 39, .inl cd_used)), (a_cd_stack, .inl (cI, 100, .inl cd_stack)), (a_X1, .inl (cI, 4096, .inl X1))]) (va_runV (As := [.int x1]) (rest := []) ⟨hx, hb, hml, hown, hts⟩ (c_Code_isTold l dC dI cI cB cZ adK adV _ a_cd a_cd_steps a_cd_starts a_cd_stops a_cd_used a_cd_stack cd_size cd_section cd_height cd_starts x1 _ h) (cwV 1 hts (gv_ m_724 m_687 m_688 m_88 m_689) rfl rfl rfl pd_Code_isTold ⟨Nat.le_of_ble_eq_true rfl, Nat.le_of_ble_eq_true rfl⟩) ⟨pc_blind, va_recv hK hP (ci := 1) (q0 := 0) rfl rfl, pc_of (hP.sub [0, 2] rfl) hK (hD.sub [0, 2] (by decide) rfl) hN hT hS hA⟩ rfl rfl hl.1 rfl (lv_room (Nat.le_of_ble_eq_true rfl)) d_Code_tabulate_2 ⟨Nat.zero_le _, Nat.zero_le _⟩) hP hD hS hA [0, 2] [1, 3, 4, 5, 6] rfl rfl (by decide) (by decide) (fun r_1 u_ H locs h hP hD hS => ?_)
  have hP : va_P (dC, dI) vwCl [(a_cd_steps, .inl (cI, 1200, .inl cd_steps)), (a_cd_stops, .inl (cI, 39, .inl cd_stops)), (a_cd_used, .inl (cI, 39, .inl cd_used)), (a_cd_stack, .inl (cI, 100, .inl cd_stack)), (a_X1, .inl (cI, 4096, .inl X1)), (a_cd, .inr (1, [.ref a_cd_steps, .ref a_cd_starts, .ref a_cd_stops, .ref a_cd_used, .ref a_cd_stack, .int cd_size, .int cd_section, .int cd_height])), (a_cd_starts, .inl (cI, 39, .inl cd_starts))] H := hP
  have hD : va_D A [(a_cd_steps, .inl (cI, 1200, .inl cd_steps)), (a_cd_stops, .inl (cI, 39, .inl cd_stops)), (a_cd_used, .inl (cI, 39, .inl cd_used)), (a_cd_stack, .inl (cI, 100, .inl cd_stack)), (a_X1, .inl (cI, 4096, .inl X1)), (a_cd, .inr (1, [.ref a_cd_steps, .ref a_cd_starts, .ref a_cd_stops, .ref a_cd_used, .ref a_cd_stack, .int cd_size, .int cd_section, .int cd_height])), (a_cd_starts, .inl (cI, 39, .inl cd_starts))] := hD
  refine lv_if_ne (tgt := 9) hx hb d_Code_tabulate_5 (by decide) (fun c_5 => ?_) (fun c_5 => ?_)
  · have h := And.left h c_5
    refine lv_aload_n hx hb d_Code_tabulate_9 rfl (lv_at hl 0 rfl) ?_
    refine va_get (D := (dC, dI)) (ci := 1) (v := .ref a_cd_used) (C := "LoopInduction$Code") (T := F_Code) (N := 8) hx hb hts iC_Code hown hK hP 5 rfl rfl 3 (by decide) fl_23 (fun _ h9 => h9) rfl d_Code_tabulate_10 ?_
    refine lv_iload_n hx hb d_Code_tabulate_13 rfl (lv_at hl 1 rfl) ?_
    obtain ⟨hin_14, h⟩ := h
    refine va_iald hx hb hK hP 2 0 rfl rfl hin_14 d_Code_tabulate_14 ?_
    refine lv_topi (fun x3_2 ex3_2 => ?_)
    have h := h x3_2 ex3_2
    refine lv_istore_n (lv' := [(3, .int x3_2), (0, .ref a_cd), (1, .int x1), (2, .ref a_X1)]) hx hb d_Code_tabulate_15 rfl hl (by decide) rfl (fun ls hl => ?_)
    refine lv_iconst (v := 0) hx hb d_Code_tabulate_16 (by decide) ?_
    refine lv_istore (lv' := [(4, .int 0), (3, .int x3_2), (0, .ref a_cd), (1, .int x1), (2, .ref a_X1)]) hx hb d_Code_tabulate_17 hl (by decide) rfl (fun ls hl => ?_)
    have L19_q_7 : ∀ (k82 : (Int32) → (Nat → Int32) → (Nat → Int32) → Prop) (hk82 : ∀ (cd_height_8 : Int32) (cd_stack_9 : Nat → Int32) (X1_10 : Nat → Int32), k82 cd_height_8 cd_stack_9 X1_10 → ∀ (H : Heap) (locs : List Loc), va_P (dC, dI) vwCl [(a_cd_steps, .inl (cI, 1200, .inl cd_steps)), (a_cd_stops, .inl (cI, 39, .inl cd_stops)), (a_cd_used, .inl (cI, 39, .inl cd_used)), (a_cd_stack, .inl (cI, 100, .inl cd_stack_9)), (a_X1, .inl (cI, 4096, .inl X1_10)), (a_cd, .inr (1, [.ref a_cd_steps, .ref a_cd_starts, .ref a_cd_stops, .ref a_cd_used, .ref a_cd_stack, .int cd_size, .int cd_section, .int cd_height_8])), (a_cd_starts, .inl (cI, 39, .inl cd_starts))] H → va_D A [(a_cd_steps, .inl (cI, 1200, .inl cd_steps)), (a_cd_stops, .inl (cI, 39, .inl cd_stops)), (a_cd_used, .inl (cI, 39, .inl cd_used)), (a_cd_stack, .inl (cI, 100, .inl cd_stack_9)), (a_X1, .inl (cI, 4096, .inl X1_10)), (a_cd, .inr (1, [.ref a_cd_steps, .ref a_cd_starts, .ref a_cd_stops, .ref a_cd_used, .ref a_cd_stack, .int cd_size, .int cd_section, .int cd_height_8])), (a_cd_starts, .inl (cI, 39, .inl cd_starts))] → va_S A s.heap H locs → ∀ ls : Array Slot, lv_has ls 6 [] → W p l e (headSpec w_Code_tabulate ({ frames := 2, cells := 0, slots := 0, locals := 48 })).room s m (([.ref a_cd, .int x1, .ref a_X1] : List Value).toArray) below meth c H locs 0 0 QQ (F0 m 82 ls [])) (n : Nat) (x4_3 : Int32) (cd_height_4 : Int32) (cd_stack_5 : Nat → Int32) (X1_6 : Nat → Int32), wp_Code_tabulate_L19 x1 x3_2 cd_steps cd_starts cd_stops k82 n x4_3 cd_height_4 cd_stack_5 X1_6 → ∀ (H : Heap) (locs : List Loc), va_P (dC, dI) vwCl [(a_cd_steps, .inl (cI, 1200, .inl cd_steps)), (a_cd_stops, .inl (cI, 39, .inl cd_stops)), (a_cd_used, .inl (cI, 39, .inl cd_used)), (a_cd_stack, .inl (cI, 100, .inl cd_stack_5)), (a_X1, .inl (cI, 4096, .inl X1_6)), (a_cd, .inr (1, [.ref a_cd_steps, .ref a_cd_starts, .ref a_cd_stops, .ref a_cd_used, .ref a_cd_stack, .int cd_size, .int cd_section, .int cd_height_4])), (a_cd_starts, .inl (cI, 39, .inl cd_starts))] H → va_D A [(a_cd_steps, .inl (cI, 1200, .inl cd_steps)), (a_cd_stops, .inl (cI, 39, .inl cd_stops)), (a_cd_used, .inl (cI, 39, .inl cd_used)), (a_cd_stack, .inl (cI, 100, .inl cd_stack_5)), (a_X1, .inl (cI, 4096, .inl X1_6)), (a_cd, .inr (1, [.ref a_cd_steps, .ref a_cd_starts, .ref a_cd_stops, .ref a_cd_used, .ref a_cd_stack, .int cd_size, .int cd_section, .int cd_height_4])), (a_cd_starts, .inl (cI, 39, .inl cd_starts))] → va_S A s.heap H locs → ∀ ls : Array Slot, lv_has ls 6 [(0, .ref a_cd), (1, .int x1), (2, .ref a_X1), (3, .int x3_2), (4, .int x4_3)] → W p l e (headSpec w_Code_tabulate ({ frames := 2, cells := 0, slots := 0, locals := 48 })).room s m (([.ref a_cd, .int x1, .ref a_X1] : List Value).toArray) below meth c H locs 0 0 QQ (F0 m 19 ls []) := by
      intro k82 hk82 n
      induction n with
      | zero => intro x4_3 cd_height_4 cd_stack_5 X1_6 h; exact (show False from h).elim
      | succ n il =>
        intro x4_3 cd_height_4 cd_stack_5 X1_6 h
        intro H locs hP hD hS ls hl
        refine lv_iload hx hb d_Code_tabulate_19 (lv_at hl 4 rfl) ?_
        refine lv_sipush (v := 4096) hx hb d_Code_tabulate_21 (by decide) ?_
        refine lv_icmp_ge (tgt := 82) hx hb d_Code_tabulate_24 (by decide) (fun c_24 => ?_) (fun c_24 => ?_)
        · have h := And.left h c_24
          exact hk82 _ _ _ h _ _ hP hD hS _ (lv_sub hl [] rfl)
        · have h := And.right h c_24
          refine lv_iload hx hb d_Code_tabulate_27 (lv_at hl 4 rfl) ?_
          refine lv_aload_n hx hb d_Code_tabulate_29 rfl (lv_at hl 2 rfl) ?_
          refine va_alen (v := 4096) hx hb hK hP 4 0 rfl rfl rfl d_Code_tabulate_30 ?_
          refine lv_icmp_ge (tgt := 82) hx hb d_Code_tabulate_31 (by decide) (fun c_31 => ?_) (fun c_31 => ?_)
          · have h := And.left h c_31
            exact hk82 _ _ _ h _ _ hP hD hS _ (lv_sub hl [] rfl)
          · have h := And.right h c_31
            refine lv_iload hx hb d_Code_tabulate_34 (lv_at hl 4 rfl) ?_
            refine lv_iload_n hx hb d_Code_tabulate_36 rfl (lv_at hl 3 rfl) ?_
            refine lv_iand hx hb d_Code_tabulate_37 ?_
            refine lv_topi (fun x5_11 ex5_11 => ?_)
            have h := h x5_11 ex5_11
            refine lv_istore (lv' := [(5, .int x5_11), (0, .ref a_cd), (1, .int x1), (2, .ref a_X1), (3, .int x3_2), (4, .int x4_3)]) hx hb d_Code_tabulate_38 hl (by decide) rfl (fun ls hl => ?_)
            refine lv_aload_n hx hb d_Code_tabulate_40 rfl (lv_at hl 3 rfl) ?_
            refine lv_iload hx hb d_Code_tabulate_41 (lv_at hl 5 rfl) ?_
            refine lv_iload hx hb d_Code_tabulate_43 (lv_at hl 0 rfl) ?_
            refine lv_iload hx hb d_Code_tabulate_45 (lv_at hl 5 rfl) ?_
            refine lv_icmp_ge (tgt := 57) hx hb d_Code_tabulate_47 (by decide) (fun c_47 => ?_) (fun c_47 => ?_)
            · have h := And.left h c_47
              refine lv_aload_n hx hb d_Code_tabulate_57 rfl (lv_at hl 1 rfl) ?_
              refine lv_iload hx hb d_Code_tabulate_58 (lv_at hl 5 rfl) ?_
              refine lv_aload_n hx hb d_Code_tabulate_60 rfl (lv_at hl 1 rfl) ?_
              refine va_get (D := (dC, dI)) (ci := 1) (v := .ref a_cd_starts) (C := "LoopInduction$Code") (T := F_Code) (N := 8) hx hb hts iC_Code hown hK hP 5 rfl rfl 1 (by decide) fl_17 (fun _ h9 => h9) rfl d_Code_tabulate_61 ?_
              refine lv_iload_n hx hb d_Code_tabulate_64 rfl (lv_at hl 2 rfl) ?_
              obtain ⟨hin_65, h⟩ := h
              refine va_iald hx hb hK hP 6 0 rfl rfl hin_65 d_Code_tabulate_65 ?_
              refine lv_aload_n hx hb d_Code_tabulate_66 rfl (lv_at hl 1 rfl) ?_
              refine va_get (D := (dC, dI)) (ci := 1) (v := .ref a_cd_stops) (C := "LoopInduction$Code") (T := F_Code) (N := 8) hx hb hts iC_Code hown hK hP 5 rfl rfl 2 (by decide) fl_20 (fun _ h9 => h9) rfl d_Code_tabulate_67 ?_
              refine lv_iload_n hx hb d_Code_tabulate_70 rfl (lv_at hl 2 rfl) ?_
              obtain ⟨hin_71, h⟩ := h
              refine va_iald hx hb hK hP 1 0 rfl rfl hin_71 d_Code_tabulate_71 ?_
              refine jn_i (wr := [(a_cd_stops, .inl (cI, 39, .inl cd_stops)), (a_cd_used, .inl (cI, 39, .inl cd_used)), (a_X1, .inl (cI, 4096, .inl X1_6)), (a_cd_starts, .inl (cI, 39, .inl cd_starts))]) (va_runV (As := [.int x4_3, .int (cd_starts (x1 : Int32).toNatClampNeg), .int (cd_stops (x1 : Int32).toNatClampNeg)]) (rest := [.int x4_3, .ref a_X1]) ⟨hx, hb, hml, hown, hts⟩ (c_Code_valueIn l dC dI cI cB cZ adK adV _ a_cd a_cd_steps a_cd_starts a_cd_stops a_cd_used a_cd_stack cd_size cd_section cd_height_4 cd_steps cd_stack_5 x4_3 (cd_starts (x1 : Int32).toNatClampNeg) (cd_stops (x1 : Int32).toNatClampNeg) _ h) (cwV 3 hts (gv_ m_725 m_727 m_21 m_88 m_728) rfl rfl rfl pd_Code_valueIn ⟨Nat.le_of_ble_eq_true rfl, Nat.le_of_ble_eq_true rfl⟩) ⟨pc_blind, va_recv hK hP (ci := 1) (q0 := 5) rfl rfl, pc_of (hP.sub [5, 0, 3] rfl) hK (hD.sub [5, 0, 3] (by decide) rfl) hN hT hS hA⟩ rfl rfl hl.1 rfl (lv_room (Nat.le_of_ble_eq_true rfl)) d_Code_tabulate_72 ⟨Nat.zero_le _, Nat.zero_le _⟩) hP hD hS hA [5, 0, 3] [1, 2, 4, 6] rfl rfl (by decide) (by decide) (fun r_12 u_ H locs h hP hD hS => ?_)
              obtain ⟨cd_height_13, cd_stack_14⟩ := u_
              have hP : va_P (dC, dI) vwCl [(a_cd_stops, .inl (cI, 39, .inl cd_stops)), (a_cd_used, .inl (cI, 39, .inl cd_used)), (a_X1, .inl (cI, 4096, .inl X1_6)), (a_cd_starts, .inl (cI, 39, .inl cd_starts)), (a_cd, .inr (1, [.ref a_cd_steps, .ref a_cd_starts, .ref a_cd_stops, .ref a_cd_used, .ref a_cd_stack, .int cd_size, .int cd_section, .int cd_height_13])), (a_cd_steps, .inl (cI, 1200, .inl cd_steps)), (a_cd_stack, .inl (cI, 100, .inl cd_stack_14))] H := hP
              have hD : va_D A [(a_cd_stops, .inl (cI, 39, .inl cd_stops)), (a_cd_used, .inl (cI, 39, .inl cd_used)), (a_X1, .inl (cI, 4096, .inl X1_6)), (a_cd_starts, .inl (cI, 39, .inl cd_starts)), (a_cd, .inr (1, [.ref a_cd_steps, .ref a_cd_starts, .ref a_cd_stops, .ref a_cd_used, .ref a_cd_stack, .int cd_size, .int cd_section, .int cd_height_13])), (a_cd_steps, .inl (cI, 1200, .inl cd_steps)), (a_cd_stack, .inl (cI, 100, .inl cd_stack_14))] := hD
              obtain ⟨hin_75, h⟩ := h
              refine va_iast hx hb hK hP hD hS 2 0 rfl rfl hin_75 d_Code_tabulate_75 (fun H locs hP hD hS => ?_)
              have hP : va_P (dC, dI) vwCl [(a_cd_stops, .inl (cI, 39, .inl cd_stops)), (a_cd_used, .inl (cI, 39, .inl cd_used)), (a_X1, .inl (cI, 4096, .inl (upd X1_6 (x4_3 : Int32).toNatClampNeg r_12))), (a_cd_starts, .inl (cI, 39, .inl cd_starts)), (a_cd, .inr (1, [.ref a_cd_steps, .ref a_cd_starts, .ref a_cd_stops, .ref a_cd_used, .ref a_cd_stack, .int cd_size, .int cd_section, .int cd_height_13])), (a_cd_steps, .inl (cI, 1200, .inl cd_steps)), (a_cd_stack, .inl (cI, 100, .inl cd_stack_14))] H := hP
              have hD : va_D A [(a_cd_stops, .inl (cI, 39, .inl cd_stops)), (a_cd_used, .inl (cI, 39, .inl cd_used)), (a_X1, .inl (cI, 4096, .inl (upd X1_6 (x4_3 : Int32).toNatClampNeg r_12))), (a_cd_starts, .inl (cI, 39, .inl cd_starts)), (a_cd, .inr (1, [.ref a_cd_steps, .ref a_cd_starts, .ref a_cd_stops, .ref a_cd_used, .ref a_cd_stack, .int cd_size, .int cd_section, .int cd_height_13])), (a_cd_steps, .inl (cI, 1200, .inl cd_steps)), (a_cd_stack, .inl (cI, 100, .inl cd_stack_14))] := hD
              refine lv_iinc (v := x4_3 + 1) (lv' := [(4, .int (x4_3 + 1)), (5, .int x5_11), (0, .ref a_cd), (1, .int x1), (2, .ref a_X1), (3, .int x3_2)]) hx hb d_Code_tabulate_76 hl (k := 5) rfl rfl (by decide) rfl (fun ls hl => ?_)
              refine lv_goto (tgt := 19) hx hb d_Code_tabulate_79 (by decide) ?_
              exact il _ _ _ _ h _ _ (hP.sub [5, 0, 1, 6, 2, 4, 3] rfl) (hD.sub [5, 0, 1, 6, 2, 4, 3] (by decide) rfl) hS _ (lv_sub hl [2, 3, 4, 5, 0] rfl)
            · have h := And.right h c_47
              refine lv_aload_n hx hb d_Code_tabulate_50 rfl (lv_at hl 3 rfl) ?_
              refine lv_iload hx hb d_Code_tabulate_51 (lv_at hl 0 rfl) ?_
              obtain ⟨hin_53, h⟩ := h
              refine va_iald hx hb hK hP 4 0 rfl rfl hin_53 d_Code_tabulate_53 ?_
              refine lv_goto (tgt := 75) hx hb d_Code_tabulate_54 (by decide) ?_
              obtain ⟨hin_75, h⟩ := h
              refine va_iast hx hb hK hP hD hS 4 0 rfl rfl hin_75 d_Code_tabulate_75 (fun H locs hP hD hS => ?_)
              have hP : va_P (dC, dI) vwCl [(a_cd_steps, .inl (cI, 1200, .inl cd_steps)), (a_cd_stops, .inl (cI, 39, .inl cd_stops)), (a_cd_used, .inl (cI, 39, .inl cd_used)), (a_cd_stack, .inl (cI, 100, .inl cd_stack_5)), (a_X1, .inl (cI, 4096, .inl (upd X1_6 (x4_3 : Int32).toNatClampNeg (X1_6 (x5_11 : Int32).toNatClampNeg)))), (a_cd, .inr (1, [.ref a_cd_steps, .ref a_cd_starts, .ref a_cd_stops, .ref a_cd_used, .ref a_cd_stack, .int cd_size, .int cd_section, .int cd_height_4])), (a_cd_starts, .inl (cI, 39, .inl cd_starts))] H := hP
              have hD : va_D A [(a_cd_steps, .inl (cI, 1200, .inl cd_steps)), (a_cd_stops, .inl (cI, 39, .inl cd_stops)), (a_cd_used, .inl (cI, 39, .inl cd_used)), (a_cd_stack, .inl (cI, 100, .inl cd_stack_5)), (a_X1, .inl (cI, 4096, .inl (upd X1_6 (x4_3 : Int32).toNatClampNeg (X1_6 (x5_11 : Int32).toNatClampNeg)))), (a_cd, .inr (1, [.ref a_cd_steps, .ref a_cd_starts, .ref a_cd_stops, .ref a_cd_used, .ref a_cd_stack, .int cd_size, .int cd_section, .int cd_height_4])), (a_cd_starts, .inl (cI, 39, .inl cd_starts))] := hD
              refine lv_iinc (v := x4_3 + 1) (lv' := [(4, .int (x4_3 + 1)), (5, .int x5_11), (0, .ref a_cd), (1, .int x1), (2, .ref a_X1), (3, .int x3_2)]) hx hb d_Code_tabulate_76 hl (k := 5) rfl rfl (by decide) rfl (fun ls hl => ?_)
              refine lv_goto (tgt := 19) hx hb d_Code_tabulate_79 (by decide) ?_
              exact il _ _ _ _ h _ _ hP hD hS _ (lv_sub hl [2, 3, 4, 5, 0] rfl)
    obtain ⟨n_, h⟩ := h
    refine L19_q_7 _ ?_ n_ _ _ _ _ h _ _ hP hD hS _ (lv_sub hl [2, 3, 4, 1, 0] rfl)
    intro cd_height_15 cd_stack_16 X1_17 h
    intro H locs hP hD hS ls hl
    rw [← hQ]
    have hP9 := hP.sub (ws' := [(a_cd, .inr (1, [.ref a_cd_steps, .ref a_cd_starts, .ref a_cd_stops, .ref a_cd_used, .ref a_cd_stack, .int cd_size, .int cd_section, .int cd_height_15])), (a_cd_steps, .inl (cI, 1200, .inl cd_steps)), (a_cd_starts, .inl (cI, 39, .inl cd_starts)), (a_cd_stops, .inl (cI, 39, .inl cd_stops)), (a_cd_used, .inl (cI, 39, .inl cd_used)), (a_cd_stack, .inl (cI, 100, .inl cd_stack_16)), (a_X1, .inl (cI, 4096, .inl X1_17))]) [5, 0, 6, 1, 2, 3, 4] rfl
    have hD9 := hD.sub (ws' := [(a_cd, .inr (1, [.ref a_cd_steps, .ref a_cd_starts, .ref a_cd_stops, .ref a_cd_used, .ref a_cd_stack, .int cd_size, .int cd_section, .int cd_height_15])), (a_cd_steps, .inl (cI, 1200, .inl cd_steps)), (a_cd_starts, .inl (cI, 39, .inl cd_starts)), (a_cd_stops, .inl (cI, 39, .inl cd_stops)), (a_cd_used, .inl (cI, 39, .inl cd_used)), (a_cd_stack, .inl (cI, 100, .inl cd_stack_16)), (a_X1, .inl (cI, 4096, .inl X1_17))]) [5, 0, 6, 1, 2, 3, 4] (by decide) rfl
    exact W.vret hx hb hr (fun t ht hW => ⟨⟨(cd_height_15, cd_stack_16, X1_17), rfl, h, by rw [ht]; exact hP9, va_K.moved hW.alike hK, hD9⟩, hS.F ht⟩) hS.2.2 d_Code_tabulate_82
  · have h := And.right h c_5
    rw [← hQ]
    have hP9 := hP.sub (ws' := [(a_cd, .inr (1, [.ref a_cd_steps, .ref a_cd_starts, .ref a_cd_stops, .ref a_cd_used, .ref a_cd_stack, .int cd_size, .int cd_section, .int cd_height])), (a_cd_steps, .inl (cI, 1200, .inl cd_steps)), (a_cd_starts, .inl (cI, 39, .inl cd_starts)), (a_cd_stops, .inl (cI, 39, .inl cd_stops)), (a_cd_used, .inl (cI, 39, .inl cd_used)), (a_cd_stack, .inl (cI, 100, .inl cd_stack)), (a_X1, .inl (cI, 4096, .inl X1))]) [5, 0, 6, 1, 2, 3, 4] rfl
    have hD9 := hD.sub (ws' := [(a_cd, .inr (1, [.ref a_cd_steps, .ref a_cd_starts, .ref a_cd_stops, .ref a_cd_used, .ref a_cd_stack, .int cd_size, .int cd_section, .int cd_height])), (a_cd_steps, .inl (cI, 1200, .inl cd_steps)), (a_cd_starts, .inl (cI, 39, .inl cd_starts)), (a_cd_stops, .inl (cI, 39, .inl cd_stops)), (a_cd_used, .inl (cI, 39, .inl cd_used)), (a_cd_stack, .inl (cI, 100, .inl cd_stack)), (a_X1, .inl (cI, 4096, .inl X1))]) [5, 0, 6, 1, 2, 3, 4] (by decide) rfl
    exact W.vret hx hb hr (fun t ht hW => ⟨⟨(cd_height, cd_stack, X1), rfl, h, by rw [ht]; exact hP9, va_K.moved hW.alike hK, hD9⟩, hS.F ht⟩) hS.2.2 d_Code_tabulate_8
