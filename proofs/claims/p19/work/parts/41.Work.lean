abbrev b_Work_clear : ByteArray := prog_11_method_2_code
abbrev y_Work_clear : MethodName := ⟨"LoopInduction$Worklist", "clear", "()V"⟩
abbrev w_Work_clear : List Cond := .code y_Work_clear b_Work_clear 1 none :: allW
theorem pn_Work_clear : y_Work_clear.cls ≠ "java/lang/invoke/MethodHandle" ∧ y_Work_clear.cls ≠ "java/lang/invoke/VarHandle" ∧ (parseMethodDescriptor y_Work_clear.desc).map (fun d => d.parameters.length) = some 0 := by decide +kernel
theorem pd_Work_clear : y_Work_clear.cls = "LoopInduction$Worklist" ∧ y_Work_clear.cls ≠ "java/lang/invoke/MethodHandle" ∧ y_Work_clear.cls ≠ "java/lang/invoke/VarHandle" ∧ (parseMethodDescriptor y_Work_clear.desc).map (fun d => d.parameters.length) = some 0 := by decide +kernel
abbrev b_Work_put : ByteArray := prog_11_method_3_code
abbrev y_Work_put : MethodName := ⟨"LoopInduction$Worklist", "put", "(I)V"⟩
abbrev w_Work_put : List Cond := .code y_Work_put b_Work_put 2 none :: allW
theorem pn_Work_put : y_Work_put.cls ≠ "java/lang/invoke/MethodHandle" ∧ y_Work_put.cls ≠ "java/lang/invoke/VarHandle" ∧ (parseMethodDescriptor y_Work_put.desc).map (fun d => d.parameters.length) = some 1 := by decide +kernel
theorem pd_Work_put : y_Work_put.cls = "LoopInduction$Worklist" ∧ y_Work_put.cls ≠ "java/lang/invoke/MethodHandle" ∧ y_Work_put.cls ≠ "java/lang/invoke/VarHandle" ∧ (parseMethodDescriptor y_Work_put.desc).map (fun d => d.parameters.length) = some 1 := by decide +kernel
abbrev b_Work_size : ByteArray := prog_11_method_4_code
abbrev y_Work_size : MethodName := ⟨"LoopInduction$Worklist", "size", "()I"⟩
abbrev w_Work_size : List Cond := .code y_Work_size b_Work_size 1 (some .int) :: allW
theorem pn_Work_size : y_Work_size.cls ≠ "java/lang/invoke/MethodHandle" ∧ y_Work_size.cls ≠ "java/lang/invoke/VarHandle" ∧ (parseMethodDescriptor y_Work_size.desc).map (fun d => d.parameters.length) = some 0 := by decide +kernel
theorem pd_Work_size : y_Work_size.cls = "LoopInduction$Worklist" ∧ y_Work_size.cls ≠ "java/lang/invoke/MethodHandle" ∧ y_Work_size.cls ≠ "java/lang/invoke/VarHandle" ∧ (parseMethodDescriptor y_Work_size.desc).map (fun d => d.parameters.length) = some 0 := by decide +kernel
abbrev b_Work_item : ByteArray := prog_11_method_5_code
abbrev y_Work_item : MethodName := ⟨"LoopInduction$Worklist", "item", "(I)I"⟩
abbrev w_Work_item : List Cond := .code y_Work_item b_Work_item 2 (some .int) :: allW
theorem pn_Work_item : y_Work_item.cls ≠ "java/lang/invoke/MethodHandle" ∧ y_Work_item.cls ≠ "java/lang/invoke/VarHandle" ∧ (parseMethodDescriptor y_Work_item.desc).map (fun d => d.parameters.length) = some 1 := by decide +kernel
theorem pd_Work_item : y_Work_item.cls = "LoopInduction$Worklist" ∧ y_Work_item.cls ≠ "java/lang/invoke/MethodHandle" ∧ y_Work_item.cls ≠ "java/lang/invoke/VarHandle" ∧ (parseMethodDescriptor y_Work_item.desc).map (fun d => d.parameters.length) = some 1 := by decide +kernel
theorem d_Work_clear_0 : decode b_Work_clear 0 = .ok (.aload_n 0, 1) := by decide +kernel
theorem d_Work_clear_1 : decode b_Work_clear 1 = .ok (.iconst 0, 1) := by decide +kernel
theorem d_Work_clear_2 : decode b_Work_clear 2 = .ok (.putfield 15, 3) := by decide +kernel
theorem d_Work_clear_5 : decode b_Work_clear 5 = .ok (.return_, 1) := by decide +kernel
theorem d_Work_put_0 : decode b_Work_put 0 = .ok (.aload_n 0, 1) := by decide +kernel
theorem d_Work_put_1 : decode b_Work_put 1 = .ok (.getfield 15, 3) := by decide +kernel
theorem d_Work_put_4 : decode b_Work_put 4 = .ok (.aload_n 0, 1) := by decide +kernel
theorem d_Work_put_5 : decode b_Work_put 5 = .ok (.getfield 9, 3) := by decide +kernel
theorem d_Work_put_8 : decode b_Work_put 8 = .ok (.arraylength, 1) := by decide +kernel
theorem d_Work_put_9 : decode b_Work_put 9 = .ok (.if_icmp .ge 23, 3) := by decide +kernel
theorem d_Work_put_12 : decode b_Work_put 12 = .ok (.aload_n 0, 1) := by decide +kernel
theorem d_Work_put_13 : decode b_Work_put 13 = .ok (.getfield 9, 3) := by decide +kernel
theorem d_Work_put_16 : decode b_Work_put 16 = .ok (.aload_n 0, 1) := by decide +kernel
theorem d_Work_put_17 : decode b_Work_put 17 = .ok (.getfield 15, 3) := by decide +kernel
theorem d_Work_put_20 : decode b_Work_put 20 = .ok (.iload_n 1, 1) := by decide +kernel
theorem d_Work_put_21 : decode b_Work_put 21 = .ok (.iastore, 1) := by decide +kernel
theorem d_Work_put_22 : decode b_Work_put 22 = .ok (.aload_n 0, 1) := by decide +kernel
theorem d_Work_put_23 : decode b_Work_put 23 = .ok (.dup, 1) := by decide +kernel
theorem d_Work_put_24 : decode b_Work_put 24 = .ok (.getfield 15, 3) := by decide +kernel
theorem d_Work_put_27 : decode b_Work_put 27 = .ok (.iconst 1, 1) := by decide +kernel
theorem d_Work_put_28 : decode b_Work_put 28 = .ok (.iadd, 1) := by decide +kernel
theorem d_Work_put_29 : decode b_Work_put 29 = .ok (.putfield 15, 3) := by decide +kernel
theorem d_Work_put_32 : decode b_Work_put 32 = .ok (.return_, 1) := by decide +kernel
theorem d_Work_size_0 : decode b_Work_size 0 = .ok (.aload_n 0, 1) := by decide +kernel
theorem d_Work_size_1 : decode b_Work_size 1 = .ok (.getfield 15, 3) := by decide +kernel
theorem d_Work_size_4 : decode b_Work_size 4 = .ok (.ireturn, 1) := by decide +kernel
theorem d_Work_item_0 : decode b_Work_item 0 = .ok (.iload_n 1, 1) := by decide +kernel
theorem d_Work_item_1 : decode b_Work_item 1 = .ok (.ifCond .lt 29, 3) := by decide +kernel
theorem d_Work_item_4 : decode b_Work_item 4 = .ok (.iload_n 1, 1) := by decide +kernel
theorem d_Work_item_5 : decode b_Work_item 5 = .ok (.aload_n 0, 1) := by decide +kernel
theorem d_Work_item_6 : decode b_Work_item 6 = .ok (.getfield 15, 3) := by decide +kernel
theorem d_Work_item_9 : decode b_Work_item 9 = .ok (.if_icmp .ge 21, 3) := by decide +kernel
theorem d_Work_item_12 : decode b_Work_item 12 = .ok (.iload_n 1, 1) := by decide +kernel
theorem d_Work_item_13 : decode b_Work_item 13 = .ok (.aload_n 0, 1) := by decide +kernel
theorem d_Work_item_14 : decode b_Work_item 14 = .ok (.getfield 9, 3) := by decide +kernel
theorem d_Work_item_17 : decode b_Work_item 17 = .ok (.arraylength, 1) := by decide +kernel
theorem d_Work_item_18 : decode b_Work_item 18 = .ok (.if_icmp .ge 12, 3) := by decide +kernel
theorem d_Work_item_21 : decode b_Work_item 21 = .ok (.aload_n 0, 1) := by decide +kernel
theorem d_Work_item_22 : decode b_Work_item 22 = .ok (.getfield 9, 3) := by decide +kernel
theorem d_Work_item_25 : decode b_Work_item 25 = .ok (.iload_n 1, 1) := by decide +kernel
theorem d_Work_item_26 : decode b_Work_item 26 = .ok (.iaload, 1) := by decide +kernel
theorem d_Work_item_27 : decode b_Work_item 27 = .ok (.goto 4, 3) := by decide +kernel
theorem d_Work_item_30 : decode b_Work_item 30 = .ok (.iconst 0, 1) := by decide +kernel
theorem d_Work_item_31 : decode b_Work_item 31 = .ok (.ireturn, 1) := by decide +kernel
set_option maxHeartbeats 4000000 in
set_option maxRecDepth 100000 in
theorem c_Work_clear (l : Launch) (dC : Nat → ClassId) (dI : Nat → Nat → Nat) (cI cB cZ : ClassId) (adK adV : Nat → Nat) (sz : Nat) (a_wk a_wk_items : Nat) (wk_size : Int32) (post : Int32 → Prop) (h : wp_Work_clear wk_size post) : Met l y_Work_clear w_Work_clear ({ frames := 0, cells := 0, slots := 0, locals := 0 }) (pc_ (dC, dI) [(cI, .int), (cB, .byte), (cZ, .boolean)] [(a_wk, .inr (10, [.ref a_wk_items, .int wk_size]))] sz adK adV [.ref a_wk]) (va_Qv (fun (u : Int32) => post u) (fun (u : Int32) t => bw_ (dC, dI) [(cI, .int), (cB, .byte), (cZ, .boolean)] (va_A [(a_wk, .inr (10, [.ref a_wk_items, .int wk_size]))] sz) [(a_wk, .inr (10, [.ref a_wk_items, .int u]))] t) (va_A [(a_wk, .inr (10, [.ref a_wk_items, .int wk_size]))] sz)) 0 0 (va_A [(a_wk, .inr (10, [.ref a_wk_items, .int wk_size]))] sz) := by
  refine Met.ofW (cc := b_Work_clear) (maxL := 1) (ret := none) (by decide) rfl ?_
  intro p e s m args below meth c s₁ B hml hv
  obtain ⟨rfl, hsz, hP, hK, hD0, hN, hT⟩ := hv
  have hx := B.exec
  have hb := B.bytes
  have hr := B.returns
  have hts := atoms_spec (ws := w_Work_clear) B.pre
  have hown : s.vm.findClass "LoopInduction$Worklist" = some m.cls := findClass_of_methodNamed B.named
  have hlocks := B.notSynchronized
  subst hsz
  have hD := hD0.self (sz := s.heap.size)
  generalize hAe : va_A [(a_wk, .inr (10, [.ref a_wk_items, .int wk_size]))] s.heap.size = A at hD hT ⊢
  have hA : ∀ q : Nat, s.heap.size ≤ q → A q := fun q h => by rw [← hAe]; exact Or.inr h
  have hS : va_S A s.heap s.heap [] := va_S.rf
  generalize hQ : MQ below _ _ s 0 0 _ = QQ
  have hl := lv_entry ([.ref a_wk]) (n := 1) (Nat.le_of_ble_eq_true rfl)
  rw [lg_entry_eq]
  generalize (lg_sl ([.ref a_wk]) ++ List.replicate (1 - (lg_sl ([.ref a_wk])).length) Slot.unset).toArray = ls at hl ⊢
  have hl : lv_has ls 1 [(0, .ref a_wk)] := hl
  have fl_15 := (hts _ (List.mem_cons_of_mem _ m_228))
  refine lv_aload_n hx hb d_Work_clear_0 rfl (lv_at hl 0 rfl) ?_
  refine lv_iconst (v := 0) hx hb d_Work_clear_1 (by decide) ?_
  refine va_put (D := (dC, dI)) (ci := 10) (v := .int 0) (ty := .int) (C := "LoopInduction$Worklist") (T := F_Work) (N := 2) hx hb hts iC_Work t_Work t_Work_ok n_Work hown hK hP hD hS 0 rfl rfl 1 (by decide) fl_15 (fun _ h9 => h9) rfl (by decide +kernel) rfl rfl (Nat.le_of_ble_eq_true rfl) d_Work_clear_2 (fun H locs hP hD hS => ?_)
  have hP : va_P (dC, dI) vwCl [(a_wk, .inr (10, [.ref a_wk_items, .int 0]))] H := hP
  have hD : va_D A [(a_wk, .inr (10, [.ref a_wk_items, .int 0]))] := hD
  rw [← hQ]
  have hP9 := hP
  have hD9 := hD
  exact W.vret hx hb hr (fun t ht hW => ⟨⟨(0), rfl, h, by rw [ht]; exact hP9, va_K.moved hW.alike hK, hD9⟩, hS.F ht⟩) hS.2.2 d_Work_clear_5
set_option maxHeartbeats 4000000 in
set_option maxRecDepth 100000 in
theorem c_Work_put (l : Launch) (dC : Nat → ClassId) (dI : Nat → Nat → Nat) (cI cB cZ : ClassId) (adK adV : Nat → Nat) (sz : Nat) (a_wk a_wk_items : Nat) (wk_size : Int32) (wk_items : Nat → Int32) (x1 : Int32) (post : Int32 → (Nat → Int32) → Prop) (h : wp_Work_put x1 wk_size wk_items post) : Met l y_Work_put w_Work_put ({ frames := 0, cells := 0, slots := 0, locals := 0 }) (pc_ (dC, dI) [(cI, .int), (cB, .byte), (cZ, .boolean)] [(a_wk, .inr (10, [.ref a_wk_items, .int wk_size])), (a_wk_items, .inl (cI, 4096, .inl wk_items))] sz adK adV [.ref a_wk, .int x1]) (va_Qv (fun (u : Int32 × (Nat → Int32)) => post u.1 u.2) (fun (u : Int32 × (Nat → Int32)) t => bw_ (dC, dI) [(cI, .int), (cB, .byte), (cZ, .boolean)] (va_A [(a_wk, .inr (10, [.ref a_wk_items, .int wk_size])), (a_wk_items, .inl (cI, 4096, .inl wk_items))] sz) [(a_wk, .inr (10, [.ref a_wk_items, .int u.1])), (a_wk_items, .inl (cI, 4096, .inl u.2))] t) (va_A [(a_wk, .inr (10, [.ref a_wk_items, .int wk_size])), (a_wk_items, .inl (cI, 4096, .inl wk_items))] sz)) 0 0 (va_A [(a_wk, .inr (10, [.ref a_wk_items, .int wk_size])), (a_wk_items, .inl (cI, 4096, .inl wk_items))] sz) := by
  refine Met.ofW (cc := b_Work_put) (maxL := 2) (ret := none) (by decide) rfl ?_
  intro p e s m args below meth c s₁ B hml hv
  obtain ⟨rfl, hsz, hP, hK, hD0, hN, hT⟩ := hv
  have hx := B.exec
  have hb := B.bytes
  have hr := B.returns
  have hts := atoms_spec (ws := w_Work_put) B.pre
  have hown : s.vm.findClass "LoopInduction$Worklist" = some m.cls := findClass_of_methodNamed B.named
  have hlocks := B.notSynchronized
  subst hsz
  have hD := hD0.self (sz := s.heap.size)
  generalize hAe : va_A [(a_wk, .inr (10, [.ref a_wk_items, .int wk_size])), (a_wk_items, .inl (cI, 4096, .inl wk_items))] s.heap.size = A at hD hT ⊢
  have hA : ∀ q : Nat, s.heap.size ≤ q → A q := fun q h => by rw [← hAe]; exact Or.inr h
  have hS : va_S A s.heap s.heap [] := va_S.rf
  generalize hQ : MQ below _ _ s 0 0 _ = QQ
  have hl := lv_entry ([.ref a_wk, .int x1]) (n := 2) (Nat.le_of_ble_eq_true rfl)
  rw [lg_entry_eq]
  generalize (lg_sl ([.ref a_wk, .int x1]) ++ List.replicate (2 - (lg_sl ([.ref a_wk, .int x1])).length) Slot.unset).toArray = ls at hl ⊢
  have hl : lv_has ls 2 [(0, .ref a_wk), (1, .int x1)] := hl
  have fl_9 := (hts _ (List.mem_cons_of_mem _ m_227))
  have fl_15 := (hts _ (List.mem_cons_of_mem _ m_228))
  refine lv_aload_n hx hb d_Work_put_0 rfl (lv_at hl 0 rfl) ?_
  refine va_get (D := (dC, dI)) (ci := 10) (v := .int wk_size) (C := "LoopInduction$Worklist") (T := F_Work) (N := 2) hx hb hts iC_Work hown hK hP 0 rfl rfl 1 (by decide) fl_15 (fun _ h9 => h9) rfl d_Work_put_1 ?_
  refine lv_aload_n hx hb d_Work_put_4 rfl (lv_at hl 0 rfl) ?_
  refine va_get (D := (dC, dI)) (ci := 10) (v := .ref a_wk_items) (C := "LoopInduction$Worklist") (T := F_Work) (N := 2) hx hb hts iC_Work hown hK hP 0 rfl rfl 0 (by decide) fl_9 (fun _ h9 => h9) rfl d_Work_put_5 ?_
  refine va_alen (v := 4096) hx hb hK hP 1 0 rfl rfl rfl d_Work_put_8 ?_
  refine lv_icmp_ge (tgt := 32) hx hb d_Work_put_9 (by decide) (fun c_9 => ?_) (fun c_9 => ?_)
  · have h := And.left h c_9
    rw [← hQ]
    have hP9 := hP
    have hD9 := hD
    exact W.vret hx hb hr (fun t ht hW => ⟨⟨(wk_size, wk_items), rfl, h, by rw [ht]; exact hP9, va_K.moved hW.alike hK, hD9⟩, hS.F ht⟩) hS.2.2 d_Work_put_32
  · have h := And.right h c_9
    refine lv_aload_n hx hb d_Work_put_12 rfl (lv_at hl 0 rfl) ?_
    refine va_get (D := (dC, dI)) (ci := 10) (v := .ref a_wk_items) (C := "LoopInduction$Worklist") (T := F_Work) (N := 2) hx hb hts iC_Work hown hK hP 0 rfl rfl 0 (by decide) fl_9 (fun _ h9 => h9) rfl d_Work_put_13 ?_
    refine lv_aload_n hx hb d_Work_put_16 rfl (lv_at hl 0 rfl) ?_
    refine va_get (D := (dC, dI)) (ci := 10) (v := .int wk_size) (C := "LoopInduction$Worklist") (T := F_Work) (N := 2) hx hb hts iC_Work hown hK hP 0 rfl rfl 1 (by decide) fl_15 (fun _ h9 => h9) rfl d_Work_put_17 ?_
    refine lv_iload_n hx hb d_Work_put_20 rfl (lv_at hl 1 rfl) ?_
    obtain ⟨hin_21, h⟩ := h
    refine va_iast hx hb hK hP hD hS 1 0 rfl rfl hin_21 d_Work_put_21 (fun H locs hP hD hS => ?_)
    have hP : va_P (dC, dI) vwCl [(a_wk, .inr (10, [.ref a_wk_items, .int wk_size])), (a_wk_items, .inl (cI, 4096, .inl (upd wk_items (wk_size : Int32).toNatClampNeg x1)))] H := hP
    have hD : va_D A [(a_wk, .inr (10, [.ref a_wk_items, .int wk_size])), (a_wk_items, .inl (cI, 4096, .inl (upd wk_items (wk_size : Int32).toNatClampNeg x1)))] := hD
    refine lv_aload_n hx hb d_Work_put_22 rfl (lv_at hl 0 rfl) ?_
    refine lv_dup hx hb d_Work_put_23 rfl ?_
    refine va_get (D := (dC, dI)) (ci := 10) (v := .int wk_size) (C := "LoopInduction$Worklist") (T := F_Work) (N := 2) hx hb hts iC_Work hown hK hP 0 rfl rfl 1 (by decide) fl_15 (fun _ h9 => h9) rfl d_Work_put_24 ?_
    refine lv_iconst (v := 1) hx hb d_Work_put_27 (by decide) ?_
    refine lv_iadd hx hb d_Work_put_28 ?_
    refine va_put (D := (dC, dI)) (ci := 10) (v := .int (wk_size + 1)) (ty := .int) (C := "LoopInduction$Worklist") (T := F_Work) (N := 2) hx hb hts iC_Work t_Work t_Work_ok n_Work hown hK hP hD hS 0 rfl rfl 1 (by decide) fl_15 (fun _ h9 => h9) rfl (by decide +kernel) rfl rfl (Nat.le_of_ble_eq_true rfl) d_Work_put_29 (fun H locs hP hD hS => ?_)
    have hP : va_P (dC, dI) vwCl [(a_wk, .inr (10, [.ref a_wk_items, .int (wk_size + 1)])), (a_wk_items, .inl (cI, 4096, .inl (upd wk_items (wk_size : Int32).toNatClampNeg x1)))] H := hP
    have hD : va_D A [(a_wk, .inr (10, [.ref a_wk_items, .int (wk_size + 1)])), (a_wk_items, .inl (cI, 4096, .inl (upd wk_items (wk_size : Int32).toNatClampNeg x1)))] := hD
    rw [← hQ]
    have hP9 := hP
    have hD9 := hD
    exact W.vret hx hb hr (fun t ht hW => ⟨⟨(wk_size + 1, upd wk_items (wk_size : Int32).toNatClampNeg x1), rfl, h, by rw [ht]; exact hP9, va_K.moved hW.alike hK, hD9⟩, hS.F ht⟩) hS.2.2 d_Work_put_32
set_option maxHeartbeats 4000000 in
set_option maxRecDepth 100000 in
theorem c_Work_size (l : Launch) (dC : Nat → ClassId) (dI : Nat → Nat → Nat) (cI cB cZ : ClassId) (adK adV : Nat → Nat) (sz : Nat) (a_wk a_wk_items : Nat) (wk_size : Int32) (post : Int32 → Prop) (h : wp_Work_size wk_size post) : Met l y_Work_size w_Work_size ({ frames := 0, cells := 0, slots := 0, locals := 0 }) (pc_ (dC, dI) [(cI, .int), (cB, .byte), (cZ, .boolean)] [(a_wk, .inr (10, [.ref a_wk_items, .int wk_size]))] sz adK adV [.ref a_wk]) (va_Qi (fun (r : Int32) (u : Unit) => post r ) (fun (u : Unit) t => bw_ (dC, dI) [(cI, .int), (cB, .byte), (cZ, .boolean)] (va_A [(a_wk, .inr (10, [.ref a_wk_items, .int wk_size]))] sz) [(a_wk, .inr (10, [.ref a_wk_items, .int wk_size]))] t) (va_A [(a_wk, .inr (10, [.ref a_wk_items, .int wk_size]))] sz)) 0 0 (va_A [(a_wk, .inr (10, [.ref a_wk_items, .int wk_size]))] sz) := by
  refine Met.ofW (cc := b_Work_size) (maxL := 1) (ret := (some .int)) (by decide) rfl ?_
  intro p e s m args below meth c s₁ B hml hv
  obtain ⟨rfl, hsz, hP, hK, hD0, hN, hT⟩ := hv
  have hx := B.exec
  have hb := B.bytes
  have hr := B.returns
  have hts := atoms_spec (ws := w_Work_size) B.pre
  have hown : s.vm.findClass "LoopInduction$Worklist" = some m.cls := findClass_of_methodNamed B.named
  have hlocks := B.notSynchronized
  subst hsz
  have hD := hD0.self (sz := s.heap.size)
  generalize hAe : va_A [(a_wk, .inr (10, [.ref a_wk_items, .int wk_size]))] s.heap.size = A at hD hT ⊢
  have hA : ∀ q : Nat, s.heap.size ≤ q → A q := fun q h => by rw [← hAe]; exact Or.inr h
  have hS : va_S A s.heap s.heap [] := va_S.rf
  generalize hQ : MQ below _ _ s 0 0 _ = QQ
  have hl := lv_entry ([.ref a_wk]) (n := 1) (Nat.le_of_ble_eq_true rfl)
  rw [lg_entry_eq]
  generalize (lg_sl ([.ref a_wk]) ++ List.replicate (1 - (lg_sl ([.ref a_wk])).length) Slot.unset).toArray = ls at hl ⊢
  have hl : lv_has ls 1 [(0, .ref a_wk)] := hl
  have fl_15 := (hts _ (List.mem_cons_of_mem _ m_228))
  refine lv_aload_n hx hb d_Work_size_0 rfl (lv_at hl 0 rfl) ?_
  refine va_get (D := (dC, dI)) (ci := 10) (v := .int wk_size) (C := "LoopInduction$Worklist") (T := F_Work) (N := 2) hx hb hts iC_Work hown hK hP 0 rfl rfl 1 (by decide) fl_15 (fun _ h9 => h9) rfl d_Work_size_1 ?_
  rw [← hQ]
  have hP9 := hP
  have hD9 := hD
  exact W.iret (v := wk_size) hx hb hr (fun t ht hW => ⟨⟨wk_size, (), rfl, h, by rw [ht]; exact hP9, va_K.moved hW.alike hK, hD9⟩, hS.F ht⟩) hS.2.2 d_Work_size_4
set_option maxHeartbeats 4000000 in
set_option maxRecDepth 100000 in
theorem c_Work_item (l : Launch) (dC : Nat → ClassId) (dI : Nat → Nat → Nat) (cI cB cZ : ClassId) (adK adV : Nat → Nat) (sz : Nat) (a_wk a_wk_items : Nat) (wk_size : Int32) (wk_items : Nat → Int32) (x1 : Int32) (post : Int32 → Prop) (h : wp_Work_item x1 wk_size wk_items post) : Met l y_Work_item w_Work_item ({ frames := 0, cells := 0, slots := 0, locals := 0 }) (pc_ (dC, dI) [(cI, .int), (cB, .byte), (cZ, .boolean)] [(a_wk, .inr (10, [.ref a_wk_items, .int wk_size])), (a_wk_items, .inl (cI, 4096, .inl wk_items))] sz adK adV [.ref a_wk, .int x1]) (va_Qi (fun (r : Int32) (u : Unit) => post r ) (fun (u : Unit) t => bw_ (dC, dI) [(cI, .int), (cB, .byte), (cZ, .boolean)] (va_A [(a_wk, .inr (10, [.ref a_wk_items, .int wk_size])), (a_wk_items, .inl (cI, 4096, .inl wk_items))] sz) [(a_wk, .inr (10, [.ref a_wk_items, .int wk_size])), (a_wk_items, .inl (cI, 4096, .inl wk_items))] t) (va_A [(a_wk, .inr (10, [.ref a_wk_items, .int wk_size])), (a_wk_items, .inl (cI, 4096, .inl wk_items))] sz)) 0 0 (va_A [(a_wk, .inr (10, [.ref a_wk_items, .int wk_size])), (a_wk_items, .inl (cI, 4096, .inl wk_items))] sz) := by
  refine Met.ofW (cc := b_Work_item) (maxL := 2) (ret := (some .int)) (by decide) rfl ?_
  intro p e s m args below meth c s₁ B hml hv
  obtain ⟨rfl, hsz, hP, hK, hD0, hN, hT⟩ := hv
  have hx := B.exec
  have hb := B.bytes
  have hr := B.returns
  have hts := atoms_spec (ws := w_Work_item) B.pre
  have hown : s.vm.findClass "LoopInduction$Worklist" = some m.cls := findClass_of_methodNamed B.named
  have hlocks := B.notSynchronized
  subst hsz
  have hD := hD0.self (sz := s.heap.size)
  generalize hAe : va_A [(a_wk, .inr (10, [.ref a_wk_items, .int wk_size])), (a_wk_items, .inl (cI, 4096, .inl wk_items))] s.heap.size = A at hD hT ⊢
  have hA : ∀ q : Nat, s.heap.size ≤ q → A q := fun q h => by rw [← hAe]; exact Or.inr h
  have hS : va_S A s.heap s.heap [] := va_S.rf
  generalize hQ : MQ below _ _ s 0 0 _ = QQ
  have hl := lv_entry ([.ref a_wk, .int x1]) (n := 2) (Nat.le_of_ble_eq_true rfl)
  rw [lg_entry_eq]
  generalize (lg_sl ([.ref a_wk, .int x1]) ++ List.replicate (2 - (lg_sl ([.ref a_wk, .int x1])).length) Slot.unset).toArray = ls at hl ⊢
  have hl : lv_has ls 2 [(0, .ref a_wk), (1, .int x1)] := hl
  have fl_9 := (hts _ (List.mem_cons_of_mem _ m_227))
  have fl_15 := (hts _ (List.mem_cons_of_mem _ m_228))
  refine lv_iload_n hx hb d_Work_item_0 rfl (lv_at hl 1 rfl) ?_
  refine lv_if_lt (tgt := 30) hx hb d_Work_item_1 (by decide) (fun c_1 => ?_) (fun c_1 => ?_)
  · have h := And.left h c_1
    refine lv_iconst (v := 0) hx hb d_Work_item_30 (by decide) ?_
    rw [← hQ]
    have hP9 := hP
    have hD9 := hD
    exact W.iret (v := 0) hx hb hr (fun t ht hW => ⟨⟨0, (), rfl, h, by rw [ht]; exact hP9, va_K.moved hW.alike hK, hD9⟩, hS.F ht⟩) hS.2.2 d_Work_item_31
  · have h := And.right h c_1
    refine lv_iload_n hx hb d_Work_item_4 rfl (lv_at hl 1 rfl) ?_
    refine lv_aload_n hx hb d_Work_item_5 rfl (lv_at hl 0 rfl) ?_
    refine va_get (D := (dC, dI)) (ci := 10) (v := .int wk_size) (C := "LoopInduction$Worklist") (T := F_Work) (N := 2) hx hb hts iC_Work hown hK hP 0 rfl rfl 1 (by decide) fl_15 (fun _ h9 => h9) rfl d_Work_item_6 ?_
    refine lv_icmp_ge (tgt := 30) hx hb d_Work_item_9 (by decide) (fun c_9 => ?_) (fun c_9 => ?_)
    · have h := And.left h c_9
      refine lv_iconst (v := 0) hx hb d_Work_item_30 (by decide) ?_
      rw [← hQ]
      have hP9 := hP
      have hD9 := hD
      exact W.iret (v := 0) hx hb hr (fun t ht hW => ⟨⟨0, (), rfl, h, by rw [ht]; exact hP9, va_K.moved hW.alike hK, hD9⟩, hS.F ht⟩) hS.2.2 d_Work_item_31
    · have h := And.right h c_9
      refine lv_iload_n hx hb d_Work_item_12 rfl (lv_at hl 1 rfl) ?_
      refine lv_aload_n hx hb d_Work_item_13 rfl (lv_at hl 0 rfl) ?_
      refine va_get (D := (dC, dI)) (ci := 10) (v := .ref a_wk_items) (C := "LoopInduction$Worklist") (T := F_Work) (N := 2) hx hb hts iC_Work hown hK hP 0 rfl rfl 0 (by decide) fl_9 (fun _ h9 => h9) rfl d_Work_item_14 ?_
      refine va_alen (v := 4096) hx hb hK hP 1 0 rfl rfl rfl d_Work_item_17 ?_
      refine lv_icmp_ge (tgt := 30) hx hb d_Work_item_18 (by decide) (fun c_18 => ?_) (fun c_18 => ?_)
      · have h := And.left h c_18
        refine lv_iconst (v := 0) hx hb d_Work_item_30 (by decide) ?_
        rw [← hQ]
        have hP9 := hP
        have hD9 := hD
        exact W.iret (v := 0) hx hb hr (fun t ht hW => ⟨⟨0, (), rfl, h, by rw [ht]; exact hP9, va_K.moved hW.alike hK, hD9⟩, hS.F ht⟩) hS.2.2 d_Work_item_31
      · have h := And.right h c_18
        refine lv_aload_n hx hb d_Work_item_21 rfl (lv_at hl 0 rfl) ?_
        refine va_get (D := (dC, dI)) (ci := 10) (v := .ref a_wk_items) (C := "LoopInduction$Worklist") (T := F_Work) (N := 2) hx hb hts iC_Work hown hK hP 0 rfl rfl 0 (by decide) fl_9 (fun _ h9 => h9) rfl d_Work_item_22 ?_
        refine lv_iload_n hx hb d_Work_item_25 rfl (lv_at hl 1 rfl) ?_
        obtain ⟨hin_26, h⟩ := h
        refine va_iald hx hb hK hP 1 0 rfl rfl hin_26 d_Work_item_26 ?_
        refine lv_goto (tgt := 31) hx hb d_Work_item_27 (by decide) ?_
        rw [← hQ]
        have hP9 := hP
        have hD9 := hD
        exact W.iret (v := wk_items (x1 : Int32).toNatClampNeg) hx hb hr (fun t ht hW => ⟨⟨(wk_items (x1 : Int32).toNatClampNeg), (), rfl, h, by rw [ht]; exact hP9, va_K.moved hW.alike hK, hD9⟩, hS.F ht⟩) hS.2.2 d_Work_item_31
