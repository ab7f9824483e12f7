abbrev b_Scr_one : ByteArray := prog_8_method_2_code
abbrev y_Scr_one : MethodName := ⟨"LoopInduction$Scratch", "one", "()[I"⟩
abbrev w_Scr_one : List Cond := .code y_Scr_one b_Scr_one 1 (some (.array .int)) :: allW
theorem pn_Scr_one : y_Scr_one.cls ≠ "java/lang/invoke/MethodHandle" ∧ y_Scr_one.cls ≠ "java/lang/invoke/VarHandle" ∧ (parseMethodDescriptor y_Scr_one.desc).map (fun d => d.parameters.length) = some 0 := by decide +kernel
theorem pd_Scr_one : y_Scr_one.cls = "LoopInduction$Scratch" ∧ y_Scr_one.cls ≠ "java/lang/invoke/MethodHandle" ∧ y_Scr_one.cls ≠ "java/lang/invoke/VarHandle" ∧ (parseMethodDescriptor y_Scr_one.desc).map (fun d => d.parameters.length) = some 0 := by decide +kernel
abbrev b_Scr_two : ByteArray := prog_8_method_3_code
abbrev y_Scr_two : MethodName := ⟨"LoopInduction$Scratch", "two", "()[I"⟩
abbrev w_Scr_two : List Cond := .code y_Scr_two b_Scr_two 1 (some (.array .int)) :: allW
theorem pn_Scr_two : y_Scr_two.cls ≠ "java/lang/invoke/MethodHandle" ∧ y_Scr_two.cls ≠ "java/lang/invoke/VarHandle" ∧ (parseMethodDescriptor y_Scr_two.desc).map (fun d => d.parameters.length) = some 0 := by decide +kernel
theorem pd_Scr_two : y_Scr_two.cls = "LoopInduction$Scratch" ∧ y_Scr_two.cls ≠ "java/lang/invoke/MethodHandle" ∧ y_Scr_two.cls ≠ "java/lang/invoke/VarHandle" ∧ (parseMethodDescriptor y_Scr_two.desc).map (fun d => d.parameters.length) = some 0 := by decide +kernel
abbrev b_Scr_work : ByteArray := prog_8_method_4_code
abbrev y_Scr_work : MethodName := ⟨"LoopInduction$Scratch", "work", "()LLoopInduction$Worklist;"⟩
abbrev w_Scr_work : List Cond := .code y_Scr_work b_Scr_work 1 (some (.object "LoopInduction$Worklist")) :: allW
theorem pn_Scr_work : y_Scr_work.cls ≠ "java/lang/invoke/MethodHandle" ∧ y_Scr_work.cls ≠ "java/lang/invoke/VarHandle" ∧ (parseMethodDescriptor y_Scr_work.desc).map (fun d => d.parameters.length) = some 0 := by decide +kernel
theorem pd_Scr_work : y_Scr_work.cls = "LoopInduction$Scratch" ∧ y_Scr_work.cls ≠ "java/lang/invoke/MethodHandle" ∧ y_Scr_work.cls ≠ "java/lang/invoke/VarHandle" ∧ (parseMethodDescriptor y_Scr_work.desc).map (fun d => d.parameters.length) = some 0 := by decide +kernel
theorem d_Scr_one_0 : decode b_Scr_one 0 = .ok (.aload_n 0, 1) := by decide +kernel
theorem d_Scr_one_1 : decode b_Scr_one 1 = .ok (.getfield 9, 3) := by decide +kernel
theorem d_Scr_one_4 : decode b_Scr_one 4 = .ok (.areturn, 1) := by decide +kernel
theorem d_Scr_two_0 : decode b_Scr_two 0 = .ok (.aload_n 0, 1) := by decide +kernel
theorem d_Scr_two_1 : decode b_Scr_two 1 = .ok (.getfield 15, 3) := by decide +kernel
theorem d_Scr_two_4 : decode b_Scr_two 4 = .ok (.areturn, 1) := by decide +kernel
theorem d_Scr_work_0 : decode b_Scr_work 0 = .ok (.aload_n 0, 1) := by decide +kernel
theorem d_Scr_work_1 : decode b_Scr_work 1 = .ok (.getfield 21, 3) := by decide +kernel
theorem d_Scr_work_4 : decode b_Scr_work 4 = .ok (.areturn, 1) := by decide +kernel
set_option maxHeartbeats 4000000 in
set_option maxRecDepth 100000 in
theorem c_Scr_one (l : Launch) (dC : Nat → ClassId) (dI : Nat → Nat → Nat) (cI cB cZ : ClassId) (adK adV : Nat → Nat) (sz : Nat) (a_sc a_s1 a_s2 a_wk : Nat) (post : Prop) (h : wp_Scr_one post) : Met l y_Scr_one w_Scr_one ({ frames := 0, cells := 0, slots := 0, locals := 0 }) (pc_ (dC, dI) [(cI, .int), (cB, .byte), (cZ, .boolean)] [(a_sc, .inr (7, [.ref a_s1, .ref a_s2, .ref a_wk]))] sz adK adV [.ref a_sc]) (va_Qr (fun (u : Unit) => post ) (fun (u : Unit) a t => a = a_s1 ∧ bw_ (dC, dI) [(cI, .int), (cB, .byte), (cZ, .boolean)] (va_A [(a_sc, .inr (7, [.ref a_s1, .ref a_s2, .ref a_wk]))] sz) [(a_sc, .inr (7, [.ref a_s1, .ref a_s2, .ref a_wk]))] t) (va_A [(a_sc, .inr (7, [.ref a_s1, .ref a_s2, .ref a_wk]))] sz)) 0 0 (va_A [(a_sc, .inr (7, [.ref a_s1, .ref a_s2, .ref a_wk]))] sz) := by
  refine Met.ofW (cc := b_Scr_one) (maxL := 1) (ret := (some (.array .int))) (by decide) rfl ?_
  intro p e s m args below meth c s₁ B hml hv
  obtain ⟨rfl, hsz, hP, hK, hD0, hN, hT⟩ := hv
  have hx := B.exec
  have hb := B.bytes
  have hr := B.returns
  have hts := atoms_spec (ws := w_Scr_one) B.pre
  have hown : s.vm.findClass "LoopInduction$Scratch" = some m.cls := findClass_of_methodNamed B.named
  have hlocks := B.notSynchronized
  subst hsz
  have hD := hD0.self (sz := s.heap.size)
  generalize hAe : va_A [(a_sc, .inr (7, [.ref a_s1, .ref a_s2, .ref a_wk]))] s.heap.size = A at hD hT ⊢
  have hA : ∀ q : Nat, s.heap.size ≤ q → A q := fun q h => by rw [← hAe]; exact Or.inr h
  have hS : va_S A s.heap s.heap [] := va_S.rf
  generalize hQ : MQ below _ _ s 0 0 _ = QQ
  have hl := lv_entry ([.ref a_sc]) (n := 1) (Nat.le_of_ble_eq_true rfl)
  rw [lg_entry_eq]
  generalize (lg_sl ([.ref a_sc]) ++ List.replicate (1 - (lg_sl ([.ref a_sc])).length) Slot.unset).toArray = ls at hl ⊢
  have hl : lv_has ls 1 [(0, .ref a_sc)] := hl
  have fl_9 := (hts _ (List.mem_cons_of_mem _ m_234))
  refine lv_aload_n hx hb d_Scr_one_0 rfl (lv_at hl 0 rfl) ?_
  refine va_get (D := (dC, dI)) (ci := 7) (v := .ref a_s1) (C := "LoopInduction$Scratch") (T := F_Scr) (N := 3) hx hb hts iC_Scr hown hK hP 0 rfl rfl 0 (by decide) fl_9 (fun _ h9 => h9) rfl d_Scr_one_1 ?_
  rw [← hQ]
  have hP9 := hP
  have hD9 := hD
  exact W.aret (v := .ref a_s1) hx hb hr (Or.inr ⟨_, rfl⟩) (Or.inr ⟨_, rfl⟩) (fun t ht hW => ⟨⟨(), a_s1, rfl, h, rfl, by rw [ht]; exact hP9, va_K.moved hW.alike hK, hD9⟩, hS.F ht⟩) hS.2.2 d_Scr_one_4
set_option maxHeartbeats 4000000 in
set_option maxRecDepth 100000 in
theorem c_Scr_two (l : Launch) (dC : Nat → ClassId) (dI : Nat → Nat → Nat) (cI cB cZ : ClassId) (adK adV : Nat → Nat) (sz : Nat) (a_sc a_s1 a_s2 a_wk : Nat) (post : Prop) (h : wp_Scr_two post) : Met l y_Scr_two w_Scr_two ({ frames := 0, cells := 0, slots := 0, locals := 0 }) (pc_ (dC, dI) [(cI, .int), (cB, .byte), (cZ, .boolean)] [(a_sc, .inr (7, [.ref a_s1, .ref a_s2, .ref a_wk]))] sz adK adV [.ref a_sc]) (va_Qr (fun (u : Unit) => post ) (fun (u : Unit) a t => a = a_s2 ∧ bw_ (dC, dI) [(cI, .int), (cB, .byte), (cZ, .boolean)] (va_A [(a_sc, .inr (7, [.ref a_s1, .ref a_s2, .ref a_wk]))] sz) [(a_sc, .inr (7, [.ref a_s1, .ref a_s2, .ref a_wk]))] t) (va_A [(a_sc, .inr (7, [.ref a_s1, .ref a_s2, .ref a_wk]))] sz)) 0 0 (va_A [(a_sc, .inr (7, [.ref a_s1, .ref a_s2, .ref a_wk]))] sz) := by
  refine Met.ofW (cc := b_Scr_two) (maxL := 1) (ret := (some (.array .int))) (by decide) rfl ?_
  intro p e s m args below meth c s₁ B hml hv
  obtain ⟨rfl, hsz, hP, hK, hD0, hN, hT⟩ := hv
  have hx := B.exec
  have hb := B.bytes
  have hr := B.returns
  have hts := atoms_spec (ws := w_Scr_two) B.pre
  have hown : s.vm.findClass "LoopInduction$Scratch" = some m.cls := findClass_of_methodNamed B.named
  have hlocks := B.notSynchronized
  subst hsz
  have hD := hD0.self (sz := s.heap.size)
  generalize hAe : va_A [(a_sc, .inr (7, [.ref a_s1, .ref a_s2, .ref a_wk]))] s.heap.size = A at hD hT ⊢
  have hA : ∀ q : Nat, s.heap.size ≤ q → A q := fun q h => by rw [← hAe]; exact Or.inr h
  have hS : va_S A s.heap s.heap [] := va_S.rf
  generalize hQ : MQ below _ _ s 0 0 _ = QQ
  have hl := lv_entry ([.ref a_sc]) (n := 1) (Nat.le_of_ble_eq_true rfl)
  rw [lg_entry_eq]
  generalize (lg_sl ([.ref a_sc]) ++ List.replicate (1 - (lg_sl ([.ref a_sc])).length) Slot.unset).toArray = ls at hl ⊢
  have hl : lv_has ls 1 [(0, .ref a_sc)] := hl
  have fl_15 := (hts _ (List.mem_cons_of_mem _ m_235))
  refine lv_aload_n hx hb d_Scr_two_0 rfl (lv_at hl 0 rfl) ?_
  refine va_get (D := (dC, dI)) (ci := 7) (v := .ref a_s2) (C := "LoopInduction$Scratch") (T := F_Scr) (N := 3) hx hb hts iC_Scr hown hK hP 0 rfl rfl 1 (by decide) fl_15 (fun _ h9 => h9) rfl d_Scr_two_1 ?_
  rw [← hQ]
  have hP9 := hP
  have hD9 := hD
  exact W.aret (v := .ref a_s2) hx hb hr (Or.inr ⟨_, rfl⟩) (Or.inr ⟨_, rfl⟩) (fun t ht hW => ⟨⟨(), a_s2, rfl, h, rfl, by rw [ht]; exact hP9, va_K.moved hW.alike hK, hD9⟩, hS.F ht⟩) hS.2.2 d_Scr_two_4
set_option maxHeartbeats 4000000 in
set_option maxRecDepth 100000 in
theorem c_Scr_work (l : Launch) (dC : Nat → ClassId) (dI : Nat → Nat → Nat) (cI cB cZ : ClassId) (adK adV : Nat → Nat) (sz : Nat) (a_sc a_s1 a_s2 a_wk : Nat) (post : Prop) (h : wp_Scr_work post) : Met l y_Scr_work w_Scr_work ({ frames := 0, cells := 0, slots := 0, locals := 0 }) (pc_ (dC, dI) [(cI, .int), (cB, .byte), (cZ, .boolean)] [(a_sc, .inr (7, [.ref a_s1, .ref a_s2, .ref a_wk]))] sz adK adV [.ref a_sc]) (va_Qr (fun (u : Unit) => post ) (fun (u : Unit) a t => a = a_wk ∧ bw_ (dC, dI) [(cI, .int), (cB, .byte), (cZ, .boolean)] (va_A [(a_sc, .inr (7, [.ref a_s1, .ref a_s2, .ref a_wk]))] sz) [(a_sc, .inr (7, [.ref a_s1, .ref a_s2, .ref a_wk]))] t) (va_A [(a_sc, .inr (7, [.ref a_s1, .ref a_s2, .ref a_wk]))] sz)) 0 0 (va_A [(a_sc, .inr (7, [.ref a_s1, .ref a_s2, .ref a_wk]))] sz) := by
  refine Met.ofW (cc := b_Scr_work) (maxL := 1) (ret := (some (.object "LoopInduction$Worklist"))) (by decide) rfl ?_
  intro p e s m args below meth c s₁ B hml hv
  obtain ⟨rfl, hsz, hP, hK, hD0, hN, hT⟩ := hv
  have hx := B.exec
  have hb := B.bytes
  have hr := B.returns
  have hts := atoms_spec (ws := w_Scr_work) B.pre
  have hown : s.vm.findClass "LoopInduction$Scratch" = some m.cls := findClass_of_methodNamed B.named
  have hlocks := B.notSynchronized
  subst hsz
  have hD := hD0.self (sz := s.heap.size)
  generalize hAe : va_A [(a_sc, .inr (7, [.ref a_s1, .ref a_s2, .ref a_wk]))] s.heap.size = A at hD hT ⊢
  have hA : ∀ q : Nat, s.heap.size ≤ q → A q := fun q h => by rw [← hAe]; exact Or.inr h
  have hS : va_S A s.heap s.heap [] := va_S.rf
  generalize hQ : MQ below _ _ s 0 0 _ = QQ
  have hl := lv_entry ([.ref a_sc]) (n := 1) (Nat.le_of_ble_eq_true rfl)
  rw [lg_entry_eq]
  generalize (lg_sl ([.ref a_sc]) ++ List.replicate (1 - (lg_sl ([.ref a_sc])).length) Slot.unset).toArray = ls at hl ⊢
  have hl : lv_has ls 1 [(0, .ref a_sc)] := hl
  have fl_21 := (hts _ (List.mem_cons_of_mem _ m_236))
  refine lv_aload_n hx hb d_Scr_work_0 rfl (lv_at hl 0 rfl) ?_
  refine va_get (D := (dC, dI)) (ci := 7) (v := .ref a_wk) (C := "LoopInduction$Scratch") (T := F_Scr) (N := 3) hx hb hts iC_Scr hown hK hP 0 rfl rfl 2 (by decide) fl_21 (fun _ h9 => h9) rfl d_Scr_work_1 ?_
  rw [← hQ]
  have hP9 := hP
  have hD9 := hD
  exact W.aret (v := .ref a_wk) hx hb hr (Or.inl ⟨_, rfl⟩) (Or.inr ⟨_, rfl⟩) (fun t ht hW => ⟨⟨(), a_wk, rfl, h, rfl, by rw [ht]; exact hP9, va_K.moved hW.alike hK, hD9⟩, hS.F ht⟩) hS.2.2 d_Scr_work_4
