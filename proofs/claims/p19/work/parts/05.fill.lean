/-! java.util.Arrays.fill of an int array -/
abbrev b_fill : ByteArray := prog_20_method_103_code
abbrev y_fill : MethodName := ⟨"java/util/Arrays", "fill", "([II)V"⟩
abbrev w_fill : List Cond := .code y_fill b_fill 4 none :: allW
theorem pn_fill : y_fill.cls ≠ "java/lang/invoke/MethodHandle" ∧ y_fill.cls ≠ "java/lang/invoke/VarHandle" ∧ (parseMethodDescriptor y_fill.desc).map (fun d => d.parameters.length) = some 2 := by decide +kernel
theorem d_fill_0 : decode b_fill 0 = .ok (.iconst 0, 1) := by decide +kernel
theorem d_fill_1 : decode b_fill 1 = .ok (.istore_n 2, 1) := by decide +kernel
theorem d_fill_2 : decode b_fill 2 = .ok (.aload_n 0, 1) := by decide +kernel
theorem d_fill_3 : decode b_fill 3 = .ok (.arraylength, 1) := by decide +kernel
theorem d_fill_4 : decode b_fill 4 = .ok (.istore_n 3, 1) := by decide +kernel
theorem d_fill_5 : decode b_fill 5 = .ok (.iload_n 2, 1) := by decide +kernel
theorem d_fill_6 : decode b_fill 6 = .ok (.iload_n 3, 1) := by decide +kernel
theorem d_fill_7 : decode b_fill 7 = .ok (.if_icmp .ge 13, 3) := by decide +kernel
theorem d_fill_10 : decode b_fill 10 = .ok (.aload_n 0, 1) := by decide +kernel
theorem d_fill_11 : decode b_fill 11 = .ok (.iload_n 2, 1) := by decide +kernel
theorem d_fill_12 : decode b_fill 12 = .ok (.iload_n 1, 1) := by decide +kernel
theorem d_fill_13 : decode b_fill 13 = .ok (.iastore, 1) := by decide +kernel
theorem d_fill_14 : decode b_fill 14 = .ok (.iinc 2 1, 3) := by decide +kernel
theorem d_fill_17 : decode b_fill 17 = .ok (.goto (-12), 3) := by decide +kernel
theorem d_fill_20 : decode b_fill 20 = .ok (.return_, 1) := by decide +kernel
theorem vp_fill_0 (f : Nat → Int32) (v : Int32) : vp_fill f 0 v = f := by
  funext j
  simp [vp_fill]
theorem vp_fill_s (f : Nat → Int32) (i : Nat) (v : Int32) : upd (vp_fill f i v) i v = vp_fill f (i + 1) v := by
  funext j
  simp only [upd, vp_fill]
  by_cases h : j = i
  · subst h
    simp
  · by_cases h2 : j < i
    · simp [h, h2, Nat.lt_succ_of_lt h2]
    · simp [h, h2, show ¬ j < i + 1 by omega]
set_option maxHeartbeats 4000000 in
set_option maxRecDepth 100000 in
theorem c_fill (l : Launch) (dC : Nat → ClassId) (dI : Nat → Nat → Nat) (cI cB cZ : ClassId) (adK adV : Nat → Nat) (sz a n : Nat) (f : Nat → Int32) (v : Int32) (hn : n < 2 ^ 31) : Met l y_fill w_fill ({ frames := 0, cells := 0, slots := 0, locals := 0 }) (pc_ (dC, dI) [(cI, .int), (cB, .byte), (cZ, .boolean)] [(a, .inl (cI, n, .inl f))] sz adK adV [.ref a, .int v]) (va_Qv (fun (u : Nat → Int32) => u = vp_fill f n v) (fun u t => bw_ (dC, dI) [(cI, .int), (cB, .byte), (cZ, .boolean)] (va_A [(a, .inl (cI, n, .inl f))] sz) [(a, .inl (cI, n, .inl u))] t) (va_A [(a, .inl (cI, n, .inl f))] sz)) 0 0 (va_A [(a, .inl (cI, n, .inl f))] sz) := by
  refine Met.ofW (cc := b_fill) (maxL := 4) (ret := none) (by decide) rfl ?_
  intro p e s m args below meth c s₁ B hml hv
  obtain ⟨rfl, hsz, hP, hK, hD0, hN, hT⟩ := hv
  have hx := B.exec
  have hb := B.bytes
  have hr := B.returns
  have hlocks := B.notSynchronized
  subst hsz
  have hD := hD0.self (sz := s.heap.size)
  generalize hAe : va_A [(a, .inl (cI, n, .inl f))] s.heap.size = A at hD ⊢
  have hS : va_S A s.heap s.heap [] := va_S.rf
  have hl := lv_entry ([.ref a, .int v]) (n := 4) (Nat.le_of_ble_eq_true rfl)
  rw [lg_entry_eq]
  generalize (lg_sl ([.ref a, .int v]) ++ List.replicate (4 - (lg_sl ([.ref a, .int v])).length) Slot.unset).toArray = ls at hl ⊢
  have hl : lv_has ls 4 [(0, .ref a), (1, .int v)] := hl
  generalize hQ : MQ below _ _ s 0 0 _ = QQ
  have L5 : ∀ (k i : Nat), i + k = n → ∀ (H : Heap) (locs : List Loc), va_P (dC, dI) vwCl [(a, .inl (cI, n, .inl (vp_fill f i v)))] H → va_D A [(a, .inl (cI, n, .inl (vp_fill f i v)))] → va_S A s.heap H locs → ∀ ls : Array Slot, lv_has ls 4 [(0, .ref a), (1, .int v), (2, .int (nI i)), (3, .int (nI n))] → W p l e (headSpec w_fill ({ frames := 0, cells := 0, slots := 0, locals := 0 })).room s m (([.ref a, .int v] : List Value).toArray) below meth c H locs 0 0 QQ (F0 m 5 ls []) := by
    intro k
    induction k with
    | zero =>
      intro i hi H locs hP hD hS ls hl
      obtain rfl : i = n := hi
      refine lv_iload_n hx hb d_fill_5 rfl (lv_at hl 2 rfl) ?_
      refine lv_iload_n hx hb d_fill_6 rfl (lv_at hl 3 rfl) ?_
      refine lv_icmp_ge (tgt := 20) hx hb d_fill_7 (by decide) (fun c_7 => ?_) (fun c_7 => ?_)
      · subst hQ
        exact W.vret hx hb hr (fun t ht hW => ⟨⟨_, rfl, rfl, by rw [ht]; exact hP, va_K.moved hW.alike hK, hD⟩, hS.F ht⟩) hS.2.2 d_fill_20
      · exact absurd (nI_le (Nat.le_refl i) hn) c_7
    | succ k ik =>
      intro i hi H locs hP hD hS ls hl
      refine lv_iload_n hx hb d_fill_5 rfl (lv_at hl 2 rfl) ?_
      refine lv_iload_n hx hb d_fill_6 rfl (lv_at hl 3 rfl) ?_
      refine lv_icmp_ge (tgt := 20) hx hb d_fill_7 (by decide) (fun c_7 => ?_) (fun c_7 => ?_)
      · exact absurd c_7 (nI_ge (by omega) hn)
      · refine lv_aload_n hx hb d_fill_10 rfl (lv_at hl 0 rfl) ?_
        refine lv_iload_n hx hb d_fill_11 rfl (lv_at hl 2 rfl) ?_
        refine lv_iload_n hx hb d_fill_12 rfl (lv_at hl 1 rfl) ?_
        refine va_iast hx hb hK hP hD hS 0 0 rfl rfl (vp_in_nI (by omega) hn) d_fill_13 (fun H locs hP hD hS => ?_)
        have e1 : upd (vp_fill f i v) (nI i).toNatClampNeg v = vp_fill f (i + 1) v := by rw [nI_clamp (by omega)]; exact vp_fill_s f i v
        rw [e1] at hP hD
        have hP : va_P (dC, dI) vwCl [(a, .inl (cI, n, .inl (vp_fill f (i + 1) v)))] H := hP
        have hD : va_D A [(a, .inl (cI, n, .inl (vp_fill f (i + 1) v)))] := hD
        refine lv_iinc (v := nI (i + 1)) (lv' := [(2, .int (nI (i + 1))), (0, .ref a), (1, .int v), (3, .int (nI n))]) hx hb d_fill_14 hl (k := 2) rfl (nI_1 i) (by decide) rfl (fun ls hl => ?_)
        refine lv_goto (tgt := 5) hx hb d_fill_17 (by decide) ?_
        exact ik (i + 1) (by omega) _ _ hP hD hS _ (lv_sub hl [1, 2, 0, 3] rfl)
  refine lv_iconst (v := 0) hx hb d_fill_0 (by decide) ?_
  refine lv_istore_n (lv' := [(2, .int 0), (0, .ref a), (1, .int v)]) hx hb d_fill_1 rfl hl (by decide) rfl (fun ls hl => ?_)
  refine lv_aload_n hx hb d_fill_2 rfl (lv_at hl 1 rfl) ?_
  refine va_alen (v := nI n) hx hb hK hP 0 0 rfl rfl rfl d_fill_3 ?_
  refine lv_istore_n (lv' := [(3, .int (nI n)), (2, .int 0), (0, .ref a), (1, .int v)]) hx hb d_fill_4 rfl hl (by decide) rfl (fun ls hl => ?_)
  refine L5 n 0 (by omega) _ _ ?_ ?_ hS _ (lv_sub hl [2, 3, 1, 0] (by rw [nI_0]; rfl))
  · rw [vp_fill_0]; exact hP
  · rw [vp_fill_0]; exact hD

