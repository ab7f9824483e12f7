/-! the reference's conds read what the grammar reads -/
def TN (v : Nat) (π : List Nat) : Prop := ∀ x π', π = x :: π' → x ≠ v
theorem pk_fix {op : Nat} {π o : List Nat} (h : TN 1001 π) : pk op π o = (op, π, o) := by
  cases π with
  | nil => rfl
  | cons x π => exact if_neg (h x π rfl)
theorem rc_fix {s : Bool} {π o : List Nat} (h3 : TN 1003 π) (h4 : s = true → TN 1004 π) : rc s π o = (π, o) := by
  cases π with
  | nil => rfl
  | cons x π => exact if_neg (fun q => q.elim (h3 x π rfl) (fun r => h4 r.1 x π rfl r.2))
theorem cnt_0 {v x : Nat} {π : List Nat} (h : x ≠ v) : cnt v (x :: π) = cnt v π := by rw [cnt_c, if_neg h, Nat.zero_add]
theorem cnt_1 {v : Nat} {π : List Nat} : cnt v (v :: π) = cnt v π + 1 := by rw [cnt_c, if_pos rfl, Nat.add_comm]
section RCS
variable {f : Nat → Int32} {n b c0 s : Nat} {A0 N0 C0 : Nat → Int32} {X1 : Int32} {K9 : EP}
theorem BC_pk {w j u op : Nat} {π o : List Nat} (h : BC f n c0 s w j u op π o) : BC f n c0 s w j u (pk op π o).1 (pk op π o).2.1 (pk op π o).2.2 := by
  obtain ⟨h1, h2, h3, h4, h5, h6⟩ := h
  have l := pk_len π o op (by omega)
  exact ⟨by omega, by omega, h3, by omega, fun x hx => h5 x (l.2.2.2.1 x hx), by omega⟩
theorem BC_rc {w j u op : Nat} {ors : Bool} {π o π2 o2 : List Nat} (h : BC f n c0 s w j u op π o) (e : rc ors π o = (π2, o2)) : BC f n c0 s w j u op π2 o2 ∧ π2.length ≤ π.length ∧ π2.length + o2.length = π.length + o.length ∧ cnt 1002 π2 = cnt 1002 π := by
  obtain ⟨h1, h2, h3, h4, h5, h6⟩ := h
  have l := rc_len (s := ors) π o
  rw [e] at l
  simp only at l
  exact ⟨⟨by omega, by omega, h3, h4, fun x hx => h5 x (l.2.2.1 x hx), by omega⟩, l.2.1, l.1, l.2.2.2.1⟩
theorem BC_j {w j j' u op : Nat} {π o : List Nat} (hn : n ≤ 1200) (h : BC f n c0 s w j u op π o) (hj : j ≤ j') : BC f n c0 s w j' u op π o := by
  obtain ⟨h1, h2, h3, h4, h5, h6⟩ := h
  have := rp_mono2 (f := f) hn (i := j) (j' - j)
  rw [show j + (j' - j) = j' by omega] at this
  exact ⟨h1, by omega, h3, h4, h5, h6⟩
def SP (f : Nat → Int32) (n b c0 s : Nat) (A0 N0 C0 : Nat → Int32) (X1 : Int32) (K9 : EP) (r : Nat) : Prop := ∀ j u π o, BC f n c0 s 1 j u (8 - r) π o → (pP (rK f n) (rV f n) r j u = none → WY f n b c0 s A0 N0 C0 K9) → (∀ j' u' o', pP (rK f n) (rV f n) r j u = some (j', u', o') → u < u' → j < j' → BC f n c0 s 0 j' u' (pk (8 - r) π (o ++ o')).1 (pk (8 - r) π (o ++ o')).2.1 (pk (8 - r) π (o ++ o')).2.2 → YL f n b c0 A0 N0 C0 X1 K9 0 j' u' (pk (8 - r) π (o ++ o')).1 (pk (8 - r) π (o ++ o')).2.1 (pk (8 - r) π (o ++ o')).2.2) → YL f n b c0 A0 N0 C0 X1 K9 1 j u (8 - r) π o
def SJ (f : Nat → Int32) (n b c0 s : Nat) (A0 N0 C0 : Nat → Int32) (X1 : Int32) (K9 : EP) (r : Nat) : Prop := ∀ j u π o, BC f n c0 s 1 j u (8 - r) π o → TN 1001 π → TN 1003 π → (pJ (rK f n) (rV f n) r j u = none → WY f n b c0 s A0 N0 C0 K9) → (∀ j' u' o' π' o2, pJ (rK f n) (rV f n) r j u = some (j', u', o') → u < u' → j < j' → rK f n j' ≠ 267 → rc false π' o2 = (π, o ++ o') → BC f n c0 s 0 j' u' (8 - r) π' o2 → YL f n b c0 A0 N0 C0 X1 K9 0 j' u' (8 - r) π' o2) → YL f n b c0 A0 N0 C0 X1 K9 1 j u (8 - r) π o
def SC (f : Nat → Int32) (n b c0 s : Nat) (A0 N0 C0 : Nat → Int32) (X1 : Int32) (K9 : EP) (r : Nat) : Prop := ∀ j u π o, BC f n c0 s 1 j u (8 - r) π o → TN 1001 π → TN 1003 π → TN 1004 π → (pC (rK f n) (rV f n) r j u = none → WY f n b c0 s A0 N0 C0 K9) → (∀ j' u' o' π' o2, pC (rK f n) (rV f n) r j u = some (j', u', o') → u < u' → j < j' → (rK f n j' ≠ 267 ∧ rK f n j' ≠ 266) → rc true π' o2 = (π, o ++ o') → BC f n c0 s 0 j' u' (8 - r) π' o2 → YL f n b c0 A0 N0 C0 X1 K9 0 j' u' (8 - r) π' o2) → YL f n b c0 A0 N0 C0 X1 K9 1 j u (8 - r) π o
theorem s_J (hn : n ≤ 1200) (hb : b < 3) (hs : s ≤ 50) {r : Nat} (hU : SP f n b c0 s A0 N0 C0 X1 K9 r) : SJ f n b c0 s A0 N0 C0 X1 K9 r := by
  intro j u π o hB hN1 hN3 hz hk
  have loop : ∀ k j1 u1 acc π' o2, 1200 ≤ u1 + k → u < u1 → j < j1 → rc false π' o2 = (π, o ++ acc) → BC f n c0 s 0 j1 u1 (8 - r) π' o2 → (∀ t, lp (rK f n) sA (pP (rK f n) (rV f n) r) k j1 u1 acc = t → pJ (rK f n) (rV f n) r j u = t) → YL f n b c0 A0 N0 C0 X1 K9 0 j1 u1 (8 - r) π' o2 := by
    intro k
    induction k with
    | zero => intro j1 u1 acc π' o2 h1 _ _ _ h2 _; have := h2.2.2.1; omega
    | succ k ih =>
      intro j1 u1 acc π' o2 h1 hu1 hj1 hrl h2 h3
      have hu := h2.2.2.1
      by_cases h42 : rK f n j1 = 267
      · refine c_op hn hb hs h2 (fun _ => ?_) (fun q => absurd q (by omega)) (Or.inl h42)
        rw [hrl]
        obtain ⟨q1, q2, q3, q4⟩ := BC_rc h2 hrl
        obtain ⟨b1, b2, b3, b4, b5, b6⟩ := BC_j hn q1 (Nat.le_succ j1)
        have hB2 : BC f n c0 s 1 (j1 + 1) u1 (8 - r) (1003 :: π) (o ++ acc) := ⟨by rw [List.length_cons]; omega, by rw [List.length_cons, cnt_0 (by decide)]; omega, b3, b4, fun x hx => (List.mem_cons.mp hx).elim (fun e => by omega) (fun e => b5 x e), by rw [cnt_0 (by decide), cnt_0 (by decide)]; exact b6⟩
        refine hU (j1 + 1) u1 (1003 :: π) (o ++ acc) hB2 (fun e => hz (h3 _ (by show (if sA (rK f n j1) then _ else _) = _; rw [h42, if_pos (show sA 267 = true from rfl), e]))) (fun j2 u2 o3 e hu2 hj2 hB3 => ?_)
        rw [pk_fix (show TN 1001 (1003 :: π) from fun x π' q => by cases q; decide)] at hB3 ⊢
        refine ih j2 u2 (acc ++ o3 ++ [267]) (1003 :: π) (o ++ acc ++ o3) (by omega) (by omega) (by omega) ?_ hB3 (fun t q => h3 t ?_)
        · have : rc false (1003 :: π) (o ++ acc ++ o3) = rc false π (o ++ acc ++ o3 ++ [267]) := if_pos (Or.inl rfl)
          rw [this, rc_fix hN3 (fun q => by cases q)]
          simp only [List.append_assoc]
        · show (if sA (rK f n j1) then _ else _) = _
          rw [h42, if_pos (show sA 267 = true from rfl), e]
          exact q
      · exact hk j1 u1 acc π' o2 (h3 _ (by show (if sA (rK f n j1) then _ else _) = _; rw [if_neg (by simp [sA, h42])])) hu1 hj1 h42 hrl h2
  refine hU j u π o hB (fun e => hz (by show sq (rK f n) sA (pP (rK f n) (rV f n) r) j u = _; unfold sq; rw [e])) (fun j1 u1 o1 e hu hj1 hB1 => ?_)
  rw [pk_fix hN1] at hB1 ⊢
  refine loop 1200 j1 u1 o1 π (o ++ o1) (by omega) hu hj1 (rc_fix hN3 (fun q => by cases q)) hB1 (fun t q => ?_)
  show sq (rK f n) sA (pP (rK f n) (rV f n) r) j u = _
  unfold sq; rw [e]; exact q
theorem s_C (hn : n ≤ 1200) (hb : b < 3) (hs : s ≤ 50) {r : Nat} (hT : SJ f n b c0 s A0 N0 C0 X1 K9 r) : SC f n b c0 s A0 N0 C0 X1 K9 r := by
  intro j u π o hB hN1 hN3 hN4 hz hk
  have loop : ∀ k j1 u1 acc π' o2, 1200 ≤ u1 + k → u < u1 → j < j1 → rK f n j1 ≠ 267 → rc true π' o2 = (π, o ++ acc) → BC f n c0 s 0 j1 u1 (8 - r) π' o2 → (∀ t, lp (rK f n) sO (pJ (rK f n) (rV f n) r) k j1 u1 acc = t → pC (rK f n) (rV f n) r j u = t) → YL f n b c0 A0 N0 C0 X1 K9 0 j1 u1 (8 - r) π' o2 := by
    intro k
    induction k with
    | zero => intro j1 u1 acc π' o2 h1 _ _ _ _ h2 _; have := h2.2.2.1; omega
    | succ k ih =>
      intro j1 u1 acc π' o2 h1 hu1 hj1 h42 hrl h2 h3
      have hu := h2.2.2.1
      by_cases h66 : rK f n j1 = 266
      · refine c_op hn hb hs h2 (fun q => absurd q h42) (fun _ => ?_) (Or.inr h66)
        rw [hrl]
        obtain ⟨q1, q2, q3, q4⟩ := BC_rc h2 hrl
        obtain ⟨b1, b2, b3, b4, b5, b6⟩ := BC_j hn q1 (Nat.le_succ j1)
        have hB2 : BC f n c0 s 1 (j1 + 1) u1 (8 - r) (1004 :: π) (o ++ acc) := ⟨by rw [List.length_cons]; omega, by rw [List.length_cons, cnt_0 (by decide)]; omega, b3, b4, fun x hx => (List.mem_cons.mp hx).elim (fun e => by omega) (fun e => b5 x e), by rw [cnt_0 (by decide), cnt_0 (by decide)]; exact b6⟩
        refine hT (j1 + 1) u1 (1004 :: π) (o ++ acc) hB2 (fun x π' q => by cases q; decide) (fun x π' q => by cases q; decide) (fun e => hz (h3 _ (by show (if sO (rK f n j1) then _ else _) = _; rw [h66, if_pos (show sO 266 = true from rfl), e]))) (fun j2 u2 o3 π'' o4 e hu2 hj2 h422 hrl2 hB3 => ?_)
        refine ih j2 u2 (acc ++ o3 ++ [266]) π'' o4 (by omega) (by omega) (by omega) h422 ?_ hB3 (fun t q => h3 t ?_)
        · have e1 := rc_rc π'' o4
          rw [hrl2] at e1
          rw [← e1]
          have : rc true (1004 :: π) (o ++ acc ++ o3) = rc true π (o ++ acc ++ o3 ++ [266]) := if_pos (Or.inr ⟨rfl, rfl⟩)
          rw [this, rc_fix hN3 (fun _ => hN4)]
          simp only [List.append_assoc]
        · show (if sO (rK f n j1) then _ else _) = _
          rw [h66, if_pos (show sO 266 = true from rfl), e]
          exact q
      · exact hk j1 u1 acc π' o2 (h3 _ (by show (if sO (rK f n j1) then _ else _) = _; rw [if_neg (by simp [sO, h66])])) hu1 hj1 ⟨h42, h66⟩ hrl h2
  refine hT j u π o hB hN1 hN3 (fun e => hz (by show sq (rK f n) sO (pJ (rK f n) (rV f n) r) j u = _; unfold sq; rw [e])) (fun j1 u1 o1 π' o2 e hu hj1 h42 hrl hB1 => ?_)
  refine loop 1200 j1 u1 o1 π' o2 (by omega) hu hj1 h42 ?_ hB1 (fun t q => ?_)
  · have e1 := rc_rc π' o2
    rw [hrl] at e1
    rw [← e1]; exact rc_fix hN3 (fun _ => hN4)
  · show sq (rK f n) sO (pJ (rK f n) (rV f n) r) j u = _
    unfold sq; rw [e]; exact q
theorem s_P1 (hn : n ≤ 1200) (hb : b < 3) (hs : s ≤ 50) (hs1 : 1 ≤ s) {r : Nat} (hr : r ≤ 8) (hi : 0 < r → SP f n b c0 s A0 N0 C0 X1 K9 (r - 1)) : SP f n b c0 s A0 N0 C0 X1 K9 r := by
  intro j u π o hB hz hk
  have hB0 := hB
  obtain ⟨b1, b2, b3, b4, b5, b6⟩ := hB
  have hm := rk_end (f := f) hn
  have pP_eq : ∀ t, (if rK f n j = 268 then (match (if r = 0 then (fun _ _ => none) else pP (rK f n) (rV f n) (r - 1)) (j + 1) u with | none => none | some (i', u', o) => some (i', u', o ++ [268])) else if rK f n j = 91 then (match (if r = 0 then (fun _ _ => none) else pC (rK f n) (rV f n) (r - 1)) (j + 1) u with | none => none | some (i', u', o) => if rK f n i' = 93 then some (i' + 1, u', o) else none) else match pE (rK f n) (rV f n) r j u with | none => none | some (i1, u1, o1) => if rel (rK f n i1) then (match pE (rK f n) (rV f n) r (i1 + 1) u1 with | none => none | some (i2, u2, o2) => some (i2, u2, o1 ++ o2 ++ [rK f n i1])) else none) = t → pP (rK f n) (rV f n) r j u = t := by
    intro t h
    cases r with
    | zero => exact h
    | succ r => exact h
  by_cases h68 : rK f n j = 268
  · refine c_open hn hs (fun h8 => hz (pP_eq _ (by rw [if_pos h68, if_pos (by omega)]))) hB0 (fun _ ho => ?_) (fun q => absurd q (by omega)) (Or.inl h68)
    have h0 : r ≠ 0 := by omega
    have e8 : 8 - r + 1 = 8 - (r - 1) := by omega
    have hp3 := rp_not hn h68
    have hB2 : BC f n c0 s 1 (j + 1) u (8 - (r - 1)) (1001 :: π) o := ⟨by rw [List.length_cons]; omega, by rw [List.length_cons, cnt_0 (by decide)]; omega, b3, by omega, fun x hx => (List.mem_cons.mp hx).elim (fun e => by omega) (fun e => b5 x e), by rw [cnt_1, cnt_0 (by decide)]; omega⟩
    rw [e8]
    refine hi (by omega) (j + 1) u (1001 :: π) o hB2 (fun e => hz (pP_eq _ (by rw [if_pos h68, if_neg h0, e]))) (fun j' u' o' e hu' hj' hB3 => ?_)
    have e1 : pk (8 - (r - 1)) (1001 :: π) (o ++ o') = pk (8 - r) π (o ++ (o' ++ [268])) := by
      have : pk (8 - (r - 1)) (1001 :: π) (o ++ o') = pk (8 - (r - 1) - 1) π (o ++ o' ++ [268]) := if_pos rfl
      rw [this, show 8 - (r - 1) - 1 = 8 - r by omega, List.append_assoc]
    rw [e1] at hB3 ⊢
    exact hk j' u' (o' ++ [268]) (pP_eq _ (by rw [if_pos h68, if_neg h0, e])) hu' (by omega) hB3
  by_cases h91 : rK f n j = 91
  · refine c_open hn hs (fun h8 => hz (pP_eq _ (by rw [if_neg h68, if_pos h91, if_pos (by omega)]))) hB0 (fun q => absurd q h68) (fun _ ho => ?_) (Or.inr h91)
    have h0 : r ≠ 0 := by omega
    have e8 : 8 - r + 1 = 8 - (r - 1) := by omega
    have hB2 : BC f n c0 s 1 (j + 1) u (8 - (r - 1)) (1002 :: π) o := by
      have hpm := rp_mono (f := f) hn j
      exact ⟨by rw [List.length_cons]; omega, by rw [List.length_cons, cnt_1]; omega, b3, by omega, fun x hx => (List.mem_cons.mp hx).elim (fun e => by omega) (fun e => b5 x e), by rw [cnt_1, cnt_0 (by decide)]; omega⟩
    have hE := s_C hn hb hs (s_J hn hb hs (hi (by omega)))
    rw [e8]
    refine hE (j + 1) u (1002 :: π) o hB2 (fun x π' q => by cases q; decide) (fun x π' q => by cases q; decide) (fun x π' q => by cases q; decide) (fun e => hz (pP_eq _ (by rw [if_neg h68, if_pos h91, if_neg h0, e]))) (fun j' u' o' π' o2 e hu' hj' hno hrl hB3 => ?_)
    have hu100 := hB3.2.2.1
    have hmem : 1002 ∈ π' := by
      have l := rc_len (s := true) π' o2
      rw [hrl] at l
      exact l.2.2.1 1002 (List.mem_cons_self ..)
    by_cases h93 : rK f n j' = 93
    · obtain ⟨⟨a1, a2, a3, a4, a5, a6⟩, q2, q3, q4⟩ := BC_rc hB3 hrl
      rw [List.length_cons] at q2 q3 a1 a2
      rw [cnt_1] at q4 a2 a6
      rw [cnt_0 (by decide)] at a6
      have hpm := rp_mono (f := f) hn j'
      have hB4 : BC f n c0 s 0 (j' + 1) u' (8 - r) π (o ++ o') := by
        have c1 := hB3.1
        have c2 := hB3.2.1
        exact ⟨by omega, by omega, a3, by omega, b5, b6⟩
      have hop : 8 - (r - 1) - 1 = 8 - r := by omega
      refine c_close hn hb hs hB3 h93 (by omega) hrl (by omega) ?_
      rw [hop]
      exact hk (j' + 1) u' o' (pP_eq _ (by rw [if_neg h68, if_pos h91, if_neg h0, e]; simp only [h93, if_true])) hu' (by omega) (BC_pk hB4)
    · exact c_end hn hs hB3 hno (fun q => h93 q.1) (fun a t p nu sg fp pile hr hP => (hz (pP_eq _ (by rw [if_neg h68, if_pos h91, if_neg h0, e]; simp only [h93, if_false]))).2 j' u' (8 - (r - 1)) π' o2 a t p nu sg fp pile hr hP hB3 hmem)
  have hz2 : (∀ j1 u1 o1 j2 u2 o2, pE (rK f n) (rV f n) r j u = some (j1, u1, o1) → rel (rK f n j1) = true → pE (rK f n) (rV f n) r (j1 + 1) u1 = some (j2, u2, o2) → False) → WY f n b c0 s A0 N0 C0 K9 := fun hno => hz (pP_eq _ (by
    rw [if_neg h68, if_neg h91]
    cases e1 : pE (rK f n) (rV f n) r j u with
    | none => rfl
    | some t1 =>
      obtain ⟨j1, u1, o1⟩ := t1
      by_cases hrel : rel (rK f n j1) = true
      · cases e2 : pE (rK f n) (rV f n) r (j1 + 1) u1 with
        | none => simp only [hrel, if_true, e2]
        | some t2 => exact (hno j1 u1 o1 t2.1 t2.2.1 t2.2.2 e1 hrel e2).elim
      · exact if_neg hrel))
  refine c_prim hn hb hs hs1 hr hz2 hB0 ⟨h68, h91⟩ (fun j1 u1 o1 j2 u2 o2 e1 hrel e2 hu2 hc hl hu => ?_)
  have g1 := pE_gd (V := rV f n) hm r _ _ _ _ _ e1
  have g2 := pE_gd (V := rV f n) hm r _ _ _ _ _ e2
  have hpm := rp_mono2 (f := f) hn (i := j) (j2 - j)
  rw [show j + (j2 - j) = j2 by omega] at hpm
  have hB4 : BC f n c0 s 0 j2 u2 (8 - r) π (o ++ (o1 ++ o2 ++ [rK f n j1])) := by
    rw [← List.append_assoc, ← List.append_assoc]
    exact ⟨by omega, by omega, hu, b4, b5, b6⟩
  have := hk j2 u2 (o1 ++ o2 ++ [rK f n j1]) (pP_eq _ (by rw [if_neg h68, if_neg h91, e1]; simp only [hrel, if_true]; rw [e2])) hu2 (by omega) (BC_pk hB4)
  rw [← List.append_assoc, ← List.append_assoc] at this
  exact this
theorem s_P (hn : n ≤ 1200) (hb : b < 3) (hs : s ≤ 50) (hs1 : 1 ≤ s) : ∀ r, r ≤ 8 → SP f n b c0 s A0 N0 C0 X1 K9 r
  | 0, hr => s_P1 hn hb hs hs1 hr (fun q => absurd q (by decide))
  | r + 1, hr => s_P1 hn hb hs hs1 hr (fun _ => s_P hn hb hs hs1 r (by omega))
end RCS
