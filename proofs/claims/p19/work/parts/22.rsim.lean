/-! the reference's exps read what the grammar reads -/
def NN (fl : Nat) (π : List Nat) : Prop := ∀ x π', π = x :: π' → fl < π'.length + 1 → x ≠ 1000
def NL (fl lv : Nat) (π : List Nat) : Prop := ∀ x π', π = x :: π' → fl < π'.length + 1 → x = 40 ∨ str x < lv
theorem pn_fix {fl op : Nat} {π o : List Nat} (h : NN fl π) : pn fl op π o = (op, π, o) := by
  cases π with
  | nil => rfl
  | cons x π => exact if_neg (fun q => h x π rfl q.1 q.2)
theorem rl_fix {fl lv : Nat} {π o : List Nat} (h : NL fl lv π) : rl fl lv π o = (π, o) := by
  cases π with
  | nil => rfl
  | cons x π => exact if_neg (fun q => (h x π rfl q.1).elim (fun r => q.2.1 r) (fun r => by have := q.2.2; omega))
theorem NL_up {fl lv lv2 : Nat} {π : List Nat} (h : NL fl lv π) (hl : lv ≤ lv2) : NL fl lv2 π := fun x π' e q => (h x π' e q).elim Or.inl (fun r => Or.inr (by omega))
theorem Bnd_pn {c0 fl Bd w u op : Nat} {π o : List Nat} (h : Bnd c0 fl Bd w u op π o) : Bnd c0 fl Bd w u (pn fl op π o).1 (pn fl op π o).2.1 (pn fl op π o).2.2 := by
  obtain ⟨b1, b2, b3, b4, b5, b6, b7⟩ := h
  have l := pn_len (fl := fl) π o op b7
  exact ⟨by omega, by omega, l.2.2.2.1 b3, b4, by omega, fun y hy => b6 y (l.2.2.2.2.1 y hy), l.2.2.2.2.2⟩
theorem Bnd_rl {c0 fl Bd w u op lv : Nat} {π o π2 o2 : List Nat} (h : Bnd c0 fl Bd w u op π o) (e : rl fl lv π o = (π2, o2)) : Bnd c0 fl Bd w u op π2 o2 ∧ π2.length ≤ π.length ∧ π2.length + o2.length = π.length + o.length := by
  obtain ⟨b1, b2, b3, b4, b5, b6, b7⟩ := h
  have l := rl_len (fl := fl) (lv := lv) π o
  rw [e] at l
  simp only at l
  exact ⟨⟨by omega, by omega, l.2.2.1 b3, b4, b5, fun y hy => b6 y (l.2.2.2.1 y hy), by omega⟩, l.2.1, l.1⟩
section RS
variable {f : Nat → Int32} {n b c0 fl Bd : Nat} {A0 N0 C0 : Nat → Int32} {Kx : KX}
def SU (f : Nat → Int32) (n b c0 fl Bd : Nat) (A0 N0 C0 : Nat → Int32) (Kx : KX) (r : Nat) : Prop := ∀ lev j u π o, Bnd c0 fl Bd 1 u (8 - r) π o → lev ≤ u → (pU (rK f n) (rV f n) r j u = none → WX f n b c0 A0 N0 C0 fl Bd Kx) → (∀ j' u' o', pU (rK f n) (rV f n) r j u = some (j', u', o') → u < u' → Bnd c0 fl Bd 0 u' (pn fl (8 - r) π (o ++ o')).1 (pn fl (8 - r) π (o ++ o')).2.1 (pn fl (8 - r) π (o ++ o')).2.2 → XL f n b c0 A0 N0 C0 fl Kx 0 lev j' u' (pn fl (8 - r) π (o ++ o')).1 (pn fl (8 - r) π (o ++ o')).2.1 (pn fl (8 - r) π (o ++ o')).2.2) → XL f n b c0 A0 N0 C0 fl Kx 1 lev j u (8 - r) π o
def ST (f : Nat → Int32) (n b c0 fl Bd : Nat) (A0 N0 C0 : Nat → Int32) (Kx : KX) (r : Nat) : Prop := ∀ lev j u π o, Bnd c0 fl Bd 1 u (8 - r) π o → lev ≤ u → NN fl π → NL fl 2 π → (pT (rK f n) (rV f n) r j u = none → WX f n b c0 A0 N0 C0 fl Bd Kx) → (∀ j' u' o' π' o2, pT (rK f n) (rV f n) r j u = some (j', u', o') → u < u' → rK f n j' ≠ 42 → rl fl 2 π' o2 = (π, o ++ o') → Bnd c0 fl Bd 0 u' (8 - r) π' o2 → XL f n b c0 A0 N0 C0 fl Kx 0 lev j' u' (8 - r) π' o2) → XL f n b c0 A0 N0 C0 fl Kx 1 lev j u (8 - r) π o
def SE (f : Nat → Int32) (n b c0 fl Bd : Nat) (A0 N0 C0 : Nat → Int32) (Kx : KX) (r : Nat) : Prop := ∀ lev j u π o, Bnd c0 fl Bd 1 u (8 - r) π o → lev ≤ u → NN fl π → NL fl 1 π → (pE (rK f n) (rV f n) r j u = none → WX f n b c0 A0 N0 C0 fl Bd Kx) → (∀ j' u' o' π' o2, pE (rK f n) (rV f n) r j u = some (j', u', o') → u < u' → (rK f n j' ≠ 42 ∧ rK f n j' ≠ 43 ∧ rK f n j' ≠ 45) → rl fl 1 π' o2 = (π, o ++ o') → Bnd c0 fl Bd 0 u' (8 - r) π' o2 → XL f n b c0 A0 N0 C0 fl Kx 0 lev j' u' (8 - r) π' o2) → XL f n b c0 A0 N0 C0 fl Kx 1 lev j u (8 - r) π o
theorem s_T (hn : n ≤ 1200) (hb : b < 3) (hBd : Bd ≤ 790) {r : Nat} (hU : SU f n b c0 fl Bd A0 N0 C0 Kx r) : ST f n b c0 fl Bd A0 N0 C0 Kx r := by
  intro lev j u π o hB hl hNN hN2 hz hk
  have loop : ∀ k j1 u1 acc π' o2, 1200 ≤ u1 + k → u < u1 → rl fl 2 π' o2 = (π, o ++ acc) → Bnd c0 fl Bd 0 u1 (8 - r) π' o2 → (∀ t, lp (rK f n) sT (pU (rK f n) (rV f n) r) k j1 u1 acc = t → pT (rK f n) (rV f n) r j u = t) → XL f n b c0 A0 N0 C0 fl Kx 0 lev j1 u1 (8 - r) π' o2 := by
    intro k
    induction k with
    | zero => intro j1 u1 acc π' o2 h1 _ _ h2 _; have := h2.2.2.2.1; omega
    | succ k ih =>
      intro j1 u1 acc π' o2 h1 hu1 hrl h2 h3
      have hu := h2.2.2.2.1
      by_cases h42 : rK f n j1 = 42
      · refine t_op hn hb hBd h2 (by omega) (Or.inl h42) ?_
        rw [h42, show str 42 = 2 from rfl, hrl]
        obtain ⟨q1, q2, q3⟩ := Bnd_rl h2 hrl
        obtain ⟨b1, b2, b3, b4, b5, b6, b7⟩ := q1
        have hB2 : Bnd c0 fl Bd 1 u1 (8 - r) (42 :: π) (o ++ acc) := ⟨by rw [List.length_cons]; omega, by rw [List.length_cons]; omega, by rw [List.length_cons]; omega, b4, b5, fun x hx => (List.mem_cons.mp hx).elim (fun e => by omega) (fun e => b6 x e), by rw [List.filter_cons_of_neg (by decide)]; exact b7⟩
        refine hU lev (j1 + 1) u1 (42 :: π) (o ++ acc) hB2 (by omega) (fun e => hz (h3 _ (by show (if sT (rK f n j1) then _ else _) = _; rw [h42, if_pos (show sT 42 = true from rfl), e]))) (fun j2 u2 o3 e hu2 hB3 => ?_)
        rw [pn_fix (show NN fl (42 :: π) from fun x π' q _ => by cases q; decide)] at hB3 ⊢
        refine ih j2 u2 (acc ++ o3 ++ [42]) (42 :: π) (o ++ acc ++ o3) (by omega) (by omega) ?_ hB3 (fun t q => h3 t ?_)
        · have : rl fl 2 (42 :: π) (o ++ acc ++ o3) = rl fl 2 π (o ++ acc ++ o3 ++ [42]) := if_pos ⟨by omega, by decide, by decide⟩
          rw [this, rl_fix hN2]
          simp only [List.append_assoc]
        · show (if sT (rK f n j1) then _ else _) = _
          rw [h42, if_pos (show sT 42 = true from rfl), e]
          exact q
      · exact hk j1 u1 acc π' o2 (h3 _ (by show (if sT (rK f n j1) then _ else _) = _; rw [if_neg (by simp [sT, h42])])) hu1 h42 hrl h2
  refine hU lev j u π o hB hl (fun e => hz (by show sq (rK f n) sT (pU (rK f n) (rV f n) r) j u = _; unfold sq; rw [e])) (fun j1 u1 o1 e hu hB1 => ?_)
  rw [pn_fix hNN] at hB1 ⊢
  refine loop 1200 j1 u1 o1 π (o ++ o1) (by omega) hu (rl_fix hN2) hB1 (fun t q => ?_)
  show sq (rK f n) sT (pU (rK f n) (rV f n) r) j u = _
  unfold sq; rw [e]; exact q
theorem s_E (hn : n ≤ 1200) (hb : b < 3) (hBd : Bd ≤ 790) {r : Nat} (hT : ST f n b c0 fl Bd A0 N0 C0 Kx r) : SE f n b c0 fl Bd A0 N0 C0 Kx r := by
  intro lev j u π o hB hl hNN hN1 hz hk
  have loop : ∀ k j1 u1 acc π' o2, 1200 ≤ u1 + k → u < u1 → rK f n j1 ≠ 42 → rl fl 1 π' o2 = (π, o ++ acc) → Bnd c0 fl Bd 0 u1 (8 - r) π' o2 → (∀ t, lp (rK f n) sE (pT (rK f n) (rV f n) r) k j1 u1 acc = t → pE (rK f n) (rV f n) r j u = t) → XL f n b c0 A0 N0 C0 fl Kx 0 lev j1 u1 (8 - r) π' o2 := by
    intro k
    induction k with
    | zero => intro j1 u1 acc π' o2 h1 _ _ _ h2 _; have := h2.2.2.2.1; omega
    | succ k ih =>
      intro j1 u1 acc π' o2 h1 hu1 h42 hrl h2 h3
      have hu := h2.2.2.2.1
      by_cases hs : rK f n j1 = 43 ∨ rK f n j1 = 45
      · have hst : str (rK f n j1) = 1 := by rcases hs with q | q <;> rw [q] <;> decide
        refine t_op hn hb hBd h2 (by omega) (Or.inr hs) ?_
        rw [hst, hrl]
        obtain ⟨q1, q2, q3⟩ := Bnd_rl h2 hrl
        obtain ⟨b1, b2, b3, b4, b5, b6, b7⟩ := q1
        have hB2 : Bnd c0 fl Bd 1 u1 (8 - r) (rK f n j1 :: π) (o ++ acc) := ⟨by rw [List.length_cons]; omega, by rw [List.length_cons]; omega, by rw [List.length_cons]; omega, b4, b5, fun x hx => (List.mem_cons.mp hx).elim (fun e => by omega) (fun e => b6 x e), by rw [List.filter_cons_of_neg (by simp; omega)]; exact b7⟩
        refine hT lev (j1 + 1) u1 (rK f n j1 :: π) (o ++ acc) hB2 (by omega) (fun x π' q _ => by cases q; omega) (fun x π' q _ => by cases q; exact Or.inr (by omega)) (fun e => hz (h3 _ (by show (if sE (rK f n j1) then _ else _) = _; rw [if_pos (show sE (rK f n j1) = true by rcases hs with q | q <;> rw [q] <;> rfl), e]))) (fun j2 u2 o3 π'' o4 e hu2 h422 hrl2 hB3 => ?_)
        refine ih j2 u2 (acc ++ o3 ++ [rK f n j1]) π'' o4 (by omega) (by omega) h422 ?_ hB3 (fun t q => h3 t ?_)
        · have e1 := rl_rl (fl := fl) (show 1 ≤ 2 by decide) π'' o4
          rw [hrl2] at e1
          rw [← e1]
          have : rl fl 1 (rK f n j1 :: π) (o ++ acc ++ o3) = rl fl 1 π (o ++ acc ++ o3 ++ [rK f n j1]) := if_pos ⟨by omega, by omega, by omega⟩
          rw [this, rl_fix hN1]
          simp only [List.append_assoc]
        · show (if sE (rK f n j1) then _ else _) = _
          rw [if_pos (show sE (rK f n j1) = true by rcases hs with q | q <;> rw [q] <;> rfl), e]
          exact q
      · exact hk j1 u1 acc π' o2 (h3 _ (by show (if sE (rK f n j1) then _ else _) = _; rw [if_neg (by simp [sE]; omega)])) hu1 ⟨h42, fun q => hs (Or.inl q), fun q => hs (Or.inr q)⟩ hrl h2
  refine hT lev j u π o hB hl hNN (NL_up hN1 (by decide)) (fun e => hz (by show sq (rK f n) sE (pT (rK f n) (rV f n) r) j u = _; unfold sq; rw [e])) (fun j1 u1 o1 π' o2 e hu h42 hrl hB1 => ?_)
  refine loop 1200 j1 u1 o1 π' o2 (by omega) hu h42 ?_ hB1 (fun t q => ?_)
  · have e1 := rl_rl (fl := fl) (show 1 ≤ 2 by decide) π' o2
    rw [hrl] at e1
    rw [← e1]; exact rl_fix hN1
  · show sq (rK f n) sE (pT (rK f n) (rV f n) r) j u = _
    unfold sq; rw [e]; exact q
theorem s_U1 (hn : n ≤ 1200) (hb : b < 3) (hBd : Bd ≤ 790) {r : Nat} (hr : r ≤ 8) (hi : 0 < r → SU f n b c0 fl Bd A0 N0 C0 Kx (r - 1)) : SU f n b c0 fl Bd A0 N0 C0 Kx r := by
  intro lev j u π o hB hl hz hk
  have hB0 := hB
  obtain ⟨b1, b2, b3, b4, b5, b6, b7⟩ := hB
  by_cases hu : u = 100
  · refine t_bad hn (hz ?_) hB0 (by omega) (Or.inl hu)
    cases r with
    | zero => show pU1 _ _ _ _ j u = none; unfold pU1; rw [if_pos (by omega)]
    | succ r => show pU1 _ _ _ _ j u = none; unfold pU1; rw [if_pos (by omega)]
  have pU_eq : ∀ t, (if rK f n j = 45 then (match (if r = 0 then (fun _ _ => none) else pU (rK f n) (rV f n) (r - 1)) (j + 1) (u + 1) with | none => none | some (i', u', o) => some (i', u', o ++ [300])) else if rK f n j = 40 then (match (if r = 0 then (fun _ _ => none) else pE (rK f n) (rV f n) (r - 1)) (j + 1) (u + 1) with | none => none | some (i', u', o) => if rK f n i' = 41 then some (i' + 1, u', o) else none) else if rK f n j = 259 then some (j + 1, u + 1, [16 + rV f n j]) else if rK f n j = 258 then some (j + 1, u + 1, [rV f n j]) else none) = t → pU (rK f n) (rV f n) r j u = t := by
    intro t h
    cases r with
    | zero => show pU1 _ _ _ _ j u = t; unfold pU1; rw [if_neg (by omega)]; exact h
    | succ r => show pU1 _ _ _ _ j u = t; unfold pU1; rw [if_neg (by omega)]; exact h
  by_cases h45 : rK f n j = 45
  · by_cases h0 : r = 0
    · exact t_bad hn (hz (pU_eq _ (by rw [if_pos h45, if_pos h0]))) hB0 (by omega) (Or.inr (Or.inl ⟨by omega, Or.inl h45⟩))
    · refine t_open hn hB0 (by omega) (by omega) (fun _ => ?_) (fun q => absurd (h45.symm.trans q) (by decide)) (Or.inl h45)
      have e8 : 8 - r + 1 = 8 - (r - 1) := by omega
      have hB2 : Bnd c0 fl Bd 1 (u + 1) (8 - (r - 1)) (1000 :: π) o := ⟨by rw [List.length_cons]; omega, by rw [List.length_cons]; omega, by rw [List.length_cons]; omega, by omega, by omega, fun x hx => (List.mem_cons.mp hx).elim (fun e => by omega) (fun e => b6 x e), by rw [List.filter_cons_of_pos (by decide), List.length_cons]; omega⟩
      rw [e8]
      refine hi (by omega) lev (j + 1) (u + 1) (1000 :: π) o hB2 (by omega) (fun e => hz (pU_eq _ (by rw [if_pos h45, if_neg h0, e]))) (fun j' u' o' e hu' hB3 => ?_)
      have e1 : pn fl (8 - (r - 1)) (1000 :: π) (o ++ o') = pn fl (8 - r) π (o ++ (o' ++ [300])) := by
        have : pn fl (8 - (r - 1)) (1000 :: π) (o ++ o') = pn fl (8 - (r - 1) - 1) π (o ++ o' ++ [300]) := if_pos ⟨by omega, rfl⟩
        rw [this, show 8 - (r - 1) - 1 = 8 - r by omega, List.append_assoc]
      rw [e1] at hB3 ⊢
      exact hk j' u' (o' ++ [300]) (pU_eq _ (by rw [if_pos h45, if_neg h0, e])) (by omega) hB3
  by_cases h40 : rK f n j = 40
  · by_cases h0 : r = 0
    · exact t_bad hn (hz (pU_eq _ (by rw [if_neg h45, if_pos h40, if_pos h0]))) hB0 (by omega) (Or.inr (Or.inl ⟨by omega, Or.inr h40⟩))
    · refine t_open hn hB0 (by omega) (by omega) (fun q => absurd q h45) (fun _ => ?_) (Or.inr h40)
      have e8 : 8 - r + 1 = 8 - (r - 1) := by omega
      have hB2 : Bnd c0 fl Bd 1 (u + 1) (8 - (r - 1)) (40 :: π) o := ⟨by rw [List.length_cons]; omega, by rw [List.length_cons]; omega, by rw [List.length_cons]; omega, by omega, by omega, fun x hx => (List.mem_cons.mp hx).elim (fun e => by omega) (fun e => b6 x e), by rw [List.filter_cons_of_neg (by decide)]; omega⟩
      have hE := s_E hn hb hBd (s_T hn hb hBd (hi (by omega)))
      rw [e8]
      refine hE (lev + 1) (j + 1) (u + 1) (40 :: π) o hB2 (by omega) (fun x π' q _ => by cases q; decide) (fun x π' q _ => by cases q; exact Or.inl rfl) (fun e => hz (pU_eq _ (by rw [if_neg h45, if_pos h40, if_neg h0, e]))) (fun j' u' o' π' o2 e hu' hno hrl hB3 => ?_)
      have hu100 := hB3.2.2.2.1
      by_cases h41 : rK f n j' = 41
      · obtain ⟨⟨a1, a2, a3, a4, a5, a6, a7⟩, q2, q3⟩ := Bnd_rl hB3 hrl
        rw [List.length_cons] at q2 q3 a1 a2 a3
        have hB4 : Bnd c0 fl Bd 0 u' (8 - r) π (o ++ o') := by
          have c1 := hB3.1
          have c2 := hB3.2.1
          exact ⟨by omega, by omega, b3, a4, by omega, b6, b7⟩
        have hop : 8 - (r - 1) - 1 = 8 - r := by omega
        refine t_close hn hb hBd hB3 (by omega) h41 (by omega) (by omega) hrl (by rw [hop]; exact b7) ?_
        rw [hop, Nat.add_sub_cancel]
        exact hk (j' + 1) u' o' (pU_eq _ (by rw [if_neg h45, if_pos h40, if_neg h0, e]; simp only [h41, if_true])) (by omega) (Bnd_pn hB4)
      · exact t_end (by omega) hno (fun q => h41 q.1) (fun a t p nu sg fp pile hr hP => hz (pU_eq _ (by rw [if_neg h45, if_pos h40, if_neg h0, e]; simp only [h41, if_false])) (lev + 1) j' u' (8 - (r - 1)) π' o2 a t p nu sg fp pile 0 hr hP (Bnd_1 hB3) (by omega) (Or.inr ⟨rfl, by omega⟩))
  have leaf : ∀ x, ((rK f n j = 259 ∧ x = 16 + rV f n j) ∨ (rK f n j = 258 ∧ x = rV f n j)) → pU (rK f n) (rV f n) r j u = some (j + 1, u + 1, [x]) → XL f n b c0 A0 N0 C0 fl Kx 1 lev j u (8 - r) π o := by
    intro x hx hp
    refine t_leaf hn hb hBd hB0 (by omega) hx (hk (j + 1) (u + 1) [x] hp (by omega) (Bnd_pn ⟨?_, ?_, b3, by omega, b5, b6, b7⟩))
    · omega
    · rw [List.length_append, List.length_cons, List.length_nil]; omega
  by_cases h259 : rK f n j = 259
  · exact leaf (16 + rV f n j) (Or.inl ⟨h259, rfl⟩) (pU_eq _ (by rw [if_neg h45, if_neg h40, if_pos h259]))
  by_cases h258 : rK f n j = 258
  · exact leaf (rV f n j) (Or.inr ⟨h258, rfl⟩) (pU_eq _ (by rw [if_neg h45, if_neg h40, if_neg h259, if_pos h258]))
  exact t_bad hn (hz (pU_eq _ (by rw [if_neg h45, if_neg h40, if_neg h259, if_neg h258]))) hB0 (by omega) (Or.inr (Or.inr ⟨h45, h40, h259, h258⟩))
theorem s_U (hn : n ≤ 1200) (hb : b < 3) (hBd : Bd ≤ 790) : ∀ r, r ≤ 8 → SU f n b c0 fl Bd A0 N0 C0 Kx r
  | 0, hr => s_U1 hn hb hBd hr (fun q => absurd q (by decide))
  | r + 1, hr => s_U1 hn hb hBd hr (fun _ => s_U hn hb hBd r (by omega))
end RS
