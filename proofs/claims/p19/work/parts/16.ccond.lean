/-! the class's parser of conds -/
theorem sq_none {K : Nat → Nat} {S : Nat → Bool} {X : Nat → Nat → PR} {i u : Nat} (h : X i u = none) : sq K S X i u = none := by unfold sq; rw [h]
theorem pE_start {K V : Nat → Nat} {r i u : Nat} {t : Nat × Nat × List Nat} (h : pE K V r i u = some t) : K i = 45 ∨ K i = 40 ∨ K i = 259 ∨ K i = 258 := by
  by_cases h1 : K i = 45
  · exact Or.inl h1
  by_cases h2 : K i = 40
  · exact Or.inr (Or.inl h2)
  by_cases h3 : K i = 259
  · exact Or.inr (Or.inr (Or.inl h3))
  by_cases h4 : K i = 258
  · exact Or.inr (Or.inr (Or.inr h4))
  have hn : pU K V r i u = none := by
    cases r with
    | zero => show pU1 K V _ _ i u = none; unfold pU1; rw [if_neg h1, if_neg h2, if_neg h3, if_neg h4]; split <;> rfl
    | succ r => show pU1 K V _ _ i u = none; unfold pU1; rw [if_neg h1, if_neg h2, if_neg h3, if_neg h4]; split <;> rfl
  have : pE K V r i u = none := sq_none (sq_none hn)
  rw [this] at h; cases h
section CC
variable {K V : Nat → Nat} {m : Nat} {ks vs : Nat → Int32}
theorem cf_conj_L {G : Nat → PW} {x1 x2 u : Int32} {sec sz i n : Nat} {st ud : Nat → Int32} {K4 : CP} (hs : sz ≤ 1200) (hi : i ≤ 1201) (hw : WKp K4) : wp_Pars_readConj_L7 G x1 (nI (m + 1)) ks vs (nI sec) K4 (n + 1) x2 (nI sz) st ud (nI i) 1 u :=
  br_c (fun _ => hw _ _ _ _ _ hs hi) (fun _ => q_takes_f (br_t rfl (hw _ _ _ _ _ hs hi)))
theorem cg_conj_L {G : Nat → PW} {r : Nat} {X : Nat → Nat → PR} (T : TI K V m ks vs) (hG : CG m ks vs (G 2) r X) (hX : Gd K m X) {sec sz : Nat} (hsec : sec < 39) {st ud : Nat → Int32} {K4 : CP} : ∀ k c, c + k = 1200 → ∀ o i u, i ≤ m → u ≤ 100 → sz + o.length ≤ i → (lp K sA X k i u o = none → WKp K4) → (∀ i' u' o', lp K sA X k i u o = some (i', u', o') → K4 (nI (sz + o'.length)) (wr o' st sz) (us o' ud sec) (nI i') 0 (nI u')) → wp_Pars_readConj_L7 G (nI (8 - r)) (nI (m + 1)) ks vs (nI sec) K4 (k + 1) (nI c) (nI (sz + o.length)) (wr o st sz) (us o ud sec) (nI i) 0 (nI u) := by
  intro k
  induction k with
  | zero =>
    intro c hc o i u hi hu hs hw h
    exact br_t (show nI 1200 ≤ nI c from nI_le (by omega) (by omega)) (h i u o rfl)
  | succ k ih =>
    intro c hc o i u hi hu hs hw h
    have hm := T.1
    refine br_f (show ¬ nI 1200 ≤ nI c from nI_ge (by omega) (by decide)) (q_takes T 267 rfl (by decide) (by omega) (fun a => ?_) (fun a => ?_))
    · refine br_f (by decide) ?_
      have hi1 := in_m T.2.1 a (by decide)
      refine hG sec (sz + o.length) _ _ (i + 1) u _ hsec (by omega) hi1 hu ?_ ?_
      · intro hn sz' st' ud' i' u' hs' hi'
        exact q_addW hs' (fun sz2 st2 h2 => cf_conj_L h2 hi' (hw (by
          show (if sA (K i) then _ else _) = _
          rw [a, if_pos (show sA 267 = true from rfl), hn])))
      · intro i' u' o' hx
        have g := hX _ _ _ _ _ hx
        have hi' := g.2.2.2.2 hi1
        refine q_add (by omega) ?_
        rw [nI_1]
        have e := ih (c + 1) (by omega) (o ++ o' ++ [267]) i' u' hi' g.2.2.1 (by simp only [List.length_append, List.length_cons, List.length_nil]; omega) (fun h2 => hw (by
          show (if sA (K i) then _ else _) = _
          rw [a, if_pos (show sA 267 = true from rfl), hx]; exact h2)) (fun i2 u2 o2 h2 => h i2 u2 o2 (by
          show (if sA (K i) then _ else _) = _
          rw [a, if_pos (show sA 267 = true from rfl), hx]; exact h2))
        rw [wr_app, wr_app, us_app, us_app] at e
        simp only [List.length_append, List.length_cons, List.length_nil] at e
        rw [show us [267] (us o' (us o ud sec) sec) sec = us o' (us o ud sec) sec from rfl, show sz + (o.length + o'.length + (0 + 1)) = sz + o.length + o'.length + 1 by omega, show sz + (o.length + o'.length) = sz + o.length + o'.length by omega] at e
        exact e
    · refine br_t rfl (h i u o ?_)
      show (if sA (K i) then _ else _) = _
      rw [if_neg (by simp [sA, a])]
theorem cf_cond_L {G : Nat → PW} {x1 x2 u : Int32} {sec sz i n : Nat} {st ud : Nat → Int32} {K4 : CP} (hs : sz ≤ 1200) (hi : i ≤ 1201) (hw : WKp K4) : wp_Pars_readCond_L7 G x1 (nI (m + 1)) ks vs (nI sec) K4 (n + 1) x2 (nI sz) st ud (nI i) 1 u :=
  br_c (fun _ => hw _ _ _ _ _ hs hi) (fun _ => q_takes_f (br_t rfl (hw _ _ _ _ _ hs hi)))
theorem cg_cond_L {G : Nat → PW} {r : Nat} {X : Nat → Nat → PR} (T : TI K V m ks vs) (hG : CG m ks vs (G 1) r X) (hX : Gd K m X) {sec sz : Nat} (hsec : sec < 39) {st ud : Nat → Int32} {K4 : CP} : ∀ k c, c + k = 1200 → ∀ o i u, i ≤ m → u ≤ 100 → sz + o.length ≤ i → (lp K sO X k i u o = none → WKp K4) → (∀ i' u' o', lp K sO X k i u o = some (i', u', o') → K4 (nI (sz + o'.length)) (wr o' st sz) (us o' ud sec) (nI i') 0 (nI u')) → wp_Pars_readCond_L7 G (nI (8 - r)) (nI (m + 1)) ks vs (nI sec) K4 (k + 1) (nI c) (nI (sz + o.length)) (wr o st sz) (us o ud sec) (nI i) 0 (nI u) := by
  intro k
  induction k with
  | zero =>
    intro c hc o i u hi hu hs hw h
    exact br_t (show nI 1200 ≤ nI c from nI_le (by omega) (by omega)) (h i u o rfl)
  | succ k ih =>
    intro c hc o i u hi hu hs hw h
    have hm := T.1
    refine br_f (show ¬ nI 1200 ≤ nI c from nI_ge (by omega) (by decide)) (q_takes T 266 rfl (by decide) (by omega) (fun a => ?_) (fun a => ?_))
    · refine br_f (by decide) ?_
      have hi1 := in_m T.2.1 a (by decide)
      refine hG sec (sz + o.length) _ _ (i + 1) u _ hsec (by omega) hi1 hu ?_ ?_
      · intro hn sz' st' ud' i' u' hs' hi'
        exact q_addW hs' (fun sz2 st2 h2 => cf_cond_L h2 hi' (hw (by
          show (if sO (K i) then _ else _) = _
          rw [a, if_pos (show sO 266 = true from rfl), hn])))
      · intro i' u' o' hx
        have g := hX _ _ _ _ _ hx
        have hi' := g.2.2.2.2 hi1
        refine q_add (by omega) ?_
        rw [nI_1]
        have e := ih (c + 1) (by omega) (o ++ o' ++ [266]) i' u' hi' g.2.2.1 (by simp only [List.length_append, List.length_cons, List.length_nil]; omega) (fun h2 => hw (by
          show (if sO (K i) then _ else _) = _
          rw [a, if_pos (show sO 266 = true from rfl), hx]; exact h2)) (fun i2 u2 o2 h2 => h i2 u2 o2 (by
          show (if sO (K i) then _ else _) = _
          rw [a, if_pos (show sO 266 = true from rfl), hx]; exact h2))
        rw [wr_app, wr_app, us_app, us_app] at e
        simp only [List.length_append, List.length_cons, List.length_nil] at e
        rw [show us [266] (us o' (us o ud sec) sec) sec = us o' (us o ud sec) sec from rfl, show sz + (o.length + o'.length + (0 + 1)) = sz + o.length + o'.length + 1 by omega, show sz + (o.length + o'.length) = sz + o.length + o'.length by omega] at e
        exact e
    · refine br_t rfl (h i u o ?_)
      show (if sO (K i) then _ else _) = _
      rw [if_neg (by simp [sO, a])]
theorem cf_prim {G : Nat → PW} (T : TI K V m ks vs) : CF m ks vs (wp_Pars_readPrim_ G) := by
  intro x1 sec sz st ud i u post hsec hs hi hw
  have hE := (pe_f T 25).2.2
  refine q_opens_f (br_t rfl (q_opens_f (br_t rfl (hE x1 sec sz st ud i u _ hsec hs hi ?_))))
  intro sz' st' ud' i' u' hs' hi'
  refine q_kind T (by omega) (q_takes_f (bn_t rfl (q_takes_f (bn_t rfl (q_expect_f (hE x1 sec sz' st' ud' i' u' _ hsec hs' hi' ?_))))))
  intro sz2 st2 ud2 i2 u2 hs2 hi2
  exact q_addW hs2 (fun sz3 st3 h3 => hw _ _ _ _ _ h3 hi2)
theorem cg_prim {G : Nat → PW} {r : Nat} {P C : Nat → Nat → PR} (T : TI K V m ks vs) (hr : r ≤ 8) (h1 : 0 < r → CG m ks vs (G 2) (r - 1) P ∧ CG m ks vs (G 0) (r - 1) C) (h2 : r = 0 → (∀ i u, P i u = none) ∧ (∀ i u, C i u = none)) (hP : Gd K m P) (hC : Gd K m C) : CG m ks vs (wp_Pars_readPrim_ G) r (pP1 K P C (pE K V r)) := by
  intro sec sz st ud i u post hsec hs hi hu hw h
  have hm := T.1
  have hE := (pe_g T r hr 25 (by omega)).2.2
  have hF := (pe_f T 25).2.2
  have gE := pE_gd (V := V) T.2.1 r
  refine q_opens T 268 rfl (by decide) (by omega) (by omega) (fun b c => ?_) (fun b => ?_)
  · refine br_f (by decide) ?_
    have hi1 := in_m T.2.1 c (by decide)
    rw [nI_1, show 8 - r + 1 = 8 - (r - 1) by omega]
    refine (h1 (by omega)).1 sec sz _ _ (i + 1) u _ hsec (by omega) hi1 hu ?_ ?_
    · intro hn sz' st' ud' i' u' hs' hi'
      exact q_addW hs' (fun sz2 st2 h2 => hw (by unfold pP1; rw [if_pos c, hn]) _ _ _ _ _ h2 hi')
    · intro i' u' o hx
      have g := hP _ _ _ _ _ hx
      have hi' := g.2.2.2.2 hi1
      refine q_add (by omega) ?_
      have e := h i' u' (o ++ [268]) (by unfold pP1; rw [if_pos c, hx])
      rw [wr_app, us_app] at e
      simp only [List.length_append, List.length_cons, List.length_nil] at e
      rw [show sz + (o.length + (0 + 1)) = sz + o.length + 1 by omega] at e
      exact e
  · refine br_t rfl (q_opens T 91 rfl (by decide) (by omega) (by omega) (fun d c => ?_) (fun d => ?_))
    · refine br_f (by decide) ?_
      have hi1 := in_m T.2.1 c (by decide)
      rw [nI_1, show 8 - r + 1 = 8 - (r - 1) by omega]
      refine (h1 (by omega)).2 sec sz _ _ (i + 1) u _ hsec (by omega) hi1 hu ?_ ?_
      · intro hn sz' st' ud' i' u' hs' hi'
        exact q_expect_f (hw (by unfold pP1; rw [if_neg (by rw [c]; decide), if_pos c, hn]) _ _ _ _ _ hs' hi')
      · intro i' u' o hx
        have g := hC _ _ _ _ _ hx
        have hi' := g.2.2.2.2 hi1
        refine q_expect T 93 rfl (by decide) (by omega) (fun q => ?_) (fun q => ?_)
        · exact h (i' + 1) u' o (by unfold pP1; rw [if_neg (by rw [c]; decide), if_pos c, hx]; simp only [q, if_true])
        · exact hw (by unfold pP1; rw [if_neg (by rw [c]; decide), if_pos c, hx]; simp only [q, if_false]) _ _ _ _ _ (by omega) (by omega)
    · refine br_t rfl (hE sec sz st ud i u _ hsec hs hi hu ?_ ?_)
      · intro hn sz' st' ud' i' u' hs' hi'
        have hnn : pP1 K P C (pE K V r) i u = none := by
          unfold pP1
          by_cases q1 : K i = 268
          · rw [if_pos q1]
            rcases b with b | b
            · rw [(h2 (by omega)).1]
            · exact absurd q1 b
          · rw [if_neg q1]
            by_cases q2 : K i = 91
            · rw [if_pos q2]
              rcases d with d | d
              · rw [(h2 (by omega)).2]
              · exact absurd q2 d
            · rw [if_neg q2, hn]
        refine q_kind T (by omega) (q_takes_f (bn_t rfl (q_takes_f (bn_t rfl (q_expect_f (hF _ sec sz' st' ud' i' u' _ hsec hs' hi' ?_))))))
        intro sz2 st2 ud2 i2 u2 hs2 hi2
        exact q_addW hs2 (fun sz3 st3 h3 => hw hnn _ _ _ _ _ h3 hi2)
      · intro i1 u1 o1 hx
        have hst := pE_start hx
        have g := gE _ _ _ _ _ hx
        have hi1 := g.2.2.2.2 hi
        have e0 : ∀ t, (if rel (K i1) then (match pE K V r (i1 + 1) u1 with | none => none | some (i2, u2, o2) => some (i2, u2, o1 ++ o2 ++ [K i1])) else none) = t → pP1 K P C (pE K V r) i u = t := fun t q => by
          unfold pP1; rw [if_neg (by omega), if_neg (by omega), hx]; exact q
        have second : ∀ z, K i1 = z → rel z = true → (z = 60 ∨ z = 35 ∨ z = 61) → wp_PE 28 0 (nI (8 - r)) (nI (m + 1)) ks vs (nI (sz + o1.length)) (nI sec) (wr o1 st sz) (us o1 ud sec) (nI (i1 + 1)) 0 (nI u1) (fun cd_size_14 cd_steps_15 cd_used_16 ps_current_17 ps_faulty_18 ps_unaries_19 => wp_Code_add (nI (K i1)) cd_size_14 cd_steps_15 (fun cd_size_20 cd_steps_21 => post cd_size_20 cd_steps_21 cd_used_16 ps_current_17 ps_faulty_18 ps_unaries_19)) := by
          intro z hz hrel hz3
          have hi2 := in_m T.2.1 hz (by omega)
          refine hE sec (sz + o1.length) _ _ (i1 + 1) u1 _ hsec (by omega) hi2 (by omega) ?_ ?_
          · intro hn sz2 st2 ud2 i2 u2 hs2 hi2
            exact q_addW hs2 (fun sz3 st3 h3 => hw (e0 _ (by rw [hz, if_pos hrel, hn])) _ _ _ _ _ h3 hi2)
          · intro i2 u2 o2 hy
            have g2 := gE _ _ _ _ _ hy
            have hi3 := g2.2.2.2.2 hi2
            refine q_add (by omega) ?_
            have e := h i2 u2 (o1 ++ o2 ++ [K i1]) (e0 _ (by rw [hz, if_pos hrel, hy]))
            rw [wr_app, wr_app, us_app, us_app] at e
            simp only [List.length_append, List.length_cons, List.length_nil] at e
            rw [show us [K i1] (us o2 (us o1 ud sec) sec) sec = us o2 (us o1 ud sec) sec from us1_no (by omega) _ _, show sz + (o1.length + o2.length + (0 + 1)) = sz + o1.length + o2.length + 1 by omega, show sz + (o1.length + o2.length) = sz + o1.length + o2.length by omega] at e
            exact e
        refine q_kind T (by omega) (q_takes T 60 rfl (by decide) (by omega) (fun a => ?_) (fun a => ?_))
        · exact bn_f (by decide) (second 60 a rfl (Or.inl rfl))
        · refine bn_t rfl (q_takes T 35 rfl (by decide) (by omega) (fun b2 => ?_) (fun b2 => ?_))
          · exact bn_f (by decide) (second 35 b2 rfl (Or.inr (Or.inl rfl)))
          · refine bn_t rfl (q_expect T 61 rfl (by decide) (by omega) (fun c2 => ?_) (fun c2 => ?_))
            · exact second 61 c2 rfl (Or.inr (Or.inr rfl))
            · refine hF _ sec (sz + o1.length) _ _ i1 _ _ hsec (by omega) (by omega) ?_
              intro sz2 st2 ud2 i2 u2 hs2 hi2
              exact q_addW hs2 (fun sz3 st3 h3 => hw (e0 _ (if_neg (by simp [rel, a, b2, c2]))) _ _ _ _ _ h3 hi2)
theorem cf_conj {G : Nat → PW} (hF : CF m ks vs (G 2)) : CF m ks vs (wp_Pars_readConj_ G) := by
  intro x1 sec sz st ud i u post hsec hs hi hw
  exact hF x1 sec sz st ud i u _ hsec hs hi (fun sz' st' ud' i' u' hs' hi' => ⟨1, cf_conj_L hs' hi' hw⟩)
theorem cf_cond {G : Nat → PW} (hF : CF m ks vs (G 1)) : CF m ks vs (wp_Pars_readCond_ G) := by
  intro x1 sec sz st ud i u post hsec hs hi hw
  exact hF x1 sec sz st ud i u _ hsec hs hi (fun sz' st' ud' i' u' hs' hi' => ⟨1, cf_cond_L hs' hi' hw⟩)
theorem cg_conj {G : Nat → PW} {r : Nat} {X : Nat → Nat → PR} (T : TI K V m ks vs) (hG : CG m ks vs (G 2) r X) (hX : Gd K m X) : CG m ks vs (wp_Pars_readConj_ G) r (sq K sA X) := by
  intro sec sz st ud i u post hsec hs hi hu hw h
  refine hG sec sz st ud i u _ hsec hs hi hu (fun hn sz' st' ud' i' u' hs' hi' => ⟨1, cf_conj_L hs' hi' (hw (by unfold sq; rw [hn]))⟩) (fun i' u' o hx => ⟨1201, ?_⟩)
  have g := hX _ _ _ _ _ hx
  exact cg_conj_L T hG hX hsec 1200 0 rfl o i' u' (g.2.2.2.2 hi) g.2.2.1 (by omega) (fun h2 => hw (by unfold sq; rw [hx]; exact h2)) (fun i2 u2 o2 h2 => h i2 u2 o2 (by unfold sq; rw [hx]; exact h2))
theorem cg_cond {G : Nat → PW} {r : Nat} {X : Nat → Nat → PR} (T : TI K V m ks vs) (hG : CG m ks vs (G 1) r X) (hX : Gd K m X) : CG m ks vs (wp_Pars_readCond_ G) r (sq K sO X) := by
  intro sec sz st ud i u post hsec hs hi hu hw h
  refine hG sec sz st ud i u _ hsec hs hi hu (fun hn sz' st' ud' i' u' hs' hi' => ⟨1, cf_cond_L hs' hi' (hw (by unfold sq; rw [hn]))⟩) (fun i' u' o hx => ⟨1201, ?_⟩)
  have g := hX _ _ _ _ _ hx
  exact cg_cond_L T hG hX hsec 1200 0 rfl o i' u' (g.2.2.2.2 hi) g.2.2.1 (by omega) (fun h2 => hw (by unfold sq; rw [hx]; exact h2)) (fun i2 u2 o2 h2 => h i2 u2 o2 (by unfold sq; rw [hx]; exact h2))
theorem pc_f (T : TI K V m ks vs) : ∀ d, CF m ks vs (wp_PC (d + 1) 2) ∧ CF m ks vs (wp_PC (d + 2) 1) ∧ CF m ks vs (wp_PC (d + 3) 0) := fun d =>
  ⟨cf_prim (G := wp_PC d) T, cf_conj (G := wp_PC (d + 1)) (cf_prim (G := wp_PC d) T), cf_cond (G := wp_PC (d + 2)) (cf_conj (G := wp_PC (d + 1)) (cf_prim (G := wp_PC d) T))⟩
theorem pc_g (T : TI K V m ks vs) : ∀ r, r ≤ 8 → ∀ d, 3 * r ≤ d → CG m ks vs (wp_PC (d + 1) 2) r (pP K V r) ∧ CG m ks vs (wp_PC (d + 2) 1) r (pJ K V r) ∧ CG m ks vs (wp_PC (d + 3) 0) r (pC K V r) := by
  have up : ∀ r d, CG m ks vs (wp_PC (d + 1) 2) r (pP K V r) → CG m ks vs (wp_PC (d + 1) 2) r (pP K V r) ∧ CG m ks vs (wp_PC (d + 2) 1) r (pJ K V r) ∧ CG m ks vs (wp_PC (d + 3) 0) r (pC K V r) := fun r d h =>
    ⟨h, cg_conj (G := wp_PC (d + 1)) T h (pP_gd T.2.1 r), cg_cond (G := wp_PC (d + 2)) T (cg_conj (G := wp_PC (d + 1)) T h (pP_gd T.2.1 r)) (pJ_gd T.2.1 r)⟩
  intro r
  induction r with
  | zero =>
    intro hr d hd
    exact up 0 d (cg_prim (G := wp_PC d) T hr (fun q => absurd q (by decide)) (fun _ => ⟨fun _ _ => rfl, fun _ _ => rfl⟩) none_gd none_gd)
  | succ r ih =>
    intro hr d hd
    obtain ⟨e, rfl⟩ : ∃ e, d = e + 3 := ⟨d - 3, by omega⟩
    have h1 := (ih (by omega) (e + 2) (by omega)).1
    have h3 := (ih (by omega) e (by omega)).2.2
    exact up (r + 1) (e + 3) (cg_prim (G := wp_PC (e + 3)) T hr (fun _ => ⟨h1, h3⟩) (fun q => absurd q (by omega)) (pP_gd T.2.1 r) (pC_gd T.2.1 r))
end CC
