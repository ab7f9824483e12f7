/-! the class's parser of exps -/
abbrev CP := Int32 → (Nat → Int32) → (Nat → Int32) → Int32 → Int32 → Int32 → Prop
abbrev PW := Int32 → Int32 → (Nat → Int32) → (Nat → Int32) → Int32 → Int32 → (Nat → Int32) → (Nat → Int32) → Int32 → Int32 → Int32 → CP → Prop
def wr : List Nat → (Nat → Int32) → Nat → (Nat → Int32)
  | [], f, _ => f
  | x :: l, f, a => wr l (upd f a (nI x)) (a + 1)
theorem wr_app : ∀ (l1 l2 : List Nat) (f : Nat → Int32) (a : Nat), wr (l1 ++ l2) f a = wr l2 (wr l1 f a) (a + l1.length)
  | [], l2, f, a => rfl
  | x :: l1, l2, f, a => by
    show wr (l1 ++ l2) (upd f a (nI x)) (a + 1) = _
    rw [wr_app l1 l2, List.length_cons, show a + 1 + l1.length = a + (l1.length + 1) by omega]; rfl
def us1 (x : Nat) (f : Nat → Int32) (s : Nat) : Nat → Int32 := if 16 ≤ x ∧ x < 19 then upd f s (f s ||| (15 <<< ((4 * nI (x - 16)) &&& 31))) else f
def us : List Nat → (Nat → Int32) → Nat → (Nat → Int32)
  | [], f, _ => f
  | x :: l, f, s => us l (us1 x f s) s
theorem us_app : ∀ (l1 l2 : List Nat) (f : Nat → Int32) (s : Nat), us (l1 ++ l2) f s = us l2 (us l1 f s) s
  | [], l2, f, s => rfl
  | x :: l1, l2, f, s => us_app l1 l2 (us1 x f s) s
theorem us1_no {x : Nat} (h : ¬ (16 ≤ x ∧ x < 19)) (f : Nat → Int32) (s : Nat) : us1 x f s = f := if_neg h
/-- what the class's rows say of the tokens -/
def TI (K V : Nat → Nat) (m : Nat) (ks vs : Nat → Int32) : Prop := m ≤ 1200 ∧ (∀ j, m ≤ j → K j = 256) ∧ (∀ j, K j < 1000) ∧ (∀ j, K j = 258 → V j < 16) ∧ (∀ j, K j = 259 → V j < 3) ∧ (∀ j, j ≤ m → ks j = nI (K j) ∧ vs j = nI (V j)) ∧ (∀ j, m ≤ j → V j = 0) ∧ (∀ j, V j < 1000)
def WKp (post : CP) : Prop := ∀ sz st ud i u, sz ≤ 1200 → i ≤ 1201 → post (nI sz) st ud (nI i) 1 u
def CF (m : Nat) (ks vs : Nat → Int32) (W : PW) : Prop := ∀ x1 sec sz st ud i u post, sec < 39 → sz ≤ 1200 → i ≤ 1201 → WKp post → W x1 (nI (m + 1)) ks vs (nI sz) (nI sec) st ud (nI i) 1 u post
def CG (m : Nat) (ks vs : Nat → Int32) (W : PW) (r : Nat) (X : Nat → Nat → PR) : Prop := ∀ sec sz st ud i u post, sec < 39 → sz ≤ i → i ≤ m → u ≤ 100 → (X i u = none → WKp post) → (∀ i' u' o, X i u = some (i', u', o) → post (nI (sz + o.length)) (wr o st sz) (us o ud sec) (nI i') 0 (nI u')) → W (nI (8 - r)) (nI (m + 1)) ks vs (nI sz) (nI sec) st ud (nI i) 0 (nI u) post
theorem q_kind {K V : Nat → Nat} {m j : Nat} {ks vs : Nat → Int32} (T : TI K V m ks vs) (hj : j < 2 ^ 31) {post : Int32 → Prop} (h : post (nI (K j))) : wp_Tok_kindAt (nI j) (nI (m + 1)) ks post := by
  obtain ⟨hm, he, _, _, _, ha, _⟩ := T
  refine br_f (nI_pos hj) (pk_le (m + 1) j (fun a => ?_) (fun a => ?_))
  · rw [he j (by omega)] at h; exact h
  · refine pk_le 1201 j (fun b => absurd b (by omega)) (fun b => ⟨vp_in_nI b (by decide), ?_⟩)
    rw [nI_clamp hj, (ha j (by omega)).1]; exact h
theorem q_value {K V : Nat → Nat} {m j : Nat} {ks vs : Nat → Int32} (T : TI K V m ks vs) (hj : j < 2 ^ 31) {post : Int32 → Prop} (h : post (nI (V j))) : wp_Tok_valueAt (nI j) (nI (m + 1)) vs post := by
  obtain ⟨hm, he, _, _, _, ha, hv, _⟩ := T
  refine br_f (nI_pos hj) (pk_le (m + 1) j (fun a => ?_) (fun a => ?_))
  · rw [hv j (by omega)] at h; exact h
  · refine pk_le 1201 j (fun b => absurd b (by omega)) (fun b => ⟨vp_in_nI b (by decide), ?_⟩)
    rw [nI_clamp hj, (ha j (by omega)).2]; exact h
theorem q_takes_f {x c cur : Int32} {ks : Nat → Int32} {post : Int32 → Int32 → Prop} (h : post 0 cur) : wp_Pars_takes x c ks cur 1 post := bn_f (by decide) h
theorem q_takes {K V : Nat → Nat} {m i : Nat} {ks vs : Nat → Int32} (T : TI K V m ks vs) (k : Nat) {x : Int32} (hx : x = nI k) (hk : k < 1000) (hi : i ≤ 1201) {post : Int32 → Int32 → Prop} (h1 : K i = k → post 1 (nI (i + 1))) (h0 : K i ≠ k → post 0 (nI i)) : wp_Pars_takes x (nI (m + 1)) ks (nI i) 0 post := by
  subst hx
  have hK := T.2.2.1 i
  refine bn_t rfl (q_kind T (by omega) ?_)
  refine br_c (fun a => ?_) (fun a => h0 (fun q => a (by rw [q])))
  rw [nI_1]; exact h1 ((nI_eq (by omega) (by omega)).mp a)
theorem q_expect_f {x c cur : Int32} {ks : Nat → Int32} {post : Int32 → Int32 → Prop} (h : post cur 1) : wp_Pars_expect x c ks cur 1 post := q_takes_f (bn_t rfl h)
theorem q_expect {K V : Nat → Nat} {m i : Nat} {ks vs : Nat → Int32} (T : TI K V m ks vs) (k : Nat) {x : Int32} (hx : x = nI k) (hk : k < 1000) (hi : i ≤ 1201) {post : Int32 → Int32 → Prop} (h1 : K i = k → post (nI (i + 1)) 0) (h0 : K i ≠ k → post (nI i) 1) : wp_Pars_expect x (nI (m + 1)) ks (nI i) 0 post :=
  q_takes T k hx hk hi (fun a => bn_f (by decide) (h1 a)) (fun a => bn_t rfl (h0 a))
theorem q_opens_f {x y c cur : Int32} {ks : Nat → Int32} {post : Int32 → Int32 → Prop} (h : post 0 cur) : wp_Pars_opens x y c ks cur 1 post := bn_f (by decide) h
theorem q_opens {K V : Nat → Nat} {m i dep : Nat} {ks vs : Nat → Int32} (T : TI K V m ks vs) (k : Nat) {x : Int32} (hx : x = nI k) (hk : k < 1000) (hi : i ≤ 1201) (hd : dep ≤ 8) {post : Int32 → Int32 → Prop} (h1 : dep < 8 → K i = k → post 1 (nI (i + 1))) (h0 : (dep = 8 ∨ K i ≠ k) → post 0 (nI i)) : wp_Pars_opens x (nI dep) (nI (m + 1)) ks (nI i) 0 post := by
  subst hx
  have hK := T.2.2.1 i
  refine bn_t rfl (pk_le 8 dep (fun a => h0 (Or.inl (by omega))) (fun a => q_kind T (by omega) ?_))
  refine bn_c (fun b => h0 (Or.inr (fun q => b (by rw [q])))) (fun b => ?_)
  rw [nI_1]; exact h1 a ((nI_eq (by omega) (by omega)).mp b)
theorem q_add {x : Int32} {sz : Nat} {st : Nat → Int32} (hs : sz < 1200) {post : Int32 → (Nat → Int32) → Prop} (h : post (nI (sz + 1)) (upd st sz x)) : wp_Code_add x (nI sz) st post := by
  refine br_f (show ¬ nI 1200 ≤ nI sz from nI_ge hs (by decide)) ⟨vp_in_nI hs (by decide), ?_⟩
  rw [nI_clamp (by omega), nI_1]; exact h
theorem q_addW {x : Int32} {sz : Nat} {st : Nat → Int32} (hs : sz ≤ 1200) {post : Int32 → (Nat → Int32) → Prop} (h : ∀ sz' st', sz' ≤ 1200 → post (nI sz') st') : wp_Code_add x (nI sz) st post := by
  rcases Nat.lt_or_eq_of_le hs with a | a
  · exact q_add a (h _ _ a)
  · exact br_t (show nI 1200 ≤ nI sz from nI_le (by omega) (by omega)) (h _ _ hs)
theorem q_addVar {v sz sec : Nat} {st ud : Nat → Int32} (hs : sz < 1200) (hsec : sec < 39) (hv : v < 3) {post : Int32 → (Nat → Int32) → (Nat → Int32) → Prop} (h : post (nI (sz + 1)) (upd st sz (nI (16 + v))) (us1 (16 + v) ud sec)) : wp_Code_addVariable (nI v) (nI sz) (nI sec) st ud post := by
  have hi : vp_in (nI sec) 39 := vp_in_nI hsec (by decide)
  refine ⟨hi, hi, ?_⟩
  rw [show (16 : Int32) = nI 16 from rfl, nI_add]
  refine q_add hs ?_
  rw [nI_clamp (by omega)]
  unfold us1 at h
  rw [if_pos (by omega), show 16 + v - 16 = v by omega] at h
  exact h
theorem q_addVarW {x : Int32} {sz sec : Nat} {st ud : Nat → Int32} (hs : sz ≤ 1200) (hsec : sec < 39) {post : Int32 → (Nat → Int32) → (Nat → Int32) → Prop} (h : ∀ sz' st' ud', sz' ≤ 1200 → post (nI sz') st' ud') : wp_Code_addVariable x (nI sz) (nI sec) st ud post := by
  have hi : vp_in (nI sec) 39 := vp_in_nI hsec (by decide)
  exact ⟨hi, hi, q_addW hs (fun sz' st' h' => h sz' st' _ h')⟩
section CE
variable {K V : Nat → Nat} {m : Nat} {ks vs : Nat → Int32}

theorem cf_term_L {G : Nat → PW} {x1 x2 u : Int32} {sec sz i n : Nat} {st ud : Nat → Int32} {K4 : CP} (hs : sz ≤ 1200) (hi : i ≤ 1201) (hw : WKp K4) : wp_Pars_readTerm_L7 G x1 (nI (m + 1)) ks vs (nI sec) K4 (n + 1) x2 (nI sz) st ud (nI i) 1 u :=
  br_c (fun _ => hw _ _ _ _ _ hs hi) (fun _ => q_takes_f (br_t rfl (hw _ _ _ _ _ hs hi)))
theorem cg_term_L {G : Nat → PW} {r : Nat} {X : Nat → Nat → PR} (T : TI K V m ks vs) (hG : CG m ks vs (G 2) r X) (hX : Gd K m X) {sec sz : Nat} (hsec : sec < 39) {st ud : Nat → Int32} {K4 : CP} : ∀ k c, c + k = 1200 → ∀ o i u, i ≤ m → u ≤ 100 → sz + o.length ≤ i → (lp K sT X k i u o = none → WKp K4) → (∀ i' u' o', lp K sT X k i u o = some (i', u', o') → K4 (nI (sz + o'.length)) (wr o' st sz) (us o' ud sec) (nI i') 0 (nI u')) → wp_Pars_readTerm_L7 G (nI (8 - r)) (nI (m + 1)) ks vs (nI sec) K4 (k + 1) (nI c) (nI (sz + o.length)) (wr o st sz) (us o ud sec) (nI i) 0 (nI u) := by
  intro k
  induction k with
  | zero =>
    intro c hc o i u hi hu hs hw h
    exact br_t (show nI 1200 ≤ nI c from nI_le (by omega) (by omega)) (h i u o rfl)
  | succ k ih =>
    intro c hc o i u hi hu hs hw h
    have hm := T.1
    refine br_f (show ¬ nI 1200 ≤ nI c from nI_ge (by omega) (by decide)) (q_takes T 42 rfl (by decide) (by omega) (fun a => ?_) (fun a => ?_))
    · refine br_f (by decide) ?_
      have hi1 := in_m T.2.1 a (by decide)
      refine hG sec (sz + o.length) _ _ (i + 1) u _ hsec (by omega) hi1 hu ?_ ?_
      · intro hn sz' st' ud' i' u' hs' hi'
        exact q_addW hs' (fun sz2 st2 h2 => cf_term_L h2 hi' (hw (by
          show (if sT (K i) then _ else _) = _
          rw [a, if_pos (show sT 42 = true from rfl), hn])))
      · intro i' u' o' hx
        have g := hX _ _ _ _ _ hx
        have hi' := g.2.2.2.2 hi1
        refine q_add (by omega) ?_
        rw [nI_1]
        have e := ih (c + 1) (by omega) (o ++ o' ++ [42]) i' u' hi' g.2.2.1 (by simp only [List.length_append, List.length_cons, List.length_nil]; omega) (fun h2 => hw (by
          show (if sT (K i) then _ else _) = _
          rw [a, if_pos (show sT 42 = true from rfl), hx]; exact h2)) (fun i2 u2 o2 h2 => h i2 u2 o2 (by
          show (if sT (K i) then _ else _) = _
          rw [a, if_pos (show sT 42 = true from rfl), hx]; exact h2))
        rw [wr_app, wr_app, us_app, us_app] at e
        simp only [List.length_append, List.length_cons, List.length_nil] at e
        rw [show us [42] (us o' (us o ud sec) sec) sec = us o' (us o ud sec) sec from rfl, show sz + (o.length + o'.length + (0 + 1)) = sz + o.length + o'.length + 1 by omega, show sz + (o.length + o'.length) = sz + o.length + o'.length by omega] at e
        exact e
    · refine br_t rfl (h i u o ?_)
      show (if sT (K i) then _ else _) = _
      rw [if_neg (by simp [sT, a])]
theorem cf_exp_L {G : Nat → PW} {x1 x2 x3 u : Int32} {sec sz i n : Nat} {st ud : Nat → Int32} {K4 : CP} (hs : sz ≤ 1200) (hi : i ≤ 1201) (hw : WKp K4) : wp_Pars_readExp_L19 G x1 (nI (m + 1)) ks vs (nI sec) K4 (n + 1) x2 x3 (nI sz) st ud (nI i) 1 u :=
  br_c (fun _ => hw _ _ _ _ _ hs hi) (fun _ => q_takes_f (bn_t rfl (q_takes_f (br_t rfl (hw _ _ _ _ _ hs hi)))))
theorem cg_exp_L {G : Nat → PW} {r : Nat} {X : Nat → Nat → PR} (T : TI K V m ks vs) (hG : CG m ks vs (G 1) r X) (hX : Gd K m X) {sec sz : Nat} (hsec : sec < 39) {st ud : Nat → Int32} {K4 : CP} : ∀ k c, c + k = 1200 → ∀ o i u, i ≤ m → u ≤ 100 → sz + o.length ≤ i → (lp K sE X k i u o = none → WKp K4) → (∀ i' u' o', lp K sE X k i u o = some (i', u', o') → K4 (nI (sz + o'.length)) (wr o' st sz) (us o' ud sec) (nI i') 0 (nI u')) → wp_Pars_readExp_L19 G (nI (8 - r)) (nI (m + 1)) ks vs (nI sec) K4 (k + 1) (nI (K i)) (nI c) (nI (sz + o.length)) (wr o st sz) (us o ud sec) (nI i) 0 (nI u) := by
  intro k
  induction k with
  | zero =>
    intro c hc o i u hi hu hs hw h
    exact br_t (show nI 1200 ≤ nI c from nI_le (by omega) (by omega)) (h i u o rfl)
  | succ k ih =>
    intro c hc o i u hi hu hs hw h
    have hm := T.1
    have step : ∀ (z : Nat), K i = z → sE z = true → z < 1000 → (z = 43 ∨ z = 45) → G 1 (nI (8 - r)) (nI (m + 1)) ks vs (nI (sz + o.length)) (nI sec) (wr o st sz) (us o ud sec) (nI (i + 1)) 0 (nI u) (fun cd_size_3 cd_steps_4 cd_used_5 ps_current_6 ps_faulty_7 ps_unaries_8 => wp_Code_add (nI (K i)) cd_size_3 cd_steps_4 (fun cd_size_9 cd_steps_10 => wp_Tok_kindAt ps_current_6 (nI (m + 1)) ks (fun r_11 => wp_Pars_readExp_L19 G (nI (8 - r)) (nI (m + 1)) ks vs (nI sec) K4 (k + 1) r_11 (nI c + 1) cd_size_9 cd_steps_10 cd_used_5 ps_current_6 ps_faulty_7 ps_unaries_8))) := by
      intro z a hz hz1 hz2
      have hi1 := in_m T.2.1 a (by omega)
      refine hG sec (sz + o.length) _ _ (i + 1) u _ hsec (by omega) hi1 hu ?_ ?_
      · intro hn sz' st' ud' i' u' hs' hi'
        exact q_addW hs' (fun sz2 st2 h2 => q_kind T (by omega) (cf_exp_L h2 hi' (hw (by
          show (if sE (K i) then _ else _) = _
          rw [a, if_pos hz, hn]))))
      · intro i' u' o' hx
        have g := hX _ _ _ _ _ hx
        have hi' := g.2.2.2.2 hi1
        refine q_add (by omega) (q_kind T (by omega) ?_)
        rw [nI_1, a]
        have e := ih (c + 1) (by omega) (o ++ o' ++ [z]) i' u' hi' g.2.2.1 (by simp only [List.length_append, List.length_cons, List.length_nil]; omega) (fun h2 => hw (by
          show (if sE (K i) then _ else _) = _
          rw [a, if_pos hz, hx]; exact h2)) (fun i2 u2 o2 h2 => h i2 u2 o2 (by
          show (if sE (K i) then _ else _) = _
          rw [a, if_pos hz, hx]; exact h2))
        rw [wr_app, wr_app, us_app, us_app] at e
        simp only [List.length_append, List.length_cons, List.length_nil] at e
        rw [show us [z] (us o' (us o ud sec) sec) sec = us o' (us o ud sec) sec from us1_no (by omega) _ _, show sz + (o.length + o'.length + (0 + 1)) = sz + o.length + o'.length + 1 by omega, show sz + (o.length + o'.length) = sz + o.length + o'.length by omega] at e
        exact e
    refine br_f (show ¬ nI 1200 ≤ nI c from nI_ge (by omega) (by decide)) (q_takes T 43 rfl (by decide) (by omega) (fun a => ?_) (fun a => ?_))
    · exact bn_f (by decide) (step 43 a rfl (by decide) (Or.inl rfl))
    · refine bn_t rfl (q_takes T 45 rfl (by decide) (by omega) (fun b => ?_) (fun b => ?_))
      · exact br_f (by decide) (step 45 b rfl (by decide) (Or.inr rfl))
      · refine br_t rfl (h i u o ?_)
        show (if sE (K i) then _ else _) = _
        rw [if_neg (by simp [sE, a, b])]
theorem cf_un {G : Nat → PW} : CF m ks vs (wp_Pars_readUnary_ G) := by
  intro x1 sec sz st ud i u post hsec hs hi hw
  have key : wp_Pars_readUnary_J14 G x1 (nI (m + 1)) ks vs (nI sz) (nI sec) st ud (nI i) 1 u post :=
    q_opens_f (br_t rfl (q_opens_f (br_t rfl (q_takes_f (br_t rfl (q_expect_f (q_valueAt_any (fun v => q_addW hs (fun sz' st' h' => hw _ _ _ _ _ h' hi)))))))))
  exact br_c (fun _ => key) (fun _ => key)
theorem cg_un {G : Nat → PW} {r : Nat} {U E : Nat → Nat → PR} (T : TI K V m ks vs) (hr : r ≤ 8) (h1 : 0 < r → CG m ks vs (G 2) (r - 1) U ∧ CG m ks vs (G 0) (r - 1) E) (h2 : r = 0 → (∀ i u, U i u = none) ∧ (∀ i u, E i u = none)) (hU : Gd K m U) (hE : Gd K m E) : CG m ks vs (wp_Pars_readUnary_ G) r (pU1 K V U E) := by
  intro sec sz st ud i u post hsec hs hi hu hw h
  have hm := T.1
  refine pk_lt u 100 (fun a => ?_) (fun a => ?_)
  rotate_left
  · exact (cf_un (G := G) (ks := ks) (vs := vs) (m := m) (nI (8 - r)) sec sz st ud i (nI u) post hsec (by omega) (by omega) (hw (by unfold pU1; rw [if_pos (by omega)]))).2 (fun q => absurd ((nI_ltI (a := u) (b := 100) (by omega) (by decide)).mp q) (by omega))
  have hP : ∀ t, (if K i = 45 then (match U (i + 1) (u + 1) with | none => none | some (i', u', o) => some (i', u', o ++ [300])) else if K i = 40 then (match E (i + 1) (u + 1) with | none => none | some (i', u', o) => if K i' = 41 then some (i' + 1, u', o) else none) else if K i = 259 then some (i + 1, u + 1, [16 + V i]) else if K i = 258 then some (i + 1, u + 1, [V i]) else none) = t → pU1 K V U E i u = t := fun t q => by
    unfold pU1; rw [if_neg (by omega)]; exact q
  refine q_opens T 45 rfl (by decide) (by omega) (by omega) (fun b c => ?_) (fun b => ?_)
  · refine br_f (by decide) ?_
    have hi1 := in_m T.2.1 c (by decide)
    rw [nI_1, nI_1, show 8 - r + 1 = 8 - (r - 1) by omega]
    refine (h1 (by omega)).1 sec sz _ _ (i + 1) (u + 1) _ hsec (by omega) hi1 (by omega) ?_ ?_
    · intro hn sz' st' ud' i' u' hs' hi'
      exact q_addW hs' (fun sz2 st2 h2 => hw (hP _ (by rw [if_pos c, hn])) _ _ _ _ _ h2 hi')
    · intro i' u' o hx
      have g := hU _ _ _ _ _ hx
      have hi' := g.2.2.2.2 hi1
      refine q_add (by omega) ?_
      have e := h i' u' (o ++ [300]) (hP _ (by rw [if_pos c, hx]))
      rw [wr_app, us_app] at e
      simp only [List.length_append, List.length_cons, List.length_nil] at e
      rw [show sz + (o.length + (0 + 1)) = sz + o.length + 1 by omega] at e
      exact e
  · refine br_t rfl (q_opens T 40 rfl (by decide) (by omega) (by omega) (fun d c => ?_) (fun d => ?_))
    · refine br_f (by decide) ?_
      have hi1 := in_m T.2.1 c (by decide)
      rw [nI_1, nI_1, show 8 - r + 1 = 8 - (r - 1) by omega]
      refine (h1 (by omega)).2 sec sz _ _ (i + 1) (u + 1) _ hsec (by omega) hi1 (by omega) ?_ ?_
      · intro hn sz' st' ud' i' u' hs' hi'
        exact q_expect_f (hw (hP _ (by rw [if_neg (by rw [c]; decide), if_pos c, hn])) _ _ _ _ _ hs' hi')
      · intro i' u' o hx
        have g := hE _ _ _ _ _ hx
        have hi' := g.2.2.2.2 hi1
        refine q_expect T 41 rfl (by decide) (by omega) (fun q => ?_) (fun q => ?_)
        · exact h (i' + 1) u' o (hP _ (by rw [if_neg (by rw [c]; decide), if_pos c, hx]; simp only [q, if_true]))
        · exact hw (hP _ (by rw [if_neg (by rw [c]; decide), if_pos c, hx]; simp only [q, if_false])) _ _ _ _ _ (by omega) (by omega)
    · have n45 : K i = 45 → pU1 K V U E i u = none := fun q => hP _ (by
        rw [if_pos q]
        rcases b with b | b
        · rw [(h2 (by omega)).1]
        · exact absurd q b)
      have n40 : K i = 40 → pU1 K V U E i u = none := fun q => hP _ (by
        rw [if_neg (by rw [q]; decide), if_pos q]
        rcases d with d | d
        · rw [(h2 (by omega)).2]
        · exact absurd q d)
      refine br_t rfl (q_takes T 259 rfl (by decide) (by omega) (fun c => ?_) (fun c => ?_))
      · refine br_f (by decide) ?_
        have hi1 := in_m T.2.1 c (by decide)
        rw [nI_pred]
        refine q_value T (by omega) (q_addVar (by omega) hsec (T.2.2.2.2.1 i c) ?_)
        rw [nI_1]
        exact h (i + 1) (u + 1) [16 + V i] (hP _ (by rw [if_neg (by rw [c]; decide), if_neg (by rw [c]; decide), if_pos c]))
      · refine br_t rfl (q_expect T 258 rfl (by decide) (by omega) (fun e => ?_) (fun e => ?_))
        · have hi1 := in_m T.2.1 e (by decide)
          rw [nI_pred]
          refine q_value T (by omega) (q_add (by omega) ?_)
          rw [nI_1]
          have e2 := h (i + 1) (u + 1) [V i] (hP _ (by rw [if_neg (by rw [e]; decide), if_neg (by rw [e]; decide), if_neg c, if_pos e]))
          have hv := T.2.2.2.1 i e
          rw [show us [V i] ud sec = ud from us1_no (by omega) _ _] at e2
          exact e2
        · have hn : pU1 K V U E i u = none := by
            by_cases q1 : K i = 45
            · exact n45 q1
            · by_cases q2 : K i = 40
              · exact n40 q2
              · exact hP _ (by rw [if_neg q1, if_neg q2, if_neg c, if_neg e])
          exact q_valueAt_any (fun v => q_addW (by omega) (fun sz' st' h' => hw hn _ _ _ _ _ h' (by omega)))
/-- a call of the group, wrapped in its loop -/
theorem cf_term {G : Nat → PW} (hF : CF m ks vs (G 2)) : CF m ks vs (wp_Pars_readTerm_ G) := by
  intro x1 sec sz st ud i u post hsec hs hi hw
  exact hF x1 sec sz st ud i u _ hsec hs hi (fun sz' st' ud' i' u' hs' hi' => ⟨1, cf_term_L hs' hi' hw⟩)
theorem cf_exp {G : Nat → PW} (T : TI K V m ks vs) (hF : CF m ks vs (G 1)) : CF m ks vs (wp_Pars_readExp_ G) := by
  intro x1 sec sz st ud i u post hsec hs hi hw
  exact hF x1 sec sz st ud i u _ hsec hs hi (fun sz' st' ud' i' u' hs' hi' => q_kind T (by omega) ⟨1, cf_exp_L hs' hi' hw⟩)
theorem cg_term {G : Nat → PW} {r : Nat} {X : Nat → Nat → PR} (T : TI K V m ks vs) (hG : CG m ks vs (G 2) r X) (hX : Gd K m X) : CG m ks vs (wp_Pars_readTerm_ G) r (sq K sT X) := by
  intro sec sz st ud i u post hsec hs hi hu hw h
  refine hG sec sz st ud i u _ hsec hs hi hu (fun hn sz' st' ud' i' u' hs' hi' => ⟨1, cf_term_L hs' hi' (hw (by unfold sq; rw [hn]))⟩) (fun i' u' o hx => ⟨1201, ?_⟩)
  have g := hX _ _ _ _ _ hx
  exact cg_term_L T hG hX hsec 1200 0 rfl o i' u' (g.2.2.2.2 hi) g.2.2.1 (by omega) (fun h2 => hw (by unfold sq; rw [hx]; exact h2)) (fun i2 u2 o2 h2 => h i2 u2 o2 (by unfold sq; rw [hx]; exact h2))
theorem cg_exp {G : Nat → PW} {r : Nat} {X : Nat → Nat → PR} (T : TI K V m ks vs) (hG : CG m ks vs (G 1) r X) (hX : Gd K m X) : CG m ks vs (wp_Pars_readExp_ G) r (sq K sE X) := by
  intro sec sz st ud i u post hsec hs hi hu hw h
  have hm := T.1
  refine hG sec sz st ud i u _ hsec hs hi hu (fun hn sz' st' ud' i' u' hs' hi' => q_kind T (by omega) ⟨1, cf_exp_L hs' hi' (hw (by unfold sq; rw [hn]))⟩) (fun i' u' o hx => ?_)
  have g := hX _ _ _ _ _ hx
  have hi' := g.2.2.2.2 hi
  exact q_kind T (by omega) ⟨1201, cg_exp_L T hG hX hsec 1200 0 rfl o i' u' hi' g.2.2.1 (by omega) (fun h2 => hw (by unfold sq; rw [hx]; exact h2)) (fun i2 u2 o2 h2 => h i2 u2 o2 (by unfold sq; rw [hx]; exact h2))⟩
theorem pe_f (T : TI K V m ks vs) : ∀ d, CF m ks vs (wp_PE (d + 1) 2) ∧ CF m ks vs (wp_PE (d + 2) 1) ∧ CF m ks vs (wp_PE (d + 3) 0) := fun d =>
  ⟨cf_un (G := wp_PE d), cf_term (G := wp_PE (d + 1)) (cf_un (G := wp_PE d)), cf_exp T (G := wp_PE (d + 2)) (cf_term (G := wp_PE (d + 1)) (cf_un (G := wp_PE d)))⟩
theorem pe_g (T : TI K V m ks vs) : ∀ r, r ≤ 8 → ∀ d, 3 * r ≤ d → CG m ks vs (wp_PE (d + 1) 2) r (pU K V r) ∧ CG m ks vs (wp_PE (d + 2) 1) r (pT K V r) ∧ CG m ks vs (wp_PE (d + 3) 0) r (pE K V r) := by
  have up : ∀ r d, CG m ks vs (wp_PE (d + 1) 2) r (pU K V r) → CG m ks vs (wp_PE (d + 1) 2) r (pU K V r) ∧ CG m ks vs (wp_PE (d + 2) 1) r (pT K V r) ∧ CG m ks vs (wp_PE (d + 3) 0) r (pE K V r) := fun r d h =>
    ⟨h, cg_term (G := wp_PE (d + 1)) T h (pU_gd T.2.1 r), cg_exp (G := wp_PE (d + 2)) T (cg_term (G := wp_PE (d + 1)) T h (pU_gd T.2.1 r)) (pT_gd T.2.1 r)⟩
  intro r
  induction r with
  | zero =>
    intro hr d hd
    exact up 0 d (cg_un (G := wp_PE d) T hr (fun q => absurd q (by decide)) (fun _ => ⟨fun _ _ => rfl, fun _ _ => rfl⟩) none_gd none_gd)
  | succ r ih =>
    intro hr d hd
    obtain ⟨e, rfl⟩ : ∃ e, d = e + 3 := ⟨d - 3, by omega⟩
    have h1 := (ih (by omega) (e + 2) (by omega)).1
    have h3 := (ih (by omega) e (by omega)).2.2
    exact up (r + 1) (e + 3) (cg_un (G := wp_PE (e + 3)) T hr (fun _ => ⟨h1, h3⟩) (fun q => absurd q (by omega)) (pU_gd T.2.1 r) (pE_gd T.2.1 r))
end CE
