/-! the relation that every call keeps, and the calls in pairs -/
/-- both were given the same loop -/
def Gv (lc lgu lu lr : Int32) (lf lt l1 ls : Nat → Int32) (rr rg rp : Int32) (rl rpa : Nat → Int32) (gl : Int32) (gr : Nat → Int32) (ml kb : Int32) (ac nm bg go rk cc wh be gc gs uc nr iB iG lv hg ro : Nat → Int32) : Prop :=
  ∃ l S c g u, ml = nI l ∧ LO S c g u ∧ CI2 S c g u lc lgu lu lr lf lt l1 ls rr rg rp rl rpa gl gr ∧ RI l S c g u kb ac nm bg go rk cc wh be gc gs uc nr iB iG lv hg ro
def Gn (lg lc lgu lu lr : Int32) (lf lt l1 ls : Nat → Int32) (rr rg rp : Int32) (rl rpa : Nat → Int32) (gl : Int32) (gr : Nat → Int32) (ml kb : Int32) (ac nm bg go rk cc wh be gc gs uc nr iB iG lv hg ro : Nat → Int32) : Prop :=
  (lg = 0 ∧ ml = -1) ∨ (lg = 1 ∧ Gv lc lgu lu lr lf lt l1 ls rr rg rp rl rpa gl gr ml kb ac nm bg go rk cc wh be gc gs uc nr iB iG lv hg ro)
def Tp (ts : Int32) (tb : Nat → Int32) (ms : Int32) (mt : Nat → Int32) : Prop := ∃ n, n ≤ 1200 ∧ ts = nI n ∧ ms = nI n ∧ mt = tb
section PR
variable {lg lc lgu lu lr rr rg rp gl ml kb : Int32} {lf lt l1 ls rl rpa gr ac nm bg go rk cc wh be gc gs uc nr iB iG lv hg ro : Nat → Int32}
theorem p_feed {a b c d e ts ms : Int32} {tb mt : Nat → Int32} (T : Tp ts tb ms mt) {Q1 Q2 Q3 Q4 Q5 : Prop} {post : Int32 → Int32 → (Nat → Int32) → Int32 → Int32 → (Nat → Int32) → Prop} (h1 : Q1) (h2 : Q2) (h3 : Q3) (h4 : Q4) (h5 : Q5) (h : ∀ r ts tb ms mt, Tp ts tb ms mt → post r ts tb r ms mt) : wp_LI_feed a b c d e ts tb (fun r ts tb => Q1 ∧ Q2 ∧ Q3 ∧ Q4 ∧ Q5 ∧ wp_Md_feed a b c d e ms mt (fun r' ms mt => post r ts tb r' ms mt)) := by
  obtain ⟨n, hn, rfl, rfl, rfl⟩ := T
  refine c_feed hn (fun q => ⟨h1, h2, h3, h4, h5, r_feed hn (fun _ => h _ _ _ _ _ ⟨n + 20, q, rfl, rfl, rfl⟩) (fun q2 => absurd q2 (by omega))⟩) (fun q => ⟨h1, h2, h3, h4, h5, r_feed hn (fun q2 => absurd q2 (by omega)) (fun _ => h _ _ _ _ _ ⟨n, hn, rfl, rfl, rfl⟩)⟩)
theorem p_end {x ts ms : Int32} {tb mt : Nat → Int32} (T : Tp ts tb ms mt) {Q1 : Prop} {post : Int32 → Int32 → Int32 → Int32 → Prop} (h1 : Q1) (h : ∀ r ts ms, Tp ts tb ms mt → post r ts r ms) : wp_LI_end x ts (fun r ts => Q1 ∧ wp_Md_end x ms (fun r' ms => post r ts r' ms)) := by
  obtain ⟨n, hn, rfl, rfl, rfl⟩ := T
  refine c_end_ hn (fun k hk hn2 e => ⟨h1, r_end_ hn (fun k2 hk2 _ e2 => ?_) (fun q => ?_)⟩) (fun q => ⟨h1, r_end_ hn (fun k hk hn2 e => ?_) (fun _ => h _ _ _ ⟨n, hn, rfl, rfl, rfl⟩)⟩)
  · have : k2 = k := (nI_eq (by omega) (by omega)).mp (e2.symm.trans e)
    subst this
    exact h _ _ _ ⟨n - 20 + k2, by omega, rfl, rfl, rfl⟩
  · rcases q with q | q
    · exact absurd e (q k hk)
    · omega
  · rcases q with q | q
    · exact absurd e (q k hk)
    · omega
abbrev PTp := Int32 → Int32 → Int32 → Int32 → Int32 → Int32 → Int32 → (Nat → Int32) → (Nat → Int32) → (Nat → Int32) → Int32 → Int32 → Int32 → (Nat → Int32) → (Nat → Int32) → (Nat → Int32) → (Nat → Int32) → (Nat → Int32) → Int32 → Int32 → Int32 → Int32 → Int32 → Int32 → Int32 → Int32 → Int32 → (Nat → Int32) → (Nat → Int32) → (Nat → Int32) → (Nat → Int32) → (Nat → Int32) → Int32 → (Nat → Int32) → Int32 → Int32 → Int32 → (Nat → Int32) → (Nat → Int32) → Int32 → (Nat → Int32) → RTp
theorem p_text {ts ms : Int32} {tb mt : Nat → Int32} (T : Tp ts tb ms mt) (G : Gn lg lc lgu lu lr lf lt l1 ls rr rg rp rl rpa gl gr ml kb ac nm bg go rk cc wh be gc gs uc nr iB iG lv hg ro) {fp tkc tks tko csz csec ch pc pf pu pch pg ws : Int32} {tkk tkv tkp cst csa cso cud cstk s1 wi : Nat → Int32} {at0 tk0 tp0 nu0 sg0 bd0 fp0 pl0 bk0 un0 op0 pd0 : Int32} {ct pile st qu : Nat → Int32} {post : PTp}
    (h : ∀ r lg fp tkc tks tko tkk tkv tkp csz csec ch cst csa cso cud cstk pc pf pu pch pg lc lgu lu lr lf lt l1 ls s1 ws wi rr rg rp rl rpa gl gr at0 tk0 tp0 nu0 sg0 bd0 fp0 pl0 bk0 un0 op0 pd0 ml kb ac nm ct pile bg go rk cc wh be gc gs uc st nr iB iG lv qu hg ro, Tp 0 tb 0 mt → Gn lg lc lgu lu lr lf lt l1 ls rr rg rp rl rpa gl gr ml kb ac nm bg go rk cc wh be gc gs uc nr iB iG lv hg ro → post r lg fp 0 tkc tks tko tkk tkv tkp csz csec ch cst csa cso cud cstk pc pf pu pch pg lc lgu lu lr lf lt l1 ls s1 ws wi rr rg rp rl rpa gl gr r 0 at0 tk0 tp0 nu0 sg0 bd0 fp0 pl0 bk0 un0 op0 pd0 ml kb ac nm ct pile bg go rk cc wh be gc gs uc st nr iB iG lv qu hg ro) :
    wp_LI_text lg fp ts tb tkc tks tko tkk tkv tkp csz csec ch cst csa cso cud cstk pc pf pu pch pg lc lgu lu lr lf lt l1 ls s1 ws wi rr rg rp rl rpa gl gr (fun r lg fp ts tkc tks tko tkk tkv tkp csz csec ch cst csa cso cud cstk pc pf pu pch pg lc lgu lu lr lf lt l1 ls s1 ws wi rr rg rp rl rpa gl gr => wp_Md_text ms at0 tk0 tp0 nu0 sg0 bd0 fp0 pl0 bk0 un0 op0 pd0 ml kb mt ac nm ct pile bg go rk cc wh be gc gs uc st nr iB iG lv qu hg ro (fun r' ms at0 tk0 tp0 nu0 sg0 bd0 fp0 pl0 bk0 un0 op0 pd0 ml kb ac nm ct pile bg go rk cc wh be gc gs uc st nr iB iG lv qu hg ro => post r lg fp ts tkc tks tko tkk tkv tkp csz csec ch cst csa cso cud cstk pc pf pu pch pg lc lgu lu lr lf lt l1 ls s1 ws wi rr rg rp rl rpa gl gr r' ms at0 tk0 tp0 nu0 sg0 bd0 fp0 pl0 bk0 un0 op0 pd0 ml kb ac nm ct pile bg go rk cc wh be gc gs uc st nr iB iG lv qu hg ro)) := by
  obtain ⟨n, hn, rfl, rfl, rfl⟩ := T
  have hs := (read_same (f := mt) (f2 := mt) hn (fun _ _ => rfl)).1
  have hT : Tp 0 mt 0 mt := ⟨0, by decide, rfl, rfl, rfl⟩
  have hl : ∃ l, l < 2 ∧ ((¬ ml = 0 ∧ l = 0) ∨ (ml = 0 ∧ l = 1)) := by
    by_cases q : ml = 0
    · exact ⟨1, by decide, Or.inr ⟨q, rfl⟩⟩
    · exact ⟨0, by decide, Or.inl ⟨q, rfl⟩⟩
  obtain ⟨l, hl2, hml⟩ := hl
  refine c_text2 hn (fun e fp tkc tks tko tkk tkv tkp csz csec cst csa cso cud pc pf pu pch pg => ?_) (fun c g σ e hO tkc tks tko tkk tkv tkp csz csec ch cst csa cso cud cstk pc pf pu pch pg lc lgu lu lr lf lt l1 ls s1 ws wi rr rg rp rl rpa gl gr hC => ?_)
  · refine r_text hn hl2 hml (fun _ O at1 tk tp nu sg fp un op pd ct pile bg' gl' rk' cc' wh' be' gc' gs' hO hF => ?_) (fun c g σ e2 => ?_)
    · refine h _ _ _ _ _ _ _ _ _ _ _ _ _ _ _ _ _ _ _ _ _ _ _ _ _ _ _ _ _ _ _ _ _ _ _ _ _ _ _ _ _ _ _ _ _ _ _ _ _ _ _ _ _ _ _ _ _ _ _ _ _ _ _ _ _ _ _ _ _ _ _ _ _ _ _ hT ?_
      rcases G with ⟨h1, h2⟩ | ⟨h1, l', S, c, g, u, h2, hLO, hCI, hRI⟩
      · exact Or.inl ⟨h1, h2⟩
      · refine Or.inr ⟨h1, l', S, c, g, u, h2, hLO, hCI, RI_other ?_ hLO.2.2.1 hLO.2.2.2.1 hO hF hRI⟩
        intro q
        subst q
        rcases hml with ⟨q1, q2⟩ | ⟨q1, q2⟩
        · rw [h2, q2] at q1; exact q1 rfl
        · rw [h2, q2] at q1; exact absurd q1 (by decide)
    · rw [← hs, e] at e2; cases e2
  · refine r_text hn hl2 hml (fun e2 => ?_) (fun c2 g2 σ2 e2 hO2 at1 tk tp nu sg fp op pd kb ac nm ct pile bg go rk cc wh be gc gs uc st nr iB iG lv qu hg ro hR => ?_)
    · rw [← hs, e] at e2; cases e2
    · rw [← hs, e] at e2
      cases e2
      exact h _ _ _ _ _ _ _ _ _ _ _ _ _ _ _ _ _ _ _ _ _ _ _ _ _ _ _ _ _ _ _ _ _ _ _ _ _ _ _ _ _ _ _ _ _ _ _ _ _ _ _ _ _ _ _ _ _ _ _ _ _ _ _ _ _ _ _ _ _ _ _ _ _ _ _ hT (Or.inr ⟨rfl, l, _, _, _, _, rfl, hO, hC, hR⟩)
theorem p_told {x : Int32} (G : Gn lg lc lgu lu lr lf lt l1 ls rr rg rp rl rpa gl gr ml kb ac nm bg go rk cc wh be gc gs uc nr iB iG lv hg ro) {Q1 : Prop} {post : Int32 → Int32 → Prop} (h1 : Q1) (h : ∀ r, post r r) : wp_LI_told x lg lc lgu lu lr (fun r => Q1 ∧ wp_Md_told x ml rk cc gc uc (fun r' => post r r')) := by
  rcases G with ⟨rfl, rfl⟩ | ⟨rfl, l, S, c, g, u, rfl, hLO, hCI, hRI⟩
  · exact bn_t rfl ⟨h1, br_f (by decide) (h _)⟩
  · obtain ⟨rfl, rfl, rfl, rfl, _⟩ := hCI
    obtain ⟨hl, ⟨O, _, _, _, _, hk, _⟩, hcc, hgc, huc, _⟩ := hRI
    have hlp : 0 ≤ nI l := nI_pos' (by omega)
    have hv : vp_in (nI l) 2 := vp_in_nI hl (by decide)
    have hcl : (nI l).toNatClampNeg = l := nI_clamp (by omega)
    refine bn_f (by decide) ⟨fun e => ⟨h1, ?_⟩, fun e => ⟨h1, ?_⟩, fun e => ⟨h1, ?_⟩, fun e => ?_, fun e0 e1 e2 e3 => ⟨h1, ?_⟩⟩
    · refine br_t hlp (bn_t e ⟨hv, ?_⟩)
      rw [hcl, hcc]; exact h _
    · subst e
      refine br_t hlp (bn_f (by decide) (bn_t rfl ⟨hv, ?_⟩))
      rw [hcl, hgc]; exact h _
    · subst e
      refine br_t hlp (bn_f (by decide) (bn_f (by decide) (bn_t rfl ⟨hv, ?_⟩)))
      rw [hcl, huc]; exact h _
    · subst e
      cases e2 : S 2 with
      | none =>
        refine ⟨Or.inl rfl, br_t rfl ⟨h1, br_t hlp (bn_f (by decide) (bn_f (by decide) (bn_f (by decide) (bn_t rfl ⟨hv, ?_⟩))))⟩⟩
        rw [hcl, hk.1 e2]
        exact br_t (by decide) (h _)
      | some o =>
        obtain ⟨p, hp, hat⟩ := hk.2 o e2
        refine ⟨Or.inr rfl, br_f (show ¬ (1 : Int32) = 0 by decide) ⟨h1, br_t hlp (bn_f (by decide) (bn_f (by decide) (bn_f (by decide) (bn_t rfl ⟨hv, ?_⟩))))⟩⟩
        rw [hcl, hp]
        have := hat.1
        exact br_f (nI_pos (by omega)) (h _)
    · exact br_t hlp (bn_f e0 (bn_f e1 (bn_f e2 (bn_f e3 (h _)))))
theorem q_MisState {l : Nat} (hl : l < 2) {x : Int32} {post : Int32 → Prop} (h1 : ∀ t, t < 4096 → x = nI t → post 1) (h0 : (∀ t, t < 4096 → x ≠ nI t) → post 0) : wp_Md_isState x (nI l) post := by
  refine br_f (nI_pos (by omega)) ?_
  exact q_isState_any x h1 h0
theorem nost {x : Int32} : (∀ t, t < 4096 → x ≠ nI t) ∨ ∃ t, t < 4096 ∧ x = nI t := by
  by_cases q : ∃ t, t < 4096 ∧ x = nI t
  · exact Or.inr q
  · exact Or.inl (fun t ht e => q ⟨t, ht, e⟩)
theorem p_next {x y : Int32} (G : Gn lg lc lgu lu lr lf lt l1 ls rr rg rp rl rpa gl gr ml kb ac nm bg go rk cc wh be gc gs uc nr iB iG lv hg ro) {Q1 Q2 : Prop} {post : Int32 → Int32 → Prop} (h1 : Q1) (h2 : Q2) (h : ∀ r, post r r) : wp_LI_next x y lg lc lt (fun r => Q1 ∧ Q2 ∧ wp_Md_next x y ml nr (fun r' => post r r')) := by
  rcases G with ⟨rfl, rfl⟩ | ⟨rfl, l, S, c, g, u, rfl, hLO, hCI, hRI⟩
  · exact br_t rfl ⟨h1, h2, br_t (by decide) (br_t rfl (h _))⟩
  · obtain ⟨rfl, _, _, _, _, hT, _⟩ := hCI
    obtain ⟨hl, _, hcc, hgc, huc, hSt⟩ := hRI
    have hN := hSt.1
    have hc6 := hLO.2.2.1
    refine br_f (by decide) (q_turn_any hc6 hT x y (fun t i ht hi e1 e2 => ⟨h1, h2, ?_⟩) (fun q => ⟨h1, h2, ?_⟩))
    · subst e1; subst e2
      refine q_MisState hl (fun t' ht' e => br_f (by decide) (br_f (nI_pos (by omega)) (br_t (show nI i < nI 6 from nI_lt (by omega) (by decide)) ⟨(nxi ht (by omega)).1, ?_⟩))) (fun q => absurd rfl (q t ht))
      rw [(nxi ht (by omega)).2, hN t ht i (by omega)]
      have : nxc S c t i = nx S t i := if_pos hi
      rw [this]
      exact h _
    · refine q_MisState hl (fun t ht e => br_f (by decide) (br_c (fun _ => h _) (fun y0 => br_c (fun y6 => ?_) (fun _ => h _)))) (fun _ => br_t rfl (h _))
      obtain ⟨i, hi, ei⟩ := nI_of y0
      subst ei; subst e
      have hi6 : i < 6 := (nI_ltI hi (by decide)).mp y6
      refine ⟨(nxi ht hi6).1, ?_⟩
      rw [(nxi ht hi6).2, hN t ht i hi6]
      have hic : ¬ i < c := fun z => by
        rcases q with q | q
        · exact q t ht rfl
        · exact q i z rfl
      have : nxc S c t i = none := if_neg hic
      rw [this]
      exact h _
theorem p_rank {x : Int32} (G : Gn lg lc lgu lu lr lf lt l1 ls rr rg rp rl rpa gl gr ml kb ac nm bg go rk cc wh be gc gs uc nr iB iG lv hg ro) {Q1 : Prop} {st : Nat → Int32} {post : Int32 → Int32 → (Nat → Int32) → Prop} (h1 : Q1) (h : ∀ r st, post r r st) : wp_LI_rank x lg lr lf (fun r => Q1 ∧ wp_Md_rank x ml ac nm rk st (fun r' st => post r r' st)) := by
  rcases G with ⟨rfl, rfl⟩ | ⟨rfl, l, S, c, g, u, rfl, hLO, hCI, hRI⟩
  · exact br_t rfl ⟨h1, br_t (by decide) (br_t rfl (h _ _))⟩
  · have hRL := RLo_RI hRI
    obtain ⟨rfl, rfl, rfl, rfl, hF, _⟩ := hCI
    obtain ⟨hl, _⟩ := hRI
    obtain ⟨_, _, _, _, hk, _⟩ := hRL
    have hv : vp_in (nI l) 2 := vp_in_nI hl (by decide)
    have hcl : (nI l).toNatClampNeg = l := nI_clamp (by omega)
    have hS := hLO.1
    refine br_f (by decide) ?_
    cases e2 : S 2 with
    | none =>
      refine ⟨Or.inl rfl, br_t rfl ⟨h1, q_MisState hl (fun t ht e => br_f (by decide) ⟨hv, ?_⟩) (fun _ => br_t rfl (h _ _))⟩⟩
      rw [hcl, hk.1 e2]
      exact br_f (by decide) (h _ _)
    | some o =>
      obtain ⟨p, hp, hat⟩ := hk.2 o e2
      refine ⟨Or.inr rfl, br_f (show ¬ (1 : Int32) = 0 by decide) (q_isState_any x (fun t ht e => bn_f (by decide) ?_) (fun q => bn_t rfl ⟨h1, q_MisState hl (fun t ht e => absurd e (q t ht)) (fun _ => br_t rfl (h _ _))⟩))⟩
      subst e
      refine q_isState ht (br_f (by decide) ⟨vp_in_nI ht (by decide), h1, ?_⟩)
      have hb := Gb_lt12 hS hLO.2.2.2.1 t
      have hr := val_lt16 hS t
      obtain ⟨y, hy, e⟩ := fc_low (c := c) (g := g) hS t (1 - no1 (come S c).2 t) (by omega)
      rw [nI_clamp (by omega), hF t ht, e, pk_shrN (by omega) _ 16 (by decide +kernel), pk_andN (by omega) 4 rfl]
      rw [show (16 * (4096 * val S t 2 + Gb S t g) + y) / 2 ^ 16 % 2 ^ 4 = val S t 2 by omega]
      refine q_MisState hl (fun t' ht' e => br_f (by decide) ⟨hv, ?_⟩) (fun q => absurd rfl (q t ht))
      rw [hcl, hp]
      have := hat.1
      exact br_t (nI_pos' (by omega)) ⟨hv, r_val hS e2 hat ht (fun _ => h _ _)⟩
theorem p_level {x : Int32} (G : Gn lg lc lgu lu lr lf lt l1 ls rr rg rp rl rpa gl gr ml kb ac nm bg go rk cc wh be gc gs uc nr iB iG lv hg ro) {Q1 : Prop} {post : Int32 → Int32 → Prop} (h1 : Q1) (h : ∀ r, post r r) : wp_LI_level x lg rl (fun r => Q1 ∧ wp_Md_level x ml lv (fun r' => post r r')) := by
  rcases G with ⟨rfl, rfl⟩ | ⟨rfl, l, S, c, g, u, rfl, hLO, hCI, hRI⟩
  · exact br_t rfl ⟨h1, br_t (by decide) (br_t rfl (h _))⟩
  · obtain ⟨_, _, _, _, _, _, _, hL, _⟩ := hCI
    obtain ⟨hl, _, _, _, _, hSt⟩ := hRI
    refine br_f (by decide) (q_isState_any x (fun t ht e => br_f (by decide) ⟨?_, h1, ?_⟩) (fun q => br_t rfl ⟨h1, q_MisState hl (fun t ht e => absurd e (q t ht)) (fun _ => br_t rfl (h _))⟩))
    · subst e; exact vp_in_nI ht (by decide)
    · subst e
      refine q_MisState hl (fun t' ht' e => br_f (by decide) ⟨vp_in_nI ht (by decide), ?_⟩) (fun q => absurd rfl (q t ht))
      rw [nI_clamp (by omega), hL t ht, hSt.2.2.1 t ht]
      exact h _
theorem p_kept (G : Gn lg lc lgu lu lr lf lt l1 ls rr rg rp rl rpa gl gr ml kb ac nm bg go rk cc wh be gc gs uc nr iB iG lv hg ro) {post : Int32 → Int32 → Prop} (h : ∀ r, post r r) : wp_LI_kept lg gl (fun r => wp_Md_kept ml kb (fun r' => post r r')) := by
  rcases G with ⟨rfl, rfl⟩ | ⟨rfl, l, S, c, g, u, rfl, hLO, hCI, hRI⟩
  · exact br_t rfl (br_f (by decide) (h _))
  · obtain ⟨_, _, _, _, _, _, _, _, _, _, _, rfl, _⟩ := hCI
    obtain ⟨hl, _, _, _, _, hSt⟩ := hRI
    obtain ⟨_, _, _, rfl, _⟩ := hSt
    exact br_f (by decide) (br_t (nI_pos' (by omega)) (h _))
theorem p_gone {x : Int32} (G : Gn lg lc lgu lu lr lf lt l1 ls rr rg rp rl rpa gl gr ml kb ac nm bg go rk cc wh be gc gs uc nr iB iG lv hg ro) {Q1 : Prop} {post : Int32 → Int32 → Prop} (h1 : Q1) (h : ∀ r, post r r) : wp_LI_gone x lg lgu gr (fun r => Q1 ∧ wp_Md_gone x ml gc ro (fun r' => post r r')) := by
  rcases G with ⟨rfl, rfl⟩ | ⟨rfl, l, S, c, g, u, rfl, hLO, hCI, hRI⟩
  · exact br_t rfl ⟨h1, br_t (by decide) (h _)⟩
  · obtain ⟨_, rfl, _, _, _, _, _, _, _, _, _, _, hgr⟩ := hCI
    obtain ⟨hl, _, _, hgc, _, hSt⟩ := hRI
    have hro := hSt.2.2.2.2
    have hg := hLO.2.2.2.1
    have hv : vp_in (nI l) 2 := vp_in_nI hl (by decide)
    have hcl : (nI l).toNatClampNeg = l := nI_clamp (by omega)
    refine br_f (by decide) (br_c (fun q => ⟨h1, br_f (nI_pos (by omega)) (br_t q (h _))⟩) (fun q => ?_))
    obtain ⟨i, hi, e⟩ := nI_of q
    subst e
    refine br_c (fun z => ⟨h1, br_f (nI_pos (by omega)) (br_f q ⟨hv, ?_⟩)⟩) (fun z => ?_)
    · rw [hcl, hgc]
      exact br_f (Int32.not_lt.mpr z) (h _)
    · have z2 : nI i < nI g := Int32.not_le.mp z
      have hig : i < g := (nI_ltI hi (by omega)).mp z2
      refine br_f (show ¬ nI 12 ≤ nI i from nI_ge (by omega) (by decide)) ⟨vp_in_nI (by omega) (by decide), h1, br_f (nI_pos (by omega)) (br_f q ⟨hv, ?_⟩)⟩
      rw [hcl, hgc]
      refine br_t z2 ⟨vp_in_nI (by omega) (by decide), ?_⟩
      rw [nI_clamp hi, hgr i (by omega), hro i hig]
      exact h _
end PR
