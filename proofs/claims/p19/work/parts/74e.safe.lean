/-! the other calls: they end, on both sides -/
section PS
variable {lg lc lgu lu lr rr rg rp gl ml kb : Int32} {lf lt l1 ls rl rpa gr ac nm bg go rk cc wh be gc gs uc nr iB iG lv hg ro : Nat → Int32}
theorem s_place {fp pl : Int32} {post : Int32 → Int32 → Prop} (h : post fp pl) : wp_LI_place fp (fun r => wp_Md_place pl (fun r' => post r r')) := h
theorem NxB_RI {l c g u : Nat} {S : Nat → Option (List Nat)} (hLO : LO S c g u) (hRI : RI l S c g u kb ac nm bg go rk cc wh be gc gs uc nr iB iG lv hg ro) : NxB nr := NxB_of hLO.1 hRI.2.2.2.2.2.1
theorem s_many {x : Int32} (G : Gn lg lc lgu lu lr lf lt l1 ls rr rg rp rl rpa gl gr ml kb ac nm bg go rk cc wh be gc gs uc nr iB iG lv hg ro) {Q1 : Prop} {post : Int32 → Int32 → Prop} (h1 : Q1) (h : ∀ r r', post r r') : wp_LI_many x lg lc lf lt rg gl (fun r => Q1 ∧ wp_Md_many x ml kb nr iB iG lv hg (fun r' => post r r')) := by
  rcases G with ⟨rfl, rfl⟩ | ⟨rfl, l, S, c, g, u, rfl, hLO, hCI, hRI⟩
  · exact bn_t rfl ⟨h1, br_t (by decide) (h _ _)⟩
  · obtain ⟨rfl, _⟩ := hCI
    have K : ∀ r, Q1 ∧ wp_Md_many x (nI l) kb nr iB iG lv hg (fun r' => post r r') := fun r => ⟨h1, q_Mmany_a (NxB_RI hLO hRI) (fun r' => h _ _)⟩
    exact bn_f (by decide) ⟨fun _ => q_countWith_a K, fun _ => q_countWith_a K, fun _ => q_countWith_a K, fun _ => q_countWith_a K, fun _ => K _, fun _ => q_countPairs_a hLO.2.2.1 K, fun _ => q_countWith_a K, fun _ _ _ _ _ _ _ => K _⟩
theorem s_induction {x : Int32} (G : Gn lg lc lgu lu lr lf lt l1 ls rr rg rp rl rpa gl gr ml kb ac nm bg go rk cc wh be gc gs uc nr iB iG lv hg ro) {Q1 : Prop} {s1 s2 mk0 ot : Nat → Int32} {post : Int32 → (Nat → Int32) → (Nat → Int32) → Int32 → (Nat → Int32) → (Nat → Int32) → Prop} (h1 : Q1) (h : ∀ r s1 s2 r' mk0 ot, post r s1 s2 r' mk0 ot) : wp_LI_induction x lg lc lf lt s1 s2 rp gl (fun r s1 s2 => Q1 ∧ wp_Md_induction x ml kb nr iG lv hg mk0 ot (fun r' mk0 ot => post r s1 s2 r' mk0 ot)) := by
  rcases G with ⟨rfl, rfl⟩ | ⟨rfl, l, S, c, g, u, rfl, hLO, hCI, hRI⟩
  · exact br_t rfl ⟨h1, br_t (by decide) (h _ _ _ _ _ _)⟩
  · obtain ⟨rfl, _⟩ := hCI
    have K : ∀ r s1 s2, Q1 ∧ wp_Md_induction x (nI l) kb nr iG lv hg mk0 ot (fun r' mk0 ot => post r s1 s2 r' mk0 ot) := fun r s1 s2 => ⟨h1, q_Mind_a (NxB_RI hLO hRI) (fun r' a b => h _ _ _ _ _ _)⟩
    exact br_f (by decide) (br_c (fun _ => K _ _ _) (fun _ => br_c (fun _ => bn_c (fun _ => q_leastInd_a hLO.2.2.1 K) (fun _ => q_leastInd_a hLO.2.2.1 K)) (fun _ => K _ _ _)))
theorem s_follows (G : Gn lg lc lgu lu lr lf lt l1 ls rr rg rp rl rpa gl gr ml kb ac nm bg go rk cc wh be gc gs uc nr iB iG lv hg ro) {post : Int32 → Int32 → Prop} (h : ∀ r r', post r r') : wp_LI_follows lg lf gl (fun r => wp_Md_follows ml kb iG hg (fun r' => post r r')) := by
  have K : ∀ r, wp_Md_follows ml kb iG hg (fun r' => post r r') := fun r => q_Mfollows_a (fun r' => h _ _)
  exact bn_c (fun _ => q_countWith_a (fun r2 => q_countWith_a (fun r4 => bn_c (fun _ => br_c (fun _ => K _) (fun _ => K _)) (fun _ => br_c (fun _ => K _) (fun _ => K _))))) (fun _ => K _)
theorem s_falls (G : Gn lg lc lgu lu lr lf lt l1 ls rr rg rp rl rpa gl gr ml kb ac nm bg go rk cc wh be gc gs uc nr iB iG lv hg ro) {st : Nat → Int32} {post : Int32 → Int32 → (Nat → Int32) → Prop} (h : ∀ r r' st, post r r' st) : wp_LI_falls lg lc lr lf lt (fun r => wp_Md_falls ml ac nm rk st nr lv (fun r' st => post r r' st)) := by
  rcases G with ⟨rfl, rfl⟩ | ⟨rfl, l, S, c, g, u, rfl, hLO, hCI, hRI⟩
  · exact br_t rfl (br_t (by decide) (h _ _ _))
  · obtain ⟨rfl, _, _, rfl, _⟩ := hCI
    have K : ∀ r, wp_Md_falls (nI l) ac nm rk st nr lv (fun r' st => post r r' st) := fun r => q_Mfalls_a hLO.1 (NxB_RI hLO hRI) hRI.1 (RLo_RI hRI) (fun r' st => h _ _ _)
    refine br_f (by decide) ⟨?_, bn_c (fun _ => q_falls_a hLO.2.2.1 (fun r => br_c (fun _ => K _) (fun _ => K _))) (fun _ => K _)⟩
    cases (S 2).isSome
    · exact Or.inl rfl
    · exact Or.inr rfl
theorem s_longest (G : Gn lg lc lgu lu lr lf lt l1 ls rr rg rp rl rpa gl gr ml kb ac nm bg go rk cc wh be gc gs uc nr iB iG lv hg ro) {s1 s2 wi hh : Nat → Int32} {ws : Int32} {post : Int32 → (Nat → Int32) → (Nat → Int32) → Int32 → (Nat → Int32) → Int32 → (Nat → Int32) → Prop} (h : ∀ r s1 s2 ws wi r' hh, post r s1 s2 ws wi r' hh) : wp_LI_longest lg lc lf lt s1 s2 ws wi rr (fun r s1 s2 ws wi => wp_Md_longest ml kb nr iB iG lv hg hh (fun r' hh => post r s1 s2 ws wi r' hh)) := by
  rcases G with ⟨rfl, rfl⟩ | ⟨rfl, l, S, c, g, u, rfl, hLO, hCI, hRI⟩
  · exact br_t rfl (br_t (by decide) (h _ _ _ _ _ _ _))
  · obtain ⟨rfl, _⟩ := hCI
    exact br_f (by decide) (q_longest_a hLO.2.2.1 (fun r s1 s2 w it => q_Mlongest_a (NxB_RI hLO hRI) (fun r' hh => h _ _ _ _ _ _ _)))
theorem FRm_rfl (b : Nat) (bg gl rk cc wh be gc gs : Nat → Int32) : FRm b bg gl rk cc wh be gc gs bg gl rk cc wh be gc gs := ⟨fun _ _ => ⟨rfl, rfl, rfl⟩, ⟨fun _ _ => rfl, fun _ _ => rfl, fun _ _ => rfl⟩, fun _ _ => rfl, fun _ _ => rfl⟩
abbrev PAp := Int32 → Int32 → Int32 → Int32 → Int32 → (Nat → Int32) → (Nat → Int32) → (Nat → Int32) → Int32 → Int32 → Int32 → (Nat → Int32) → (Nat → Int32) → (Nat → Int32) → (Nat → Int32) → (Nat → Int32) → Int32 → Int32 → Int32 → (Nat → Int32) → (Nat → Int32) → Int32 → (Nat → Int32) → RAp
theorem s_ask {x ts ms : Int32} {tb mt : Nat → Int32} (T : Tp ts tb ms mt) (G : Gn lg lc lgu lu lr lf lt l1 ls rr rg rp rl rpa gl gr ml kb ac nm bg go rk cc wh be gc gs uc nr iB iG lv hg ro) {tkc tks tko csz csec ch pc pf pu ws : Int32} {tkk tkv tkp cst csa cso cud cstk s1 s2 wi : Nat → Int32} {at0 tk0 tp0 nu0 sg0 bd0 fp0 bk0 un0 op0 pd0 : Int32} {ct pile st mk0 : Nat → Int32} {Q1 : Prop} {post : PAp} (h1 : Q1)
    (h : ∀ r ts tkc tks tko tkk tkv tkp csz csec ch cst csa cso cud cstk pc pf pu s1 s2 ws wi r' ms at0 tk0 tp0 nu0 sg0 bd0 fp0 bk0 un0 op0 pd0 ac nm ct pile st mk0, Tp ts tb ms mt → Gn lg lc lgu lu lr lf lt l1 ls rr rg rp rl rpa gl gr ml kb ac nm bg go rk cc wh be gc gs uc nr iB iG lv hg ro → post r ts tkc tks tko tkk tkv tkp csz csec ch cst csa cso cud cstk pc pf pu s1 s2 ws wi r' ms at0 tk0 tp0 nu0 sg0 bd0 fp0 bk0 un0 op0 pd0 ac nm ct pile st mk0) :
    wp_LI_ask x lg ts tb tkc tks tko tkk tkv tkp csz csec ch cst csa cso cud cstk pc pf pu lc lf lt l1 ls s1 s2 ws wi (fun r ts tkc tks tko tkk tkv tkp csz csec ch cst csa cso cud cstk pc pf pu s1 s2 ws wi => Q1 ∧ wp_Md_ask x ms at0 tk0 tp0 nu0 sg0 bd0 fp0 bk0 un0 op0 pd0 ml mt ac nm ct pile st nr lv mk0 (fun r' ms at0 tk0 tp0 nu0 sg0 bd0 fp0 bk0 un0 op0 pd0 ac nm ct pile st mk0 => post r ts tkc tks tko tkk tkv tkp csz csec ch cst csa cso cud cstk pc pf pu s1 s2 ws wi r' ms at0 tk0 tp0 nu0 sg0 bd0 fp0 bk0 un0 op0 pd0 ac nm ct pile st mk0)) := by
  have G0 := G
  rcases G with ⟨rfl, rfl⟩ | ⟨rfl, l, S, c, g, u, rfl, hLO, hCI, hRI⟩
  · exact br_t rfl ⟨h1, br_t (by decide) (h _ _ _ _ _ _ _ _ _ _ _ _ _ _ _ _ _ _ _ _ _ _ _ _ _ _ _ _ _ _ _ _ _ _ _ _ _ _ _ _ _ _ T G0)⟩
  · have out : ∀ r', post (-1) ts tkc tks tko tkk tkv tkp csz csec ch cst csa cso cud cstk pc pf pu s1 s2 ws wi r' ms at0 tk0 tp0 nu0 sg0 bd0 fp0 bk0 un0 op0 pd0 ac nm ct pile st mk0 := fun r' => h _ _ _ _ _ _ _ _ _ _ _ _ _ _ _ _ _ _ _ _ _ _ _ _ _ _ _ _ _ _ _ _ _ _ _ _ _ _ _ _ _ _ T G0
    have hl0 := nI_pos (n := l) (by have := hRI.1; omega)
    by_cases q0 : x < 0
    · exact br_f (by decide) (br_t q0 ⟨h1, br_f hl0 (br_t q0 (out _))⟩)
    · by_cases q4 : x ≤ 4
      · obtain ⟨n, hn, rfl, rfl, rfl⟩ := T
        have hCI0 := hCI
        obtain ⟨rfl, _, _, _, _, _, hSr, _⟩ := hCI
        refine c_ask_in hn hLO.2.2.1 q0 q4 (FiB_of hLO.2.2.1 hSr) (fun r tkc tks tko tkk tkv tkp csz csec ch cst csa cso cud cstk pc pf pu s1 s2 ws wi => ⟨h1, ?_⟩)
        refine r_ask_in hn hRI.1 (NxB_RI hLO hRI) q0 q4 (fun O r at1 tk tp nu sg bd fp bk un op pd ct pile st mk1 hO => h _ _ _ _ _ _ _ _ _ _ _ _ _ _ _ _ _ _ _ _ _ _ _ _ _ _ _ _ _ _ _ _ _ _ _ _ _ _ _ _ _ _ ⟨0, by decide, rfl, rfl, rfl⟩ (Or.inr ⟨rfl, l, S, c, g, u, rfl, hLO, hCI0, ?_⟩))
        exact RI_other (b := 2) (by have := hRI.1; omega) hLO.2.2.1 hLO.2.2.2.1 hO (FRm_rfl 2 _ _ _ _ _ _ _ _) hRI
      · exact br_f (by decide) (br_f q0 (br_f q4 ⟨h1, br_f hl0 (br_f q0 (br_f q4 (out _)))⟩))
end PS
