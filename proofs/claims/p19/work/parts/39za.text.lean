/-! text: the class reads a loop, explores it, sifts its guesses; the reference likewise -/
/-- the class's rows, when it was given the loop -/
def CI (S : Nat → Option (List Nat)) (c g u : Nat) (lc lgu lu lr : Int32) (lf lt l1 ls : Nat → Int32) (rr rg rp : Int32) (rl rpa : Nat → Int32) (gl : Int32) (gr : Nat → Int32) : Prop :=
  lc = nI c ∧ lgu = nI g ∧ lu = nI u ∧ lr = b01 (S 2).isSome ∧ FaL S c g lf (come S c).2 ∧ Tu S c lt ∧ Sr S c l1 ls ∧ LvR rl (come S c).2 ∧ rr = nI (come S c).1.length ∧ rg = tI (grl S c) ∧ (∃ p, p ≤ 4096 ∧ rp = nI p) ∧ gl = nI (kept S c g).1 ∧ Rc gr (kept S c g).2
/-- what a loop that was read is -/
def LO (S : Nat → Option (List Nat)) (c g u : Nat) : Prop := SOk S ∧ 1 ≤ c ∧ c ≤ 6 ∧ g ≤ 12 ∧ u ≤ 100
theorem FiB_of {S : Nat → Option (List Nat)} {c : Nat} (hc : c ≤ 6) {f sr : Nat → Int32} (h : Sr S c f sr) : FiB f := fun t ht => ⟨off S c t, off_le hc t, h.1 t ht⟩
theorem TI_facts {K V : Nat → Nat} {m : Nat} {ks vs : Nat → Int32} (T : TI K V m ks vs) : (∀ j, m ≤ j → K j = 256) ∧ (∀ j, K j = 258 → V j < 16) ∧ (∀ j, K j = 259 → V j < 3) := ⟨T.2.1, T.2.2.2.1, T.2.2.2.2.1⟩
theorem c_explore {S : Nat → Option (List Nat)} {c g : Nat} (hS : SOk S) (hc6 : c ≤ 6) (hg : g ≤ 12) {fa tu f sr s1 wi rl rpa : Nat → Int32} {ws rr rg rp : Int32} (hT : Tu S c tu) (hR : Sr S c f sr) (hf : ∀ t, t < 4096 → fa t = nI (fc S c g t)) {post : (Nat → Int32) → (Nat → Int32) → Int32 → (Nat → Int32) → Int32 → Int32 → Int32 → (Nat → Int32) → (Nat → Int32) → Prop} (h : ∀ fa s1 ws wi p rl rpa, FaL S c g fa (come S c).2 → LvR rl (come S c).2 → p ≤ 4096 → post fa s1 ws wi (nI (come S c).1.length) (tI (grl S c)) (nI p) rl rpa) : wp_Runs_explore (nI c) fa tu f sr s1 ws wi rr rg rp rl rpa post :=
  c_findLevels hS hc6 hg hT hf (fun fa wk lv hq => q_measure_a (FiB_of hc6 hR) (fun s1 w it hw => q_findPath_a hc6 (fun p pa hp => h fa s1 (nI w) it p lv pa hq.2.2 hq.2.1 hp)))
abbrev CTp := Int32 → Int32 → Int32 → Int32 → Int32 → Int32 → Int32 → (Nat → Int32) → (Nat → Int32) → (Nat → Int32) → Int32 → Int32 → Int32 → (Nat → Int32) → (Nat → Int32) → (Nat → Int32) → (Nat → Int32) → (Nat → Int32) → Int32 → Int32 → Int32 → Int32 → Int32 → Int32 → Int32 → Int32 → Int32 → (Nat → Int32) → (Nat → Int32) → (Nat → Int32) → (Nat → Int32) → (Nat → Int32) → Int32 → (Nat → Int32) → Int32 → Int32 → Int32 → (Nat → Int32) → (Nat → Int32) → Int32 → (Nat → Int32) → Prop
theorem c_text {f : Nat → Int32} {n : Nat} (hn : n ≤ 1200) {lg fp tkc tks tko csz csec ch pc pf pu pch pg lc lgu lu lr ws rr rg rp gl : Int32} {tkk tkv tkp cst csa cso cud cstk lf lt l1 ls s1 wi rl rpa gr : Nat → Int32} {post : CTp}
    (hbad : pL (kd let_ (bt f n) n) (vd let_ (bt f n) n) = none → ∀ fp tkc tks tko tkk tkv tkp csz csec cst csa cso cud pc pf pu pch pg, post (-2) lg fp 0 tkc tks tko tkk tkv tkp csz csec ch cst csa cso cud cstk pc pf pu pch pg lc lgu lu lr lf lt l1 ls s1 ws wi rr rg rp rl rpa gl gr)
    (hok : ∀ c g σ, pL (kd let_ (bt f n) n) (vd let_ (bt f n) n) = some (c, g, σ) → LO σ.2.2 c g σ.2.1 → ∀ tkc tks tko tkk tkv tkp csz csec ch cst csa cso cud cstk pc pf pu pch pg lc lgu lu lr lf lt l1 ls s1 ws wi rr rg rp rl rpa gl gr, CI σ.2.2 c g σ.2.1 lc lgu lu lr lf lt l1 ls rr rg rp rl rpa gl gr → post 1 1 (-1) 0 tkc tks tko tkk tkv tkp csz csec ch cst csa cso cud cstk pc pf pu pch pg lc lgu lu lr lf lt l1 ls s1 ws wi rr rg rp rl rpa gl gr) :
    wp_LI_text lg fp (nI n) f tkc tks tko tkk tkv tkp csz csec ch cst csa cso cud cstk pc pf pu pch pg lc lgu lu lr lf lt l1 ls s1 ws wi rr rg rp rl rpa gl gr post := by
  refine q_readAll hn (fun m ks vs ps T => ?_)
  have T' := TI_of T
  have F := TI_facts T'
  refine cs_readLoop (a6 := pch) T' (fun e ch gu sz sec st sa so ud i u _ _ _ => bn_t rfl (q_placeAt_any (fun r => hbad e _ _ _ _ _ _ _ _ _ _ _ _ _ _ _ _ _ _))) (fun c g σ e h1 h6 h12 hu => ?_)
  obtain ⟨hS, h0, h1', hw, hgd, _, _, _⟩ := pL_told F.1 F.2.1 F.2.2 e
  intro sz sec st sa so ud hsec hsz hs1 hcd
  refine bn_f (by decide) (c_load hcd (by omega) hS h0 h1' hw hgd h6 h12 (fun h2 st2 fa tu f1 sr row hfa hT hR => ?_))
  refine c_explore hS h6 h12 hT hR hfa (fun fa2 s1 ws wi p rl rpa hF hL hp => c_sift hS h6 h12 hT hF (fun ro hro => ?_))
  exact hok c g σ e ⟨hS, h1, h6, h12, hu⟩ _ _ _ _ _ _ _ _ _ _ _ _ _ _ _ _ _ _ _ _ _ _ _ _ _ _ _ _ _ _ _ _ _ _ _ _ _ ⟨rfl, rfl, rfl, rfl, hF, hT, hR, hL, rfl, rfl, ⟨p, hp, rfl⟩, rfl, hro⟩
/-- the reference's rows, when it was given the loop: l is the loop's place -/
def RB (l : Nat) (O : List Nat) (ac nm : Nat → Int32) : Prop := ∀ k, k < O.length → ac (1000 * l + k) = nI (AK (O.getD k 0)) ∧ nm (1000 * l + k) = nI (AV (O.getD k 0))
def RI (l : Nat) (S : Nat → Option (List Nat)) (c g u : Nat) (kb : Int32) (ac nm bg gl rk cc wh be gc gs uc nx iB iG lv hg ro : Nat → Int32) : Prop :=
  l < 2 ∧ (∃ O : List Nat, O.length ≤ 995 ∧ RB l O ac nm ∧ ROk l l S c g O bg gl rk wh be gs) ∧ cc l = nI c ∧ gc l = nI g ∧ uc l = nI u ∧ RSt S c g kb nx iB iG lv hg ro
theorem wA_same (φ : Nat → Nat) : ∀ (O : List Nat) (f : Nat → Int32) (a : Nat), (∀ k, k < O.length → f (a + k) = nI (φ (O.getD k 0))) → wA φ O f a = f
  | [], f, a, h => rfl
  | x :: O, f, a, h => by
    have h0 := h 0 (by rw [List.length_cons]; omega)
    have e : upd f a (nI (φ x)) = f := by
      funext j
      by_cases hj : j = a
      · subst hj; rw [pk_us]; exact h0.symm
      · exact pk_un hj
    show wA φ O (upd f a (nI (φ x))) (a + 1) = f
    rw [e]
    refine wA_same φ O f (a + 1) (fun k hk => ?_)
    have := h (k + 1) (by rw [List.length_cons]; omega)
    rw [show a + 1 + k = a + (k + 1) by omega]
    exact this
theorem RLo_RI {l : Nat} {S : Nat → Option (List Nat)} {c g u : Nat} {kb : Int32} {ac nm bg gl rk cc wh be gc gs uc nx iB iG lv hg ro : Nat → Int32} (h : RI l S c g u kb ac nm bg gl rk cc wh be gc gs uc nx iB iG lv hg ro) : RLo l S c g ac nm bg gl rk cc wh be gc gs := by
  obtain ⟨hl, ⟨O, hO, hB, hR⟩, h1, h2, _, _⟩ := h
  have := RLo_of (A0 := ac) (N0 := nm) hO (show l < 3 by omega) h1 h2 hR
  rw [wA_same AK O ac _ (fun k hk => (hB k hk).1), wA_same AV O nm _ (fun k hk => (hB k hk).2)] at this
  exact this
theorem RB_new (l : Nat) (O : List Nat) (A0 N0 : Nat → Int32) : RB l O (wA AK O A0 (1000 * l)) (wA AV O N0 (1000 * l)) := fun k hk => ⟨wA_in AK O A0 _ k hk, wA_in AV O N0 _ k hk⟩
theorem RB_other {l b : Nat} {O P : List Nat} {ac nm : Nat → Int32} (hb : b ≠ l) (hO : O.length ≤ 995) (hP : P.length ≤ 995) (h : RB l O ac nm) : RB l O (wA AK P ac (1000 * b)) (wA AV P nm (1000 * b)) := fun k hk => by
  rw [wA_lo AK P ac _ _ (by omega), wA_lo AV P nm _ _ (by omega)]
  exact h k hk
theorem ROk_other {l b c g : Nat} {S : Nat → Option (List Nat)} {O : List Nat} {bg0 gl0 rk0 cc0 wh0 be0 gc0 gs0 bg gl rk cc wh be gc gs : Nat → Int32} (hb : b ≠ l) (hc : c ≤ 6) (hg : g ≤ 12) (hF : FRm b bg0 gl0 rk0 cc0 wh0 be0 gc0 gs0 bg gl rk cc wh be gc gs) (h : ROk l l S c g O bg0 gl0 rk0 wh0 be0 gs0) : ROk l l S c g O bg gl rk wh be gs := by
  obtain ⟨h1, h2, h3, h4, h5, h6⟩ := h
  have f1 := hF.1 l (Ne.symm hb)
  refine ⟨by rw [f1.1]; exact h1, by rw [f1.2.1]; exact h2, by rw [f1.2.2]; exact h3, fun g' hg' => ?_, fun c' hc' => ?_, fun c' hc' v hv => ?_⟩
  · rw [hF.2.2.2 _ (by omega)]; exact h4 g' hg'
  · rw [hF.2.1.2.1 _ (by omega)]; exact h5 c' hc'
  · rw [hF.2.1.2.2 _ (by omega)]; exact h6 c' hc' v hv
theorem RI_other {l b c g u : Nat} {S : Nat → Option (List Nat)} {P : List Nat} {kb : Int32} {ac nm bg0 gl0 rk0 cc0 wh0 be0 gc0 gs0 bg gl rk cc wh be gc gs uc nx iB iG lv hg ro : Nat → Int32} (hb : b ≠ l) (hc : c ≤ 6) (hg12 : g ≤ 12) (hP : P.length ≤ 995) (hF : FRm b bg0 gl0 rk0 cc0 wh0 be0 gc0 gs0 bg gl rk cc wh be gc gs) (h : RI l S c g u kb ac nm bg0 gl0 rk0 cc0 wh0 be0 gc0 gs0 uc nx iB iG lv hg ro) : RI l S c g u kb (wA AK P ac (1000 * b)) (wA AV P nm (1000 * b)) bg gl rk cc wh be gc gs uc nx iB iG lv hg ro := by
  obtain ⟨hl, ⟨O, hO, hB, hR⟩, h1, h2, h3, h4⟩ := h
  exact ⟨hl, ⟨O, hO, RB_other hb hO hP hB, ROk_other hb hc hg12 hF hR⟩, by rw [hF.2.1.1 l (Ne.symm hb)]; exact h1, by rw [hF.2.2.1 l (Ne.symm hb)]; exact h2, h3, h4⟩
abbrev RTp := Int32 → Int32 → Int32 → Int32 → Int32 → Int32 → Int32 → Int32 → Int32 → Int32 → Int32 → Int32 → Int32 → Int32 → Int32 → Int32 → (Nat → Int32) → (Nat → Int32) → (Nat → Int32) → (Nat → Int32) → (Nat → Int32) → (Nat → Int32) → (Nat → Int32) → (Nat → Int32) → (Nat → Int32) → (Nat → Int32) → (Nat → Int32) → (Nat → Int32) → (Nat → Int32) → (Nat → Int32) → (Nat → Int32) → (Nat → Int32) → (Nat → Int32) → (Nat → Int32) → (Nat → Int32) → (Nat → Int32) → (Nat → Int32) → Prop
theorem r_text {f : Nat → Int32} {n l : Nat} (hn : n ≤ 1200) (hl : l < 2) {ml : Int32} (hml : (¬ ml = 0 ∧ l = 0) ∨ (ml = 0 ∧ l = 1)) {at0 tk0 tp0 nu0 sg0 bd0 fp0 pl0 bk0 un0 op0 pd0 kb0 : Int32} {ac nm ct pile bg gl rk cc wh be gc gs uc st nx iB iG lv qu hg ro : Nat → Int32} {post : RTp}
    (hbad : pL (rK f n) (rV f n) = none → ∀ (O : List Nat) at1 tk tp nu sg fp un op pd ct pile bg' gl' rk' cc' wh' be' gc' gs', O.length ≤ 995 → FRm l bg gl rk cc wh be gc gs bg' gl' rk' cc' wh' be' gc' gs' → post (-2) 0 at1 tk tp nu sg 1 fp fp (nI l) un op pd ml kb0 (wA AK O ac (1000 * l)) (wA AV O nm (1000 * l)) ct pile bg' gl' rk' cc' wh' be' gc' gs' uc st nx iB iG lv qu hg ro)
    (hok : ∀ c g σ, pL (rK f n) (rV f n) = some (c, g, σ) → LO σ.2.2 c g σ.2.1 → ∀ at1 tk tp nu sg fp op pd kb ac nm ct pile bg gl rk cc wh be gc gs uc st nx iB iG lv qu hg ro, RI l σ.2.2 c g σ.2.1 kb ac nm bg gl rk cc wh be gc gs uc nx iB iG lv hg ro → post 1 0 at1 tk tp nu sg 0 fp (-1) (nI l) (nI σ.2.1) op pd (nI l) kb ac nm ct pile bg gl rk cc wh be gc gs uc st nx iB iG lv qu hg ro) :
    wp_Md_text (nI n) at0 tk0 tp0 nu0 sg0 bd0 fp0 pl0 bk0 un0 op0 pd0 ml kb0 f ac nm ct pile bg gl rk cc wh be gc gs uc st nx iB iG lv qu hg ro post := by
  have key : wp_Md_text_J12 (nI l) (nI n) at0 tk0 tp0 nu0 sg0 bd0 fp0 pl0 bk0 un0 op0 pd0 ml kb0 f ac nm ct pile bg gl rk cc wh be gc gs uc st nx iB iG lv qu hg ro post := by
    refine ⟨vp_in_nI (by omega) (by decide), ?_⟩
    rw [nI_clamp (show l < 2 ^ 31 by omega)]
    refine r_readLoop hn hl (fun e j u O op pd at1 tk tp nu sg fp pile bg' gl' rk' cc' wh' be' gc' gs' hr hO hF => ?_) (fun c g σ O bg' gl' rk' cc' wh' be' gc' gs' e h1 h6 h12 hu hO hcc hgc hR hF j op pd at1 tk tp nu sg fp pile hr => ?_)
    · exact br_f (by decide) (br_f (by decide) (hbad e O _ _ _ _ _ _ _ _ _ _ _ _ _ _ _ _ _ _ _ hO hF))
    · have hm := rk_end (f := f) hn
      obtain ⟨hS, _, _, _, _, _, _, _⟩ := pL_told (K := rK f n) (V := rV f n) (m := n) hm (fun j => (rk_facts f n j).2.1) (fun j => (rk_facts f n j).2.2.1) e
      have hRL := RLo_of (A0 := ac) (N0 := nm) hO (show l < 3 by omega) hcc hgc hR
      refine br_t rfl (br_t rfl ⟨vp_in_nI hl (by decide), r_goThrough hS hl h6 h12 hRL (fun kb st nx iB iG lv qu h0 ro hSt => ?_)⟩)
      exact hok c g σ e ⟨hS, h1, h6, h12, hu⟩ _ _ _ _ _ _ _ _ _ _ _ _ _ _ _ _ _ _ _ _ _ _ _ _ _ _ _ _ _ _ ⟨hl, ⟨O, hO, RB_new l O ac nm, hR⟩, hcc, hgc, pk_us, hSt⟩
  rcases hml with ⟨h, rfl⟩ | ⟨h, rfl⟩
  · exact bn_f h key
  · exact bn_t h key
