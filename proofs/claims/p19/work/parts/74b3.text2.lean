/-! text once more: the class's rows, with the shortest run exact -/
def CI2 (S : Nat → Option (List Nat)) (c g u : Nat) (lc lgu lu lr : Int32) (lf lt l1 ls : Nat → Int32) (rr rg rp : Int32) (rl rpa : Nat → Int32) (gl : Int32) (gr : Nat → Int32) : Prop :=
  lc = nI c ∧ lgu = nI g ∧ lu = nI u ∧ lr = b01 (S 2).isSome ∧ FaL S c g lf (come S c).2 ∧ Tu S c lt ∧ Sr S c l1 ls ∧ LvR rl (come S c).2 ∧ rr = nI (come S c).1.length ∧ rg = tI (grl S c) ∧ PaR S c rp rpa ∧ gl = nI (kept S c g).1 ∧ Rc gr (kept S c g).2
theorem c_explore2 {S : Nat → Option (List Nat)} {c g : Nat} (hS : SOk S) (hc6 : c ≤ 6) (hg : g ≤ 12) {fa tu f sr s1 wi rl rpa : Nat → Int32} {ws rr rg rp : Int32} (hT : Tu S c tu) (hR : Sr S c f sr) (hf : ∀ t, t < 4096 → fa t = nI (fc S c g t)) {post : (Nat → Int32) → (Nat → Int32) → Int32 → (Nat → Int32) → Int32 → Int32 → Int32 → (Nat → Int32) → (Nat → Int32) → Prop} (h : ∀ fa s1 ws wi rp rl rpa, FaL S c g fa (come S c).2 → LvR rl (come S c).2 → PaR S c rp rpa → post fa s1 ws wi (nI (come S c).1.length) (tI (grl S c)) rp rl rpa) : wp_Runs_explore (nI c) fa tu f sr s1 ws wi rr rg rp rl rpa post :=
  c_findLevels hS hc6 hg hT hf (fun fa wk lv hq => c_measure hS hc6 hg hq.2.2 hR (fun d s1 w it hl hd => c_findPath hS hc6 hg hq.2.2 hT hd hl (fun p pa hp => h fa s1 w it p lv pa hq.2.2 hq.2.1 hp)))
theorem c_text2 {f : Nat → Int32} {n : Nat} (hn : n ≤ 1200) {lg fp tkc tks tko csz csec ch pc pf pu pch pg lc lgu lu lr ws rr rg rp gl : Int32} {tkk tkv tkp cst csa cso cud cstk lf lt l1 ls s1 wi rl rpa gr : Nat → Int32} {post : CTp}
    (hbad : pL (kd let_ (bt f n) n) (vd let_ (bt f n) n) = none → ∀ fp tkc tks tko tkk tkv tkp csz csec cst csa cso cud pc pf pu pch pg, post (-2) lg fp 0 tkc tks tko tkk tkv tkp csz csec ch cst csa cso cud cstk pc pf pu pch pg lc lgu lu lr lf lt l1 ls s1 ws wi rr rg rp rl rpa gl gr)
    (hok : ∀ c g σ, pL (kd let_ (bt f n) n) (vd let_ (bt f n) n) = some (c, g, σ) → LO σ.2.2 c g σ.2.1 → ∀ tkc tks tko tkk tkv tkp csz csec ch cst csa cso cud cstk pc pf pu pch pg lc lgu lu lr lf lt l1 ls s1 ws wi rr rg rp rl rpa gl gr, CI2 σ.2.2 c g σ.2.1 lc lgu lu lr lf lt l1 ls rr rg rp rl rpa gl gr → post 1 1 (-1) 0 tkc tks tko tkk tkv tkp csz csec ch cst csa cso cud cstk pc pf pu pch pg lc lgu lu lr lf lt l1 ls s1 ws wi rr rg rp rl rpa gl gr) :
    wp_LI_text lg fp (nI n) f tkc tks tko tkk tkv tkp csz csec ch cst csa cso cud cstk pc pf pu pch pg lc lgu lu lr lf lt l1 ls s1 ws wi rr rg rp rl rpa gl gr post := by
  refine q_readAll hn (fun m ks vs ps T => ?_)
  have T' := TI_of T
  have F := TI_facts T'
  refine cs_readLoop (a6 := pch) T' (fun e ch gu sz sec st sa so ud i u _ _ _ => bn_t rfl (q_placeAt_any (fun r => hbad e _ _ _ _ _ _ _ _ _ _ _ _ _ _ _ _ _ _))) (fun c g σ e h1 h6 h12 hu => ?_)
  obtain ⟨hS, h0, h1', hw, hgd, _, _, _⟩ := pL_told F.1 F.2.1 F.2.2 e
  intro sz sec st sa so ud hsec hsz hs1 hcd
  refine bn_f (by decide) (c_load hcd (by omega) hS h0 h1' hw hgd h6 h12 (fun h2 st2 fa tu f1 sr row hfa hT hR => ?_))
  refine c_explore2 hS h6 h12 hT hR hfa (fun fa2 s1 ws wi p rl rpa hF hL hp => c_sift hS h6 h12 hT hF (fun ro hro => ?_))
  exact hok c g σ e ⟨hS, h1, h6, h12, hu⟩ _ _ _ _ _ _ _ _ _ _ _ _ _ _ _ _ _ _ _ _ _ _ _ _ _ _ _ _ _ _ _ _ _ _ _ _ _ ⟨rfl, rfl, rfl, rfl, hF, hT, hR, hL, rfl, rfl, hp, rfl, hro⟩
