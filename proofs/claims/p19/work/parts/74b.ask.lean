/-! ask: it reads alike, ends, and clears the tape of both -/
section AS
variable {nx : Nat → Int32}
theorem aj {x1 x2 s0 : Int32} {s : Nat} (hs : s < 4096) {ac nm st lv mk0 : Nat → Int32} {kb : Int32 → (Nat → Int32) → (Nat → Int32) → Prop} {k : (Nat → Int32) → (Nat → Int32) → Prop} (h : ∀ mk1, kb (nI (s + 1)) st mk1) : wp_Md_ask_J104 x1 x2 (nI s) s0 ac nm st lv mk0 kb k := by
  have hv : vp_in (nI s) 4096 := vp_in_nI hs (by decide)
  unfold wp_Md_ask_J104
  rw [nI_1]
  exact bn_c (fun _ => bn_c (fun _ => ⟨hv, h _⟩) (fun _ => bn_c (fun _ => ⟨hv, h _⟩) (fun _ => ⟨hv, h _⟩))) (fun _ => br_c (fun _ => ⟨hv, h _⟩) (fun _ => ⟨hv, br_c (fun _ => ⟨hv, h _⟩) (fun _ => ⟨hv, h _⟩)⟩))
theorem a82 {x1 x2 : Int32} {ac nm lv : Nat → Int32} (hW : ∀ t, t < 4096 → ∀ (st : Nat → Int32) (post : Int32 → (Nat → Int32) → Prop), (∀ r st, post r st) → wp_Md_work x2 (nI t) ac nm st post) {K : (Nat → Int32) → (Nat → Int32) → Prop} (h : ∀ st mk0, K st mk0) : ∀ m s st mk0, s + m = 4096 → wp_Md_ask_L82 x1 x2 ac nm lv K (m + 1) (nI s) st mk0 := by
  intro m
  induction m with
  | zero =>
    intro s st mk0 hs
    have : s = 4096 := by omega
    subst this
    exact br_t (show nI 4096 ≤ nI 4096 from nI_le (Nat.le_refl _) (by decide)) (h _ _)
  | succ m ih =>
    intro s st mk0 hs
    refine br_f (show ¬ nI 4096 ≤ nI s from nI_ge (by omega) (by decide)) (hW s (by omega) st _ (fun r st2 => ?_))
    exact bn_c (fun _ => aj (by omega) (fun mk1 => ih (s + 1) _ _ (by omega))) (fun _ => aj (by omega) (fun mk1 => ih (s + 1) _ _ (by omega)))
theorem a196 {x1 : Int32} {mk0 : Nat → Int32} {K : Int32 → Prop} (h : ∀ r, K r) : ∀ m s r, s + m = 4096 → wp_Md_ask_L196 x1 mk0 K (m + 1) r (nI s)
  | 0, s, r, hs => by
    have : s = 4096 := by omega
    subst this
    exact br_t (show nI 4096 ≤ nI 4096 from nI_le (Nat.le_refl _) (by decide)) (h _)
  | m + 1, s, r, hs => by
    have ih := fun r => a196 (x1 := x1) (mk0 := mk0) h m (s + 1) r (by omega)
    refine br_f (show ¬ nI 4096 ≤ nI s from nI_ge (by omega) (by decide)) ⟨vp_in_nI (by omega) (by decide), ?_⟩
    rw [nI_1]
    exact bn_c (fun _ => br_c (fun _ => fun _ _ => ih _) (fun _ => fun _ _ => ih _)) (fun _ => br_c (fun _ => fun _ _ => ih _) (fun _ => fun _ _ => ih _))
abbrev RAp := Int32 → Int32 → Int32 → Int32 → Int32 → Int32 → Int32 → Int32 → Int32 → Int32 → Int32 → Int32 → Int32 → (Nat → Int32) → (Nat → Int32) → (Nat → Int32) → (Nat → Int32) → (Nat → Int32) → (Nat → Int32) → Prop
theorem aJ0 (hx : NxB nx) {x1 x2 sz a t p nu sg fp bk un op pd : Int32} {ac nm ct pile st lv mk0 : Nat → Int32} (hW : ∀ t, t < 4096 → ∀ (st : Nat → Int32) (post : Int32 → (Nat → Int32) → Prop), (∀ r st, post r st) → wp_Md_work x2 (nI t) ac nm st post) {post : RAp} (h : ∀ r st mk0, post r 0 a t p nu sg 0 fp bk un op pd ac nm ct pile st mk0) : wp_Md_ask_J65 x1 x2 sz a t p nu sg 0 fp bk un op pd ac nm ct pile st nx lv mk0 post :=
  br_t rfl ⟨4097, a82 hW (fun st mk1 => br_c (fun _ => q_spread_a hx (fun f => ⟨4097, a196 (fun r => h _ _ _) 4096 0 0 rfl⟩)) (fun _ => bn_c (fun _ => bn_c (fun _ => ⟨4097, a196 (fun r => h _ _ _) 4096 0 0 rfl⟩) (fun _ => q_spreadAll_a hx (fun f => ⟨4097, a196 (fun r => h _ _ _) 4096 0 0 rfl⟩))) (fun _ => q_spread_a hx (fun f => ⟨4097, a196 (fun r => h _ _ _) 4096 0 0 rfl⟩)))) 4096 0 st mk0 rfl⟩
theorem aJ1 {x1 x2 sz a t p nu sg fp bk un op pd : Int32} {ac nm ct pile st lv mk0 : Nat → Int32} {post : RAp} (h : post (-2) 0 a t p nu sg 1 fp bk un op pd ac nm ct pile st mk0) : wp_Md_ask_J65 x1 x2 sz a t p nu sg 1 fp bk un op pd ac nm ct pile st nx lv mk0 post := br_f (by decide) h
theorem At_0 (o : List Nat) : At ([] ++ o ++ [301]) 0 o := by
  refine ⟨by simp, fun k hk => ?_⟩
  rw [Nat.zero_add]; rfl
theorem r_ask_in {f : Nat → Int32} {n l : Nat} (hn : n ≤ 1200) (hl : l < 2) (hx : NxB nx) {x : Int32} (h0 : ¬ x < 0) (h4 : x ≤ 4) {at0 tk0 tp0 nu0 sg0 bd0 fp0 bk0 un0 op0 pd0 : Int32} {ac nm ct pile st lv mk0 : Nat → Int32} {post : RAp} (h : ∀ (O : List Nat) r at1 tk tp nu sg bd fp bk un op pd ct pile st mk1, O.length ≤ 995 → post r 0 at1 tk tp nu sg bd fp bk un op pd (wA AK O ac (1000 * 2)) (wA AV O nm (1000 * 2)) ct pile st mk1) : wp_Md_ask x (nI n) at0 tk0 tp0 nu0 sg0 bd0 fp0 bk0 un0 op0 pd0 (nI l) f ac nm ct pile st nx lv mk0 post := by
  refine br_f (nI_pos (by omega)) (br_f h0 (br_t h4 ⟨vp_in_nI (n := 2) (by decide) (by decide), rt_new hn (Nat.zero_le n) (j := 0) rfl (fun a t p nu sg hr => ?_)⟩))
  have hp := rp_le f hn 0
  refine r_cond (b := 2) (A0 := ac) (N0 := nm) (C0 := ct) (O := []) (j := 0) (u := 0) hn (by decide) (Nat.zero_le _) (by decide) ?_ ?_ hr
  · intro e j u O op pl a t p nu sg fp pile hr hO
    have := fun a t p nu sg bd fp => h O (-2) a t p nu sg bd fp 2 (nI u) op pl (upd ct 2 (nI O.length)) pile st mk0 hO
    exact br_c (fun _ => aJ1 (this _ _ _ _ _ _ _)) (fun _ => bn_f (by decide) (aJ1 (this _ _ _ _ _ _ _)))
  · intro j u o e hu hj hu1 hb op pl a t p nu sg fp pile hr
    have hp2 := rp_le f hn j
    have hO : ([] ++ o ++ [301]).length ≤ 995 := by omega
    have := fun a t p nu sg bd fp => h ([] ++ o ++ [301]) (-2) a t p nu sg bd fp 2 (nI u) op pl (upd ct 2 (nI ([] ++ o ++ [301]).length)) pile st mk0 hO
    refine br_c (fun _ => aJ0 hx (fun t ht st post hpost => ?_) (fun r st mk1 => h _ _ _ _ _ _ _ _ _ _ _ _ _ _ _ _ _ hO)) (fun _ => bn_t rfl (aJ1 (this _ _ _ _ _ _ _)))
    have hA := AtM_of (A0 := ac) (N0 := nm) hO (show 2 < 3 by decide) (At_0 o)
    have hE := (pC_ev (K := rK f n) (V := rV f n) (s := t) (fun j => (rk_facts f n j).2.1) (fun j => (rk_facts f n j).2.2.1) 8 _ _ _ _ _ e).2
    have hV := Ev_vl hE (by omega)
    exact r_work (p := 1000 * 2 + 0) ht hA.1 hA.2.1 hA.2.2 (pC_ok (fun j => (rk_facts f n j).2.1) (fun j => (rk_facts f n j).2.2.1) 8 _ _ _ _ _ e) hV.1 (fun _ => hpost _ _)
theorem pQ_told {K V : Nat → Nat} {m : Nat} (hm : ∀ j, m ≤ j → K j = 256) (hV8 : ∀ j, K j = 258 → V j < 16) (hV9 : ∀ j, K j = 259 → V j < 3) {σ : LoS} (e : pQ K V = some σ) : SOk σ.2.2 ∧ ∃ o, σ.2.2 0 = some o := by
  unfold pQ at e
  obtain ⟨b, hb, he⟩ := bnd e
  have h := sC_SOk hm hV8 hV9 (s := 0) (by decide) hb SOk_0
  have h2 : σ.2 = b.2 := eat_S he
  rw [h2]
  exact h
abbrev CAp := Int32 → Int32 → Int32 → Int32 → Int32 → (Nat → Int32) → (Nat → Int32) → (Nat → Int32) → Int32 → Int32 → Int32 → (Nat → Int32) → (Nat → Int32) → (Nat → Int32) → (Nat → Int32) → (Nat → Int32) → Int32 → Int32 → Int32 → (Nat → Int32) → (Nat → Int32) → Int32 → (Nat → Int32) → Prop
theorem c_ask_in {f : Nat → Int32} {n c : Nat} (hn : n ≤ 1200) (hc : c ≤ 6) {x : Int32} (h0 : ¬ x < 0) (h4 : x ≤ 4) {tkc tks tko csz csec ch pc pf pu ws : Int32} {tkk tkv tkp cst csa cso cud cstk lf lt l1 ls s1 s2 wi : Nat → Int32} (hf : FiB l1) {post : CAp} (h : ∀ r tkc tks tko tkk tkv tkp csz csec ch cst csa cso cud cstk pc pf pu s1 s2 ws wi, post r 0 tkc tks tko tkk tkv tkp csz csec ch cst csa cso cud cstk pc pf pu s1 s2 ws wi) : wp_LI_ask x 1 (nI n) f tkc tks tko tkk tkv tkp csz csec ch cst csa cso cud cstk pc pf pu (nI c) lf lt l1 ls s1 s2 ws wi post := by
  refine br_f (by decide) (br_f h0 (br_t h4 (q_readAll hn (fun m ks vs ps T => ?_))))
  have T' := TI_of T
  have F := TI_facts T'
  unfold wp_Tape_clear
  refine cs_readQuestion T' (fun e sz sec st sa so ud i u _ _ _ => bn_t rfl (h _ _ _ _ _ _ _ _ _ _ _ _ _ _ _ _ _ _ _ _ _ _)) (fun σ e hu => ?_)
  intro sz sec st sa so ud hsec hsz hs1 hcd
  have hS := pQ_told F.1 F.2.1 F.2.2 e
  obtain ⟨hS, o, ho⟩ := hS
  refine bn_f (by decide) ?_
  show wp_Code_tabulate (nI 0) _ _ _ _ _ _ _ _
  exact c_tab hcd (by omega) (sec := 0) (by decide) ho (fun x hx => Okx_lt ((hS 0 o ho).1 x hx)) (fun s _ => ((hS 0 o ho).2 s).1) (fun hh st row _ => q_answer_a hc hf (fun r s1 s2 w it => h _ _ _ _ _ _ _ _ _ _ _ _ _ _ _ _ _ _ _ _ _ _))
end AS
