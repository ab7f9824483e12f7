/-! ask, in a pair -/
theorem pQ_eq (K V : Nat → Nat) : pQ K V = match pC K V 8 0 0 with | none => none | some (j, u, o) => if K j = 256 then some (j + 1, u, upS (fun _ => none) 0 o) else none := by
  unfold pQ sct
  show (match pC K V 8 0 0 with | none => none | some (i, u, o) => some (i, u, upS (fun _ => none) 0 o)).bind _ = _
  cases pC K V 8 0 0 with
  | none => rfl
  | some x =>
    obtain ⟨j, u, o⟩ := x
    rfl
section AX
variable {S : Nat → Option (List Nat)} {c g : Nat}
theorem vl_b {v : Nat} (h : v < 2) : nI v = b01 (decide (v = 1)) := by
  rcases (show v = 0 ∨ v = 1 by omega) with e | e <;> subst e <;> rfl
theorem c_ask_x {f : Nat → Int32} {n k : Nat} (hn : n ≤ 1200) (hk : k ≤ 4) (hS : SOk S) (hc : c ≤ 6) (hg : g ≤ 12) {tkc tks tko csz csec ch pc pf pu ws : Int32} {tkk tkv tkp cst csa cso cud cstk lf lt l1 ls s1 s2 wi : Nat → Int32} (hF : FaL S c g lf (come S c).2) (hT : Tu S c lt) (hR : Sr S c l1 ls) {post : CAp} (hbad : pQ (kd let_ (bt f n) n) (vd let_ (bt f n) n) = none → ∀ tkc tks tko tkk tkv tkp csz csec ch cst csa cso cud cstk pc pf pu s1 s2 ws wi, post (-2) 0 tkc tks tko tkk tkv tkp csz csec ch cst csa cso cud cstk pc pf pu s1 s2 ws wi) (hok : ∀ (σ : LoS) o, pQ (kd let_ (bt f n) n) (vd let_ (bt f n) n) = some σ → σ.2.2 0 = some o → ∀ r tkc tks tko tkk tkv tkp csz csec ch cst csa cso cud cstk pc pf pu s1 s2 ws wi, AskR S c (fun t => decide (vl t o = 1)) k r → post r 0 tkc tks tko tkk tkv tkp csz csec ch cst csa cso cud cstk pc pf pu s1 s2 ws wi) : wp_LI_ask (nI k) 1 (nI n) f tkc tks tko tkk tkv tkp csz csec ch cst csa cso cud cstk pc pf pu (nI c) lf lt l1 ls s1 s2 ws wi post := by
  refine br_f (by decide) (br_f (nI_pos (by omega)) (br_t (show nI k ≤ nI 4 from nI_le hk (by decide)) (q_readAll hn (fun m ks vs ps T => ?_))))
  have T' := TI_of T
  have F := TI_facts T'
  unfold wp_Tape_clear
  refine cs_readQuestion T' (fun e sz sec st sa so ud i u _ _ _ => bn_t rfl (hbad e _ _ _ _ _ _ _ _ _ _ _ _ _ _ _ _ _ _ _ _ _)) (fun σ e hu => ?_)
  intro sz sec st sa so ud hsec hsz hs1 hcd
  obtain ⟨hS2, o, ho⟩ := pQ_told F.1 F.2.1 F.2.2 e
  refine bn_f (by decide) ?_
  show wp_Code_tabulate (nI 0) _ _ _ _ _ _ _ _
  refine c_tab hcd (by omega) (sec := 0) (by decide) ho (fun x hx => Okx_lt ((hS2 0 o ho).1 x hx)) (fun s _ => ((hS2 0 o ho).2 s).1) (fun hh st row hrow => ?_)
  exact c_answer hS hc hg hF hT hR (vb := fun t => decide (vl t o = 1)) (fun t ht => (hrow t ht).trans (vl_b ((hS2 0 o ho).2 t).2)) hk (fun r s1 s2 ws wi hA => hok σ o e ho _ _ _ _ _ _ _ _ _ _ _ _ _ _ _ _ _ _ _ _ _ _ hA)
theorem r_ask_x {f : Nat → Int32} {n l k : Nat} (hn : n ≤ 1200) (hk : k ≤ 4) (hl : l < 2) (hS : SOk S) (hc : c ≤ 6) {nr lv : Nat → Int32} (hN : NxR S c nr) (hL : LvR lv (come S c).2) {at0 tk0 tp0 nu0 sg0 bd0 fp0 bk0 un0 op0 pd0 : Int32} {ac nm ct pile st mk0 : Nat → Int32} {post : RAp} (hbad : pQ (rK f n) (rV f n) = none → ∀ (O : List Nat) at1 tk tp nu sg bd fp bk un op pd ct pile st mk1, O.length ≤ 995 → post (-2) 0 at1 tk tp nu sg bd fp bk un op pd (wA AK O ac (1000 * 2)) (wA AV O nm (1000 * 2)) ct pile st mk1) (hok : ∀ (σ : LoS) o, pQ (rK f n) (rV f n) = some σ → σ.2.2 0 = some o → ∀ (O : List Nat) r at1 tk tp nu sg bd fp bk un op pd ct pile st mk1, O.length ≤ 995 → AskR S c (fun t => decide (vl t o = 1)) k r → post r 0 at1 tk tp nu sg bd fp bk un op pd (wA AK O ac (1000 * 2)) (wA AV O nm (1000 * 2)) ct pile st mk1) : wp_Md_ask (nI k) (nI n) at0 tk0 tp0 nu0 sg0 bd0 fp0 bk0 un0 op0 pd0 (nI l) f ac nm ct pile st nr lv mk0 post := by
  refine br_f (nI_pos (by omega)) (br_f (nI_pos (by omega)) (br_t (show nI k ≤ nI 4 from nI_le hk (by decide)) ⟨vp_in_nI (n := 2) (by decide) (by decide), rt_new hn (Nat.zero_le n) (j := 0) rfl (fun a t p nu sg hr => ?_)⟩))
  have hp := rp_le f hn 0
  have hq := pQ_eq (rK f n) (rV f n)
  refine r_cond (b := 2) (A0 := ac) (N0 := nm) (C0 := ct) (O := []) (j := 0) (u := 0) hn (by decide) (Nat.zero_le _) (by decide) ?_ ?_ hr
  · intro e j u O op pl a t p nu sg fp pile hr hO
    rw [e] at hq
    have := fun a t p nu sg bd fp => hbad hq O a t p nu sg bd fp 2 (nI u) op pl (upd ct 2 (nI O.length)) pile st mk0 hO
    exact br_c (fun _ => aJ1 (this _ _ _ _ _ _ _)) (fun _ => bn_f (by decide) (aJ1 (this _ _ _ _ _ _ _)))
  · intro j u o e hu hj hu1 hb op pl a t p nu sg fp pile hr
    have hp2 := rp_le f hn j
    have hO : ([] ++ o ++ [301]).length ≤ 995 := by omega
    have htok := (rt_is3 hr).2.2.2.2.1
    rw [e] at hq
    have hq : pQ (rK f n) (rV f n) = if rK f n j = 256 then some (j + 1, u, upS (fun _ => none) 0 o) else none := hq
    refine br_c (fun q0 => ?_) (fun q0 => bn_t rfl (aJ1 ?_))
    · rw [if_pos (htok.mp q0)] at hq
      refine aJ0x (vb := fun t => decide (vl t o = 1)) hS hc hN hL hk (fun t ht st post hpost => ?_) (fun r st mk1 hA => hok _ o hq (show upS (fun _ => none) 0 o 0 = some o from upS_eq) _ _ _ _ _ _ _ _ _ _ _ _ _ _ _ _ _ hO hA)
      have hA := AtM_of (A0 := ac) (N0 := nm) hO (show 2 < 3 by decide) (At_0 o)
      have hE := (pC_ev (K := rK f n) (V := rV f n) (s := t) (fun j => (rk_facts f n j).2.1) (fun j => (rk_facts f n j).2.2.1) 8 _ _ _ _ _ e).2
      have hV := Ev_vl hE (by omega)
      refine r_work (p := 1000 * 2 + 0) ht hA.1 hA.2.1 hA.2.2 (pC_ok (fun j => (rk_facts f n j).2.1) (fun j => (rk_facts f n j).2.2.1) 8 _ _ _ _ _ e) hV.1 (fun st' => ?_)
      rw [vl_b hV.2]
      exact hpost _
    · rw [if_neg (fun z => q0 (htok.mpr z))] at hq
      exact hbad hq ([] ++ o ++ [301]) a t p nu sg 1 p 2 (nI u) op pl (upd ct 2 (nI ([] ++ o ++ [301]).length)) pile st mk0 hO
end AX
section PX
variable {lg lc lgu lu lr rr rg rp gl ml kb : Int32} {lf lt l1 ls rl rpa gr ac nm bg go rk cc wh be gc gs uc nr iB iG lv hg ro : Nat → Int32}
theorem x_ask {x ts ms : Int32} {tb mt : Nat → Int32} (T : Tp ts tb ms mt) (G : Gn lg lc lgu lu lr lf lt l1 ls rr rg rp rl rpa gl gr ml kb ac nm bg go rk cc wh be gc gs uc nr iB iG lv hg ro) {tkc tks tko csz csec ch pc pf pu ws : Int32} {tkk tkv tkp cst csa cso cud cstk s1 s2 wi : Nat → Int32} {at0 tk0 tp0 nu0 sg0 bd0 fp0 bk0 un0 op0 pd0 : Int32} {ct pile st mk0 : Nat → Int32} {Q1 : Prop} {post : PAp} (h1 : Q1)
    (h : ∀ r ts tkc tks tko tkk tkv tkp csz csec ch cst csa cso cud cstk pc pf pu s1 s2 ws wi ms at0 tk0 tp0 nu0 sg0 bd0 fp0 bk0 un0 op0 pd0 ac nm ct pile st mk0, Tp ts tb ms mt → Gn lg lc lgu lu lr lf lt l1 ls rr rg rp rl rpa gl gr ml kb ac nm bg go rk cc wh be gc gs uc nr iB iG lv hg ro → post r ts tkc tks tko tkk tkv tkp csz csec ch cst csa cso cud cstk pc pf pu s1 s2 ws wi r ms at0 tk0 tp0 nu0 sg0 bd0 fp0 bk0 un0 op0 pd0 ac nm ct pile st mk0) :
    wp_LI_ask x lg ts tb tkc tks tko tkk tkv tkp csz csec ch cst csa cso cud cstk pc pf pu lc lf lt l1 ls s1 s2 ws wi (fun r ts tkc tks tko tkk tkv tkp csz csec ch cst csa cso cud cstk pc pf pu s1 s2 ws wi => Q1 ∧ wp_Md_ask x ms at0 tk0 tp0 nu0 sg0 bd0 fp0 bk0 un0 op0 pd0 ml mt ac nm ct pile st nr lv mk0 (fun r' ms at0 tk0 tp0 nu0 sg0 bd0 fp0 bk0 un0 op0 pd0 ac nm ct pile st mk0 => post r ts tkc tks tko tkk tkv tkp csz csec ch cst csa cso cud cstk pc pf pu s1 s2 ws wi r' ms at0 tk0 tp0 nu0 sg0 bd0 fp0 bk0 un0 op0 pd0 ac nm ct pile st mk0)) := by
  have G0 := G
  rcases G with ⟨rfl, rfl⟩ | ⟨rfl, l, S, c, g, u, rfl, hLO, hCI, hRI⟩
  · exact br_t rfl ⟨h1, br_t (by decide) (h _ _ _ _ _ _ _ _ _ _ _ _ _ _ _ _ _ _ _ _ _ _ _ _ _ _ _ _ _ _ _ _ _ _ _ _ _ _ _ _ _ T G0)⟩
  · have out : post (-1) ts tkc tks tko tkk tkv tkp csz csec ch cst csa cso cud cstk pc pf pu s1 s2 ws wi (-1) ms at0 tk0 tp0 nu0 sg0 bd0 fp0 bk0 un0 op0 pd0 ac nm ct pile st mk0 := h _ _ _ _ _ _ _ _ _ _ _ _ _ _ _ _ _ _ _ _ _ _ _ _ _ _ _ _ _ _ _ _ _ _ _ _ _ _ _ _ _ T G0
    have hl0 := nI_pos (n := l) (by have := hRI.1; omega)
    by_cases q0 : x < 0
    · exact br_f (by decide) (br_t q0 ⟨h1, br_f hl0 (br_t q0 out)⟩)
    · by_cases q4 : x ≤ 4
      · obtain ⟨n, hn, rfl, rfl, rfl⟩ := T
        obtain ⟨k, hk, rfl⟩ := nI_of q0
        have hk4 : k ≤ 4 := (nI_leI hk (by decide)).mp q4
        have hCI0 := hCI
        have hRI0 := hRI
        obtain ⟨rfl, _, _, _, hF, hT, hSr, _⟩ := hCI
        obtain ⟨hl, _, _, _, _, hN, _, hL, _⟩ := hRI
        have hs := (read_same (f := mt) (f2 := mt) hn (fun _ _ => rfl)).2
        have fin : ∀ (O : List Nat), O.length ≤ 995 → Gn 1 (nI c) lgu lu lr lf lt l1 ls rr rg rp rl rpa gl gr (nI l) kb (wA AK O ac (1000 * 2)) (wA AV O nm (1000 * 2)) bg go rk cc wh be gc gs uc nr iB iG lv hg ro := fun O hO => Or.inr ⟨rfl, l, S, c, g, u, rfl, hLO, hCI0, RI_other (b := 2) (by omega) hLO.2.2.1 hLO.2.2.2.1 hO (FRm_rfl 2 _ _ _ _ _ _ _ _) hRI0⟩
        have T0 : Tp 0 mt 0 mt := ⟨0, by decide, rfl, rfl, rfl⟩
        refine c_ask_x hn hk4 hLO.1 hLO.2.2.1 hLO.2.2.2.1 hF hT hSr (fun e tkc tks tko tkk tkv tkp csz csec ch cst csa cso cud cstk pc pf pu s1 s2 ws wi => ⟨h1, ?_⟩) (fun σ o e ho r tkc tks tko tkk tkv tkp csz csec ch cst csa cso cud cstk pc pf pu s1 s2 ws wi hA => ⟨h1, ?_⟩)
        · refine r_ask_x hn hk4 hl hLO.1 hLO.2.2.1 hN hL (fun _ O at1 tk tp nu sg bd fp bk un op pd ct pile st mk1 hO => h _ _ _ _ _ _ _ _ _ _ _ _ _ _ _ _ _ _ _ _ _ _ _ _ _ _ _ _ _ _ _ _ _ _ _ _ _ _ _ _ _ T0 (fin O hO)) (fun σ o e2 => ?_)
          rw [← hs, e] at e2; cases e2
        · refine r_ask_x hn hk4 hl hLO.1 hLO.2.2.1 hN hL (fun e2 => ?_) (fun σ2 o2 e2 ho2 O r' at1 tk tp nu sg bd fp bk un op pd ct pile st mk1 hO hA2 => ?_)
          · rw [← hs, e] at e2; cases e2
          · rw [← hs, e] at e2
            cases e2
            rw [ho] at ho2
            cases ho2
            rw [AskR_eq hk4 hA2 hA]
            exact h _ _ _ _ _ _ _ _ _ _ _ _ _ _ _ _ _ _ _ _ _ _ _ _ _ _ _ _ _ _ _ _ _ _ _ _ _ _ _ _ _ T0 (fin O hO)
      · exact br_f (by decide) (br_f q0 (br_f q4 ⟨h1, br_f hl0 (br_f q0 (br_f q4 out))⟩))
end PX
