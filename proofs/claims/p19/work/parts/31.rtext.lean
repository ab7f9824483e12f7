/-! the reference's reading of a whole loop -/
abbrev LRp := Int32 → Int32 → Int32 → Int32 → Int32 → Int32 → Int32 → Int32 → Int32 → Int32 → (Nat → Int32) → (Nat → Int32) → (Nat → Int32) → (Nat → Int32) → (Nat → Int32) → (Nat → Int32) → (Nat → Int32) → (Nat → Int32) → (Nat → Int32) → (Nat → Int32) → (Nat → Int32) → (Nat → Int32) → Prop
def FRm (l : Nat) (bg0 gl0 rk0 cc0 wh0 be0 gc0 gs0 bg gl rk cc wh be gc gs : Nat → Int32) : Prop := (∀ i, i ≠ l → bg i = bg0 i ∧ gl i = gl0 i ∧ rk i = rk0 i) ∧ FCi l cc0 wh0 be0 cc wh be ∧ FGi l gc0 gs0 gc gs
def ROk (b l : Nat) (S : Nat → Option (List Nat)) (c g : Nat) (O : List Nat) (bg gl rk wh be gs : Nat → Int32) : Prop := (∃ o p, S 0 = some o ∧ bg l = nI (1000 * b + p) ∧ At O p o) ∧ (∃ o p, S 1 = some o ∧ gl l = nI (1000 * b + p) ∧ At O p o) ∧ ((S 2 = none → rk l = -1) ∧ ∀ o, S 2 = some o → ∃ p, rk l = nI (1000 * b + p) ∧ At O p o) ∧ RGi b l S g O gs ∧ RCi b l S c O wh be
def WLr (f : Nat → Int32) (n b l : Nat) (A0 N0 C0 bg0 gl0 rk0 cc0 wh0 be0 gc0 gs0 : Nat → Int32) (post : LRp) : Prop := ∀ j u O op pl a t p nu sg fp pile bg gl rk cc wh be gc gs, RT f n j a t p nu sg → O.length ≤ 995 → FRm l bg0 gl0 rk0 cc0 wh0 be0 gc0 gs0 bg gl rk cc wh be gc gs → post a t p nu sg 1 fp (nI u) op pl (wA AK O A0 (1000 * b)) (wA AV O N0 (1000 * b)) (upd C0 b (nI (O).length)) pile bg gl rk cc wh be gc gs
theorem upS_eq {S : Nat → Option (List Nat)} {s : Nat} {o : List Nat} : upS S s o s = some o := if_pos rfl
theorem chl_mono {K V : Nat → Nat} : ∀ k c σ c' (σ' : LoS), chl K V k c σ = some (c', σ') → c ≤ c'
  | 0, c, σ, c', σ', h => by simp only [chl, Option.some.injEq, Prod.mk.injEq] at h; omega
  | k + 1, c, σ, c', σ', h => by
    have h : (if K σ.1 = 261 then (cho K V c σ).bind (fun a => chl K V k (c + 1) a) else some (c, σ)) = some (c', σ') := h
    split at h
    · cases e : cho K V c σ with
      | none => rw [e] at h; cases h
      | some a =>
        rw [e] at h
        have := chl_mono k (c + 1) a c' σ' h
        omega
    · simp only [Option.some.injEq, Prod.mk.injEq] at h; omega
theorem RCi_mv {b l c : Nat} {S S' : Nat → Option (List Nat)} {O X : List Nat} {wh be : Nat → Int32} (h : RCi b l S c O wh be) (hS : ∀ s, 15 ≤ s → S' s = S s) : RCi b l S' c (O ++ X) wh be := by
  refine ⟨fun c' hc' => ?_, fun c' hc' v hv => ?_⟩
  · obtain ⟨ow, p, h1, h2, h3⟩ := h.1 c' hc'
    exact ⟨ow, p, by rw [hS _ (by omega)]; exact h1, h2, At_app h3⟩
  · rw [hS _ (by omega)]
    refine ⟨(h.2 c' hc' v hv).1, fun o q => ?_⟩
    obtain ⟨p, h1, h2⟩ := (h.2 c' hc' v hv).2 o q
    exact ⟨p, h1, At_app h2⟩
theorem RGi_mv {b l g : Nat} {S S' : Nat → Option (List Nat)} {O X : List Nat} {gs : Nat → Int32} (h : RGi b l S g O gs) (hS : ∀ s, 3 ≤ s → S' s = S s) : RGi b l S' g (O ++ X) gs := by
  intro g' hg'
  obtain ⟨o, p, h1, h2, h3⟩ := h g' hg'
  exact ⟨o, p, by rw [hS _ (by omega)]; exact h1, h2, At_app h3⟩
section RLT
variable {f : Nat → Int32} {n b l : Nat} {A0 N0 C0 bg0 gl0 rk0 cc0 wh0 be0 gc0 gs0 : Nat → Int32}
theorem j199B {post : LRp} (hw : WLr f n b l A0 N0 C0 bg0 gl0 rk0 cc0 wh0 be0 gc0 gs0 post) {j u : Nat} {O : List Nat} {op pl a t p nu sg fp : Int32} {pile bg gl rk cc wh be gc gs : Nat → Int32} (hr : RT f n j a t p nu sg) (hO : O.length ≤ 995) (hF : FRm l bg0 gl0 rk0 cc0 wh0 be0 gc0 gs0 bg gl rk cc wh be gc gs) : wp_Md_readLoop_J199 (nI l) (nI n) a t p nu sg 1 fp (nI b) (nI u) op pl f (wA AK O A0 (1000 * b)) (wA AV O N0 (1000 * b)) (upd C0 b (nI (O).length)) pile bg gl rk cc wh be gc gs post := by
  have h := fun fp' => hw j u O op pl a t p nu sg fp' pile bg gl rk cc wh be gc gs hr hO hF
  exact bn_f (by decide) (br_c (fun _ => h _) (fun _ => q_misp1 (h _)))
theorem j199 (hn : n ≤ 1200) (hb : b < 3) (hl : l < 2) {post : LRp} {σ : LoS} (hw : (rnk (rK f n) (rV f n) σ).bind (fun a => eat (rK f n) 256 a) = none → WLr f n b l A0 N0 C0 bg0 gl0 rk0 cc0 wh0 be0 gc0 gs0 post) {O : List Nat} (hO : O.length ≤ 2 * σ.2.1 + rP f n σ.1 / 3 + 1) (hu : σ.2.1 ≤ 100) (hS2 : σ.2.2 2 = none) {bg gl rk cc wh be gc gs : Nat → Int32} (hrk : rk l = -1) (hF : FRm l bg0 gl0 rk0 cc0 wh0 be0 gc0 gs0 bg gl rk cc wh be gc gs)
    (hok : ∀ σ2 X rk', (rnk (rK f n) (rV f n) σ).bind (fun a => eat (rK f n) 256 a) = some σ2 → σ2.2.1 ≤ 100 → (∀ s, s ≠ 2 → σ2.2.2 s = σ.2.2 s) → ((σ2.2.2 2 = none → rk' l = -1) ∧ ∀ o, σ2.2.2 2 = some o → ∃ p, rk' l = nI (1000 * b + p) ∧ At (O ++ X) p o) → (O ++ X).length ≤ 995 → FRm l bg0 gl0 rk0 cc0 wh0 be0 gc0 gs0 bg gl rk' cc wh be gc gs → ∀ j op pl a t p nu sg fp pile, RT f n j a t p nu sg → post a t p nu sg 0 fp (nI σ2.2.1) op pl (wA AK (O ++ X) A0 (1000 * b)) (wA AV (O ++ X) N0 (1000 * b)) (upd C0 b (nI ((O ++ X)).length)) pile bg gl rk' cc wh be gc gs)
    {op pl a t p nu sg fp : Int32} {pile : Nat → Int32} (hr : RT f n σ.1 a t p nu sg) : wp_Md_readLoop_J199 (nI l) (nI n) a t p nu sg 0 fp (nI b) (nI σ.2.1) op pl f (wA AK O A0 (1000 * b)) (wA AV O N0 (1000 * b)) (upd C0 b (nI (O).length)) pile bg gl rk cc wh be gc gs post := by
  have hl2 : vp_in (nI l) 2 := vp_in_nI hl (by decide)
  have hrp := rp_le f hn σ.1
  refine bn_t rfl (rt_isWord hr 5 rfl (by decide) (fun q => br_f (by decide) ?_) (fun q => br_t rfl ?_))
  · have hpm := rp_mono (f := f) hn σ.1
    refine rt_next hn hr (fun a1 t1 p1 nu1 sg1 hr1 => r_plain hn hb (j := σ.1 + 1) (by omega) hu ?_ ?_ hr1)
    · intro e0 j u O2 op pl a t p nu sg fp pile hr hO2
      refine ⟨hl2, ?_⟩
      rw [nI_clamp (by omega)]
      have e9 : rnk (rK f n) (rV f n) σ = none := by
        unfold rnk
        rw [if_pos q]
        have e8 : sct (pE (rK f n) (rV f n) 8) 2 (σ.1 + 1, σ.2) = none := by
          unfold sct
          show (match pE (rK f n) (rV f n) 8 (σ.1 + 1) σ.2.1 with | none => none | some (i, u, o) => some (i, u, upS σ.2.2 2 o)) = _
          rw [e0]
        rw [e8]; rfl
      have h := fun fp' => hw (by rw [e9]; rfl) j u O2 op pl a t p nu sg fp' pile bg gl (upd rk l (nI (1000 * b + O.length))) cc wh be gc gs hr hO2 ⟨fun i hi => ⟨(hF.1 i hi).1, (hF.1 i hi).2.1, by rw [pk_un hi]; exact (hF.1 i hi).2.2⟩, hF.2⟩
      exact r_takeB hr 59 rfl (by decide) (br_c (fun _ => h _) (fun _ => q_misp1 (h _)))
    · intro i u o e hu1 hi1 hu1' hbud op pl a t p nu sg fp pile hr
      refine ⟨hl2, ?_⟩
      rw [nI_clamp (by omega)]
      have hr9 := rp_le f hn i
      have hF2 : FRm l bg0 gl0 rk0 cc0 wh0 be0 gc0 gs0 bg gl (upd rk l (nI (1000 * b + O.length))) cc wh be gc gs := ⟨fun i hi => ⟨(hF.1 i hi).1, (hF.1 i hi).2.1, by rw [pk_un hi]; exact (hF.1 i hi).2.2⟩, hF.2⟩
      have e1 : sct (pE (rK f n) (rV f n) 8) 2 (σ.1 + 1, σ.2) = some (i, u, upS σ.2.2 2 o) := by
        unfold sct
        show (match pE (rK f n) (rV f n) 8 (σ.1 + 1) σ.2.1 with | none => none | some (i, u, o) => some (i, u, upS σ.2.2 2 o)) = _
        rw [e]
      refine r_take hn hr 59 rfl (by decide) (fun k59 a2 t2 p2 nu2 sg2 hr2 => ?_) (fun k59 => ?_)
      · have htok := rt_is3 hr2
        refine br_c (fun q0 => ?_) (fun q0 => q_misp (hw (by
          have e9 : rnk (rK f n) (rV f n) σ = some (i + 1, u, upS σ.2.2 2 o) := by
            unfold rnk
            rw [if_pos q, e1]
            exact if_pos k59
          rw [e9]
          exact if_neg (fun z => q0 (htok.2.2.2.2.1.mpr z))) (i + 1) u _ op pl a2 t2 p2 nu2 sg2 p2 pile bg gl _ cc wh be gc gs hr2 (by omega) hF2))
        have k256 := htok.2.2.2.2.1.mp q0
        have := hok (i + 1 + 1, u, upS σ.2.2 2 o) (o ++ [301]) (upd rk l (nI (1000 * b + O.length))) (by
          unfold rnk
          rw [if_pos q, e1]
          show ((eat (rK f n) 59 (i, u, upS σ.2.2 2 o))).bind _ = _
          have e59 : eat (rK f n) 59 (i, u, upS σ.2.2 2 o) = some (i + 1, u, upS σ.2.2 2 o) := if_pos k59
          rw [e59]
          exact if_pos k256) hu1' (fun s hs => upS_ne hs) ⟨fun z => absurd (upS_eq.symm.trans (show upS σ.2.2 2 o 2 = none from z)) (fun q => (by cases q)), fun o' z => (by
            have z2 := upS_eq.symm.trans (show upS σ.2.2 2 o 2 = some o' from z)
            cases z2
            exact ⟨O.length, pk_us, by rw [← List.append_assoc]; exact At_new O o⟩)⟩ (by rw [← List.append_assoc]; omega) hF2 (i + 1) op pl a2 t2 p2 nu2 sg2 fp pile hr2
        rw [← List.append_assoc] at this
        exact this
      · have e9 : rnk (rK f n) (rV f n) σ = none := by
          unfold rnk
          rw [if_pos q, e1]
          exact if_neg k59
        have h := fun fp' => hw (by rw [e9]; rfl) i u _ op pl a t p nu sg fp' pile bg gl _ cc wh be gc gs hr (show (O ++ o ++ [301]).length ≤ 995 by omega) hF2
        exact br_c (fun _ => h _) (fun _ => q_misp1 (h _))
  · have htok := rt_is3 hr
    refine br_c (fun q0 => ?_) (fun q0 => q_misp (hw (by
      have e9 : rnk (rK f n) (rV f n) σ = some σ := by unfold rnk; rw [if_neg q]
      rw [e9]
      exact if_neg (fun z => q0 (htok.2.2.2.2.1.mpr z))) σ.1 σ.2.1 O op pl a t p nu sg p pile bg gl rk cc wh be gc gs hr (by omega) hF))
    have k256 := htok.2.2.2.2.1.mp q0
    have := hok (σ.1 + 1, σ.2) [] rk (by unfold rnk; rw [if_neg q]; exact if_pos k256) hu (fun _ _ => rfl) ⟨fun _ => hrk, fun o z => by rw [show (σ.1 + 1, σ.2).2.2 2 = none from hS2] at z; cases z⟩ (by rw [List.append_nil]; omega) hF σ.1 op pl a t p nu sg fp pile hr
    rw [List.append_nil] at this
    exact this
theorem r_readLoop (hn : n ≤ 1200) (hl : l < 2) {post : LRp} (hw : pL (rK f n) (rV f n) = none → WLr f n l l A0 N0 C0 bg0 gl0 rk0 cc0 wh0 be0 gc0 gs0 post)
    (hok : ∀ c g σ O bg gl rk cc wh be gc gs, pL (rK f n) (rV f n) = some (c, g, σ) → 1 ≤ c → c ≤ 6 → g ≤ 12 → σ.2.1 ≤ 100 → O.length ≤ 995 → cc l = nI c → gc l = nI g → ROk l l σ.2.2 c g O bg gl rk wh be gs → FRm l bg0 gl0 rk0 cc0 wh0 be0 gc0 gs0 bg gl rk cc wh be gc gs → ∀ j op pl a t p nu sg fp pile, RT f n j a t p nu sg → post a t p nu sg 0 fp (nI σ.2.1) op pl (wA AK O A0 (1000 * l)) (wA AV O N0 (1000 * l)) (upd C0 l (nI O.length)) pile bg gl rk cc wh be gc gs)
    {t0 p0 nu0 sg0 fp op pl : Int32} {pile : Nat → Int32} : wp_Md_readLoop (nI l) (nI n) 0 t0 p0 nu0 sg0 0 fp (nI l) 0 op pl f A0 N0 (upd C0 l 0) pile bg0 gl0 rk0 cc0 wh0 be0 gc0 gs0 post := by
  have hl2 : vp_in (nI l) 2 := vp_in_nI hl (by decide)
  have hl3 : l < 3 := by omega
  refine ⟨hl2, hl2, hl2, rt_new hn (Nat.zero_le n) (j := 0) rfl (fun a t p nu sg hr => ?_)⟩
  rw [nI_clamp (by omega)]
  have hF0 : ∀ x, FRm l bg0 gl0 rk0 cc0 wh0 be0 gc0 gs0 (upd bg0 l x) gl0 (upd rk0 l (-1)) (upd cc0 l 0) wh0 be0 (upd gc0 l 0) gs0 := fun x => ⟨fun i hi => ⟨pk_un hi, rfl, pk_un hi⟩, ⟨fun i hi => pk_un hi, fun _ _ => rfl, fun _ _ => rfl⟩, fun i hi => pk_un hi, fun _ _ => rfl⟩
  -- the walk behind the choices, with a fault
  have g72B : pL (rK f n) (rV f n) = none → ∀ j u O op pl a t p nu sg fp pile bg gl rk cc wh be gc gs, RT f n j a t p nu sg → O.length ≤ 995 → FRm l bg0 gl0 rk0 cc0 wh0 be0 gc0 gs0 bg gl rk cc wh be gc gs → wp_Md_takeWord 3 (nI n) a t p nu sg 1 fp f (fun at_36 token_37 tokenPlace_38 number_39 sign_40 bad_41 faultPlace_42 => ((¬ bad_41 = 0 → wp_Md_take 59 (nI n) at_36 token_37 tokenPlace_38 number_39 sign_40 bad_41 faultPlace_42 f (fun at_43 token_44 tokenPlace_45 number_46 sign_47 bad_48 faultPlace_49 => ∃ n_66, wp_Md_readLoop_L123 (nI l) (nI n) (nI l) f (fun a5 t5 p5 nu5 sg5 bad5 fp5 un5 op5 pl5 ac5 nm5 ct5 pile5 gc5 gs5 => wp_Md_readLoop_J199 (nI l) (nI n) a5 t5 p5 nu5 sg5 bad5 fp5 (nI l) un5 op5 pl5 f ac5 nm5 ct5 pile5 bg gl rk cc wh be gc5 gs5 post) n_66 at_43 token_44 tokenPlace_45 number_46 sign_47 bad_48 faultPlace_49 (nI u) op pl (wA AK O A0 (1000 * l)) (wA AV O N0 (1000 * l)) (upd C0 l (nI O.length)) pile gc gs)) ∧ (bad_41 = 0 → wp_Md_readCond (nI n) at_36 token_37 tokenPlace_38 number_39 sign_40 bad_41 faultPlace_42 (nI l) (nI u) op pl f (wA AK O A0 (1000 * l)) (wA AV O N0 (1000 * l)) (upd C0 l (nI O.length)) pile (fun r_67 at_68 token_69 tokenPlace_70 number_71 sign_72 bad_73 faultPlace_74 unaries_75 opens_76 piled_77 acts_78 actNumbers_79 actCounts_80 pile_81 => (vp_in (nI l) 2 ∧ wp_Md_take 59 (nI n) at_68 token_69 tokenPlace_70 number_71 sign_72 bad_73 faultPlace_74 f (fun at_82 token_83 tokenPlace_84 number_85 sign_86 bad_87 faultPlace_88 => ∃ n_105, wp_Md_readLoop_L123 (nI l) (nI n) (nI l) f (fun a5 t5 p5 nu5 sg5 bad5 fp5 un5 op5 pl5 ac5 nm5 ct5 pile5 gc5 gs5 => wp_Md_readLoop_J199 (nI l) (nI n) a5 t5 p5 nu5 sg5 bad5 fp5 (nI l) un5 op5 pl5 f ac5 nm5 ct5 pile5 bg (upd gl (nI l).toNatClampNeg r_67) rk cc wh be gc5 gs5 post) n_105 at_82 token_83 tokenPlace_84 number_85 sign_86 bad_87 faultPlace_88 unaries_75 opens_76 piled_77 acts_78 actNumbers_79 actCounts_80 pile_81 gc gs)))))) := by
    intro e0 j u O op pl a t p nu sg fp pile bg gl rk cc wh be gc gs hr hO hF
    exact r_takeWordB hr 3 rfl (by decide) (bn_f (by decide) (r_takeB hr 59 rfl (by decide) ⟨1, bn_f (by decide) (j199B (hw e0) hr hO hF)⟩))
  have j72B : pL (rK f n) (rV f n) = none → ∀ j u O op pl a t p nu sg fp pile bg gl rk cc wh be gc gs, RT f n j a t p nu sg → O.length ≤ 995 → FRm l bg0 gl0 rk0 cc0 wh0 be0 gc0 gs0 bg gl rk cc wh be gc gs → wp_Md_readLoop_J72 (nI l) (nI n) a t p nu sg 1 fp (nI l) (nI u) op pl f (wA AK O A0 (1000 * l)) (wA AV O N0 (1000 * l)) (upd C0 l (nI O.length)) pile bg gl rk cc wh be gc gs post := by
    intro e0 j u O op pl a t p nu sg fp pile bg gl rk cc wh be gc gs hr hO hF
    exact ⟨1, bn_f (by decide) (g72B e0 j u O op pl a t p nu sg fp pile bg gl rk cc wh be gc gs hr hO hF)⟩
  refine r_takeWord hn hr 0 rfl (by decide) (fun k60 a1 t1 p1 nu1 sg1 hr1 => ?_) (fun k60 => ?_)
  · refine bn_t rfl ?_
    have pz : ∀ t, (sct (pC (rK f n) (rV f n) 8) 0 (1, 0, fun _ => none)).bind (fun b => (eat (rK f n) 59 b).bind (fun d => (chl (rK f n) (rV f n) 6 0 d).bind (fun e => pL2 (rK f n) (rV f n) e.1 e.2))) = t → pL (rK f n) (rV f n) = t := fun t z => by
      unfold pL
      rw [show eat (rK f n) 260 (0, 0, fun _ => none) = some (1, 0, fun _ => none) from if_pos k60]
      exact z
    refine r_cond (b := l) (A0 := A0) (N0 := N0) (C0 := C0) (O := []) (j := 0 + 1) (u := 0) hn hl3 (by simp) (by decide) ?_ ?_ hr1
    · intro e0 j u O op pl a t p nu sg fp pile hr hO
      have e9 : sct (pC (rK f n) (rV f n) 8) 0 (1, 0, fun _ => none) = none := by
        unfold sct
        show (match pC (rK f n) (rV f n) 8 (0 + 1) 0 with | none => none | some (i, u, o) => some (i, u, upS (fun _ => none) 0 o)) = _
        rw [e0]
      exact ⟨hl2, r_takeB hr 59 rfl (by decide) (bn_f (by decide) (j72B (pz _ (by rw [e9]; rfl)) j u O op pl a t p nu sg fp pile _ _ _ _ _ _ _ _ hr hO (hF0 _)))⟩
    · intro i u o e hu1 hi1 hu1' hbud op pl a t p nu sg fp pile hr
      have hr9 := rp_le f hn i
      have e1 : sct (pC (rK f n) (rV f n) 8) 0 (1, 0, fun _ => none) = some (i, u, upS (fun _ => none) 0 o) := by
        unfold sct
        show (match pC (rK f n) (rV f n) 8 (0 + 1) 0 with | none => none | some (i, u, o) => some (i, u, upS (fun _ => none) 0 o)) = _
        rw [e]
      refine ⟨hl2, r_take hn hr 59 rfl (by decide) (fun k59 a2 t2 p2 nu2 sg2 hr2 => bn_t rfl ?_) (fun k59 => bn_f (by decide) (j72B (pz _ (by rw [e1]; show (eat (rK f n) 59 (i, u, upS (fun _ => none) 0 o)).bind _ = _; rw [show eat (rK f n) 59 (i, u, upS (fun _ => none) 0 o) = none from if_neg k59]; rfl)) i u _ op pl a t p nu sg p pile _ _ _ _ _ _ _ _ hr (by omega) (hF0 _)))⟩
      have hpm := rp_mono (f := f) hn i
      have hr10 := rp_le f hn (i + 1)
      have pz2 : ∀ t, (chl (rK f n) (rV f n) 6 0 (i + 1, u, upS (fun _ => none) 0 o)).bind (fun e => pL2 (rK f n) (rV f n) e.1 e.2) = t → pL (rK f n) (rV f n) = t := fun t z => pz _ (by
        rw [e1]
        show (eat (rK f n) 59 (i, u, upS (fun _ => none) 0 o)).bind _ = _
        rw [show eat (rK f n) 59 (i, u, upS (fun _ => none) 0 o) = some (i + 1, u, upS (fun _ => none) 0 o) from if_pos k59]
        exact z)
      refine rt_isWord hr2 1 rfl (by decide) (fun k61 => bn_f (by decide) ?_) (fun k61 => bn_t rfl (q_misp (j72B (pz2 _ (by rw [show chl (rK f n) (rV f n) 6 0 (i + 1, u, upS (fun _ => none) 0 o) = some (0, (i + 1, u, upS (fun _ => none) 0 o)) from if_neg k61]; rfl)) (i + 1) u _ op pl a2 t2 p2 nu2 sg2 p2 pile _ _ _ _ _ _ _ _ hr2 (by omega) (hF0 _))))
      obtain ⟨O1, hO1⟩ : ∃ O1 : List Nat, O1 = [] ++ o ++ [301] := ⟨_, rfl⟩
      rw [← hO1] at hbud ⊢
      have hat0 : At O1 0 o := by rw [hO1]; exact At_new [] o
      have hFx : ∀ (gl cc wh be gc gs rk : Nat → Int32), (∀ i, i ≠ l → gl i = gl0 i ∧ rk i = rk0 i) → FCi l cc0 wh0 be0 cc wh be → FGi l gc0 gs0 gc gs → FRm l bg0 gl0 rk0 cc0 wh0 be0 gc0 gs0 (upd bg0 l (nI (1000 * l + ([] : List Nat).length))) gl rk cc wh be gc gs := fun gl cc wh be gc gs rk h1 h2 h3 => ⟨fun i hi => ⟨pk_un hi, (h1 i hi).1, (h1 i hi).2⟩, h2, h3⟩
      have hFg1 : FGi l gc0 gs0 (upd gc0 l 0) gs0 := ⟨fun i hi => pk_un hi, fun _ _ => rfl⟩
      have hrk1 : ∀ i, i ≠ l → (gl0 i = gl0 i ∧ (upd rk0 l (-1)) i = rk0 i) := fun i hi => ⟨rfl, pk_un hi⟩
      refine ⟨8, l72 hn hl3 hl (cc0 := cc0) (wh0 := wh0) (be0 := be0) 6 0 (i + 1, u, upS (fun _ => none) 0 o) O1 rfl (by show _ ≤ 2 * u + rP f n (i + 1) / 3 + 1; omega) hu1' (fun s hs => upS_ne (S := fun _ => none) (s := 0) (t := s) (o := o) (by omega)) (fun z j u O op pl a t p nu sg fp pile cc wh be hr hO hFC => g72B (pz2 _ (by
        rcases z with e9 | ⟨c', σ', e9, k2⟩
        · rw [e9]; rfl
        · rw [e9]
          show pL2 (rK f n) (rV f n) c' σ' = none
          unfold pL2
          split
          · rfl
          · rw [show eat (rK f n) 263 σ' = none from if_neg (by omega)]; rfl)) j u O op pl a t p nu sg fp pile _ gl0 _ cc wh be _ gs0 hr hO (hFx _ _ _ _ _ _ _ hrk1 hFC hFg1)) ?_ op pl a2 t2 p2 nu2 sg2 fp pile _ _ _ hr2 pk_us ⟨fun c' hc' => absurd hc' (Nat.not_lt_zero _), fun c' hc' => absurd hc' (Nat.not_lt_zero _)⟩ ⟨fun i hi => pk_un hi, fun _ _ => rfl, fun _ _ => rfl⟩⟩
      intro c σ3 X e3 hc6 h261 hu3 hF3 hS3 hb3 op pl a3 t3 p3 nu3 sg3 fp pile cc wh be hr3 hcc hRC hFC
      have hr11 := rp_le f hn σ3.1
      have hc1 : 1 ≤ c := by
        have e3 : (if rK f n (i + 1) = 261 then (cho (rK f n) (rV f n) 0 (i + 1, u, upS (fun _ => none) 0 o)).bind (fun a => chl (rK f n) (rV f n) 5 (0 + 1) a) else some (0, (i + 1, u, upS (fun _ => none) 0 o))) = some (c, σ3) := e3
        rw [if_pos k61] at e3
        cases ec : cho (rK f n) (rV f n) 0 (i + 1, u, upS (fun _ => none) 0 o) with
        | none => rw [ec] at e3; cases e3
        | some aa => rw [ec] at e3; exact chl_mono 5 1 aa c σ3 e3
      have pz3 : ∀ t, pL2 (rK f n) (rV f n) c σ3 = t → pL (rK f n) (rV f n) = t := fun t z => pz2 _ (by rw [e3]; exact z)
      refine r_takeWord hn hr3 3 rfl (by decide) (fun k63 a4 t4 p4 nu4 sg4 hr4 => bn_t rfl ?_) (fun k63 => bn_f (by decide) (r_takeB hr3 59 rfl (by decide) ⟨1, bn_f (by decide) (j199B (hw (pz3 _ (by unfold pL2; rw [if_neg (by omega), show eat (rK f n) 263 σ3 = none from if_neg k63]; rfl))) hr3 (by omega) (hFx _ _ _ _ _ _ _ hrk1 hFC hFg1))⟩))
      have hpm3 := rp_mono (f := f) hn σ3.1
      have hglF : ∀ x, ∀ i, i ≠ l → ((upd gl0 l x) i = gl0 i ∧ (upd rk0 l (-1)) i = rk0 i) := fun x i hi => ⟨pk_un hi, pk_un hi⟩
      have pz4 : ∀ t, (sct (pC (rK f n) (rV f n) 8) 1 (σ3.1 + 1, σ3.2)).bind (fun b => (eat (rK f n) 59 b).bind (fun d => (gul (rK f n) (rV f n) 12 0 d).bind (fun e => (rnk (rK f n) (rV f n) e.2).bind (fun f' => (eat (rK f n) 256 f').bind (fun h => some (c, e.1, h)))))) = t → pL (rK f n) (rV f n) = t := fun t z => pz3 _ (by
        unfold pL2
        rw [if_neg (by omega), show eat (rK f n) 263 σ3 = some (σ3.1 + 1, σ3.2) from if_pos k63]
        exact z)
      refine r_cond hn hl3 (j := σ3.1 + 1) (by omega) hu3 ?_ ?_ hr4
      · intro e0 j u O op pl a t p nu sg fp pile hr hO
        have e9 : sct (pC (rK f n) (rV f n) 8) 1 (σ3.1 + 1, σ3.2) = none := by
          unfold sct
          show (match pC (rK f n) (rV f n) 8 (σ3.1 + 1) σ3.2.1 with | none => none | some (i, u, o) => some (i, u, upS σ3.2.2 1 o)) = _
          rw [e0]
        refine ⟨hl2, r_takeB hr 59 rfl (by decide) ⟨1, bn_f (by decide) (j199B (hw (pz4 _ (by rw [e9]; rfl))) hr hO ?_)⟩⟩
        rw [nI_clamp (by omega)]
        exact hFx _ _ _ _ _ _ _ (hglF _) hFC hFg1
      · intro i5 u5 og e5 hu5 hi5 hu5' hbud5 op pl a t p nu sg fp pile hr
        have hr12 := rp_le f hn i5
        rw [nI_clamp (by omega)]
        have e6 : sct (pC (rK f n) (rV f n) 8) 1 (σ3.1 + 1, σ3.2) = some (i5, u5, upS σ3.2.2 1 og) := by
          unfold sct
          show (match pC (rK f n) (rV f n) 8 (σ3.1 + 1) σ3.2.1 with | none => none | some (i, u, o) => some (i, u, upS σ3.2.2 1 o)) = _
          rw [e5]
        refine ⟨hl2, r_take hn hr 59 rfl (by decide) (fun k59b a6 t6 p6 nu6 sg6 hr6 => ?_) (fun k59b => ⟨1, bn_f (by decide) (j199B (hw (pz4 _ (by rw [e6]; show (eat (rK f n) 59 (i5, u5, upS σ3.2.2 1 og)).bind _ = _; rw [show eat (rK f n) 59 (i5, u5, upS σ3.2.2 1 og) = none from if_neg k59b]; rfl))) hr (by omega) (hFx _ _ _ _ _ _ _ (hglF _) hFC hFg1))⟩)⟩
        have hpm5 := rp_mono (f := f) hn i5
        have pz5 : ∀ t, (gul (rK f n) (rV f n) 12 0 (i5 + 1, u5, upS σ3.2.2 1 og)).bind (fun e => (rnk (rK f n) (rV f n) e.2).bind (fun f' => (eat (rK f n) 256 f').bind (fun h => some (c, e.1, h)))) = t → pL (rK f n) (rV f n) = t := fun t z => pz4 _ (by
          rw [e6]
          show (eat (rK f n) 59 (i5, u5, upS σ3.2.2 1 og)).bind _ = _
          rw [show eat (rK f n) 59 (i5, u5, upS σ3.2.2 1 og) = some (i5 + 1, u5, upS σ3.2.2 1 og) from if_pos k59b]
          exact z)
        refine ⟨14, l123 hn hl3 hl (gc0 := gc0) (gs0 := gs0) 12 0 (i5 + 1, u5, upS σ3.2.2 1 og) (O1 ++ X ++ og ++ [301]) rfl (by show _ ≤ 2 * u5 + rP f n (i5 + 1) / 3 + 1; omega) hu5' (fun z j u O op pl a t p nu sg fp pile gc gs hr hO hFG => j199B (hw (pz5 _ (by
          rcases z with e9 | ⟨g', σ', e9, k2⟩
          · rw [e9]; rfl
          · rw [e9]
            show (rnk (rK f n) (rV f n) σ').bind _ = none
            rw [show rnk (rK f n) (rV f n) σ' = some σ' from if_neg (by omega)]
            show (eat (rK f n) 256 σ').bind _ = _
            rw [show eat (rK f n) 256 σ' = none from if_neg (by omega)]; rfl))) hr hO (hFx _ _ _ _ _ _ _ (hglF _) hFC hFG)) ?_ op pl a6 t6 p6 nu6 sg6 fp pile _ _ hr6 pk_us (fun g' hg' => absurd hg' (Nat.not_lt_zero _)) hFg1⟩
        intro g σ7 X7 e7 hg12 h264 hu7 hS7 hb7 op pl a7 t7 p7 nu7 sg7 fp pile gc gs hr7 hgc hRG hFG
        have hs2 : σ7.2.2 2 = none := by
          rw [hS7 2 (by omega)]
          show upS σ3.2.2 1 og 2 = none
          rw [upS_ne (by decide)]
          exact hF3 2 (Or.inr (Or.inl rfl))
        refine j199 hn hl3 hl (fun e9 => hw (pz5 _ (by
          rw [e7]
          show (rnk (rK f n) (rV f n) σ7).bind _ = _
          cases er : rnk (rK f n) (rV f n) σ7 with
          | none => rfl
          | some σr =>
            rw [er] at e9
            have e9 : eat (rK f n) 256 σr = none := e9
            show (eat (rK f n) 256 σr).bind _ = _
            rw [e9]; rfl))) hb7 hu7 hs2 pk_us (hFx _ _ _ _ _ _ _ (hglF _) hFC hFG) (fun σ8 X8 rk8 e8 hu8 hS8 hrk8 hO8 hF8 j op pl a t p nu sg fp pile hr => ?_) hr7
        refine hok c g σ8 (O1 ++ X ++ og ++ [301] ++ X7 ++ X8) _ _ rk8 cc wh be gc gs ?_ hc1 hc6 hg12 hu8 hO8 hcc hgc ⟨?_, ?_, hrk8, ?_, ?_⟩ hF8 j op pl a t p nu sg fp pile hr
        · unfold pL
          have e60 : eat (rK f n) 260 (0, 0, fun _ => none) = some (1, 0, fun _ => none) := if_pos k60
          rw [e60]
          show (sct (pC (rK f n) (rV f n) 8) 0 (1, 0, fun _ => none)).bind _ = _
          rw [e1]
          have e59 : eat (rK f n) 59 (i, u, upS (fun _ => none) 0 o) = some (i + 1, u, upS (fun _ => none) 0 o) := if_pos k59
          show (eat (rK f n) 59 (i, u, upS (fun _ => none) 0 o)).bind _ = _
          rw [e59]
          show (chl (rK f n) (rV f n) 6 0 (i + 1, u, upS (fun _ => none) 0 o)).bind _ = _
          rw [e3]
          show pL2 (rK f n) (rV f n) c σ3 = _
          unfold pL2
          have e63 : eat (rK f n) 263 σ3 = some (σ3.1 + 1, σ3.2) := if_pos k63
          rw [if_neg (by omega), e63]
          show (sct (pC (rK f n) (rV f n) 8) 1 (σ3.1 + 1, σ3.2)).bind _ = _
          rw [e6]
          have e59b : eat (rK f n) 59 (i5, u5, upS σ3.2.2 1 og) = some (i5 + 1, u5, upS σ3.2.2 1 og) := if_pos k59b
          show (eat (rK f n) 59 (i5, u5, upS σ3.2.2 1 og)).bind _ = _
          rw [e59b]
          show (gul (rK f n) (rV f n) 12 0 (i5 + 1, u5, upS σ3.2.2 1 og)).bind _ = _
          rw [e7]
          show (rnk (rK f n) (rV f n) σ7).bind _ = _
          cases er : rnk (rK f n) (rV f n) σ7 with
          | none => rw [er] at e8; cases e8
          | some σr =>
            rw [er] at e8
            have e8 : eat (rK f n) 256 σr = some σ8 := e8
            show (eat (rK f n) 256 σr).bind _ = _
            rw [e8]; rfl
        · refine ⟨o, 0, ?_, pk_us, At_app (At_app (by rw [List.append_assoc, List.append_assoc]; exact At_app hat0))⟩
          rw [hS8 0 (by decide), hS7 0 (by omega)]
          show upS σ3.2.2 1 og 0 = some o
          rw [upS_ne (by decide), hS3 0 (by decide)]
          exact upS_eq (S := fun _ => none) (s := 0) (o := o)
        · refine ⟨og, (O1 ++ X).length, ?_, pk_us, At_app (At_app (At_new (O1 ++ X) og))⟩
          rw [hS8 1 (by decide), hS7 1 (by omega)]
          exact upS_eq (S := σ3.2.2) (s := 1) (o := og)
        · exact RGi_mv hRG (fun s hs => hS8 s (by omega))
        · have hR2 := RCi_mv (X := og ++ [301] ++ X7 ++ X8) (S' := σ8.2.2) hRC (fun s hs => by
            rw [hS8 s (by omega), hS7 s (by omega)]
            show upS σ3.2.2 1 og s = _
            rw [upS_ne (by omega)])
          simp only [← List.append_assoc] at hR2
          exact hR2
  · refine bn_f (by decide) (r_takeB hr 59 rfl (by decide) (bn_f (by decide) ?_))
    exact j72B (by unfold pL; rw [show eat (rK f n) 260 (0, 0, fun _ => none) = none from if_neg k60]; rfl) 0 0 [] op pl a t p nu sg p pile _ _ _ _ _ _ _ _ hr (by decide) ⟨fun i hi => ⟨rfl, rfl, pk_un hi⟩, ⟨fun i hi => pk_un hi, fun _ _ => rfl, fun _ _ => rfl⟩, fun i hi => pk_un hi, fun _ _ => rfl⟩
end RLT
