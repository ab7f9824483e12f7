/-! the reference's loops over choices and guesses -/
theorem cho_Ou {K V : Nat → Nat} (hv : ∀ j, K j = 259 → V j < 3) {c : Nat} {σ σ' : LoS} (h : cho K V c σ = some σ') : ∀ s, s ≠ 15 + c → ¬ (21 + c * 3 ≤ s ∧ s < 21 + c * 3 + 3) → σ'.2.2 s = σ.2.2 s := by
  intro s h1 h2
  unfold cho at h
  cases e1 : sct (pC K V 8) (15 + c) (σ.1 + 1, σ.2) with
  | none => rw [e1] at h; cases h
  | some a =>
    rw [e1] at h
    have h : (eat K 262 a).bind (fun b => (asg K V c b).bind (fun d => (asl K V c 3 d).bind (fun e => eat K 59 e))) = some σ' := h
    cases e2 : eat K 262 a with
    | none => rw [e2] at h; cases h
    | some a2 =>
      rw [e2] at h
      have h : (asg K V c a2).bind (fun d => (asl K V c 3 d).bind (fun e => eat K 59 e)) = some σ' := h
      cases e3 : asg K V c a2 with
      | none => rw [e3] at h; cases h
      | some a3 =>
        rw [e3] at h
        have h : (asl K V c 3 a3).bind (fun e => eat K 59 e) = some σ' := h
        cases e4 : asl K V c 3 a3 with
        | none => rw [e4] at h; cases h
        | some a4 =>
          rw [e4] at h
          have h : eat K 59 a4 = some σ' := h
          have f1 : σ'.2 = a4.2 := by unfold eat at h; split at h; · cases h; rfl
                                      cases h
          have f2 : a2.2 = a.2 := by unfold eat at e2; split at e2; · cases e2; rfl
                                     cases e2
          rw [f1, asl_Ou hv 3 a3 a4 e4 s h2, asg_Ou hv e3 s h2, f2]
          exact sct_Ou e1 s (by omega)
theorem gul_mono {K V : Nat → Nat} : ∀ k g σ g' (σ' : LoS), gul K V k g σ = some (g', σ') → g ≤ g'
  | 0, g, σ, g', σ', h => by simp only [gul, Option.some.injEq, Prod.mk.injEq] at h; omega
  | k + 1, g, σ, g', σ', h => by
    have h : (if K σ.1 = 264 then ((sct (pC K V 8) (3 + g) (σ.1 + 1, σ.2)).bind (fun a => eat K 59 a)).bind (fun a => gul K V k (g + 1) a) else some (g, σ)) = some (g', σ') := h
    split at h
    · cases e : (sct (pC K V 8) (3 + g) (σ.1 + 1, σ.2)).bind (fun a => eat K 59 a) with
      | none => rw [e] at h; cases h
      | some a =>
        rw [e] at h
        have := gul_mono k (g + 1) a g' σ' h
        omega
    · simp only [Option.some.injEq, Prod.mk.injEq] at h; omega
section RL
variable {f : Nat → Int32} {n b l : Nat} {A0 N0 C0 : Nat → Int32}
def RCi (b l : Nat) (S : Nat → Option (List Nat)) (c : Nat) (O : List Nat) (wh be : Nat → Int32) : Prop := (∀ c', c' < c → ∃ ow p, S (15 + c') = some ow ∧ wh (6 * l + c') = nI (1000 * b + p) ∧ At O p ow) ∧ (∀ c', c' < c → BEok l c' b S O be)
def FCi (l : Nat) (cc0 wh0 be0 cc wh be : Nat → Int32) : Prop := (∀ i, i ≠ l → cc i = cc0 i) ∧ (∀ i, ¬ (6 * l ≤ i ∧ i < 6 * l + 6) → wh i = wh0 i) ∧ (∀ i, ¬ (18 * l ≤ i ∧ i < 18 * l + 18) → be i = be0 i)
def WC9 (f : Nat → Int32) (n b l : Nat) (A0 N0 C0 cc0 wh0 be0 : Nat → Int32) (K9 : CPo) : Prop := ∀ j u O op pl a t p nu sg fp pile cc wh be, RT f n j a t p nu sg → O.length ≤ 995 → FCi l cc0 wh0 be0 cc wh be → K9 a t p nu sg 1 fp (nI u) op pl (wA AK O A0 (1000 * b)) (wA AV O N0 (1000 * b)) (upd C0 b (nI (O).length)) pile cc wh be
theorem l72 (hn : n ≤ 1200) (hb : b < 3) (hl : l < 2) {cc0 wh0 be0 : Nat → Int32} {K9 : CPo} : ∀ k c (σ : LoS) (O : List Nat), c + k = 6 → O.length ≤ 2 * σ.2.1 + rP f n σ.1 / 3 + 1 → σ.2.1 ≤ 100 → Fc c σ → ((chl (rK f n) (rV f n) k c σ = none ∨ ∃ c' σ', chl (rK f n) (rV f n) k c σ = some (c', σ') ∧ rK f n σ'.1 = 261) → WC9 f n b l A0 N0 C0 cc0 wh0 be0 K9) → (∀ c' σ' X, chl (rK f n) (rV f n) k c σ = some (c', σ') → c' ≤ 6 → rK f n σ'.1 ≠ 261 → σ'.2.1 ≤ 100 → Fc c' σ' → (∀ s, s < 15 → σ'.2.2 s = σ.2.2 s) → (O ++ X).length ≤ 2 * σ'.2.1 + rP f n σ'.1 / 3 + 1 → ∀ op pl a t p nu sg fp pile cc wh be, RT f n σ'.1 a t p nu sg → cc l = nI c' → RCi b l σ'.2.2 c' (O ++ X) wh be → FCi l cc0 wh0 be0 cc wh be → K9 a t p nu sg 0 fp (nI σ'.2.1) op pl (wA AK (O ++ X) A0 (1000 * b)) (wA AV (O ++ X) N0 (1000 * b)) (upd C0 b (nI ((O ++ X)).length)) pile cc wh be) → ∀ op pl a t p nu sg fp pile cc wh be, RT f n σ.1 a t p nu sg → cc l = nI c → RCi b l σ.2.2 c O wh be → FCi l cc0 wh0 be0 cc wh be → wp_Md_readLoop_L72 (nI l) (nI n) (nI b) f K9 (k + 2) a t p nu sg 0 fp (nI σ.2.1) op pl (wA AK O A0 (1000 * b)) (wA AV O N0 (1000 * b)) (upd C0 b (nI (O).length)) pile cc wh be := by
  intro k
  induction k with
  | zero =>
    intro c σ O hc hO hu hF hw h op pl a t p nu sg fp pile cc wh be hr hcc hR hFr
    have hrp := rp_le f hn σ.1
    refine bn_t rfl (rt_isWord hr 1 rfl (by decide) (fun q => br_f (by decide) ?_) (fun q => br_t rfl ?_))
    · refine ⟨vp_in_nI hl (by decide), ?_⟩
      rw [nI_clamp (by omega), hcc]
      have h6 : c = 6 := by omega
      subst h6
      exact bn_t rfl (q_misp (bn_f (by decide) (hw (Or.inr ⟨6, σ, rfl, q⟩) σ.1 σ.2.1 O op pl a t p nu sg p pile cc wh be hr (by omega) hFr)))
    · have := h c σ [] rfl (by omega) q hu hF (fun _ _ => rfl) (by rw [List.append_nil]; exact hO) op pl a t p nu sg fp pile cc wh be hr hcc (by rw [List.append_nil]; exact hR) hFr
      rw [List.append_nil] at this
      exact this
  | succ k ih =>
    intro c σ O hc hO hu hF hw h op pl a t p nu sg fp pile cc wh be hr hcc hR hFr
    have hv3 : ∀ j, rK f n j = 259 → rV f n j < 3 := fun j => (rk_facts f n j).2.2.1
    refine bn_t rfl (rt_isWord hr 1 rfl (by decide) (fun q => br_f (by decide) ?_) (fun q => br_t rfl ?_))
    · refine r_choice hn hb hl (show c < 6 by omega) hO hu (fun v hv => hF _ (by omega)) hcc ?_ ?_ hr
      · intro e0 j u O2 op pl a t p nu sg fp pile cc' wh' be' hr hO2 f1 f2 f3
        refine bn_f (by decide) (hw (Or.inl (by show (if rK f n σ.1 = 261 then _ else _) = _; rw [if_pos q, e0]; rfl)) j u O2 op pl a t p nu sg fp pile cc' wh' be' hr hO2 ⟨fun i hi => (f1 i hi).trans (hFr.1 i hi), fun i hi => (f2 i (by omega)).trans (hFr.2.1 i hi), fun i hi => (f3 i (by omega)).trans (hFr.2.2 i hi)⟩)
      · intro σ1 X e1 hi1 hu1 hb1 hwhen op pl a t p nu sg fp pile be' hr hBE hFB
        have hO' := cho_Ou hv3 e1
        refine ih (c + 1) σ1 (O ++ X) (by omega) hb1 hu1 (fun s hs => by rw [hO' s (by omega) (by omega)]; exact hF s (by omega)) (fun z => hw (z.elim (fun e2 => Or.inl (by show (if rK f n σ.1 = 261 then _ else _) = _; rw [if_pos q, e1]; exact e2)) (fun ⟨c', σ', e2, k2⟩ => Or.inr ⟨c', σ', by show (if rK f n σ.1 = 261 then _ else _) = _; rw [if_pos q, e1]; exact e2, k2⟩))) (fun c' σ' X' e2 hc' h261 hu2 hF2 hS2 hb2 => ?_) op pl a t p nu sg fp pile _ _ be' hr pk_us ?_ ?_
        · have := h c' σ' (X ++ X') (by
            show (if rK f n σ.1 = 261 then _ else _) = _
            rw [if_pos q, e1]; exact e2) hc' h261 hu2 hF2 (fun s hs => by rw [hS2 s hs, hO' s (by omega) (by omega)]) (by rw [← List.append_assoc]; exact hb2)
          rw [← List.append_assoc] at this
          exact this
        · refine ⟨fun c' hc' => ?_, fun c' hc' => ?_⟩
          · by_cases hcc' : c' = c
            · subst hcc'
              obtain ⟨ow, h1, h2⟩ := hwhen
              exact ⟨ow, O.length, h1, pk_us, h2⟩
            · obtain ⟨ow, p0, h1, h2, h3⟩ := hR.1 c' (by omega)
              exact ⟨ow, p0, by rw [hO' _ (by omega) (by omega)]; exact h1, by rw [pk_un (by omega)]; exact h2, At_app h3⟩
          · by_cases hcc' : c' = c
            · subst hcc'; exact hBE
            · intro v hv
              rw [hO' _ (by omega) (by omega), hFB _ (by omega)]
              refine ⟨(hR.2 c' (by omega) v hv).1, fun o q2 => ?_⟩
              obtain ⟨p0, h1, h2⟩ := (hR.2 c' (by omega) v hv).2 o q2
              exact ⟨p0, h1, At_app h2⟩
        · exact ⟨fun i hi => by rw [pk_un hi]; exact hFr.1 i hi, fun i hi => by rw [pk_un (by omega)]; exact hFr.2.1 i hi, fun i hi => (hFB i (by omega)).trans (hFr.2.2 i hi)⟩
    · have := h c σ [] (by show (if rK f n σ.1 = 261 then _ else _) = _; rw [if_neg q]) (by omega) q hu hF (fun _ _ => rfl) (by rw [List.append_nil]; exact hO) op pl a t p nu sg fp pile cc wh be hr hcc (by rw [List.append_nil]; exact hR) hFr
      rw [List.append_nil] at this
      exact this
abbrev GPo := Int32 → Int32 → Int32 → Int32 → Int32 → Int32 → Int32 → Int32 → Int32 → Int32 → (Nat → Int32) → (Nat → Int32) → (Nat → Int32) → (Nat → Int32) → (Nat → Int32) → (Nat → Int32) → Prop
def RGi (b l : Nat) (S : Nat → Option (List Nat)) (g : Nat) (O : List Nat) (gs : Nat → Int32) : Prop := ∀ g', g' < g → ∃ o p, S (3 + g') = some o ∧ gs (12 * l + g') = nI (1000 * b + p) ∧ At O p o
def FGi (l : Nat) (gc0 gs0 gc gs : Nat → Int32) : Prop := (∀ i, i ≠ l → gc i = gc0 i) ∧ (∀ i, ¬ (12 * l ≤ i ∧ i < 12 * l + 12) → gs i = gs0 i)
def WG9 (f : Nat → Int32) (n b l : Nat) (A0 N0 C0 gc0 gs0 : Nat → Int32) (K9 : GPo) : Prop := ∀ j u O op pl a t p nu sg fp pile gc gs, RT f n j a t p nu sg → O.length ≤ 995 → FGi l gc0 gs0 gc gs → K9 a t p nu sg 1 fp (nI u) op pl (wA AK O A0 (1000 * b)) (wA AV O N0 (1000 * b)) (upd C0 b (nI (O).length)) pile gc gs
theorem l123 (hn : n ≤ 1200) (hb : b < 3) (hl : l < 2) {gc0 gs0 : Nat → Int32} {K9 : GPo} : ∀ k g (σ : LoS) (O : List Nat), g + k = 12 → O.length ≤ 2 * σ.2.1 + rP f n σ.1 / 3 + 1 → σ.2.1 ≤ 100 → ((gul (rK f n) (rV f n) k g σ = none ∨ ∃ g' σ', gul (rK f n) (rV f n) k g σ = some (g', σ') ∧ rK f n σ'.1 = 264) → WG9 f n b l A0 N0 C0 gc0 gs0 K9) → (∀ g' σ' X, gul (rK f n) (rV f n) k g σ = some (g', σ') → g' ≤ 12 → rK f n σ'.1 ≠ 264 → σ'.2.1 ≤ 100 → (∀ s, ¬ (3 + g ≤ s ∧ s < 3 + g') → σ'.2.2 s = σ.2.2 s) → (O ++ X).length ≤ 2 * σ'.2.1 + rP f n σ'.1 / 3 + 1 → ∀ op pl a t p nu sg fp pile gc gs, RT f n σ'.1 a t p nu sg → gc l = nI g' → RGi b l σ'.2.2 g' (O ++ X) gs → FGi l gc0 gs0 gc gs → K9 a t p nu sg 0 fp (nI σ'.2.1) op pl (wA AK (O ++ X) A0 (1000 * b)) (wA AV (O ++ X) N0 (1000 * b)) (upd C0 b (nI ((O ++ X)).length)) pile gc gs) → ∀ op pl a t p nu sg fp pile gc gs, RT f n σ.1 a t p nu sg → gc l = nI g → RGi b l σ.2.2 g O gs → FGi l gc0 gs0 gc gs → wp_Md_readLoop_L123 (nI l) (nI n) (nI b) f K9 (k + 2) a t p nu sg 0 fp (nI σ.2.1) op pl (wA AK O A0 (1000 * b)) (wA AV O N0 (1000 * b)) (upd C0 b (nI (O).length)) pile gc gs := by
  intro k
  induction k with
  | zero =>
    intro g σ O hg hO hu hw h op pl a t p nu sg fp pile gc gs hr hgc hR hFr
    have hrp := rp_le f hn σ.1
    refine bn_t rfl (rt_isWord hr 4 rfl (by decide) (fun q => br_f (by decide) ⟨vp_in_nI hl (by decide), ?_⟩) (fun q => br_t rfl ?_))
    · rw [nI_clamp (by omega), hgc]
      have h6 : g = 12 := by omega
      subst h6
      exact bn_t rfl (q_misp (bn_f (by decide) (hw (Or.inr ⟨12, σ, rfl, q⟩) σ.1 σ.2.1 O op pl a t p nu sg p pile gc gs hr (by omega) hFr)))
    · have := h g σ [] rfl (by omega) q hu (fun _ _ => rfl) (by rw [List.append_nil]; exact hO) op pl a t p nu sg fp pile gc gs hr hgc (by rw [List.append_nil]; exact hR) hFr
      rw [List.append_nil] at this
      exact this
  | succ k ih =>
    intro g σ O hg hO hu hw h op pl a t p nu sg fp pile gc gs hr hgc hR hFr
    have hl2 : vp_in (nI l) 2 := vp_in_nI hl (by decide)
    refine bn_t rfl (rt_isWord hr 4 rfl (by decide) (fun q => br_f (by decide) ⟨hl2, ?_⟩) (fun q => br_t rfl ?_))
    · rw [nI_clamp (by omega), hgc]
      refine bn_f (fun z => by have := (nI_eq (a := g) (b := 12) (by omega) (by decide)).mp z; omega) (rt_next hn hr (fun a1 t1 p1 nu1 sg1 hr1 => ⟨hl2, ?_⟩))
      have eix : (12 * nI l) + nI g = nI (12 * l + g) := by rw [show (12 : Int32) = nI 12 from rfl, pk_mul, nI_add]
      rw [eix]
      have hin : vp_in (nI (12 * l + g)) 24 := vp_in_nI (by omega) (by decide)
      have hpm := rp_mono (f := f) hn σ.1
      have gz : ∀ t, ((sct (pC (rK f n) (rV f n) 8) (3 + g) (σ.1 + 1, σ.2)).bind (fun a => eat (rK f n) 59 a)).bind (fun a => gul (rK f n) (rV f n) k (g + 1) a) = t → gul (rK f n) (rV f n) (k + 1) g σ = t := fun t z => by
        show (if rK f n σ.1 = 264 then ((sct (pC (rK f n) (rV f n) 8) (3 + g) (σ.1 + 1, σ.2)).bind (fun a => eat (rK f n) 59 a)).bind (fun a => gul (rK f n) (rV f n) k (g + 1) a) else some (g, σ)) = t
        rw [if_pos q]; exact z
      refine r_cond hn hb (j := σ.1 + 1) (by omega) hu ?_ ?_ hr1
      · intro e0 j u O2 op pl a t p nu sg fp pile hr hO2
        refine ⟨hin, hl2, hl2, r_takeB hr 59 rfl (by decide) (bn_f (by decide) (hw (Or.inl (gz _ (by
          have e9 : sct (pC (rK f n) (rV f n) 8) (3 + g) (σ.1 + 1, σ.2) = none := by
            unfold sct
            show (match pC (rK f n) (rV f n) 8 (σ.1 + 1) σ.2.1 with | none => none | some (i, u, o) => some (i, u, upS σ.2.2 (3 + g) o)) = _
            rw [e0]
          rw [e9]; rfl))) j u O2 op pl a t p nu sg fp pile _ _ hr hO2 ⟨fun i hi => by rw [pk_un hi]; exact hFr.1 i hi, fun i hi => ?_⟩))⟩
        rw [nI_clamp (by omega), pk_un (by omega)]; exact hFr.2 i hi
      · intro i u ow e hu1 hi1 hu1' hbud op pl a t p nu sg fp pile hr
        have hr9 := rp_le f hn i
        have e1 : sct (pC (rK f n) (rV f n) 8) (3 + g) (σ.1 + 1, σ.2) = some (i, u, upS σ.2.2 (3 + g) ow) := by
          unfold sct
          show (match pC (rK f n) (rV f n) 8 (σ.1 + 1) σ.2.1 with | none => none | some (i, u, o) => some (i, u, upS σ.2.2 (3 + g) o)) = _
          rw [e]
        rw [nI_clamp (by omega), nI_1]
        have hFr2 : FGi l gc0 gs0 (upd gc l (nI (g + 1))) (upd gs (12 * l + g) (nI (1000 * b + O.length))) := ⟨fun i hi => by rw [pk_un hi]; exact hFr.1 i hi, fun i hi => by rw [pk_un (by omega)]; exact hFr.2 i hi⟩
        refine ⟨hin, hl2, hl2, r_take hn hr 59 rfl (by decide) (fun k59 a2 t2 p2 nu2 sg2 hr2 => ?_) (fun k59 => bn_f (by decide) (hw (Or.inl (gz _ (by rw [e1]; show (eat (rK f n) 59 (i, u, upS σ.2.2 (3 + g) ow)).bind _ = _; rw [show eat (rK f n) 59 (i, u, upS σ.2.2 (3 + g) ow) = none from if_neg k59]; rfl))) i u _ op pl a t p nu sg p pile _ _ hr (by omega) hFr2))⟩
        have hpm2 := rp_mono (f := f) hn i
        have e59 : eat (rK f n) 59 (i, u, upS σ.2.2 (3 + g) ow) = some (i + 1, u, upS σ.2.2 (3 + g) ow) := if_pos k59
        refine ih (g + 1) (i + 1, u, upS σ.2.2 (3 + g) ow) (O ++ ow ++ [301]) (by omega) (by show _ ≤ 2 * u + rP f n (i + 1) / 3 + 1; omega) hu1' (fun z => hw (z.elim (fun e2 => Or.inl (gz _ (by rw [e1]; show (eat (rK f n) 59 (i, u, upS σ.2.2 (3 + g) ow)).bind _ = _; rw [e59]; exact e2))) (fun ⟨g', σ', e2, k2⟩ => Or.inr ⟨g', σ', gz _ (by rw [e1]; show (eat (rK f n) 59 (i, u, upS σ.2.2 (3 + g) ow)).bind _ = _; rw [e59]; exact e2), k2⟩))) (fun g' σ' X e2 hg' h264 hu2 hS2 hb2 => ?_) op pl a2 t2 p2 nu2 sg2 fp pile _ _ hr2 pk_us ?_ hFr2
        · have hle : g + 1 ≤ g' ∨ True := Or.inr trivial
          have hmono : g + 1 ≤ g' := gul_mono k (g + 1) _ _ _ e2
          have := h g' σ' (ow ++ [301] ++ X) (by
            show (if rK f n σ.1 = 264 then _ else _) = _
            rw [if_pos q, e1]
            show ((eat (rK f n) 59 (i, u, upS σ.2.2 (3 + g) ow))).bind _ = _
            rw [e59]; exact e2) hg' h264 hu2 (fun s hs => by
              rw [hS2 s (by omega)]
              show upS σ.2.2 (3 + g) ow s = _
              rw [upS_ne (by omega)]) (by rw [← List.append_assoc, ← List.append_assoc]; exact hb2)
          rw [← List.append_assoc, ← List.append_assoc] at this
          exact this
        · intro g' hg'
          by_cases hgg : g' = g
          · subst hgg
            exact ⟨ow, O.length, if_pos rfl, pk_us, At_new O ow⟩
          · obtain ⟨o, p0, h1, h2, h3⟩ := hR g' (by omega)
            exact ⟨o, p0, by show upS σ.2.2 (3 + g) ow (3 + g') = _; rw [upS_ne (by omega)]; exact h1, by rw [pk_un (by omega)]; exact h2, by rw [List.append_assoc]; exact At_app h3⟩
    · have := h g σ [] (by show (if rK f n σ.1 = 264 then _ else _) = _; rw [if_neg q]) (by omega) q hu (fun _ _ => rfl) (by rw [List.append_nil]; exact hO) op pl a t p nu sg fp pile gc gs hr hgc (by rw [List.append_nil]; exact hR) hFr
      rw [List.append_nil] at this
      exact this
end RL
