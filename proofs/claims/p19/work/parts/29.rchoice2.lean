/-! the reference's readChoice as a whole -/
def un (x : Option (List Nat)) : Nat := match x with | none => 1 | some _ => 0
def dn (c : Nat) (S : Nat → Option (List Nat)) : Nat := un (S (21 + c * 3 + 0)) + un (S (21 + c * 3 + 1)) + un (S (21 + c * 3 + 2))
theorem dn_up {c v : Nat} {S : Nat → Option (List Nat)} {o : List Nat} (hv : v < 3) (h : S (21 + c * 3 + v) = none) : dn c (upS S (21 + c * 3 + v) o) + 1 = dn c S := by
  rcases (show v = 0 ∨ v = 1 ∨ v = 2 by omega) with rfl | rfl | rfl
  · unfold dn upS
    rw [if_pos rfl, if_neg (by omega), if_neg (by omega), h]
    simp only [un]; omega
  · unfold dn upS
    rw [if_neg (by omega), if_pos rfl, if_neg (by omega), h]
    simp only [un]; omega
  · unfold dn upS
    rw [if_neg (by omega), if_neg (by omega), if_pos rfl, h]
    simp only [un]
theorem asg_none {K V : Nat → Nat} {c : Nat} {σ σ' : LoS} (h : asg K V c σ = some σ') : σ.2.2 (21 + c * 3 + V σ.1) = none ∧ K σ.1 = 259 := by
  unfold asg at h
  split at h
  · next e => exact ⟨e.2.1, e.1⟩
  · cases h
section RCh2
variable {f : Nat → Int32} {n b : Nat} {A0 N0 C0 : Nat → Int32}
theorem z_loop (hn : n ≤ 1200) (hb : b < 3) {l c : Nat} (hl : l < 2) (hc : c < 6) {be0 : Nat → Int32} {K5 : K5p} : ∀ k (σ : LoS) (O : List Nat), dn c σ.2.2 ≤ k → O.length ≤ 2 * σ.2.1 + rP f n σ.1 / 3 + 1 → σ.2.1 ≤ 100 → ((asg (rK f n) (rV f n) c σ).bind (asl (rK f n) (rV f n) c k) = none → WZ f n b A0 N0 C0 l c be0 K5) → (∀ σ' X, (asg (rK f n) (rV f n) c σ).bind (asl (rK f n) (rV f n) c k) = some σ' → σ.1 < σ'.1 → σ'.2.1 ≤ 100 → (O ++ X).length ≤ 2 * σ'.2.1 + rP f n σ'.1 / 3 + 1 → ∀ a t p nu sg fp op pl pile be, RT f n σ'.1 a t p nu sg → BEok l c b σ'.2.2 (O ++ X) be → FBe l c be0 be → K5 a t p nu sg 0 fp (nI σ'.2.1) op pl (wA AK (O ++ X) A0 (1000 * b)) (wA AV (O ++ X) N0 (1000 * b)) (upd C0 b (nI ((O ++ X)).length)) pile be) → ZL f n b A0 N0 C0 l c be0 K5 σ.1 σ.2.1 σ.2.2 O := by
  intro k
  induction k with
  | zero =>
    intro σ O hd hO hu hw h
    refine z_turn hn hb hl hc (fun e => hw (by rw [e]; rfl)) hO hu (fun i u o e h9 hi hu1 hbud => ?_)
    have hno := asg_none e
    have := dn_up (o := o) ((rk_facts f n σ.1).2.2.1 h9) hno.1
    omega
  | succ k ih =>
    intro σ O hd hO hu hw h
    refine z_turn hn hb hl hc (fun e => hw (by rw [e]; rfl)) hO hu (fun i u o e h9 hi hu1 hbud => ⟨fun h44 => ?_, fun h44 => ?_⟩)
    · have hno := asg_none e
      have hd2 := dn_up (o := o) ((rk_facts f n σ.1).2.2.1 h9) hno.1
      have hpm := rp_mono (f := f) hn i
      refine ih (i + 1, u, upS σ.2.2 (21 + c * 3 + rV f n σ.1) o) (O ++ o ++ [301]) (by show dn c (upS _ _ _) ≤ k; omega) (by show _ ≤ 2 * u + rP f n (i + 1) / 3 + 1; omega) hu1 (fun e2 => hw (by rw [e]; show (if rK f n i = 44 then _ else _) = _; rw [if_pos h44]; exact e2)) (fun σ' X e2 hi2 hu2 hb2 => ?_)
      have := h σ' (o ++ [301] ++ X) (by
        rw [e]
        show (if rK f n i = 44 then _ else _) = _
        rw [if_pos h44]; exact e2) (by have : i + 1 < σ'.1 := hi2; omega) hu2 (by rw [← List.append_assoc, ← List.append_assoc]; exact hb2)
      rw [← List.append_assoc, ← List.append_assoc] at this
      exact this
    · have := h (i, u, upS σ.2.2 (21 + c * 3 + rV f n σ.1) o) (o ++ [301]) (by
        rw [e]
        show (if rK f n i = 44 then _ else _) = _
        rw [if_neg h44]) hi hu1 (by rw [← List.append_assoc]; exact hbud)
      rw [← List.append_assoc] at this
      exact this
theorem l30 {l c : Nat} (hl : l < 2) (hc : c < 6) {be0 : Nat → Int32} {K : (Nat → Int32) → Prop} (hK : ∀ be, FBe l c be0 be → (∀ v, v < 3 → be (3 * (6 * l + c) + v) = -1) → K be) : ∀ m v be, v + m = 3 → FBe l c be0 be → (∀ w, w < v → be (3 * (6 * l + c) + w) = -1) → wp_Md_readChoice_L30 (nI l) (nI (6 * l + c)) K (m + 1) (nI v) be
  | 0, v, be, hv, hF, ha => br_t (show nI 3 ≤ nI v from nI_le (by omega) (by omega)) (hK be hF (fun w hw => ha w (by omega)))
  | m + 1, v, be, hv, hF, ha => by
    have eix : (3 * nI (6 * l + c)) + nI v = nI (3 * (6 * l + c) + v) := by rw [show (3 : Int32) = nI 3 from rfl, pk_mul, nI_add]
    refine br_f (show ¬ nI 3 ≤ nI v from nI_ge (by omega) (by decide)) ?_
    rw [eix]
    refine ⟨vp_in_nI (by omega) (by decide), ?_⟩
    rw [nI_clamp (by omega), nI_1]
    refine l30 hl hc hK m (v + 1) _ (by omega) (fun i hi => by rw [pk_un (by omega)]; exact hF i hi) (fun w hw => ?_)
    by_cases h : w = v
    · subst h; rw [pk_us]
    · rw [pk_un (by omega)]; exact ha w (by omega)
abbrev CPo := Int32 → Int32 → Int32 → Int32 → Int32 → Int32 → Int32 → Int32 → Int32 → Int32 → (Nat → Int32) → (Nat → Int32) → (Nat → Int32) → (Nat → Int32) → (Nat → Int32) → (Nat → Int32) → (Nat → Int32) → Prop
theorem r_choice (hn : n ≤ 1200) (hb : b < 3) {l c : Nat} (hl : l < 2) (hc : c < 6) {σ : LoS} {O : List Nat} (hO : O.length ≤ 2 * σ.2.1 + rP f n σ.1 / 3 + 1) (hu : σ.2.1 ≤ 100) (hS : ∀ v, v < 3 → σ.2.2 (21 + c * 3 + v) = none) {cc wh be : Nat → Int32} (hcc : cc l = nI c) {post : CPo}
    (hw : cho (rK f n) (rV f n) c σ = none → ∀ j u O op pl a t p nu sg fp pile cc' wh' be', RT f n j a t p nu sg → O.length ≤ 995 → (∀ i, i ≠ l → cc' i = cc i) → (∀ i, i ≠ 6 * l + c → wh' i = wh i) → FBe l c be be' → post a t p nu sg 1 fp (nI u) op pl (wA AK O A0 (1000 * b)) (wA AV O N0 (1000 * b)) (upd C0 b (nI (O).length)) pile cc' wh' be')
    (hok : ∀ σ' X, cho (rK f n) (rV f n) c σ = some σ' → σ.1 < σ'.1 → σ'.2.1 ≤ 100 → (O ++ X).length ≤ 2 * σ'.2.1 + rP f n σ'.1 / 3 + 1 → (∃ ow, σ'.2.2 (15 + c) = some ow ∧ At (O ++ X) O.length ow) → ∀ op pl a t p nu sg fp pile be', RT f n σ'.1 a t p nu sg → BEok l c b σ'.2.2 (O ++ X) be' → FBe l c be be' → post a t p nu sg 0 fp (nI σ'.2.1) op pl (wA AK (O ++ X) A0 (1000 * b)) (wA AV (O ++ X) N0 (1000 * b)) (upd C0 b (nI ((O ++ X)).length)) pile (upd cc l (nI (c + 1))) (upd wh (6 * l + c) (nI (1000 * b + O.length))) be')
    {op pl a t p nu sg fp : Int32} {pile : Nat → Int32} (hr : RT f n σ.1 a t p nu sg) : wp_Md_readChoice (nI l) (nI n) a t p nu sg 0 fp (nI b) (nI σ.2.1) op pl f (wA AK O A0 (1000 * b)) (wA AV O N0 (1000 * b)) (upd C0 b (nI (O).length)) pile cc wh be post := by
  have hl2 : vp_in (nI l) 2 := vp_in_nI hl (by decide)
  refine ⟨hl2, ?_⟩
  rw [nI_clamp (by omega), hcc]
  refine bn_f (fun q => by have := (nI_eq (a := c) (b := 6) (by omega) (by decide)).mp q; omega) ⟨hl2, ?_⟩
  rw [show (6 : Int32) = nI 6 from rfl, pk_mul, nI_add]
  refine nm_e ⟨4, l30 hl hc (fun be1 hF1 h1 => ?_) 3 0 be rfl (fun _ _ => rfl) (fun w hw => absurd hw (Nat.not_lt_zero w))⟩
  refine rt_next hn hr (fun a1 t1 p1 nu1 sg1 hr1 => ?_)
  have hkk : vp_in (nI (6 * l + c)) 12 := vp_in_nI (by omega) (by decide)
  have hpm := rp_mono (f := f) hn σ.1
  have wK5 : cho (rK f n) (rV f n) c σ = none → WZ f n b A0 N0 C0 l c be (fun a t p nu sg bad fp un op pl ac nm ct pile be' => wp_Md_take 59 (nI n) a t p nu sg bad fp f (fun a' t' p' nu' sg' bad' fp' => (vp_in (nI l) 2 ∧ (vp_in (nI l) 2 ∧ post a' t' p' nu' sg' bad' fp' un op pl ac nm ct pile (upd cc l (nI c + 1)) (upd wh (6 * l + c) (nI (1000 * b + O.length))) be')))) :=
    fun e0 j u O2 op pl a t p nu sg fp pile be' hr hO2 hF => r_takeB hr 59 rfl (by decide) ⟨hl2, hl2, hw e0 j u O2 op pl a t p nu sg fp pile _ _ be' hr hO2 (fun i hi => pk_un hi) (fun i hi => pk_un hi) hF⟩
  refine r_cond hn hb (j := σ.1 + 1) (by omega) hu ?_ ?_ hr1
  · intro e0 j u O2 op pl a t p nu sg fp pile hr hO2
    refine ⟨hkk, r_takeWordB hr 2 rfl (by decide) ⟨1, z_bad ?_⟩⟩
    rw [nI_clamp (by omega)]
    exact wK5 (by
      unfold cho
      have e9 : sct (pC (rK f n) (rV f n) 8) (15 + c) (σ.1 + 1, σ.2) = none := by
        unfold sct
        show (match pC (rK f n) (rV f n) 8 (σ.1 + 1) σ.2.1 with | none => none | some (i, u, o) => some (i, u, upS σ.2.2 (15 + c) o)) = _
        rw [e0]
      rw [e9]; rfl) j u O2 op pl a t p nu sg fp pile be1 hr hO2 hF1
  · intro i u ow e hu1 hi1 hu1' hbud op pl a t p nu sg fp pile hr
    refine ⟨hkk, ?_⟩
    rw [nI_clamp (by omega)]
    have e1 : sct (pC (rK f n) (rV f n) 8) (15 + c) (σ.1 + 1, σ.2) = some (i, u, upS σ.2.2 (15 + c) ow) := by
      unfold sct
      show (match pC (rK f n) (rV f n) 8 (σ.1 + 1) σ.2.1 with | none => none | some (i, u, o) => some (i, u, upS σ.2.2 (15 + c) o)) = _
      rw [e]
    refine r_takeWord hn hr 2 rfl (by decide) (fun k62 a2 t2 p2 nu2 sg2 hr2 => ?_) (fun k62 => ⟨1, z_bad ?_⟩)
    · have hpm2 := rp_mono (f := f) hn i
      have hSu : ∀ v, v < 3 → upS σ.2.2 (15 + c) ow (21 + c * 3 + v) = none := fun v hv => by rw [upS_ne (by omega)]; exact hS v hv
      obtain ⟨N, hN⟩ := z_loop hn hb hl hc 3 (i + 1, u, upS σ.2.2 (15 + c) ow) (O ++ ow ++ [301]) (by
        show un (upS σ.2.2 (15 + c) ow (21 + c * 3 + 0)) + un (upS σ.2.2 (15 + c) ow (21 + c * 3 + 1)) + un (upS σ.2.2 (15 + c) ow (21 + c * 3 + 2)) ≤ 3
        rw [hSu 0 (by decide), hSu 1 (by decide), hSu 2 (by decide)]; decide) (by show _ ≤ 2 * u + rP f n (i + 1) / 3 + 1; omega) hu1' (fun e9 => wK5 (by
          unfold cho
          rw [e1]
          show (eat (rK f n) 262 (i, u, upS σ.2.2 (15 + c) ow)).bind _ = _
          have e62 : eat (rK f n) 262 (i, u, upS σ.2.2 (15 + c) ow) = some (i + 1, u, upS σ.2.2 (15 + c) ow) := if_pos k62
          rw [e62]
          show (asg (rK f n) (rV f n) c (i + 1, u, upS σ.2.2 (15 + c) ow)).bind _ = _
          cases ea : asg (rK f n) (rV f n) c (i + 1, u, upS σ.2.2 (15 + c) ow) with
          | none => rfl
          | some d =>
            rw [ea] at e9
            have e9 : asl (rK f n) (rV f n) c 3 d = none := e9
            show (asl (rK f n) (rV f n) c 3 d).bind _ = _
            rw [e9]; rfl)) (fun σ' X e2 hi2 hu2 hb2 a t p nu sg fp op pl pile be' hr hBE hFB => by
          have hi2 : i + 1 < σ'.1 := hi2
          have hr995 := rp_le f hn σ'.1
          have chz : rK f n σ'.1 ≠ 59 → cho (rK f n) (rV f n) c σ = none := fun k59 => by
            unfold cho
            rw [e1]
            show (eat (rK f n) 262 (i, u, upS σ.2.2 (15 + c) ow)).bind _ = _
            have e62 : eat (rK f n) 262 (i, u, upS σ.2.2 (15 + c) ow) = some (i + 1, u, upS σ.2.2 (15 + c) ow) := if_pos k62
            rw [e62]
            show (asg (rK f n) (rV f n) c (i + 1, u, upS σ.2.2 (15 + c) ow)).bind _ = _
            cases ea : asg (rK f n) (rV f n) c (i + 1, u, upS σ.2.2 (15 + c) ow) with
            | none => rfl
            | some d =>
              rw [ea] at e2
              have e2 : asl (rK f n) (rV f n) c 3 d = some σ' := e2
              show (asl (rK f n) (rV f n) c 3 d).bind _ = _
              rw [e2]
              exact if_neg k59
          refine r_take hn hr 59 rfl (by decide) (fun k59 a3 t3 p3 nu3 sg3 hr3 => ⟨hl2, hl2, ?_⟩) (fun k59 => ⟨hl2, hl2, hw (chz k59) σ'.1 σ'.2.1 _ op pl a t p nu sg p pile _ _ be' hr (by omega) (fun i hi => pk_un hi) (fun i hi => pk_un hi) hFB⟩)
          rw [nI_1]
          have hpm3 := rp_mono (f := f) hn σ'.1
          have hcho : cho (rK f n) (rV f n) c σ = some (σ'.1 + 1, σ'.2) := by
            unfold cho
            rw [e1]
            show (eat (rK f n) 262 (i, u, upS σ.2.2 (15 + c) ow)).bind _ = _
            have e62 : eat (rK f n) 262 (i, u, upS σ.2.2 (15 + c) ow) = some (i + 1, u, upS σ.2.2 (15 + c) ow) := if_pos k62
            rw [e62]
            cases ea : asg (rK f n) (rV f n) c (i + 1, u, upS σ.2.2 (15 + c) ow) with
            | none => rw [ea] at e2; cases e2
            | some d =>
              rw [ea] at e2
              have e2 : asl (rK f n) (rV f n) c 3 d = some σ' := e2
              show (asg (rK f n) (rV f n) c (i + 1, u, upS σ.2.2 (15 + c) ow)).bind _ = _
              rw [ea]
              show (asl (rK f n) (rV f n) c 3 d).bind _ = _
              rw [e2]
              exact if_pos k59
          have hwhen : σ'.2.2 (15 + c) = some ow := by
            cases ea : asg (rK f n) (rV f n) c (i + 1, u, upS σ.2.2 (15 + c) ow) with
            | none => rw [ea] at e2; cases e2
            | some d =>
              rw [ea] at e2
              have hv3 : ∀ j, rK f n j = 259 → rV f n j < 3 := fun j => (rk_facts f n j).2.2.1
              rw [asl_Ou hv3 3 d σ' e2 (15 + c) (by omega), asg_Ou hv3 ea (15 + c) (by omega)]
              exact if_pos rfl
          have := hok (σ'.1 + 1, σ'.2) (ow ++ [301] ++ X) hcho (by show σ.1 < σ'.1 + 1; omega) hu2 (by rw [← List.append_assoc, ← List.append_assoc]; show _ ≤ 2 * σ'.2.1 + rP f n (σ'.1 + 1) / 3 + 1; omega) ⟨ow, hwhen, by rw [← List.append_assoc, ← List.append_assoc]; exact At_app (At_new O ow)⟩ op pl a3 t3 p3 nu3 sg3 fp pile be' hr3 (by rw [← List.append_assoc, ← List.append_assoc]; exact hBE) hFB
          rw [← List.append_assoc, ← List.append_assoc] at this
          exact this)
      exact ⟨N + 1, hN a2 t2 p2 nu2 sg2 fp op pl pile be1 hr2 (fun v hv => ⟨fun _ => h1 v hv, fun o q => absurd ((hSu v hv).symm.trans q) (fun z => (by cases z))⟩) hF1⟩
    · have hr995 := rp_le f hn i
      exact wK5 (by
        unfold cho
        rw [e1]
        show (eat (rK f n) 262 (i, u, upS σ.2.2 (15 + c) ow)).bind _ = _
        have e62 : eat (rK f n) 262 (i, u, upS σ.2.2 (15 + c) ow) = none := if_neg k62
        rw [e62]; rfl) i u _ op pl a t p nu sg p pile be1 hr (by omega) hF1
end RCh2
