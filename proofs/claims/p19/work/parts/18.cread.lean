/-! the class's reading of a whole loop -/
theorem sct_S {X : Nat → Nat → PR} {s : Nat} {σ σ' : LoS} (h : sct X s σ = some σ') : ∃ o, σ'.2.2 = upS σ.2.2 s o := by
  unfold sct at h
  cases hx : X σ.1 σ.2.1 with
  | none => rw [hx] at h; cases h
  | some t => obtain ⟨i, u, o⟩ := t; rw [hx] at h; cases h; exact ⟨o, rfl⟩
theorem upS_ne {S : Nat → Option (List Nat)} {s t : Nat} {o : List Nat} (h : t ≠ s) : upS S s o t = S t := if_neg h
def Ou (lo hi : Nat) (σ σ' : LoS) : Prop := ∀ s, ¬ (lo ≤ s ∧ s < hi) → σ'.2.2 s = σ.2.2 s
theorem sct_Ou {X : Nat → Nat → PR} {s : Nat} {σ σ' : LoS} (h : sct X s σ = some σ') : Ou s (s + 1) σ σ' := fun t ht => by
  obtain ⟨o, e⟩ := sct_S h
  rw [e, upS_ne (by omega)]
section CR
variable {K V : Nat → Nat} {m : Nat} {ks vs : Nat → Int32}
theorem asg_Ou (hv : ∀ j, K j = 259 → V j < 3) {c : Nat} {σ σ' : LoS} (h : asg K V c σ = some σ') : Ou (21 + c * 3) (21 + c * 3 + 3) σ σ' := by
  unfold asg at h
  split at h
  · next e =>
    have h3 := hv _ e.1
    intro t ht
    have := sct_Ou (σ := (σ.1 + 2, σ.2)) h t (by omega)
    exact this
  · cases h
theorem asl_Ou (hv : ∀ j, K j = 259 → V j < 3) {c : Nat} : ∀ k σ σ', asl K V c k σ = some σ' → Ou (21 + c * 3) (21 + c * 3 + 3) σ σ'
  | 0, σ, σ', h => by cases h; exact fun _ _ => rfl
  | k + 1, σ, σ', h => by
    have h : (if K σ.1 = 44 then (asg K V c (σ.1 + 1, σ.2)).bind (asl K V c k) else some σ) = some σ' := h
    split at h
    · cases ha : asg K V c (σ.1 + 1, σ.2) with
      | none => rw [ha] at h; cases h
      | some σ1 =>
        rw [ha] at h
        have a := asg_Ou hv ha
        have b := asl_Ou hv k σ1 σ' h
        intro t ht
        rw [b t ht]; exact a t ht
    · cases h; exact fun _ _ => rfl
def Fc (c : Nat) (σ : LoS) : Prop := ∀ s, (s = 1 ∨ s = 2 ∨ (3 ≤ s ∧ s < 15) ∨ (15 + c ≤ s ∧ s < 21) ∨ 21 + c * 3 ≤ s) → σ.2.2 s = none
def Fg (g : Nat) (σ : LoS) : Prop := ∀ s, (s = 2 ∨ (3 + g ≤ s ∧ s < 15)) → σ.2.2 s = none
abbrev LPc := Int32 → Int32 → (Nat → Int32) → (Nat → Int32) → (Nat → Int32) → (Nat → Int32) → Int32 → Int32 → Int32 → Int32 → Prop
theorem cs_chlF {K9 : LPc} {x : Int32} (hw : ∀ ch, WLp (fun sz sec st sa so ud i f u => K9 sz sec st sa so ud i f u ch)) {n : Nat} : WLp (fun sz sec st sa so ud i f u => wp_Pars_readLoop_L27 (nI (m + 1)) ks vs K9 (n + 1) sz sec st sa so ud i f u x) :=
  fun sz sec st sa so ud i u hs hsec hi => br_c (fun _ => hw _ _ _ _ _ _ _ _ _ hs hsec hi) (fun _ => q_takes_f (br_t rfl (hw _ _ _ _ _ _ _ _ _ hs hsec hi)))
theorem cs_chl (T : TI K V m ks vs) {K9 : LPc} : ∀ k c, c + k = 6 → ∀ σ, OKs m σ → Fc c σ → (chl K V k c σ = none → ∀ ch, WLp (fun sz sec st sa so ud i f u => K9 sz sec st sa so ud i f u ch)) → (∀ c' σ', chl K V k c σ = some (c', σ') → c' ≤ 6 → OKs m σ' → Fc c' σ' → RLp (fun sz sec st sa so ud i f u => K9 sz sec st sa so ud i f u (nI c')) σ') → RLp (fun sz sec st sa so ud i f u => wp_Pars_readLoop_L27 (nI (m + 1)) ks vs K9 (k + 1) sz sec st sa so ud i f u (nI c)) σ := by
  intro k
  induction k with
  | zero =>
    intro c hc σ ok hf hw h sz sec st sa so ud hsec hsz hcd
    exact br_t (show nI 6 ≤ nI c from nI_le (by omega) (by omega)) (h c σ rfl (by omega) ok hf sz sec st sa so ud hsec hsz hcd)
  | succ k ih =>
    intro c hc σ ok hf hw h sz sec st sa so ud hsec hsz hcd
    have hm := T.1
    have h1 := ok.1
    refine br_f (show ¬ nI 6 ≤ nI c from nI_ge (by omega) (by decide)) (q_takes T 261 rfl (by decide) (by omega) (fun a => ?_) (fun a => ?_))
    · refine br_f (by decide) ?_
      have hi1 := in_m T.2.1 a (by decide)
      rw [nI_1, show (15 : Int32) = nI 15 from rfl, nI_add]
      have nz : cho K V c σ = none → chl K V (k + 1) c σ = none := fun e => by
        show (if K σ.1 = 261 then (cho K V c σ).bind (fun a => chl K V k (c + 1) a) else some (c, σ)) = none
        rw [if_pos a, e]; rfl
      have wL : chl K V (k + 1) c σ = none → WLp (fun sz sec st sa so ud i f u => wp_Pars_readLoop_L27 (nI (m + 1)) ks vs K9 (k + 1) sz sec st sa so ud i f u (nI (c + 1))) := fun e => cs_chlF (hw e)
      have w59 := fun e => cs_eatF (ks := ks) (x := 59) (cnt := nI (m + 1)) (wL e)
      have wA : chl K V (k + 1) c σ = none → WLp (fun sz sec st sa so ud i f u => wp_Pars_readAssignments (nI c) (nI (m + 1)) ks vs sz sec st sa so ud i f u (fun sz sec st sa so ud i f u => wp_Pars_expect 59 (nI (m + 1)) ks i f (fun i' f' => wp_Pars_readLoop_L27 (nI (m + 1)) ks vs K9 (k + 1) sz sec st sa so ud i' f' u (nI (c + 1))))) :=
        fun e sz sec st sa so ud i u hs hsec hi => cs_asgF T (x := 0) (fun sz sec st sa so ud i u hs hsec hi => ⟨1, cs_aslF T (w59 e) _ _ _ _ _ _ _ _ hs hsec hi⟩) hs hsec hi _
      refine cs_sec T (15 + c) rfl (by omega) (σ := (σ.1 + 1, σ.2)) (fun e => cs_eatF (ks := ks) (wA (nz (by unfold cho; rw [e]; rfl)))) ⟨hi1, ok.2⟩ (hf _ (by omega)) (fun σ1 e1 ok1 => ?_) sz sec st sa so ud hsec (by show sz ≤ σ.1 + 1; omega) hcd
      refine cs_eat T 262 rfl (by decide) (fun e => wA (nz (by unfold cho; rw [e1]; show (eat K 262 σ1).bind _ = _; rw [e]; rfl))) ok1 (fun σ2 e2 _ => ?_)
      have ok2 := (eat_ok T.2.1 (by decide) e2 ok1).1
      refine cs_asg T (by omega) (fun e sz sec st sa so ud i u hs hsec hi => ⟨1, cs_aslF T (w59 (nz (by unfold cho; rw [e1]; show (eat K 262 σ1).bind _ = _; rw [e2]; show (asg K V c σ2).bind _ = _; rw [e]; rfl))) _ _ _ _ _ _ _ _ hs hsec hi⟩) ok2 (fun σ3 e3 ok3 => ?_)
      intro sz sec st sa so ud hsec hsz hcd
      refine ⟨4, cs_asl T (by omega) 3 0 rfl σ3 ok3 (fun e => w59 (nz (by unfold cho; rw [e1]; show (eat K 262 σ1).bind _ = _; rw [e2]; show (asg K V c σ2).bind _ = _; rw [e3]; show (asl K V c 3 σ3).bind _ = _; rw [e]; rfl))) (fun σ4 e4 ok4 => ?_) sz sec st sa so ud hsec hsz hcd⟩
      refine cs_eat T 59 rfl (by decide) (fun e => wL (nz (by unfold cho; rw [e1]; show (eat K 262 σ1).bind _ = _; rw [e2]; show (asg K V c σ2).bind _ = _; rw [e3]; show (asl K V c 3 σ3).bind _ = _; rw [e4]; exact e))) ok4 (fun σ5 e5 _ => ?_)
      have ok5 := eat_ok T.2.1 (by decide) e5 ok4
      have e7 : cho K V c σ = some σ5 := by
        unfold cho
        rw [e1]
        show (eat K 262 σ1).bind _ = _
        rw [e2]
        show (asg K V c σ2).bind _ = _
        rw [e3]
        show (asl K V c 3 σ3).bind _ = _
        rw [e4]
        exact e5
      refine ih (c + 1) (by omega) σ5 ok5.1 (fun s hs => ?_) (fun e8 => hw (by
        show (if K σ.1 = 261 then (cho K V c σ).bind (fun a => chl K V k (c + 1) a) else some (c, σ)) = none
        rw [if_pos a, e7]; exact e8)) (fun c' σ' e6 hc' ok6 f6 => h c' σ' ?_ hc' ok6 f6)
      · rw [ok5.2.2]
        show σ4.2.2 s = none
        rw [asl_Ou T.2.2.2.2.1 _ _ _ e4 s (by omega), asg_Ou T.2.2.2.2.1 e3 s (by omega), (eat_ok T.2.1 (by decide) e2 ok1).2.2]
        show σ1.2.2 s = none
        rw [sct_Ou e1 s (by omega)]
        exact hf s (by omega)
      · show (if K σ.1 = 261 then (cho K V c σ).bind (fun a => chl K V k (c + 1) a) else some (c, σ)) = some (c', σ')
        rw [if_pos a]
        have : cho K V c σ = some σ5 := by
          unfold cho
          rw [e1]
          show (eat K 262 σ1).bind _ = _
          rw [e2]
          show (asg K V c σ2).bind _ = _
          rw [e3]
          show (asl K V c 3 σ3).bind _ = _
          rw [e4]
          exact e5
        rw [this]; exact e6
    · exact br_t rfl (h c σ (by show (if K σ.1 = 261 then _ else _) = _; rw [if_neg a]) (by omega) ok hf sz sec st sa so ud hsec hsz hcd)
theorem cs_gulF {K9 : LPc} {x : Int32} (hw : ∀ ch, WLp (fun sz sec st sa so ud i f u => K9 sz sec st sa so ud i f u ch)) {n : Nat} : WLp (fun sz sec st sa so ud i f u => wp_Pars_readLoop_L126 (nI (m + 1)) ks vs K9 (n + 1) sz sec st sa so ud i f u x) :=
  fun sz sec st sa so ud i u hs hsec hi => br_c (fun _ => hw _ _ _ _ _ _ _ _ _ hs hsec hi) (fun _ => q_takes_f (br_t rfl (hw _ _ _ _ _ _ _ _ _ hs hsec hi)))
theorem cs_gul (T : TI K V m ks vs) {K9 : LPc} : ∀ k g, g + k = 12 → ∀ σ, OKs m σ → Fg g σ → (gul K V k g σ = none → ∀ ch, WLp (fun sz sec st sa so ud i f u => K9 sz sec st sa so ud i f u ch)) → (∀ g' σ', gul K V k g σ = some (g', σ') → g' ≤ 12 → OKs m σ' → Fg g' σ' → RLp (fun sz sec st sa so ud i f u => K9 sz sec st sa so ud i f u (nI g')) σ') → RLp (fun sz sec st sa so ud i f u => wp_Pars_readLoop_L126 (nI (m + 1)) ks vs K9 (k + 1) sz sec st sa so ud i f u (nI g)) σ := by
  intro k
  induction k with
  | zero =>
    intro g hg σ ok hf hw h sz sec st sa so ud hsec hsz hcd
    exact br_t (show nI 12 ≤ nI g from nI_le (by omega) (by omega)) (h g σ rfl (by omega) ok hf sz sec st sa so ud hsec hsz hcd)
  | succ k ih =>
    intro g hg σ ok hf hw h sz sec st sa so ud hsec hsz hcd
    have hm := T.1
    have h1 := ok.1
    refine br_f (show ¬ nI 12 ≤ nI g from nI_ge (by omega) (by decide)) (q_takes T 264 rfl (by decide) (by omega) (fun a => ?_) (fun a => ?_))
    · refine br_f (by decide) ?_
      have hi1 := in_m T.2.1 a (by decide)
      rw [nI_1, show (3 : Int32) = nI 3 from rfl, nI_add]
      have wL : gul K V (k + 1) g σ = none → WLp (fun sz sec st sa so ud i f u => wp_Pars_readLoop_L126 (nI (m + 1)) ks vs K9 (k + 1) sz sec st sa so ud i f u (nI (g + 1))) := fun e => cs_gulF (hw e)
      have w59 := fun e => cs_eatF (ks := ks) (x := 59) (cnt := nI (m + 1)) (wL e)
      have gz : ∀ t, ((sct (pC K V 8) (3 + g) (σ.1 + 1, σ.2)).bind (fun a => eat K 59 a)).bind (fun a => gul K V k (g + 1) a) = t → gul K V (k + 1) g σ = t := fun t e => by
        show (if K σ.1 = 264 then ((sct (pC K V 8) (3 + g) (σ.1 + 1, σ.2)).bind (fun a => eat K 59 a)).bind (fun a => gul K V k (g + 1) a) else some (g, σ)) = t
        rw [if_pos a]; exact e
      refine cs_sec T (3 + g) rfl (by omega) (σ := (σ.1 + 1, σ.2)) (fun e => w59 (gz _ (by rw [e]; rfl))) ⟨hi1, ok.2⟩ (hf _ (by omega)) (fun σ1 e1 ok1 => ?_) sz sec st sa so ud hsec (by show sz ≤ σ.1 + 1; omega) hcd
      refine cs_eat T 59 rfl (by decide) (fun e => wL (gz _ (by rw [e1]; show (eat K 59 σ1).bind _ = _; rw [e]; rfl))) ok1 (fun σ5 e5 _ => ?_)
      have ok5 := eat_ok T.2.1 (by decide) e5 ok1
      refine ih (g + 1) (by omega) σ5 ok5.1 (fun s hs => ?_) (fun e8 => hw (gz _ (by rw [e1]; show (eat K 59 σ1).bind _ = _; rw [e5]; exact e8))) (fun c' σ' e6 hc' ok6 f6 => h c' σ' ?_ hc' ok6 f6)
      · rw [ok5.2.2]
        show σ1.2.2 s = none
        rw [sct_Ou e1 s (by omega)]
        exact hf s (by omega)
      · show (if K σ.1 = 264 then ((sct (pC K V 8) (3 + g) (σ.1 + 1, σ.2)).bind (fun a => eat K 59 a)).bind (fun a => gul K V k (g + 1) a) else some (g, σ)) = some (c', σ')
        rw [if_pos a, e1]
        show (eat K 59 σ1).bind _ = _
        rw [e5]; exact e6
    · exact br_t rfl (h g σ (by show (if K σ.1 = 264 then _ else _) = _; rw [if_neg a]) (by omega) ok hf sz sec st sa so ud hsec hsz hcd)
abbrev LPr := Int32 → Int32 → Int32 → (Nat → Int32) → (Nat → Int32) → (Nat → Int32) → (Nat → Int32) → Int32 → Int32 → Int32 → Int32 → Int32 → Prop
theorem wEnd {post : LPr} {ch gu : Int32} (hw : ∀ ch gu, WLp (fun sz sec st sa so ud i f u => post 0 sz sec st sa so ud i f u ch gu)) : WLp (fun sz sec st sa so ud i f u => ((¬ (f : Int32) = 0 → post 0 sz sec st sa so ud i f u ch gu) ∧ ((f : Int32) = 0 → post 1 sz sec st sa so ud i f u ch gu))) :=
  fun sz sec st sa so ud i u hs hsec hi => bn_f (by decide) (hw _ _ _ _ _ _ _ _ _ _ hs hsec hi)
theorem cs_174F (T : TI K V m ks vs) {post : LPr} {ch gu : Int32} (hw : ∀ ch gu, WLp (fun sz sec st sa so ud i f u => post 0 sz sec st sa so ud i f u ch gu)) : WLp (fun sz sec st sa so ud i f u => wp_Pars_readLoop_J174 (nI (m + 1)) ks vs sz sec st sa so ud i f u ch gu post) :=
  fun sz sec st sa so ud i u hs hsec hi => q_takes_f (br_t rfl (q_expect_f (bn_f (by decide) (hw _ _ _ _ _ _ _ _ _ _ hs hsec hi))))
theorem cs_174 (T : TI K V m ks vs) {post : LPr} {c g : Nat} {σ : LoS} (hw : (rnk K V σ).bind (fun f => eat K 256 f) = none → ∀ ch gu, WLp (fun sz sec st sa so ud i f u => post 0 sz sec st sa so ud i f u ch gu)) (ok : OKs m σ) (hf : σ.2.2 2 = none) (h : ∀ σ1 σ2, rnk K V σ = some σ1 → eat K 256 σ1 = some σ2 → σ2.2.1 ≤ 100 → RLq (fun sz sec st sa so ud i f u => post 1 sz sec st sa so ud i f u (nI c) (nI g)) σ2) : RLp (fun sz sec st sa so ud i f u => wp_Pars_readLoop_J174 (nI (m + 1)) ks vs sz sec st sa so ud i f u (nI c) (nI g) post) σ := by
  have last : ∀ σ1, rnk K V σ = some σ1 → OKs m σ1 → RLp (fun sz sec st sa so ud i f u => wp_Pars_expect 256 (nI (m + 1)) ks i f (fun i' f' => ((¬ (f' : Int32) = 0 → post 0 sz sec st sa so ud i' f' u (nI c) (nI g)) ∧ ((f' : Int32) = 0 → post 1 sz sec st sa so ud i' f' u (nI c) (nI g))))) σ1 := by
    intro σ1 e1 ok1
    refine cs_eat2 T 256 rfl (by decide) (fun e => wEnd (hw (by rw [e1]; exact e))) ok1 (fun σ2 e2 k2 => ?_)
    intro sz sec st sa so ud hsec hsz hs1 hcd
    have e3 : σ2 = (σ1.1 + 1, σ1.2) := by unfold eat at e2; rw [if_pos k2] at e2; cases e2; rfl
    exact bn_t rfl (h σ1 σ2 e1 e2 (by rw [e3]; exact ok1.2) sz sec st sa so ud hsec hsz hs1 hcd)
  intro sz sec st sa so ud hsec hsz hcd
  have hm := T.1
  have h1 := ok.1
  refine q_takes T 265 rfl (by decide) (by omega) (fun a => ?_) (fun a => ?_)
  · refine br_f (by decide) ?_
    have hi1 := in_m T.2.1 a (by decide)
    have w5 := fun e => cs_eatF (ks := ks) (x := 59) (cnt := nI (m + 1)) (cs_eatF (ks := ks) (x := 256) (cnt := nI (m + 1)) (wEnd (ch := nI c) (gu := nI g) (hw e)))
    have nz : ∀ t, (sct (pE K V 8) 2 (σ.1 + 1, σ.2)).bind (fun a => eat K 59 a) = t → rnk K V σ = t := fun t q => by unfold rnk; rw [if_pos a]; exact q
    refine q_open (s := 2) (by decide) (pe8 T 2 sz st ud (σ.1 + 1) σ.2.1 _ (by decide) (by omega) hi1 ok.2 (fun hx sz' st' ud' i' u' hs' hi' => q_close (s := 2) (by decide) (w5 (by
      rw [nz none (by
        unfold sct
        show ((match pE K V 8 (σ.1 + 1) σ.2.1 with | none => none | some (i, u, o) => some (i, u, upS σ.2.2 2 o)) : Option LoS).bind _ = _
        rw [hx]; rfl)]; rfl) _ _ _ _ _ _ _ _ hs' (by decide) hi')) (fun i' u' o hx => ?_))
    have g2 := pE_gd (V := V) T.2.1 8 _ _ _ _ _ hx
    have hi' := g2.2.2.2.2 hi1
    have e : sct (pE K V 8) 2 (σ.1 + 1, σ.2) = some (i', u', upS σ.2.2 2 o) := by
      unfold sct
      show (match pE K V 8 (σ.1 + 1) σ.2.1 with | none => none | some (i, u, o) => some (i, u, upS σ.2.2 2 o)) = _
      rw [hx]
    have ok1 : OKs m (i', u', upS σ.2.2 2 o) := ⟨hi', g2.2.2.1⟩
    refine q_close (s := 2) (by decide) (cs_eat T 59 rfl (by decide) (fun e5 => cs_eatF (ks := ks) (wEnd (hw (by rw [nz none (by rw [e]; exact e5)]; rfl)))) ok1 (fun σ2 e2 _ => last σ2 ?_ (eat_ok T.2.1 (by decide) e2 ok1).1) (sz + o.length) 2 _ _ _ _ (by decide) (by show sz + o.length ≤ i'; omega) (code_step o hf (by decide) hcd))
    unfold rnk
    rw [if_pos a, e]
    exact e2
  · exact br_t rfl (last σ (by unfold rnk; rw [if_neg a]) ok sz sec st sa so ud hsec hsz hcd)
theorem cs_91F (T : TI K V m ks vs) {post : LPr} {ch gu : Int32} (hw : ∀ ch gu, WLp (fun sz sec st sa so ud i f u => post 0 sz sec st sa so ud i f u ch gu)) : WLp (fun sz sec st sa so ud i f u => wp_Pars_readLoop_J91 (nI (m + 1)) ks vs sz sec st sa so ud i f u ch gu post) := by
  intro sz sec st sa so ud i u hs hsec hi
  have wg : WLp (fun sz sec st sa so ud i f u => ∃ n, wp_Pars_readLoop_L126 (nI (m + 1)) ks vs (fun a b c d e f g h i j => wp_Pars_readLoop_J174 (nI (m + 1)) ks vs a b c d e f g h i ch j post) n sz sec st sa so ud i f u 0) := fun sz sec st sa so ud i u hs hsec hi => ⟨1, cs_gulF (K9 := fun a b c d e f g h i j => wp_Pars_readLoop_J174 (nI (m + 1)) ks vs a b c d e f g h i ch j post) (fun g => cs_174F T hw) _ _ _ _ _ _ _ _ hs hsec hi⟩
  exact bn_c (fun _ => q_expect_f (cs_secF T 1 rfl (by decide) (cs_eatF (ks := ks) wg) hs hi)) (fun _ => q_expect_f (cs_secF T 1 rfl (by decide) (cs_eatF (ks := ks) wg) hs hi))
theorem cs_91 (T : TI K V m ks vs) {post : LPr} {c : Nat} (hc6 : c ≤ 6) {gu : Int32} {σ : LoS} (hw : pL2 K V c σ = none → ∀ ch gu, WLp (fun sz sec st sa so ud i f u => post 0 sz sec st sa so ud i f u ch gu)) (ok : OKs m σ) (hf : Fc c σ) (h : ∀ g σ2, pL2 K V c σ = some (c, g, σ2) → 1 ≤ c → g ≤ 12 → σ2.2.1 ≤ 100 → RLq (fun sz sec st sa so ud i f u => post 1 sz sec st sa so ud i f u (nI c) (nI g)) σ2) : RLp (fun sz sec st sa so ud i f u => wp_Pars_readLoop_J91 (nI (m + 1)) ks vs sz sec st sa so ud i f u (nI c) gu post) σ := by
  intro sz sec st sa so ud hsec hsz hcd
  have hm := T.1
  have h1 := ok.1
  have wg : pL2 K V c σ = none → WLp (fun sz sec st sa so ud i f u => ∃ n, wp_Pars_readLoop_L126 (nI (m + 1)) ks vs (fun a b d e f g h i j k => wp_Pars_readLoop_J174 (nI (m + 1)) ks vs a b d e f g h i j (nI c) k post) n sz sec st sa so ud i f u 0) := fun e sz sec st sa so ud i u hs hsec hi => ⟨1, cs_gulF (K9 := fun a b d e f g h i j k => wp_Pars_readLoop_J174 (nI (m + 1)) ks vs a b d e f g h i j (nI c) k post) (fun g => cs_174F T (hw e)) _ _ _ _ _ _ _ _ hs hsec hi⟩
  by_cases h0 : c = 0
  · subst h0
    exact bn_t rfl (q_expect_f (cs_secF T 1 rfl (by decide) (cs_eatF (ks := ks) (wg (by unfold pL2; rw [if_pos rfl]))) (by omega) (by omega)))
  · refine bn_f (nI_ne0 (by omega) (by omega)) ?_
    have nz : ∀ t, (eat K 263 σ).bind (fun a => (sct (pC K V 8) 1 a).bind (fun b => (eat K 59 b).bind (fun d => (gul K V 12 0 d).bind (fun e => (rnk K V e.2).bind (fun f => (eat K 256 f).bind (fun h => some (c, e.1, h))))))) = t → pL2 K V c σ = t := fun t e => by unfold pL2; rw [if_neg h0]; exact e
    have wS : pL2 K V c σ = none → WLp (fun sz sec st sa so ud i f u => wp_Pars_readSection 1 (nI (m + 1)) ks vs sz sec st sa so ud i f u (fun sz sec st sa so ud i f u => wp_Pars_expect 59 (nI (m + 1)) ks i f (fun i' f' => ∃ n, wp_Pars_readLoop_L126 (nI (m + 1)) ks vs (fun a b d e f g h i j k => wp_Pars_readLoop_J174 (nI (m + 1)) ks vs a b d e f g h i j (nI c) k post) n sz sec st sa so ud i' f' u 0))) := fun e sz sec st sa so ud i u hs hsec hi => cs_secF T 1 rfl (by decide) (cs_eatF (ks := ks) (wg e)) hs hi
    refine cs_eat T 263 rfl (by decide) (fun e => wS (nz _ (by rw [e]; rfl))) ok (fun σ1 e1 _ => ?_) sz sec st sa so ud hsec hsz hcd
    have ok1 := eat_ok T.2.1 (by decide) e1 ok
    refine cs_sec T 1 rfl (by decide) (fun e => cs_eatF (ks := ks) (wg (nz _ (by rw [e1]; show (sct (pC K V 8) 1 σ1).bind _ = _; rw [e]; rfl)))) ok1.1 (by rw [ok1.2.2]; exact hf 1 (Or.inl rfl)) (fun σ2 e2 ok2 => ?_)
    refine cs_eat T 59 rfl (by decide) (fun e => wg (nz _ (by rw [e1]; show (sct (pC K V 8) 1 σ1).bind _ = _; rw [e2]; show (eat K 59 σ2).bind _ = _; rw [e]; rfl))) ok2 (fun σ3 e3 _ => ?_)
    have ok3 := eat_ok T.2.1 (by decide) e3 ok2
    intro sz sec st sa so ud hsec hsz hcd
    refine ⟨13, cs_gul T (K9 := fun a b d e f g h i j k => wp_Pars_readLoop_J174 (nI (m + 1)) ks vs a b d e f g h i j (nI c) k post) 12 0 rfl σ3 ok3.1 (fun s hs => ?_) (fun e g => cs_174F T (hw (nz _ (by rw [e1]; show (sct (pC K V 8) 1 σ1).bind _ = _; rw [e2]; show (eat K 59 σ2).bind _ = _; rw [e3]; show (gul K V 12 0 σ3).bind _ = _; rw [e]; rfl)))) (fun g σ4 e4 hg ok4 f4 => ?_) sz sec st sa so ud hsec hsz hcd⟩
    · rw [ok3.2.2]
      show σ2.2.2 s = none
      rw [sct_Ou e2 s (by omega), ok1.2.2]
      exact hf s (by omega)
    · refine cs_174 T (fun e => hw (nz _ (by
        rw [e1]
        show (sct (pC K V 8) 1 σ1).bind _ = _
        rw [e2]
        show (eat K 59 σ2).bind _ = _
        rw [e3]
        show (gul K V 12 0 σ3).bind _ = _
        rw [e4]
        show (rnk K V σ4).bind _ = _
        cases er : rnk K V σ4 with
        | none => rfl
        | some σ5 =>
          rw [er] at e
          have e : eat K 256 σ5 = none := e
          show (eat K 256 σ5).bind _ = _
          rw [e]; rfl))) ok4 (f4 2 (Or.inl rfl)) (fun σ5 σ6 e5 e6 hu => h g σ6 ?_ (by omega) hg hu)
      unfold pL2
      rw [if_neg h0, e1]
      show (sct (pC K V 8) 1 σ1).bind _ = _
      rw [e2]
      show (eat K 59 σ2).bind _ = _
      rw [e3]
      show (gul K V 12 0 σ3).bind _ = _
      rw [e4]
      show (rnk K V σ4).bind _ = _
      rw [e5]
      show (eat K 256 σ5).bind _ = _
      rw [e6]; rfl
theorem fill_at {f : Nat → Int32} {n s : Nat} {v : Int32} (h : s < n) : vp_fill f n v s = v := if_pos h
theorem cs_readLoop (T : TI K V m ks vs) {post : LPr} (hw : pL K V = none → ∀ ch gu, WLp (fun sz sec st sa so ud i f u => post 0 sz sec st sa so ud i f u ch gu)) (h : ∀ c g σ, pL K V = some (c, g, σ) → 1 ≤ c → c ≤ 6 → g ≤ 12 → σ.2.1 ≤ 100 → RLq (fun sz sec st sa so ud i f u => post 1 sz sec st sa so ud i f u (nI c) (nI g)) σ) {a1 a2 a3 a4 a5 a6 a7 : Int32} {st sa so ud : Nat → Int32} : wp_Pars_readLoop (nI (m + 1)) ks vs a1 a2 st sa so ud a3 a4 a5 a6 a7 post := by
  have wL : pL K V = none → WLp (fun sz sec st sa so ud i f u => ∃ n, wp_Pars_readLoop_L27 (nI (m + 1)) ks vs (fun a b c d e f g h i j => wp_Pars_readLoop_J91 (nI (m + 1)) ks vs a b c d e f g h i j a7 post) n sz sec st sa so ud i f u 0) := fun e sz sec st sa so ud i u hs hsec hi => ⟨1, cs_chlF (K9 := fun a b c d e f g h i j => wp_Pars_readLoop_J91 (nI (m + 1)) ks vs a b c d e f g h i j a7 post) (fun g => cs_91F T (hw e)) _ _ _ _ _ _ _ _ hs hsec hi⟩
  have w59 := fun e => cs_eatF (ks := ks) (x := 59) (cnt := nI (m + 1)) (wL e)
  have wS : pL K V = none → WLp (fun sz sec st sa so ud i f u => wp_Pars_readSection 0 (nI (m + 1)) ks vs sz sec st sa so ud i f u (fun sz sec st sa so ud i f u => wp_Pars_expect 59 (nI (m + 1)) ks i f (fun i' f' => ∃ n, wp_Pars_readLoop_L27 (nI (m + 1)) ks vs (fun a b c d e f g h i j => wp_Pars_readLoop_J91 (nI (m + 1)) ks vs a b c d e f g h i j a7 post) n sz sec st sa so ud i' f' u 0))) := fun e sz sec st sa so ud i u hs hsec hi => cs_secF T 0 rfl (by decide) (w59 e) hs hi
  have ok0 : OKs m (0, 0, fun _ => none) := ⟨Nat.zero_le _, Nat.zero_le _⟩
  have main := cs_eat T 260 rfl (by decide) (fun e => wS (by unfold pL; rw [e]; rfl)) ok0 (fun σ1 e1 _ => by
    have ok1 := eat_ok T.2.1 (by decide) e1 ok0
    refine cs_sec T 0 rfl (by decide) (fun e => w59 (by unfold pL; rw [e1]; show (sct (pC K V 8) 0 σ1).bind _ = _; rw [e]; rfl)) ok1.1 (by rw [ok1.2.2]) (fun σ2 e2 ok2 => ?_)
    refine cs_eat T 59 rfl (by decide) (fun e => wL (by unfold pL; rw [e1]; show (sct (pC K V 8) 0 σ1).bind _ = _; rw [e2]; show (eat K 59 σ2).bind _ = _; rw [e]; rfl)) ok2 (fun σ3 e3 _ => ?_)
    have ok3 := eat_ok T.2.1 (by decide) e3 ok2
    intro sz sec st sa so ud hsec hsz hcd
    refine ⟨7, cs_chl T (K9 := fun a b c d e f g h i j => wp_Pars_readLoop_J91 (nI (m + 1)) ks vs a b c d e f g h i j a7 post) 6 0 rfl σ3 ok3.1 (fun s hs => ?_) (fun e g => cs_91F T (hw (by unfold pL; rw [e1]; show (sct (pC K V 8) 0 σ1).bind _ = _; rw [e2]; show (eat K 59 σ2).bind _ = _; rw [e3]; show (chl K V 6 0 σ3).bind _ = _; rw [e]; rfl))) (fun c σ4 e4 hc ok4 f4 => ?_) sz sec st sa so ud hsec hsz hcd⟩
    · rw [ok3.2.2]
      show σ2.2.2 s = none
      rw [sct_Ou e2 s (by omega), ok1.2.2]
    · refine cs_91 T hc (fun e => hw (by unfold pL; rw [e1]; show (sct (pC K V 8) 0 σ1).bind _ = _; rw [e2]; show (eat K 59 σ2).bind _ = _; rw [e3]; show (chl K V 6 0 σ3).bind _ = _; rw [e4]; exact e)) ok4 f4 (fun g σ5 e5 h1 hg hu => h c g σ5 ?_ h1 hc hg hu)
      unfold pL
      rw [e1]
      show (sct (pC K V 8) 0 σ1).bind _ = _
      rw [e2]
      show (eat K 59 σ2).bind _ = _
      rw [e3]
      show (chl K V 6 0 σ3).bind _ = _
      rw [e4]; exact e5)
  exact main 0 0 st _ _ _ (by decide) (Nat.le_refl 0) (fun s hs => ⟨fun _ => ⟨fill_at hs, fill_at hs⟩, fun o q => (by cases q)⟩)
abbrev LPq := Int32 → Int32 → Int32 → (Nat → Int32) → (Nat → Int32) → (Nat → Int32) → (Nat → Int32) → Int32 → Int32 → Int32 → Prop
theorem cs_readQuestion (T : TI K V m ks vs) {post : LPq} (hw : pQ K V = none → WLp (fun sz sec st sa so ud i f u => post 0 sz sec st sa so ud i f u)) (h : ∀ σ, pQ K V = some σ → σ.2.1 ≤ 100 → RLq (fun sz sec st sa so ud i f u => post 1 sz sec st sa so ud i f u) σ) {a1 a2 a3 a4 a5 : Int32} {st sa so ud : Nat → Int32} : wp_Pars_readQuestion (nI (m + 1)) ks vs a1 a2 st sa so ud a3 a4 a5 post := by
  have wE : pQ K V = none → WLp (fun sz sec st sa so ud i f u => ((¬ (f : Int32) = 0 → post 0 sz sec st sa so ud i f u) ∧ ((f : Int32) = 0 → post 1 sz sec st sa so ud i f u))) := fun e sz sec st sa so ud i u hs hsec hi => bn_f (by decide) (hw e _ _ _ _ _ _ _ _ hs hsec hi)
  have ok0 : OKs m (0, 0, fun _ => none) := ⟨Nat.zero_le _, Nat.zero_le _⟩
  have main := cs_sec T 0 rfl (by decide) (fun e => cs_eatF (ks := ks) (x := 256) (cnt := nI (m + 1)) (wE (by unfold pQ; rw [e]; rfl))) ok0 rfl (fun σ1 e1 ok1 => by
    refine cs_eat2 T 256 rfl (by decide) (fun e => wE (by unfold pQ; rw [e1]; exact e)) ok1 (fun σ2 e2 k2 => ?_)
    intro sz sec st sa so ud hsec hsz hs1 hcd
    have e3 : σ2 = (σ1.1 + 1, σ1.2) := by unfold eat at e2; rw [if_pos k2] at e2; cases e2; rfl
    exact bn_t rfl (h σ2 (by unfold pQ; rw [e1]; exact e2) (by rw [e3]; exact ok1.2) sz sec st sa so ud hsec hsz hs1 hcd))
  exact main 0 0 st _ _ _ (by decide) (Nat.le_refl 0) (fun s hs => ⟨fun _ => ⟨fill_at hs, fill_at hs⟩, fun o q => (by cases q)⟩)
end CR
