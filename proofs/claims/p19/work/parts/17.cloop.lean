/-! a whole loop's text: the document's grammar, and the class's reading of it -/
abbrev LoS := Nat × Nat × (Nat → Option (List Nat))
def upS (S : Nat → Option (List Nat)) (s : Nat) (o : List Nat) : Nat → Option (List Nat) := fun t => if t = s then some o else S t
def eat (K : Nat → Nat) (k : Nat) (σ : LoS) : Option LoS := if K σ.1 = k then some (σ.1 + 1, σ.2) else none
def sct (X : Nat → Nat → PR) (s : Nat) (σ : LoS) : Option LoS := match X σ.1 σ.2.1 with
  | none => none
  | some (i, u, o) => some (i, u, upS σ.2.2 s o)
def asg (K V : Nat → Nat) (c : Nat) (σ : LoS) : Option LoS := if K σ.1 = 259 ∧ σ.2.2 (21 + c * 3 + V σ.1) = none ∧ K (σ.1 + 1) = 61 then sct (pE K V 8) (21 + c * 3 + V σ.1) (σ.1 + 2, σ.2) else none
def asl (K V : Nat → Nat) (c : Nat) : Nat → LoS → Option LoS
  | 0, σ => some σ
  | k + 1, σ => if K σ.1 = 44 then (asg K V c (σ.1 + 1, σ.2)).bind (asl K V c k) else some σ
def cho (K V : Nat → Nat) (c : Nat) (σ : LoS) : Option LoS := (sct (pC K V 8) (15 + c) (σ.1 + 1, σ.2)).bind (fun a => (eat K 262 a).bind (fun b => (asg K V c b).bind (fun d => (asl K V c 3 d).bind (fun e => eat K 59 e))))
def chl (K V : Nat → Nat) : Nat → Nat → LoS → Option (Nat × LoS)
  | 0, c, σ => some (c, σ)
  | k + 1, c, σ => if K σ.1 = 261 then (cho K V c σ).bind (fun a => chl K V k (c + 1) a) else some (c, σ)
def gul (K V : Nat → Nat) : Nat → Nat → LoS → Option (Nat × LoS)
  | 0, g, σ => some (g, σ)
  | k + 1, g, σ => if K σ.1 = 264 then ((sct (pC K V 8) (3 + g) (σ.1 + 1, σ.2)).bind (fun a => eat K 59 a)).bind (fun a => gul K V k (g + 1) a) else some (g, σ)
def rnk (K V : Nat → Nat) (σ : LoS) : Option LoS := if K σ.1 = 265 then (sct (pE K V 8) 2 (σ.1 + 1, σ.2)).bind (fun a => eat K 59 a) else some σ
def pL2 (K V : Nat → Nat) (c : Nat) (σ : LoS) : Option (Nat × Nat × LoS) := if c = 0 then none else (eat K 263 σ).bind (fun a => (sct (pC K V 8) 1 a).bind (fun b => (eat K 59 b).bind (fun d => (gul K V 12 0 d).bind (fun e => (rnk K V e.2).bind (fun f => (eat K 256 f).bind (fun h => some (c, e.1, h)))))))
def pL (K V : Nat → Nat) : Option (Nat × Nat × LoS) := (eat K 260 (0, 0, fun _ => none)).bind (fun a => (sct (pC K V 8) 0 a).bind (fun b => (eat K 59 b).bind (fun d => (chl K V 6 0 d).bind (fun e => pL2 K V e.1 e.2))))
def pQ (K V : Nat → Nat) : Option LoS := (sct (pC K V 8) 0 (0, 0, fun _ => none)).bind (fun b => eat K 256 b)
def ubf : List Nat → Int32 → Int32
  | [], w => w
  | x :: l, w => ubf l (if 16 ≤ x ∧ x < 19 then w ||| (15 <<< ((4 * nI (x - 16)) &&& 31)) else w)
theorem us_at : ∀ (o : List Nat) (f : Nat → Int32) (s : Nat), us o f s s = ubf o (f s)
  | [], f, s => rfl
  | x :: l, f, s => by
    show us l (us1 x f s) s s = ubf l _
    rw [us_at l]
    refine congrArg (ubf l) ?_
    unfold us1
    split
    · rw [pk_us]
    · rfl
theorem us_ne : ∀ (o : List Nat) (f : Nat → Int32) (s t : Nat), t ≠ s → us o f s t = f t
  | [], f, s, t, h => rfl
  | x :: l, f, s, t, h => by
    show us l (us1 x f s) s t = f t
    rw [us_ne l _ s t h]
    unfold us1
    split
    · rw [pk_un h]
    · rfl
theorem wr_lo : ∀ (o : List Nat) (f : Nat → Int32) (a j : Nat), j < a → wr o f a j = f j
  | [], f, a, j, h => rfl
  | x :: l, f, a, j, h => by
    show wr l (upd f a (nI x)) (a + 1) j = f j
    rw [wr_lo l _ _ _ (by omega), pk_un (by omega)]
theorem wr_in : ∀ (o : List Nat) (f : Nat → Int32) (a k : Nat), k < o.length → wr o f a (a + k) = nI (o.getD k 0)
  | [], f, a, k, h => absurd h (Nat.not_lt_zero k)
  | x :: l, f, a, 0, h => by
    show wr l (upd f a (nI x)) (a + 1) a = nI x
    rw [wr_lo l _ _ _ (by omega), pk_us]
  | x :: l, f, a, k + 1, h => by
    show wr l (upd f a (nI x)) (a + 1) (a + (k + 1)) = nI (l.getD k 0)
    rw [show a + (k + 1) = a + 1 + k by omega]
    exact wr_in l _ (a + 1) k (by simpa using h)
def CodeOK (S : Nat → Option (List Nat)) (sz : Nat) (st sa so ud : Nat → Int32) : Prop := ∀ s, s < 39 → (S s = none → sa s = -1 ∧ ud s = 0) ∧ (∀ o, S s = some o → ∃ a, a + o.length ≤ sz ∧ sa s = nI a ∧ so s = nI (a + o.length) ∧ (∀ k, k < o.length → st (a + k) = nI (o.getD k 0)) ∧ ud s = ubf o 0)
theorem code_step {S : Nat → Option (List Nat)} {sz s : Nat} {st sa so ud : Nat → Int32} (o : List Nat) (hs : S s = none) (hs9 : s < 39) (h : CodeOK S sz st sa so ud) : CodeOK (upS S s o) (sz + o.length) (wr o st sz) (upd sa s (nI sz)) (upd so s (nI (sz + o.length))) (us o ud s) := by
  intro t ht
  unfold upS
  by_cases e : t = s
  · subst e
    rw [if_pos rfl, pk_us, pk_us, us_at, ((h t ht).1 hs).2]
    refine ⟨fun q => (by cases q), fun o' q => ?_⟩
    cases q
    exact ⟨sz, Nat.le_refl _, rfl, rfl, fun k hk => wr_in o st sz k hk, rfl⟩
  · rw [if_neg e, pk_un e, pk_un e, us_ne _ _ _ _ e]
    refine ⟨(h t ht).1, fun o' q => ?_⟩
    obtain ⟨a, h1, h2, h3, h4, h5⟩ := (h t ht).2 o' q
    exact ⟨a, by omega, h2, h3, fun k hk => by rw [wr_lo _ _ _ _ (by omega)]; exact h4 k hk, h5⟩
abbrev LPo := Int32 → Int32 → (Nat → Int32) → (Nat → Int32) → (Nat → Int32) → (Nat → Int32) → Int32 → Int32 → Int32 → Prop
def WLp (post : LPo) : Prop := ∀ sz sec st sa so ud i u, sz ≤ 1200 → sec < 39 → i ≤ 1201 → post (nI sz) (nI sec) st sa so ud (nI i) 1 u
def RLp (post : LPo) (σ : LoS) : Prop := ∀ sz sec st sa so ud, sec < 39 → sz ≤ σ.1 → CodeOK σ.2.2 sz st sa so ud → post (nI sz) (nI sec) st sa so ud (nI σ.1) 0 (nI σ.2.1)
def OKs (m : Nat) (σ : LoS) : Prop := σ.1 ≤ m ∧ σ.2.1 ≤ 100
theorem eat_ok {K : Nat → Nat} {m k : Nat} {σ σ' : LoS} (hm : ∀ j, m ≤ j → K j = 256) (hk : k ≠ 256) (h : eat K k σ = some σ') (hs : OKs m σ) : OKs m σ' ∧ K σ.1 = k ∧ σ' = (σ.1 + 1, σ.2) := by
  unfold eat at h
  split at h
  · next e =>
    cases h
    exact ⟨⟨in_m hm e hk, hs.2⟩, e, rfl⟩
  · cases h
theorem sct_ok {K : Nat → Nat} {m s : Nat} {X : Nat → Nat → PR} {σ σ' : LoS} (hX : Gd K m X) (h : sct X s σ = some σ') (hs : OKs m σ) : OKs m σ' ∧ σ.1 < σ'.1 := by
  unfold sct at h
  cases hx : X σ.1 σ.2.1 with
  | none => rw [hx] at h; cases h
  | some t =>
    obtain ⟨i, u, o⟩ := t
    rw [hx] at h
    cases h
    have g := hX _ _ _ _ _ hx
    exact ⟨⟨g.2.2.2.2 hs.1, g.2.2.1⟩, g.1⟩
section CL
variable {K V : Nat → Nat} {m : Nat} {ks vs : Nat → Int32}
theorem q_open {s sz sec : Nat} {sa : Nat → Int32} (hs : s < 39) {post : Int32 → (Nat → Int32) → Prop} (h : post (nI s) (upd sa s (nI sz))) : wp_Code_open (nI s) (nI sz) (nI sec) sa post := by
  refine br_f (nI_pos (by omega)) (br_f (show ¬ nI 39 ≤ nI s from nI_ge hs (by decide)) ⟨vp_in_nI hs (by decide), ?_⟩)
  rw [nI_clamp (by omega)]; exact h
theorem q_close {s sz : Nat} {so : Nat → Int32} (hs : s < 39) {post : (Nat → Int32) → Prop} (h : post (upd so s (nI sz))) : wp_Code_close (nI sz) (nI s) so post := by
  refine ⟨vp_in_nI hs (by decide), ?_⟩
  rw [nI_clamp (by omega)]; exact h
theorem pc8 (T : TI K V m ks vs) : ∀ sec sz st ud i u post, sec < 39 → sz ≤ i → i ≤ m → u ≤ 100 → (pC K V 8 i u = none → WKp post) → (∀ i' u' o, pC K V 8 i u = some (i', u', o) → post (nI (sz + o.length)) (wr o st sz) (us o ud sec) (nI i') 0 (nI u')) → wp_PC 28 0 0 (nI (m + 1)) ks vs (nI sz) (nI sec) st ud (nI i) 0 (nI u) post :=
  fun sec sz st ud i u post a b c d e f => (pc_g T 8 (by decide) 25 (by decide)).2.2 sec sz st ud i u post a b c d e f
theorem pe8 (T : TI K V m ks vs) : ∀ sec sz st ud i u post, sec < 39 → sz ≤ i → i ≤ m → u ≤ 100 → (pE K V 8 i u = none → WKp post) → (∀ i' u' o, pE K V 8 i u = some (i', u', o) → post (nI (sz + o.length)) (wr o st sz) (us o ud sec) (nI i') 0 (nI u')) → wp_PE 28 0 0 (nI (m + 1)) ks vs (nI sz) (nI sec) st ud (nI i) 0 (nI u) post :=
  fun sec sz st ud i u post a b c d e f => (pe_g T 8 (by decide) 25 (by decide)).2.2 sec sz st ud i u post a b c d e f
theorem cs_secF (T : TI K V m ks vs) {x : Int32} (s : Nat) (hx : x = nI s) (hs9 : s < 39) {post : LPo} (hw : WLp post) {sz sec i : Nat} {st sa so ud : Nat → Int32} {u : Int32} (hs : sz ≤ 1200) (hi : i ≤ 1201) : wp_Pars_readSection x (nI (m + 1)) ks vs (nI sz) (nI sec) st sa so ud (nI i) 1 u post := by
  subst hx
  exact q_open hs9 ((pc_f T 25).2.2 0 s sz st ud i u _ hs9 hs hi (fun sz' st' ud' i' u' hs' hi' => q_close hs9 (hw _ _ _ _ _ _ _ _ hs' hs9 hi')))
theorem cs_sec (T : TI K V m ks vs) {x : Int32} (s : Nat) (hx : x = nI s) (hs9 : s < 39) {post : LPo} {σ : LoS} (hw : sct (pC K V 8) s σ = none → WLp post) (ok : OKs m σ) (hn : σ.2.2 s = none) (h : ∀ σ', sct (pC K V 8) s σ = some σ' → OKs m σ' → RLp post σ') : RLp (fun sz sec st sa so ud i f u => wp_Pars_readSection x (nI (m + 1)) ks vs sz sec st sa so ud i f u post) σ := by
  subst hx
  intro sz sec st sa so ud hsec hsz hc
  have hm := T.1
  have h1 := ok.1
  refine q_open hs9 (pc8 T s sz st ud σ.1 σ.2.1 _ hs9 hsz ok.1 ok.2 (fun hx sz' st' ud' i' u' hs' hi' => q_close hs9 (hw (by unfold sct; rw [hx]) _ _ _ _ _ _ _ _ hs' hs9 hi')) (fun i' u' o hx => ?_))
  have e : sct (pC K V 8) s σ = some (i', u', upS σ.2.2 s o) := by unfold sct; rw [hx]
  have g := pC_gd (V := V) T.2.1 8 _ _ _ _ _ hx
  exact q_close hs9 (h _ e (sct_ok (pC_gd (V := V) T.2.1 8) e ok).1 (sz + o.length) s _ _ _ _ hs9 (by show sz + o.length ≤ i'; omega) (code_step o hn hs9 hc))
/-- an expected token, in the walk of a loop's text -/
theorem cs_eat (T : TI K V m ks vs) {x : Int32} (k : Nat) (hx : x = nI k) (hk : k < 1000) {post : LPo} {σ : LoS} (hw : eat K k σ = none → WLp post) (ok : OKs m σ) (h : ∀ σ', eat K k σ = some σ' → K σ.1 = k → RLp post σ') : RLp (fun sz sec st sa so ud i f u => wp_Pars_expect x (nI (m + 1)) ks i f (fun i' f' => post sz sec st sa so ud i' f' u)) σ := by
  intro sz sec st sa so ud hsec hsz hc
  have hm := T.1
  have h1 := ok.1
  refine q_expect T k hx hk (by omega) (fun a => ?_) (fun a => hw (by unfold eat; rw [if_neg a]) _ _ _ _ _ _ _ _ (by omega) hsec (by omega))
  have e : eat K k σ = some (σ.1 + 1, σ.2) := by unfold eat; rw [if_pos a]
  exact h _ e a sz sec st sa so ud hsec (by show sz ≤ σ.1 + 1; omega) hc
/-- what is read, with room for one step more -/
def RLq (post : LPo) (σ : LoS) : Prop := ∀ sz sec st sa so ud, sec < 39 → sz < σ.1 → σ.1 ≤ 1201 → CodeOK σ.2.2 sz st sa so ud → post (nI sz) (nI sec) st sa so ud (nI σ.1) 0 (nI σ.2.1)
theorem cs_eat2 (T : TI K V m ks vs) {x : Int32} (k : Nat) (hx : x = nI k) (hk : k < 1000) {post : LPo} {σ : LoS} (hw : eat K k σ = none → WLp post) (ok : OKs m σ) (h : ∀ σ', eat K k σ = some σ' → K σ.1 = k → RLq post σ') : RLp (fun sz sec st sa so ud i f u => wp_Pars_expect x (nI (m + 1)) ks i f (fun i' f' => post sz sec st sa so ud i' f' u)) σ := by
  intro sz sec st sa so ud hsec hsz hc
  have hm := T.1
  have h1 := ok.1
  refine q_expect T k hx hk (by omega) (fun a => ?_) (fun a => hw (by unfold eat; rw [if_neg a]) _ _ _ _ _ _ _ _ (by omega) hsec (by omega))
  have e : eat K k σ = some (σ.1 + 1, σ.2) := by unfold eat; rw [if_pos a]
  exact h _ e a sz sec st sa so ud hsec (by show sz < σ.1 + 1; omega) (by show σ.1 + 1 ≤ 1201; omega) hc
theorem cs_eatF {x cnt : Int32} {post : LPo} (hw : WLp post) : WLp (fun sz sec st sa so ud i f u => wp_Pars_expect x cnt ks i f (fun i' f' => post sz sec st sa so ud i' f' u)) :=
  fun sz sec st sa so ud i u hs hsec hi => q_expect_f (hw _ _ _ _ _ _ _ _ hs hsec hi)
theorem q_isTold {x : Int32} (s : Nat) (hx : x = nI s) (hs : s < 10000) {sa : Nat → Int32} {post : Int32 → Prop} (h1 : s < 39 → sa s ≠ -1 → post 1) (h0 : (39 ≤ s ∨ sa s = -1) → post 0) : wp_Code_isTold x sa post := by
  subst hx
  refine br_f (nI_pos (by omega)) (pk_le 39 s (fun a => h0 (Or.inl a)) (fun a => ⟨vp_in_nI a (by decide), ?_⟩))
  rw [nI_clamp (by omega)]
  exact br_c (fun b => h0 (Or.inr b)) (fun b => h1 a b)
theorem nI_ne_m1 {a : Nat} (h : a < 2 ^ 31) : nI a ≠ -1 := fun q => by
  have := nI_pos h
  rw [q] at this; exact this (by decide)
theorem cs_asgF (T : TI K V m ks vs) {x : Int32} {post : LPo} (hw : WLp post) {sz sec i : Nat} {st sa so ud : Nat → Int32} {u : Int32} (hs : sz ≤ 1200) (hsec : sec < 39) (hi : i ≤ 1201) (x1 : Int32) : wp_Pars_readAssignment x1 (nI (m + 1)) ks vs (nI sz) (nI sec) st sa so ud (nI i) 1 u post := by
  refine q_valueAt_any (fun v => ?_)
  intro x2 _
  have key : wp_Pars_expect 259 (nI (m + 1)) ks (nI i) 1 (fun ps_current_4 ps_faulty_5 => wp_Pars_expect 61 (nI (m + 1)) ks ps_current_4 ps_faulty_5 (fun ps_current_6 ps_faulty_7 => ((¬ (ps_faulty_7 : Int32) = 0 → post (nI sz) (nI sec) st sa so ud ps_current_6 ps_faulty_7 u) ∧ ((ps_faulty_7 : Int32) = 0 → wp_Code_open x2 (nI sz) (nI sec) sa (fun cd_section_8 cd_starts_9 => wp_PE 28 0 0 (nI (m + 1)) ks vs (nI sz) cd_section_8 st ud ps_current_6 ps_faulty_7 u (fun cd_size_10 cd_steps_11 cd_used_12 ps_current_13 ps_faulty_14 ps_unaries_15 => wp_Code_close cd_size_10 cd_section_8 so (fun cd_stops_16 => post cd_size_10 cd_section_8 cd_steps_11 cd_starts_9 cd_stops_16 cd_used_12 ps_current_13 ps_faulty_14 ps_unaries_15))))))) :=
    q_expect_f (q_expect_f (bn_f (by decide) (hw _ _ _ _ _ _ _ _ hs hsec hi)))
  refine br_c (fun _ => br_c (fun _ => key) (fun _ => key)) (fun a => br_c (fun _ => br_c (fun _ => key) (fun _ => key)) (fun b => ⟨?_, br_c (fun _ => br_c (fun _ => key) (fun _ => key)) (fun _ => br_c (fun _ => key) (fun _ => key))⟩))
  rcases pk_ix x2 (n := 39) (by decide) with h1 | h1 | ⟨j, hj, rfl⟩
  · exact absurd h1 a
  · exact absurd h1 b
  · exact vp_in_nI hj (by decide)
theorem cs_asg (T : TI K V m ks vs) {c : Nat} (hc6 : c < 6) {post : LPo} {σ : LoS} (hw : asg K V c σ = none → WLp post) (ok : OKs m σ) (h : ∀ σ', asg K V c σ = some σ' → OKs m σ' → RLp post σ') : RLp (fun sz sec st sa so ud i f u => wp_Pars_readAssignment (nI c) (nI (m + 1)) ks vs sz sec st sa so ud i f u post) σ := by
  intro sz sec st sa so ud hsec hsz hc
  have hm := T.1
  have h1 := ok.1
  have hv := T.2.2.2.2.2.2.2 σ.1
  refine q_value T (by omega) ?_
  intro x2 hx2
  have hx2 : x2 = nI (21 + c * 3 + V σ.1) := by
    rw [hx2, show (21 : Int32) = nI 21 from rfl, show (3 : Int32) = nI 3 from rfl, pk_mul, nI_add, nI_add]
  refine q_isTold (21 + c * 3 + V σ.1) hx2 (by omega) (fun a b => ?_) (fun a => ?_)
  · refine br_f (by decide) (q_expect_f (q_expect_f (bn_f (by decide) (hw (by unfold asg; rw [if_neg (fun z => b ((hc _ a).1 z.2.1).1)]) _ _ _ _ _ _ _ _ (by omega) hsec (by omega)))))
  · refine br_t rfl (q_expect T 259 rfl (by decide) (by omega) (fun k1 => ?_) (fun k1 => ?_))
    · have hv3 := T.2.2.2.2.1 σ.1 k1
      have hi1 := in_m T.2.1 k1 (by decide)
      have hn : σ.2.2 (21 + c * 3 + V σ.1) = none := by
        cases hS : σ.2.2 (21 + c * 3 + V σ.1) with
        | none => rfl
        | some o =>
          obtain ⟨aa, q1, q2, _⟩ := (hc _ (show 21 + c * 3 + V σ.1 < 39 by omega)).2 o hS
          rcases a with a | a
          · omega
          · rw [q2] at a; exact absurd a (nI_ne_m1 (by omega))
      refine q_expect T 61 rfl (by decide) (by omega) (fun k2 => ?_) (fun k2 => ?_)
      · have hi2 := in_m T.2.1 k2 (by decide)
        refine bn_t rfl ?_
        subst hx2
        refine q_open (by omega) (pe8 T (21 + c * 3 + V σ.1) sz st ud (σ.1 + 1 + 1) σ.2.1 _ (by omega) (by omega) (by omega) ok.2 (fun hx sz' st' ud' i' u' hs' hi' => q_close (by omega) (hw (by
          unfold asg
          rw [if_pos ⟨k1, hn, k2⟩]
          unfold sct
          show (match pE K V 8 (σ.1 + 1 + 1) σ.2.1 with | none => none | some (i, u, o) => some (i, u, upS σ.2.2 (21 + c * 3 + V σ.1) o)) = _
          rw [hx]) _ _ _ _ _ _ _ _ hs' (by omega) hi')) (fun i' u' o hx => ?_))
        have g := pE_gd (V := V) T.2.1 8 _ _ _ _ _ hx
        have e : asg K V c σ = some (i', u', upS σ.2.2 (21 + c * 3 + V σ.1) o) := by
          unfold asg
          rw [if_pos ⟨k1, hn, k2⟩]
          unfold sct
          show (match pE K V 8 (σ.1 + 1 + 1) σ.2.1 with | none => none | some (i, u, o) => some (i, u, upS σ.2.2 (21 + c * 3 + V σ.1) o)) = _
          rw [hx]
        have hi' := g.2.2.2.2 (by omega)
        exact q_close (by omega) (h _ e ⟨hi', g.2.2.1⟩ (sz + o.length) _ _ _ _ _ (by omega) (by show sz + o.length ≤ i'; omega) (code_step o hn (by omega) hc))
      · exact bn_f (by decide) (hw (by unfold asg; rw [if_neg (fun z => k2 z.2.2)]) _ _ _ _ _ _ _ _ (by omega) hsec (by omega))
    · exact q_expect_f (bn_f (by decide) (hw (by unfold asg; rw [if_neg (fun z => k1 z.1)]) _ _ _ _ _ _ _ _ (by omega) hsec (by omega)))
theorem asg_ok (hm : ∀ j, m ≤ j → K j = 256) {c : Nat} {σ σ' : LoS} (h : asg K V c σ = some σ') (ok : OKs m σ) : OKs m σ' := by
  unfold asg at h
  split at h
  · next e => exact (sct_ok (σ := (σ.1 + 2, σ.2)) (pE_gd (V := V) hm 8) h ⟨in_m hm e.2.2 (by decide), ok.2⟩).1
  · cases h
theorem cs_aslF (T : TI K V m ks vs) {x1 x2 : Int32} {post : LPo} (hw : WLp post) {n : Nat} : WLp (fun sz sec st sa so ud i f u => wp_Pars_readAssignments_L7 x1 (nI (m + 1)) ks vs post (n + 1) x2 sz sec st sa so ud i f u) :=
  fun sz sec st sa so ud i u hs hsec hi => br_c (fun _ => hw _ _ _ _ _ _ _ _ hs hsec hi) (fun _ => q_takes_f (br_t rfl (hw _ _ _ _ _ _ _ _ hs hsec hi)))
theorem cs_asl (T : TI K V m ks vs) {c : Nat} (hc6 : c < 6) {post : LPo} : ∀ k d, d + k = 3 → ∀ σ, OKs m σ → (asl K V c k σ = none → WLp post) → (∀ σ', asl K V c k σ = some σ' → OKs m σ' → RLp post σ') → RLp (fun sz sec st sa so ud i f u => wp_Pars_readAssignments_L7 (nI c) (nI (m + 1)) ks vs post (k + 1) (nI d) sz sec st sa so ud i f u) σ := by
  intro k
  induction k with
  | zero =>
    intro d hd σ ok hw h sz sec st sa so ud hsec hsz hc
    exact br_t (show nI 3 ≤ nI d from nI_le (by omega) (by omega)) (h σ rfl ok sz sec st sa so ud hsec hsz hc)
  | succ k ih =>
    intro d hd σ ok hw h sz sec st sa so ud hsec hsz hc
    have hm := T.1
    have h1 := ok.1
    refine br_f (show ¬ nI 3 ≤ nI d from nI_ge (by omega) (by decide)) (q_takes T 44 rfl (by decide) (by omega) (fun a => ?_) (fun a => ?_))
    · refine br_f (by decide) ?_
      have hi1 := in_m T.2.1 a (by decide)
      rw [nI_1]
      refine cs_asg T hc6 (σ := (σ.1 + 1, σ.2)) (fun e => cs_aslF T (hw (by show (if K σ.1 = 44 then _ else _) = _; rw [if_pos a, e]; rfl))) ⟨hi1, ok.2⟩ (fun σ' e ok' => ?_) sz sec st sa so ud hsec (by show sz ≤ σ.1 + 1; omega) hc
      exact ih (d + 1) (by omega) σ' ok' (fun e2 => hw (by show (if K σ.1 = 44 then _ else _) = _; rw [if_pos a, e]; exact e2)) (fun σ2 e2 ok2 => h σ2 (by show (if K σ.1 = 44 then _ else _) = _; rw [if_pos a, e]; exact e2) ok2)
    · exact br_t rfl (h σ (by show (if K σ.1 = 44 then _ else _) = _; rw [if_neg a]) ok sz sec st sa so ud hsec hsz hc)
end CL
