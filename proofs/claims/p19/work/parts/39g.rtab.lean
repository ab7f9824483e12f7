/-! the reference's sections at work, its turns -/
theorem nI_nn {a : Nat} (h : a < 2 ^ 31) : 0 ≤ nI a := show nI 0 ≤ nI a from nI_le (Nat.zero_le a) h
def AtM (ac nm : Nat → Int32) (p : Nat) (o : List Nat) : Prop := p + o.length < 3000 ∧ (∀ k, k < o.length → ac (p + k) = nI (AK (o.getD k 0)) ∧ nm (p + k) = nI (AV (o.getD k 0))) ∧ ac (p + o.length) = 7
theorem AtM_of {O o : List Nat} {b p : Nat} {A0 N0 : Nat → Int32} (hO : O.length ≤ 995) (hb : b < 3) (h : At O p o) : AtM (wA AK O A0 (1000 * b)) (wA AV O N0 (1000 * b)) (1000 * b + p) o := by
  obtain ⟨h1, h2⟩ := h
  refine ⟨by omega, fun k hk => ?_, ?_⟩
  · have e : O.getD (p + k) 0 = o.getD k 0 := by
      rw [h2 k (by omega)]
      simp only [List.getD]
      rw [List.getElem?_append_left hk]
    rw [Nat.add_assoc, wA_in AK O A0 (1000 * b) (p + k) (by omega), wA_in AV O N0 (1000 * b) (p + k) (by omega), e]
    exact ⟨rfl, rfl⟩
  · have e : O.getD (p + o.length) 0 = 301 := by
      rw [h2 o.length (Nat.le_refl _)]
      simp only [List.getD]
      rw [List.getElem?_append_right (Nat.le_refl _), Nat.sub_self]
      rfl
    rw [Nat.add_assoc, wA_in AK O A0 (1000 * b) (p + o.length) (by omega), e]
    rfl
/-- the reference's rows of the loop l -/
def RLo (l : Nat) (S : Nat → Option (List Nat)) (c g : Nat) (ac nm bg gl rk cc wh be gc gs : Nat → Int32) : Prop := cc l = nI c ∧ gc l = nI g ∧ (∃ o p, S 0 = some o ∧ bg l = nI p ∧ AtM ac nm p o) ∧ (∃ o p, S 1 = some o ∧ gl l = nI p ∧ AtM ac nm p o) ∧ ((S 2 = none → rk l = -1) ∧ ∀ o, S 2 = some o → ∃ p, rk l = nI p ∧ AtM ac nm p o) ∧ (∀ i, i < g → ∃ o p, S (3 + i) = some o ∧ gs (12 * l + i) = nI p ∧ AtM ac nm p o) ∧ (∀ i, i < c → ∃ o p, S (15 + i) = some o ∧ wh (6 * l + i) = nI p ∧ AtM ac nm p o) ∧ (∀ i, i < c → ∀ v, v < 3 → (S (21 + i * 3 + v) = none → be (3 * (6 * l + i) + v) = -1) ∧ ∀ o, S (21 + i * 3 + v) = some o → ∃ p, be (3 * (6 * l + i) + v) = nI p ∧ AtM ac nm p o)
theorem RLo_of {b l c g : Nat} {S : Nat → Option (List Nat)} {O : List Nat} {A0 N0 bg gl rk cc wh be gc gs : Nat → Int32} (hO : O.length ≤ 995) (hb : b < 3) (hcc : cc l = nI c) (hgc : gc l = nI g) (h : ROk b l S c g O bg gl rk wh be gs) : RLo l S c g (wA AK O A0 (1000 * b)) (wA AV O N0 (1000 * b)) bg gl rk cc wh be gc gs := by
  obtain ⟨⟨o0, p0, a1, a2, a3⟩, ⟨o1, p1, b1, b2, b3⟩, ⟨c1, c2⟩, hg, hw, he⟩ := h
  refine ⟨hcc, hgc, ⟨o0, _, a1, a2, AtM_of hO hb a3⟩, ⟨o1, _, b1, b2, AtM_of hO hb b3⟩, ⟨c1, fun o q => ?_⟩, fun i hi => ?_, fun i hi => ?_, fun i hi v hv => ⟨(he i hi v hv).1, fun o q => ?_⟩⟩
  · obtain ⟨p, d1, d2⟩ := c2 o q; exact ⟨_, d1, AtM_of hO hb d2⟩
  · obtain ⟨o, p, d0, d1, d2⟩ := hg i hi; exact ⟨o, _, d0, d1, AtM_of hO hb d2⟩
  · obtain ⟨o, p, d0, d1, d2⟩ := hw i hi; exact ⟨o, _, d0, d1, AtM_of hO hb d2⟩
  · obtain ⟨p, d1, d2⟩ := (he i hi v hv).2 o q; exact ⟨_, d1, AtM_of hO hb d2⟩
section RV
variable {S : Nat → Option (List Nat)} {l c g : Nat} {ac nm bg gl rk cc wh be gc gs : Nat → Int32}
theorem r_val (hS : SOk S) {s p t : Nat} {o : List Nat} (ho : S s = some o) (ha : AtM ac nm p o) (ht : t < 4096) {stack : Nat → Int32} {post : Int32 → (Nat → Int32) → Prop} (h : ∀ stack', post (nI (val S t s)) stack') : wp_Md_work (nI p) (nI t) ac nm stack post :=
  r_work ht ha.1 ha.2.1 ha.2.2 (hS s o ho).1 ((hS s o ho).2 t).1 (fun stack' => by have := h stack'; rw [val_some ho] at this; exact this)
def nxc (S : Nat → Option (List Nat)) (c t i : Nat) : Option Nat := if i < c then nx S t i else none
theorem nb45 (hS : SOk S) (hl : l < 2) (hc6 : c ≤ 6) (hR : RLo l S c g ac nm bg gl rk cc wh be gc gs) {t i v a : Nat} (ht : t < 4096) (hi : i < c) (hv : v < 3) (ha : a < 2 ^ (4 * v)) {N : Nat} {K : Int32 → (Nat → Int32) → Prop} {stack : Nat → Int32} (h : ∀ stack', wp_Md_nextBy_L45 (nI t) (nI (6 * l + i)) ac nm be K N (nI (a + ex S t i v * 2 ^ (4 * v))) (nI (v + 1)) stack') : wp_Md_nextBy_L45 (nI t) (nI (6 * l + i)) ac nm be K (N + 1) (nI a) (nI v) stack := by
  refine br_f (show ¬ nI 3 ≤ nI v from nI_ge hv (by decide)) ?_
  rw [show (3 : Int32) = nI 3 from rfl, pk_mul, nI_add, sh_4 v hv, nI_1]
  refine ⟨vp_in_nI (by omega) (by decide), fun x hx => ?_⟩
  rw [nI_clamp (by omega)] at hx
  have hb := (hR.2.2.2.2.2.2.2 i hi v hv)
  cases e : S (21 + i * 3 + v) with
  | none =>
    rw [hb.1 e] at hx; subst hx
    refine br_f (by decide) ?_
    unfold wp_Md_variableOf
    intro y hy
    rw [← sh_4 v hv, nb_sh ht hv, sh_4 v hv, or_shl ha (show nb t v < 16 from Nat.mod_lt _ (by decide)) (by omega)] at hy
    have e2 : ex S t i v = nb t v := by unfold ex; rw [e]
    subst hy
    have := h stack
    rw [e2] at this; exact this
  | some o =>
    obtain ⟨p, q1, q2⟩ := hb.2 o e
    rw [q1] at hx; subst hx
    refine br_t (nI_nn (by have := q2.1; omega)) (r_val hS e q2 ht (fun stack' y hy => ?_))
    have e2 : ex S t i v = val S t (21 + i * 3 + v) := by unfold ex; rw [e, val_some e]
    rw [← e2, or_shl ha (ex_lt hS t i v) (by omega)] at hy
    subst hy
    exact h stack'
theorem q_nextBy (hS : SOk S) (hl : l < 2) (hc6 : c ≤ 6) (hR : RLo l S c g ac nm bg gl rk cc wh be gc gs) {t i : Nat} (ht : t < 4096) (hi : i < 6) {stack : Nat → Int32} {post : Int32 → (Nat → Int32) → Prop} (h : ∀ stack', post (tI (nxc S c t i)) stack') : wp_Md_nextBy (nI t) (nI i) (nI l) ac nm cc wh be stack post := by
  intro x hx
  rw [show (6 : Int32) = nI 6 from rfl, pk_mul, nI_add] at hx
  subst hx
  refine ⟨vp_in_nI hl (by decide), ?_⟩
  rw [nI_clamp (by omega), hR.1]
  unfold nxc at h
  by_cases e : i < c
  · rw [if_pos e] at h
    refine br_f (nI_ge e (by omega)) ⟨vp_in_nI (by omega) (by decide), ?_⟩
    obtain ⟨o, p, q0, q1, q2⟩ := hR.2.2.2.2.2.2.1 i e
    rw [nI_clamp (by omega), q1]
    refine r_val hS q0 q2 ht (fun st1 => ?_)
    by_cases e2 : val S t (15 + i) = 0
    · rw [e2]
      have : nx S t i = none := if_pos e2
      rw [this] at h
      exact bn_t rfl (h st1)
    · have hlt := val_lt2 hS t (s := 15 + i) (by omega)
      refine bn_f (fun q => e2 ((nI_eq (b := 0) (by omega) (by decide)).mp q)) ⟨4, ?_⟩
      have : nx S t i = some (ex S t i 0 + 16 * ex S t i 1 + 256 * ex S t i 2) := if_neg e2
      rw [this] at h
      have x0 := ex_lt hS t i 0
      have x1 := ex_lt hS t i 1
      refine nb45 hS hl hc6 hR (v := 0) (a := 0) ht e (by decide) (by decide) (fun st2 => ?_)
      rw [show 0 + ex S t i 0 * 2 ^ (4 * 0) = ex S t i 0 by omega]
      refine nb45 hS hl hc6 hR (v := 1) ht e (by decide) (by omega) (fun st3 => ?_)
      refine nb45 hS hl hc6 hR (v := 2) ht e (by decide) (by omega) (fun st4 => ?_)
      refine br_t (show nI 3 ≤ nI 3 from nI_le (Nat.le_refl _) (by decide)) ?_
      rw [show ex S t i 0 + ex S t i 1 * 2 ^ (4 * 1) + ex S t i 2 * 2 ^ (4 * 2) = ex S t i 0 + 16 * ex S t i 1 + 256 * ex S t i 2 by omega]
      exact h st4
  · rw [if_neg e] at h
    exact br_t (nI_le (by omega) (by omega)) (h stack)
end RV
