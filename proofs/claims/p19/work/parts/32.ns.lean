/-! a text that is read holds no strange token -/
def Ns (K : Nat → Nat) (X : Nat → Nat → PR) : Prop := ∀ i u i' u' o, X i u = some (i', u', o) → i ≤ i' ∧ ∀ j, i ≤ j → j < i' → K j ≠ 257
theorem lp_ns {K : Nat → Nat} {S : Nat → Bool} {X : Nat → Nat → PR} (hS : S 257 = false) (hX : Ns K X) : ∀ k i u o i' u' o', lp K S X k i u o = some (i', u', o') → i ≤ i' ∧ ∀ j, i ≤ j → j < i' → K j ≠ 257
  | 0, i, u, o, i', u', o', h => by
    simp only [lp, Option.some.injEq, Prod.mk.injEq] at h
    obtain ⟨rfl, _⟩ := h
    exact ⟨Nat.le_refl _, fun j h1 h2 => by omega⟩
  | k + 1, i, u, o, i', u', o', h => by
    simp only [lp] at h
    split at h
    · next hs =>
      cases hx : X (i + 1) u with
      | none => rw [hx] at h; cases h
      | some t =>
        obtain ⟨i1, u1, o1⟩ := t
        rw [hx] at h
        have a := hX _ _ _ _ _ hx
        have b := lp_ns hS hX k _ _ _ _ _ _ h
        refine ⟨by omega, fun j h1 h2 q => ?_⟩
        rcases Nat.lt_or_eq_of_le h1 with c | c
        · rcases Nat.lt_or_ge j i1 with d | d
          · exact a.2 j (by omega) d q
          · exact b.2 j d h2 q
        · rw [c, q, hS] at hs; cases hs
    · simp only [Option.some.injEq, Prod.mk.injEq] at h
      obtain ⟨rfl, _⟩ := h
      exact ⟨Nat.le_refl _, fun j h1 h2 => by omega⟩
theorem sq_ns {K : Nat → Nat} {S : Nat → Bool} {X : Nat → Nat → PR} (hS : S 257 = false) (hX : Ns K X) : Ns K (sq K S X) := by
  intro i u i' u' o h
  unfold sq at h
  cases hx : X i u with
  | none => rw [hx] at h; cases h
  | some t =>
    obtain ⟨i1, u1, o1⟩ := t
    rw [hx] at h
    have a := hX _ _ _ _ _ hx
    have b := lp_ns hS hX _ _ _ _ _ _ _ h
    refine ⟨by omega, fun j h1 h2 => ?_⟩
    rcases Nat.lt_or_ge j i1 with d | d
    · exact a.2 j h1 d
    · exact b.2 j d h2
theorem none_ns {K : Nat → Nat} : Ns K (fun _ _ => none) := fun i u i' u' o h => by cases h
theorem one_ns {K : Nat → Nat} {i k i1 : Nat} (h : K i = k) (hk : k ≠ 257) (a : i + 1 ≤ i1 ∧ ∀ j, i + 1 ≤ j → j < i1 → K j ≠ 257) : i ≤ i1 ∧ ∀ j, i ≤ j → j < i1 → K j ≠ 257 := by
  refine ⟨by omega, fun j h1 h2 => ?_⟩
  rcases Nat.lt_or_eq_of_le h1 with c | c
  · exact a.2 j c h2
  · rw [← c, h]; exact hk
theorem end_ns {K : Nat → Nat} {i i1 k : Nat} (a : i ≤ i1 ∧ ∀ j, i ≤ j → j < i1 → K j ≠ 257) (h : K i1 = k) (hk : k ≠ 257) : i ≤ i1 + 1 ∧ ∀ j, i ≤ j → j < i1 + 1 → K j ≠ 257 := by
  refine ⟨by omega, fun j h1 h2 => ?_⟩
  rcases Nat.lt_or_eq_of_le (Nat.le_of_lt_succ h2) with c | c
  · exact a.2 j h1 c
  · rw [c, h]; exact hk
theorem cat_ns {K : Nat → Nat} {i i1 i2 : Nat} (a : i ≤ i1 ∧ ∀ j, i ≤ j → j < i1 → K j ≠ 257) (b : i1 ≤ i2 ∧ ∀ j, i1 ≤ j → j < i2 → K j ≠ 257) : i ≤ i2 ∧ ∀ j, i ≤ j → j < i2 → K j ≠ 257 := by
  refine ⟨by omega, fun j h1 h2 => ?_⟩
  rcases Nat.lt_or_ge j i1 with c | c
  · exact a.2 j h1 c
  · exact b.2 j c h2
theorem nil_ns {K : Nat → Nat} {i : Nat} : i ≤ i ∧ ∀ j, i ≤ j → j < i → K j ≠ 257 := ⟨Nat.le_refl _, fun j h1 h2 => by omega⟩
theorem pU1_ns {K V : Nat → Nat} {U E : Nat → Nat → PR} (hU : Ns K U) (hE : Ns K E) : Ns K (pU1 K V U E) := by
  intro i u i' u' o h
  unfold pU1 at h
  split at h
  · cases h
  split at h
  · next h1 h2 =>
    cases hx : U (i + 1) (u + 1) with
    | none => rw [hx] at h; cases h
    | some t =>
      obtain ⟨i1, u1, o1⟩ := t
      rw [hx] at h
      simp only [Option.some.injEq, Prod.mk.injEq] at h
      obtain ⟨rfl, _⟩ := h
      exact one_ns h2 (by decide) (hU _ _ _ _ _ hx)
  split at h
  · next h1 h2 h3 =>
    cases hx : E (i + 1) (u + 1) with
    | none => rw [hx] at h; cases h
    | some t =>
      obtain ⟨i1, u1, o1⟩ := t
      rw [hx] at h
      simp only at h
      split at h
      · next h4 =>
        simp only [Option.some.injEq, Prod.mk.injEq] at h
        obtain ⟨rfl, _⟩ := h
        exact end_ns (one_ns h3 (by decide) (hE _ _ _ _ _ hx)) h4 (by decide)
      · cases h
  split at h
  · next h1 h2 h3 h4 =>
    simp only [Option.some.injEq, Prod.mk.injEq] at h
    obtain ⟨rfl, _⟩ := h
    exact end_ns nil_ns h4 (by decide)
  split at h
  · next h1 h2 h3 h4 h5 =>
    simp only [Option.some.injEq, Prod.mk.injEq] at h
    obtain ⟨rfl, _⟩ := h
    exact end_ns nil_ns h5 (by decide)
  · cases h
theorem pU_ns {K V : Nat → Nat} : ∀ r, Ns K (pU K V r)
  | 0 => pU1_ns none_ns none_ns
  | r + 1 => pU1_ns (pU_ns r) (sq_ns rfl (sq_ns rfl (pU_ns r)))
theorem pE_ns {K V : Nat → Nat} (r : Nat) : Ns K (pE K V r) := sq_ns rfl (sq_ns rfl (pU_ns r))
theorem pP1_ns {K : Nat → Nat} {P C E : Nat → Nat → PR} (hP : Ns K P) (hC : Ns K C) (hE : Ns K E) : Ns K (pP1 K P C E) := by
  intro i u i' u' o h
  unfold pP1 at h
  split at h
  · next h2 =>
    cases hx : P (i + 1) u with
    | none => rw [hx] at h; cases h
    | some t =>
      obtain ⟨i1, u1, o1⟩ := t
      rw [hx] at h
      simp only [Option.some.injEq, Prod.mk.injEq] at h
      obtain ⟨rfl, _⟩ := h
      exact one_ns h2 (by decide) (hP _ _ _ _ _ hx)
  split at h
  · next h2 h3 =>
    cases hx : C (i + 1) u with
    | none => rw [hx] at h; cases h
    | some t =>
      obtain ⟨i1, u1, o1⟩ := t
      rw [hx] at h
      simp only at h
      split at h
      · next h4 =>
        simp only [Option.some.injEq, Prod.mk.injEq] at h
        obtain ⟨rfl, _⟩ := h
        exact end_ns (one_ns h3 (by decide) (hC _ _ _ _ _ hx)) h4 (by decide)
      · cases h
  · cases hx : E i u with
    | none => rw [hx] at h; cases h
    | some t =>
      obtain ⟨i1, u1, o1⟩ := t
      rw [hx] at h
      simp only at h
      split at h
      · next h4 =>
        cases hy : E (i1 + 1) u1 with
        | none => rw [hy] at h; cases h
        | some t2 =>
          obtain ⟨i2, u2, o2⟩ := t2
          rw [hy] at h
          simp only [Option.some.injEq, Prod.mk.injEq] at h
          obtain ⟨rfl, _⟩ := h
          have hk : K i1 ≠ 257 := fun q => by rw [q] at h4; cases h4
          exact cat_ns (hE _ _ _ _ _ hx) (one_ns rfl hk (hE _ _ _ _ _ hy))
      · cases h
theorem pP_ns {K V : Nat → Nat} : ∀ r, Ns K (pP K V r)
  | 0 => pP1_ns none_ns none_ns (pE_ns 0)
  | r + 1 => pP1_ns (pP_ns r) (sq_ns rfl (sq_ns rfl (pP_ns r))) (pE_ns (r + 1))
theorem pC_ns {K V : Nat → Nat} (r : Nat) : Ns K (pC K V r) := sq_ns rfl (sq_ns rfl (pP_ns r))
/-- the same for the steps of a whole text -/
def Nl (K : Nat → Nat) (i i' : Nat) : Prop := i ≤ i' ∧ ∀ j, i ≤ j → j < i' → K j ≠ 257
theorem eat_nl {K : Nat → Nat} {k : Nat} {σ σ' : LoS} (h : eat K k σ = some σ') (hk : k ≠ 257) : Nl K σ.1 σ'.1 ∧ σ' = (σ.1 + 1, σ.2) ∧ K σ.1 = k := by
  unfold eat at h
  split at h
  · next e => cases h; exact ⟨end_ns nil_ns e hk, rfl, e⟩
  · cases h
theorem sct_nl {K : Nat → Nat} {X : Nat → Nat → PR} (hX : Ns K X) {s : Nat} {σ σ' : LoS} (h : sct X s σ = some σ') : Nl K σ.1 σ'.1 := by
  unfold sct at h
  cases hx : X σ.1 σ.2.1 with
  | none => rw [hx] at h; cases h
  | some t => obtain ⟨i, u, o⟩ := t; rw [hx] at h; cases h; exact hX _ _ _ _ _ hx
theorem asg_nl {K V : Nat → Nat} {c : Nat} {σ σ' : LoS} (h : asg K V c σ = some σ') : Nl K σ.1 σ'.1 := by
  unfold asg at h
  split at h
  · next e => exact one_ns e.1 (by decide) (one_ns e.2.2 (by decide) (sct_nl (σ := (σ.1 + 2, σ.2)) (pE_ns 8) h))
  · cases h
theorem asl_nl {K V : Nat → Nat} {c : Nat} : ∀ k σ σ', asl K V c k σ = some σ' → Nl K σ.1 σ'.1
  | 0, σ, σ', h => by cases h; exact nil_ns
  | k + 1, σ, σ', h => by
    have h : (if K σ.1 = 44 then (asg K V c (σ.1 + 1, σ.2)).bind (asl K V c k) else some σ) = some σ' := h
    split at h
    · next e =>
      cases ha : asg K V c (σ.1 + 1, σ.2) with
      | none => rw [ha] at h; cases h
      | some σ1 =>
        rw [ha] at h
        exact one_ns e (by decide) (cat_ns (asg_nl ha) (asl_nl k σ1 σ' h))
    · cases h; exact nil_ns
theorem bnd {α β : Type} {x : Option α} {g : α → Option β} {y : β} (h : x.bind g = some y) : ∃ a, x = some a ∧ g a = some y := by
  cases x with
  | none => cases h
  | some a => exact ⟨a, rfl, h⟩
theorem cho_nl {K V : Nat → Nat} {c : Nat} {σ σ' : LoS} (h : cho K V c σ = some σ') (hk : K σ.1 ≠ 257) : Nl K σ.1 σ'.1 := by
  obtain ⟨a, e1, h⟩ := bnd h
  obtain ⟨a2, e2, h⟩ := bnd h
  obtain ⟨a3, e3, h⟩ := bnd h
  obtain ⟨a4, e4, h⟩ := bnd h
  exact one_ns rfl hk (cat_ns (sct_nl (σ := (σ.1 + 1, σ.2)) (pC_ns 8) e1) (cat_ns (eat_nl e2 (by decide)).1 (cat_ns (asg_nl e3) (cat_ns (asl_nl _ _ _ e4) (eat_nl h (by decide)).1))))
theorem chl_nl {K V : Nat → Nat} : ∀ k c σ c' (σ' : LoS), chl K V k c σ = some (c', σ') → Nl K σ.1 σ'.1
  | 0, c, σ, c', σ', h => by simp only [chl, Option.some.injEq, Prod.mk.injEq] at h; rw [← h.2]; exact nil_ns
  | k + 1, c, σ, c', σ', h => by
    have h : (if K σ.1 = 261 then (cho K V c σ).bind (fun a => chl K V k (c + 1) a) else some (c, σ)) = some (c', σ') := h
    split at h
    · next e =>
      obtain ⟨a, e1, h⟩ := bnd h
      exact cat_ns (cho_nl e1 (by rw [e]; decide)) (chl_nl k (c + 1) a c' σ' h)
    · simp only [Option.some.injEq, Prod.mk.injEq] at h; rw [← h.2]; exact nil_ns
theorem gul_nl {K V : Nat → Nat} : ∀ k g σ g' (σ' : LoS), gul K V k g σ = some (g', σ') → Nl K σ.1 σ'.1
  | 0, g, σ, g', σ', h => by simp only [gul, Option.some.injEq, Prod.mk.injEq] at h; rw [← h.2]; exact nil_ns
  | k + 1, g, σ, g', σ', h => by
    have h : (if K σ.1 = 264 then ((sct (pC K V 8) (3 + g) (σ.1 + 1, σ.2)).bind (fun a => eat K 59 a)).bind (fun a => gul K V k (g + 1) a) else some (g, σ)) = some (g', σ') := h
    split at h
    · next e =>
      obtain ⟨a, e1, h⟩ := bnd h
      obtain ⟨a1, e0, e1⟩ := bnd e1
      exact one_ns e (by decide) (cat_ns (sct_nl (σ := (σ.1 + 1, σ.2)) (pC_ns 8) e0) (cat_ns (eat_nl e1 (by decide)).1 (gul_nl k (g + 1) a g' σ' h)))
    · simp only [Option.some.injEq, Prod.mk.injEq] at h; rw [← h.2]; exact nil_ns
theorem rnk_nl {K V : Nat → Nat} {σ σ' : LoS} (h : rnk K V σ = some σ') : Nl K σ.1 σ'.1 := by
  unfold rnk at h
  split at h
  · next e =>
    obtain ⟨a, e1, h⟩ := bnd h
    exact one_ns e (by decide) (cat_ns (sct_nl (σ := (σ.1 + 1, σ.2)) (pE_ns 8) e1) (eat_nl h (by decide)).1)
  · cases h; exact nil_ns
/-- a loop that is read ends at the end, and no token before it is strange -/
theorem pL_end {K V : Nat → Nat} {c g : Nat} {σ : LoS} (h : pL K V = some (c, g, σ)) : ∃ e, K e = 256 ∧ ∀ j, j ≤ e → K j ≠ 257 := by
  obtain ⟨a, e1, h⟩ := bnd h
  obtain ⟨a2, e2, h⟩ := bnd h
  obtain ⟨a3, e3, h⟩ := bnd h
  obtain ⟨⟨c', a4⟩, e4, h⟩ := bnd h
  have h : pL2 K V c' a4 = some (c, g, σ) := h
  unfold pL2 at h
  split at h
  · cases h
  obtain ⟨a5, e5, h⟩ := bnd h
  obtain ⟨a6, e6, h⟩ := bnd h
  obtain ⟨a7, e7, h⟩ := bnd h
  obtain ⟨⟨g', a8⟩, e8, h⟩ := bnd h
  obtain ⟨a9, e9, h⟩ := bnd h
  obtain ⟨a10, e10, h⟩ := bnd h
  have x1 := (eat_nl e1 (by decide)).1
  have x := cat_ns x1 (cat_ns (sct_nl (pC_ns 8) e2) (cat_ns (eat_nl e3 (by decide)).1 (cat_ns (chl_nl _ _ _ _ _ e4) (cat_ns (eat_nl e5 (by decide)).1 (cat_ns (sct_nl (pC_ns 8) e6) (cat_ns (eat_nl e7 (by decide)).1 (cat_ns (gul_nl _ _ _ _ _ e8) (cat_ns (rnk_nl e9) (eat_nl e10 (by decide)).1))))))))
  have y := eat_nl e10 (by decide)
  refine ⟨a9.1, y.2.2, fun j hj => x.2 j (Nat.zero_le j) ?_⟩
  rw [y.2.1]; show j < a9.1 + 1; omega
theorem pQ_end {K V : Nat → Nat} {σ : LoS} (h : pQ K V = some σ) : ∃ e, K e = 256 ∧ ∀ j, j ≤ e → K j ≠ 257 := by
  obtain ⟨a, e1, h⟩ := bnd h
  have y := eat_nl h (by decide)
  have x := cat_ns (sct_nl (σ := (0, 0, fun _ => none)) (pC_ns 8) e1) y.1
  refine ⟨a.1, y.2.2, fun j hj => x.2 j (Nat.zero_le j) ?_⟩
  rw [y.2.1]; show j < a.1 + 1; omega
