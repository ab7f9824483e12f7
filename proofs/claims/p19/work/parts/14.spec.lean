/-! the document's grammar, over kinds K and values V of a row of tokens: what is read from token i on with u unaries before it: the next token, the unaries, the steps in postfix order -/
abbrev PR := Option (Nat × Nat × List Nat)
def lp (K : Nat → Nat) (S : Nat → Bool) (X : Nat → Nat → PR) : Nat → Nat → Nat → List Nat → PR
  | 0, i, u, o => some (i, u, o)
  | k + 1, i, u, o => if S (K i) then (match X (i + 1) u with
    | none => none
    | some (i', u', o') => lp K S X k i' u' (o ++ o' ++ [K i])) else some (i, u, o)
def sq (K : Nat → Nat) (S : Nat → Bool) (X : Nat → Nat → PR) (i u : Nat) : PR := match X i u with
  | none => none
  | some (i', u', o) => lp K S X 1200 i' u' o
def sT (k : Nat) : Bool := k == 42
def sE (k : Nat) : Bool := k == 43 || k == 45
def sA (k : Nat) : Bool := k == 267
def sO (k : Nat) : Bool := k == 266
def pU1 (K V : Nat → Nat) (U E : Nat → Nat → PR) (i u : Nat) : PR :=
  if 100 ≤ u then none
  else if K i = 45 then (match U (i + 1) (u + 1) with | none => none | some (i', u', o) => some (i', u', o ++ [300]))
  else if K i = 40 then (match E (i + 1) (u + 1) with | none => none | some (i', u', o) => if K i' = 41 then some (i' + 1, u', o) else none)
  else if K i = 259 then some (i + 1, u + 1, [16 + V i])
  else if K i = 258 then some (i + 1, u + 1, [V i]) else none
def pU (K V : Nat → Nat) : Nat → Nat → Nat → PR
  | 0 => pU1 K V (fun _ _ => none) (fun _ _ => none)
  | r + 1 => pU1 K V (pU K V r) (sq K sE (sq K sT (pU K V r)))
def pT (K V : Nat → Nat) (r : Nat) : Nat → Nat → PR := sq K sT (pU K V r)
def pE (K V : Nat → Nat) (r : Nat) : Nat → Nat → PR := sq K sE (pT K V r)
def rel (k : Nat) : Bool := k == 60 || k == 35 || k == 61
def pP1 (K : Nat → Nat) (P C E : Nat → Nat → PR) (i u : Nat) : PR :=
  if K i = 268 then (match P (i + 1) u with | none => none | some (i', u', o) => some (i', u', o ++ [268]))
  else if K i = 91 then (match C (i + 1) u with | none => none | some (i', u', o) => if K i' = 93 then some (i' + 1, u', o) else none)
  else match E i u with
    | none => none
    | some (i1, u1, o1) => if rel (K i1) then (match E (i1 + 1) u1 with | none => none | some (i2, u2, o2) => some (i2, u2, o1 ++ o2 ++ [K i1])) else none
def pP (K V : Nat → Nat) : Nat → Nat → Nat → PR
  | 0 => pP1 K (fun _ _ => none) (fun _ _ => none) (pE K V 0)
  | r + 1 => pP1 K (pP K V r) (sq K sO (sq K sA (pP K V r))) (pE K V (r + 1))
def pJ (K V : Nat → Nat) (r : Nat) : Nat → Nat → PR := sq K sA (pP K V r)
def pC (K V : Nat → Nat) (r : Nat) : Nat → Nat → PR := sq K sO (pJ K V r)
/-- what every reading keeps -/
def Gd (K : Nat → Nat) (m : Nat) (X : Nat → Nat → PR) : Prop := ∀ i u i' u' o, X i u = some (i', u', o) → i < i' ∧ u < u' ∧ u' ≤ 100 ∧ o.length ≤ i' - i ∧ (i ≤ m → i' ≤ m)
theorem lp_gd {K : Nat → Nat} {m : Nat} {S : Nat → Bool} {X : Nat → Nat → PR} (hm : ∀ j, m ≤ j → K j = 256) (hS : S 256 = false) (hX : Gd K m X) : ∀ k i u o i' u' o', lp K S X k i u o = some (i', u', o') → i ≤ i' ∧ u ≤ u' ∧ (u ≤ 100 → u' ≤ 100) ∧ o.length ≤ o'.length ∧ o'.length - o.length ≤ i' - i ∧ (i ≤ m → i' ≤ m)
  | 0, i, u, o, i', u', o', h => by
    simp only [lp, Option.some.injEq, Prod.mk.injEq] at h
    obtain ⟨rfl, rfl, rfl⟩ := h
    exact ⟨Nat.le_refl _, Nat.le_refl _, id, Nat.le_refl _, by omega, id⟩
  | k + 1, i, u, o, i', u', o', h => by
    simp only [lp] at h
    split at h
    · next hs =>
      cases hx : X (i + 1) u with
      | none => rw [hx] at h; cases h
      | some t =>
        obtain ⟨i1, u1, o1⟩ := t
        rw [hx] at h
        have a := hX _ _ _ _ _ hx
        have b := lp_gd hm hS hX k _ _ _ _ _ _ h
        simp only [List.length_append, List.length_cons, List.length_nil] at b
        have hi : i ≤ m → i + 1 ≤ m := fun q => by
          rcases Nat.lt_or_eq_of_le q with c | c
          · exact c
          · rw [hm i (by omega), hS] at hs; cases hs
        refine ⟨by omega, by omega, fun _ => b.2.2.1 (by omega), by omega, by omega, fun q => b.2.2.2.2.2 (a.2.2.2.2 (hi q))⟩
    · simp only [Option.some.injEq, Prod.mk.injEq] at h
      obtain ⟨rfl, rfl, rfl⟩ := h
      exact ⟨Nat.le_refl _, Nat.le_refl _, id, Nat.le_refl _, by omega, id⟩
theorem sq_gd {K : Nat → Nat} {m : Nat} {S : Nat → Bool} {X : Nat → Nat → PR} (hm : ∀ j, m ≤ j → K j = 256) (hS : S 256 = false) (hX : Gd K m X) : Gd K m (sq K S X) := by
  intro i u i' u' o h
  unfold sq at h
  cases hx : X i u with
  | none => rw [hx] at h; cases h
  | some t =>
    obtain ⟨i1, u1, o1⟩ := t
    rw [hx] at h
    have a := hX _ _ _ _ _ hx
    have b := lp_gd hm hS hX _ _ _ _ _ _ _ h
    exact ⟨by omega, by omega, b.2.2.1 (by omega), by omega, fun q => b.2.2.2.2.2 (a.2.2.2.2 q)⟩
theorem none_gd {K : Nat → Nat} {m : Nat} : Gd K m (fun _ _ => none) := fun i u i' u' o h => by cases h
theorem in_m {K : Nat → Nat} {m i k : Nat} (hm : ∀ j, m ≤ j → K j = 256) (h : K i = k) (hk : k ≠ 256) : i < m := by
  rcases Nat.lt_or_ge i m with c | c
  · exact c
  · exact absurd ((hm i c).symm.trans h).symm hk
theorem pU1_gd {K V : Nat → Nat} {m : Nat} {U E : Nat → Nat → PR} (hm : ∀ j, m ≤ j → K j = 256) (hU : Gd K m U) (hE : Gd K m E) : Gd K m (pU1 K V U E) := by
  intro i u i' u' o h
  unfold pU1 at h
  split at h
  · cases h
  split at h
  · next h1 h2 =>
    have hi := in_m hm h2 (by decide)
    cases hx : U (i + 1) (u + 1) with
    | none => rw [hx] at h; cases h
    | some t =>
      obtain ⟨i1, u1, o1⟩ := t
      rw [hx] at h
      simp only [Option.some.injEq, Prod.mk.injEq] at h
      obtain ⟨rfl, rfl, rfl⟩ := h
      have a := hU _ _ _ _ _ hx
      simp only [List.length_append, List.length_cons, List.length_nil]
      exact ⟨by omega, by omega, by omega, by omega, fun _ => a.2.2.2.2 hi⟩
  split at h
  · next h1 h2 h3 =>
    have hi := in_m hm h3 (by decide)
    cases hx : E (i + 1) (u + 1) with
    | none => rw [hx] at h; cases h
    | some t =>
      obtain ⟨i1, u1, o1⟩ := t
      rw [hx] at h
      simp only at h
      split at h
      · next h4 =>
        have hi1 := in_m hm h4 (by decide)
        simp only [Option.some.injEq, Prod.mk.injEq] at h
        obtain ⟨rfl, rfl, rfl⟩ := h
        have a := hE _ _ _ _ _ hx
        exact ⟨by omega, by omega, by omega, by omega, fun _ => hi1⟩
      · cases h
  split at h
  · next h1 h2 h3 h4 =>
    have hi := in_m hm h4 (by decide)
    simp only [Option.some.injEq, Prod.mk.injEq] at h
    obtain ⟨rfl, rfl, rfl⟩ := h
    exact ⟨by omega, by omega, by omega, by simp, fun _ => hi⟩
  split at h
  · next h1 h2 h3 h4 h5 =>
    have hi := in_m hm h5 (by decide)
    simp only [Option.some.injEq, Prod.mk.injEq] at h
    obtain ⟨rfl, rfl, rfl⟩ := h
    exact ⟨by omega, by omega, by omega, by simp, fun _ => hi⟩
  · cases h
theorem pU_gd {K V : Nat → Nat} {m : Nat} (hm : ∀ j, m ≤ j → K j = 256) : ∀ r, Gd K m (pU K V r)
  | 0 => pU1_gd hm none_gd none_gd
  | r + 1 => pU1_gd hm (pU_gd hm r) (sq_gd hm rfl (sq_gd hm rfl (pU_gd hm r)))
theorem pT_gd {K V : Nat → Nat} {m : Nat} (hm : ∀ j, m ≤ j → K j = 256) (r : Nat) : Gd K m (pT K V r) := sq_gd hm rfl (pU_gd hm r)
theorem pE_gd {K V : Nat → Nat} {m : Nat} (hm : ∀ j, m ≤ j → K j = 256) (r : Nat) : Gd K m (pE K V r) := sq_gd hm rfl (pT_gd hm r)
theorem pP1_gd {K : Nat → Nat} {m : Nat} {P C E : Nat → Nat → PR} (hm : ∀ j, m ≤ j → K j = 256) (hP : Gd K m P) (hC : Gd K m C) (hE : Gd K m E) : Gd K m (pP1 K P C E) := by
  intro i u i' u' o h
  unfold pP1 at h
  split at h
  · next h2 =>
    have hi := in_m hm h2 (by decide)
    cases hx : P (i + 1) u with
    | none => rw [hx] at h; cases h
    | some t =>
      obtain ⟨i1, u1, o1⟩ := t
      rw [hx] at h
      simp only [Option.some.injEq, Prod.mk.injEq] at h
      obtain ⟨rfl, rfl, rfl⟩ := h
      have a := hP _ _ _ _ _ hx
      simp only [List.length_append, List.length_cons, List.length_nil]
      exact ⟨by omega, by omega, by omega, by omega, fun _ => a.2.2.2.2 hi⟩
  split at h
  · next h2 h3 =>
    have hi := in_m hm h3 (by decide)
    cases hx : C (i + 1) u with
    | none => rw [hx] at h; cases h
    | some t =>
      obtain ⟨i1, u1, o1⟩ := t
      rw [hx] at h
      simp only at h
      split at h
      · next h4 =>
        have hi1 := in_m hm h4 (by decide)
        simp only [Option.some.injEq, Prod.mk.injEq] at h
        obtain ⟨rfl, rfl, rfl⟩ := h
        have a := hC _ _ _ _ _ hx
        exact ⟨by omega, by omega, by omega, by omega, fun _ => hi1⟩
      · cases h
  · cases hx : E i u with
    | none => rw [hx] at h; cases h
    | some t =>
      obtain ⟨i1, u1, o1⟩ := t
      rw [hx] at h
      simp only at h
      split at h
      · next h4 =>
        cases hy : E (i1 + 1) u1 with
        | none => rw [hy] at h; cases h
        | some t2 =>
          obtain ⟨i2, u2, o2⟩ := t2
          rw [hy] at h
          simp only [Option.some.injEq, Prod.mk.injEq] at h
          obtain ⟨rfl, rfl, rfl⟩ := h
          have a := hE _ _ _ _ _ hx
          have b := hE _ _ _ _ _ hy
          have hi1 : i1 < m := by
            rcases Nat.lt_or_ge i1 m with c | c
            · exact c
            · rw [hm i1 c] at h4; cases h4
          simp only [List.length_append, List.length_cons, List.length_nil]
          exact ⟨by omega, by omega, by omega, by omega, fun _ => b.2.2.2.2 hi1⟩
      · cases h
theorem pP_gd {K V : Nat → Nat} {m : Nat} (hm : ∀ j, m ≤ j → K j = 256) : ∀ r, Gd K m (pP K V r)
  | 0 => pP1_gd hm none_gd none_gd (pE_gd hm 0)
  | r + 1 => pP1_gd hm (pP_gd hm r) (sq_gd hm rfl (sq_gd hm rfl (pP_gd hm r))) (pE_gd hm (r + 1))
theorem pJ_gd {K V : Nat → Nat} {m : Nat} (hm : ∀ j, m ≤ j → K j = 256) (r : Nat) : Gd K m (pJ K V r) := sq_gd hm rfl (pP_gd hm r)
theorem pC_gd {K V : Nat → Nat} {m : Nat} (hm : ∀ j, m ≤ j → K j = 256) (r : Nat) : Gd K m (pC K V r) := sq_gd hm rfl (pJ_gd hm r)
