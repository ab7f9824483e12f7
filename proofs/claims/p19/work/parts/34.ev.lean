/-! the value of a section's steps in a state -/
def nb (s v : Nat) : Nat := s / 16 ^ v % 16
def bin (x a b : Nat) : Nat := if x = 43 then (a + b) % 16 else if x = 45 then (a + 16 - b) % 16 else if x = 42 then a * b % 16 else if x = 60 then (if a < b then 1 else 0) else if x = 61 then (if a = b then 1 else 0) else if x = 35 then (if a = b then 0 else 1) else if x = 267 then a &&& b else a ||| b
/-- one step over a stack of at most H -/
def sp (H s x : Nat) (st : List Nat) : Option (List Nat) :=
  if x < 16 then (if st.length < H then some (x :: st) else none)
  else if x < 19 then (if st.length < H then some (nb s (x - 16) :: st) else none)
  else match st with
    | [] => none
    | a :: st1 => if x = 300 then some ((16 - a) % 16 :: st1) else if x = 268 then (if a < 2 then some ((1 - a) :: st1) else none) else match st1 with
      | [] => none
      | a1 :: st2 => some (bin x a1 a :: st2)
def rn (H s : Nat) : List Nat → List Nat → Option (List Nat)
  | [], st => some st
  | x :: o, st => (sp H s x st).bind (rn H s o)
theorem rn_app (H s : Nat) : ∀ (o1 o2 st : List Nat), rn H s (o1 ++ o2) st = (rn H s o1 st).bind (rn H s o2)
  | [], o2, st => rfl
  | x :: o1, o2, st => by
    show (sp H s x st).bind (rn H s (o1 ++ o2)) = ((sp H s x st).bind (rn H s o1)).bind (rn H s o2)
    cases sp H s x st with
    | none => rfl
    | some st' => exact rn_app H s o1 o2 st'
/-- o yields one value below B, with at most d more on the stack at a time -/
def Ev (s B d : Nat) (o : List Nat) : Prop := ∃ v, v < B ∧ ∀ H st, st.length + d ≤ H → rn H s o st = some (v :: st)
def EvX (s B : Nat) (X : Nat → Nat → PR) : Prop := ∀ i u i' u' o, X i u = some (i', u', o) → u < u' ∧ Ev s B (u' - u) o
theorem Ev_bin {s B B2 d1 d2 x : Nat} {o1 o2 : List Nat} (hx : 19 ≤ x ∧ x ≠ 300 ∧ x ≠ 268) (h1 : Ev s B d1 o1) (h2 : Ev s B d2 o2) (hd1 : 1 ≤ d1) (hB : ∀ a b, a < B → b < B → bin x a b < B2) : Ev s B2 (d1 + d2) (o1 ++ o2 ++ [x]) := by
  obtain ⟨v1, hv1, e1⟩ := h1
  obtain ⟨v2, hv2, e2⟩ := h2
  refine ⟨bin x v1 v2, hB v1 v2 hv1 hv2, fun H st hst => ?_⟩
  rw [rn_app, rn_app, e1 H st (by omega)]
  show (rn H s o2 (v1 :: st)).bind _ = _
  rw [e2 H (v1 :: st) (by rw [List.length_cons]; omega)]
  show (sp H s x (v2 :: v1 :: st)).bind (rn H s []) = _
  unfold sp
  rw [if_neg (by omega), if_neg (by omega)]
  simp only [hx.2.1, hx.2.2, if_false]
  rfl
theorem Ev_un {s B B2 d x : Nat} {o : List Nat} (hx : x = 300 ∨ x = 268) (h : Ev s B d o) (hB : ∀ a, a < B → (x = 300 → (16 - a) % 16 < B2) ∧ (x = 268 → a < 2 ∧ 1 - a < B2)) : Ev s B2 d (o ++ [x]) := by
  obtain ⟨v, hv, e⟩ := h
  rcases hx with rfl | rfl
  · refine ⟨(16 - v) % 16, (hB v hv).1 rfl, fun H st hst => ?_⟩
    rw [rn_app, e H st hst]; rfl
  · refine ⟨1 - v, ((hB v hv).2 rfl).2, fun H st hst => ?_⟩
    rw [rn_app, e H st hst]
    show (if v < 2 then some ((1 - v) :: st) else none).bind (rn H s []) = _
    rw [if_pos ((hB v hv).2 rfl).1]; rfl
theorem lp_ev {K : Nat → Nat} {S : Nat → Bool} {X : Nat → Nat → PR} {s B : Nat} (hS : ∀ x, S x = true → 19 ≤ x ∧ x ≠ 300 ∧ x ≠ 268) (hB : ∀ x a b, S x = true → a < B → b < B → bin x a b < B) (hX : EvX s B X) : ∀ k i u o i' u' o' d, 1 ≤ d → Ev s B d o → lp K S X k i u o = some (i', u', o') → u ≤ u' ∧ Ev s B (d + (u' - u)) o'
  | 0, i, u, o, i', u', o', d, hd, he, h => by
    simp only [lp, Option.some.injEq, Prod.mk.injEq] at h
    obtain ⟨_, rfl, rfl⟩ := h
    exact ⟨Nat.le_refl _, by rw [Nat.sub_self, Nat.add_zero]; exact he⟩
  | k + 1, i, u, o, i', u', o', d, hd, he, h => by
    simp only [lp] at h
    split at h
    · next hs =>
      cases hx : X (i + 1) u with
      | none => rw [hx] at h; cases h
      | some t =>
        obtain ⟨i1, u1, o1⟩ := t
        rw [hx] at h
        obtain ⟨a1, a2⟩ := hX _ _ _ _ _ hx
        have e2 := Ev_bin (hS _ hs) he a2 hd (fun a b => hB _ a b hs)
        have b := lp_ev hS hB hX k _ _ _ _ _ _ (d + (u1 - u)) (by omega) e2 h
        refine ⟨by omega, ?_⟩
        rw [show d + (u' - u) = d + (u1 - u) + (u' - u1) by omega]
        exact b.2
    · simp only [Option.some.injEq, Prod.mk.injEq] at h
      obtain ⟨_, rfl, rfl⟩ := h
      exact ⟨Nat.le_refl _, by rw [Nat.sub_self, Nat.add_zero]; exact he⟩
theorem sq_ev {K : Nat → Nat} {S : Nat → Bool} {X : Nat → Nat → PR} {s B : Nat} (hS : ∀ x, S x = true → 19 ≤ x ∧ x ≠ 300 ∧ x ≠ 268) (hB : ∀ x a b, S x = true → a < B → b < B → bin x a b < B) (hX : EvX s B X) : EvX s B (sq K S X) := by
  intro i u i' u' o h
  unfold sq at h
  cases hx : X i u with
  | none => rw [hx] at h; cases h
  | some t =>
    obtain ⟨i1, u1, o1⟩ := t
    rw [hx] at h
    obtain ⟨a1, a2⟩ := hX _ _ _ _ _ hx
    have b := lp_ev hS hB hX _ _ _ _ _ _ _ (u1 - u) (by omega) a2 h
    refine ⟨by omega, ?_⟩
    rw [show u' - u = u1 - u + (u' - u1) by omega]
    exact b.2
theorem none_ev {s B : Nat} : EvX s B (fun _ _ => none) := fun i u i' u' o h => by cases h
theorem sT_ok : ∀ x, sT x = true → 19 ≤ x ∧ x ≠ 300 ∧ x ≠ 268 := fun x h => by
  have : x = 42 := by simpa [sT] using h
  omega
theorem sE_ok : ∀ x, sE x = true → 19 ≤ x ∧ x ≠ 300 ∧ x ≠ 268 := fun x h => by
  have : x = 43 ∨ x = 45 := by simpa [sE] using h
  omega
theorem sA_ok : ∀ x, sA x = true → 19 ≤ x ∧ x ≠ 300 ∧ x ≠ 268 := fun x h => by
  have : x = 267 := by simpa [sA] using h
  omega
theorem sO_ok : ∀ x, sO x = true → 19 ≤ x ∧ x ≠ 300 ∧ x ≠ 268 := fun x h => by
  have : x = 266 := by simpa [sO] using h
  omega
theorem bin_16 {x a b : Nat} (h : x = 42 ∨ x = 43 ∨ x = 45) : bin x a b < 16 := by
  rcases h with rfl | rfl | rfl
  · show a * b % 16 < 16; omega
  · show (a + b) % 16 < 16; omega
  · show (a + 16 - b) % 16 < 16; omega
theorem bin_2 {x a b : Nat} (h : x = 60 ∨ x = 61 ∨ x = 35) : bin x a b < 2 := by
  rcases h with rfl | rfl | rfl
  · show (if a < b then 1 else 0) < 2; split <;> decide
  · show (if a = b then 1 else 0) < 2; split <;> decide
  · show (if a = b then 0 else 1) < 2; split <;> decide
theorem bin_b : ∀ a, a < 2 → ∀ b, b < 2 → bin 267 a b < 2 ∧ bin 266 a b < 2 := by decide +kernel
theorem pU1_ev {K V : Nat → Nat} {U E : Nat → Nat → PR} {s : Nat} (hV8 : ∀ j, K j = 258 → V j < 16) (hV9 : ∀ j, K j = 259 → V j < 3) (hU : EvX s 16 U) (hE : EvX s 16 E) : EvX s 16 (pU1 K V U E) := by
  intro i u i' u' o h
  unfold pU1 at h
  split at h
  · cases h
  split at h
  · cases hx : U (i + 1) (u + 1) with
    | none => rw [hx] at h; cases h
    | some t =>
      obtain ⟨i1, u1, o1⟩ := t
      rw [hx] at h
      simp only [Option.some.injEq, Prod.mk.injEq] at h
      obtain ⟨_, rfl, rfl⟩ := h
      obtain ⟨a1, v, a2, a3⟩ := hU _ _ _ _ _ hx
      refine ⟨by omega, Ev_un (Or.inl rfl) ⟨v, a2, fun H st hst => a3 H st (by omega)⟩ (fun a ha => ⟨fun _ => by omega, fun q => absurd q (by decide)⟩)⟩
  split at h
  · cases hx : E (i + 1) (u + 1) with
    | none => rw [hx] at h; cases h
    | some t =>
      obtain ⟨i1, u1, o1⟩ := t
      rw [hx] at h
      simp only at h
      split at h
      · simp only [Option.some.injEq, Prod.mk.injEq] at h
        obtain ⟨_, rfl, rfl⟩ := h
        obtain ⟨a1, v, a2, a3⟩ := hE _ _ _ _ _ hx
        exact ⟨by omega, v, a2, fun H st hst => a3 H st (by omega)⟩
      · cases h
  split at h
  · next h9 =>
    simp only [Option.some.injEq, Prod.mk.injEq] at h
    obtain ⟨_, rfl, rfl⟩ := h
    have hv := hV9 i h9
    refine ⟨by omega, nb s (V i), Nat.mod_lt _ (by decide), fun H st hst => ?_⟩
    show (sp H s (16 + V i) st).bind (rn H s []) = _
    unfold sp
    rw [if_neg (by omega), if_pos (by omega), if_pos (by omega), show 16 + V i - 16 = V i by omega]; rfl
  split at h
  · next h8 =>
    simp only [Option.some.injEq, Prod.mk.injEq] at h
    obtain ⟨_, rfl, rfl⟩ := h
    have hv := hV8 i h8
    refine ⟨by omega, V i, hv, fun H st hst => ?_⟩
    show (sp H s (V i) st).bind (rn H s []) = _
    unfold sp
    rw [if_pos hv, if_pos (by omega)]; rfl
  · cases h
theorem sE_b {x a b : Nat} (h : sE x = true) : bin x a b < 16 := by
  have : x = 43 ∨ x = 45 := by simpa [sE] using h
  exact bin_16 (by omega)
theorem sT_b {x a b : Nat} (h : sT x = true) : bin x a b < 16 := by
  have : x = 42 := by simpa [sT] using h
  exact bin_16 (by omega)
theorem pU_ev {K V : Nat → Nat} {s : Nat} (hV8 : ∀ j, K j = 258 → V j < 16) (hV9 : ∀ j, K j = 259 → V j < 3) : ∀ r, EvX s 16 (pU K V r)
  | 0 => pU1_ev hV8 hV9 none_ev none_ev
  | r + 1 => pU1_ev hV8 hV9 (pU_ev hV8 hV9 r) (sq_ev sE_ok (fun _ _ _ h _ _ => sE_b h) (sq_ev sT_ok (fun _ _ _ h _ _ => sT_b h) (pU_ev hV8 hV9 r)))
theorem pE_ev {K V : Nat → Nat} {s : Nat} (hV8 : ∀ j, K j = 258 → V j < 16) (hV9 : ∀ j, K j = 259 → V j < 3) (r : Nat) : EvX s 16 (pE K V r) := sq_ev sE_ok (fun _ _ _ h _ _ => sE_b h) (sq_ev sT_ok (fun _ _ _ h _ _ => sT_b h) (pU_ev hV8 hV9 r))
theorem sA_b {x a b : Nat} (h : sA x = true) (ha : a < 2) (hb : b < 2) : bin x a b < 2 := by
  have : x = 267 := by simpa [sA] using h
  rw [this]; exact (bin_b a ha b hb).1
theorem sO_b {x a b : Nat} (h : sO x = true) (ha : a < 2) (hb : b < 2) : bin x a b < 2 := by
  have : x = 266 := by simpa [sO] using h
  rw [this]; exact (bin_b a ha b hb).2
theorem pP1_ev {K : Nat → Nat} {P C E : Nat → Nat → PR} {s : Nat} (hP : EvX s 2 P) (hC : EvX s 2 C) (hE : EvX s 16 E) : EvX s 2 (pP1 K P C E) := by
  intro i u i' u' o h
  unfold pP1 at h
  split at h
  · cases hx : P (i + 1) u with
    | none => rw [hx] at h; cases h
    | some t =>
      obtain ⟨i1, u1, o1⟩ := t
      rw [hx] at h
      simp only [Option.some.injEq, Prod.mk.injEq] at h
      obtain ⟨_, rfl, rfl⟩ := h
      obtain ⟨a1, a2⟩ := hP _ _ _ _ _ hx
      exact ⟨a1, Ev_un (Or.inr rfl) a2 (fun a ha => ⟨fun q => absurd q (by decide), fun _ => ⟨ha, by omega⟩⟩)⟩
  split at h
  · cases hx : C (i + 1) u with
    | none => rw [hx] at h; cases h
    | some t =>
      obtain ⟨i1, u1, o1⟩ := t
      rw [hx] at h
      simp only at h
      split at h
      · simp only [Option.some.injEq, Prod.mk.injEq] at h
        obtain ⟨_, rfl, rfl⟩ := h
        exact hC _ _ _ _ _ hx
      · cases h
  · cases hx : E i u with
    | none => rw [hx] at h; cases h
    | some t =>
      obtain ⟨i1, u1, o1⟩ := t
      rw [hx] at h
      simp only at h
      split at h
      · next h4 =>
        cases hy : E (i1 + 1) u1 with
        | none => rw [hy] at h; cases h
        | some t2 =>
          obtain ⟨i2, u2, o2⟩ := t2
          rw [hy] at h
          simp only [Option.some.injEq, Prod.mk.injEq] at h
          obtain ⟨_, rfl, rfl⟩ := h
          obtain ⟨a1, a2⟩ := hE _ _ _ _ _ hx
          obtain ⟨b1, b2⟩ := hE _ _ _ _ _ hy
          have hr : K i1 = 60 ∨ K i1 = 61 ∨ K i1 = 35 := by
            have : (K i1 = 60 ∨ K i1 = 35) ∨ K i1 = 61 := by simpa [rel] using h4
            omega
          refine ⟨by omega, ?_⟩
          rw [show u2 - u = (u1 - u) + (u2 - u1) by omega]
          exact Ev_bin (by omega) a2 b2 (by omega) (fun a b _ _ => bin_2 hr)
      · cases h
theorem pP_ev {K V : Nat → Nat} {s : Nat} (hV8 : ∀ j, K j = 258 → V j < 16) (hV9 : ∀ j, K j = 259 → V j < 3) : ∀ r, EvX s 2 (pP K V r)
  | 0 => pP1_ev none_ev none_ev (pE_ev hV8 hV9 0)
  | r + 1 => pP1_ev (pP_ev hV8 hV9 r) (sq_ev sO_ok (fun _ _ _ h a b => sO_b h a b) (sq_ev sA_ok (fun _ _ _ h a b => sA_b h a b) (pP_ev hV8 hV9 r))) (pE_ev hV8 hV9 (r + 1))
theorem pC_ev {K V : Nat → Nat} {s : Nat} (hV8 : ∀ j, K j = 258 → V j < 16) (hV9 : ∀ j, K j = 259 → V j < 3) (r : Nat) : EvX s 2 (pC K V r) := sq_ev sO_ok (fun _ _ _ h a b => sO_b h a b) (sq_ev sA_ok (fun _ _ _ h a b => sA_b h a b) (pP_ev hV8 hV9 r))
