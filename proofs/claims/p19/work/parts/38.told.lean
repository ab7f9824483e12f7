/-! what is told in a loop that was read -/
def Bs (s : Nat) : Nat := if s = 2 ∨ 21 ≤ s then 16 else 2
def SOk (S : Nat → Option (List Nat)) : Prop := ∀ s o, S s = some o → (∀ x ∈ o, Okx x) ∧ ∀ t, rn 100 t o [] = some [vl t o] ∧ vl t o < Bs s
theorem SOk_0 : SOk (fun _ => none) := fun s o h => by cases h
theorem Okx_lt {x : Nat} (h : Okx x) : x < 2000 := by unfold Okx at h; omega
section TD
variable {K V : Nat → Nat} {m : Nat}
theorem sct_SOk {X : Nat → Nat → PR} {s : Nat} {σ σ' : LoS} (hg : Gd K m X) (he : ∀ t, EvX t (Bs s) X) (ho : OkX X) (h : sct X s σ = some σ') (hS : SOk σ.2.2) : SOk σ'.2.2 ∧ ∃ o, σ'.2.2 s = some o := by
  unfold sct at h
  cases hx : X σ.1 σ.2.1 with
  | none => rw [hx] at h; cases h
  | some t =>
    obtain ⟨i, u, o⟩ := t
    rw [hx] at h
    cases h
    have g := hg _ _ _ _ _ hx
    refine ⟨fun s' o' q => ?_, o, upS_eq⟩
    by_cases e : s' = s
    · subst e
      have q2 := upS_eq.symm.trans (show upS σ.2.2 s' o s' = some o' from q)
      cases q2
      exact ⟨ho _ _ _ _ _ hx, fun t => Ev_vl (he t _ _ _ _ _ hx).2 (by omega)⟩
    · have q2 : upS σ.2.2 s o s' = some o' := q
      rw [upS_ne e] at q2
      exact hS s' o' q2
variable (hm : ∀ j, m ≤ j → K j = 256) (hV8 : ∀ j, K j = 258 → V j < 16) (hV9 : ∀ j, K j = 259 → V j < 3)
theorem sC_SOk (hm : ∀ j, m ≤ j → K j = 256) (hV8 : ∀ j, K j = 258 → V j < 16) (hV9 : ∀ j, K j = 259 → V j < 3) {s : Nat} {σ σ' : LoS} (hs : s ≠ 2 ∧ s < 21) (h : sct (pC K V 8) s σ = some σ') (hS : SOk σ.2.2) : SOk σ'.2.2 ∧ ∃ o, σ'.2.2 s = some o := by
  refine sct_SOk (K := K) (m := m) (pC_gd hm 8) (fun t => ?_) (pC_ok hV8 hV9 8) h hS
  rw [show Bs s = 2 from if_neg (by omega)]
  exact pC_ev hV8 hV9 8
theorem sE_SOk (hm : ∀ j, m ≤ j → K j = 256) (hV8 : ∀ j, K j = 258 → V j < 16) (hV9 : ∀ j, K j = 259 → V j < 3) {s : Nat} {σ σ' : LoS} (hs : s = 2 ∨ 21 ≤ s) (h : sct (pE K V 8) s σ = some σ') (hS : SOk σ.2.2) : SOk σ'.2.2 ∧ ∃ o, σ'.2.2 s = some o := by
  refine sct_SOk (K := K) (m := m) (pE_gd hm 8) (fun t => ?_) (pE_ok hV8 hV9 8) h hS
  rw [show Bs s = 16 from if_pos hs]
  exact pE_ev hV8 hV9 8
theorem eat_S {k : Nat} {σ σ' : LoS} (h : eat K k σ = some σ') : σ'.2 = σ.2 := by
  unfold eat at h
  split at h
  · cases h; rfl
  · cases h
theorem asg_SOk (hm : ∀ j, m ≤ j → K j = 256) (hV8 : ∀ j, K j = 258 → V j < 16) (hV9 : ∀ j, K j = 259 → V j < 3) {c : Nat} {σ σ' : LoS} (h : asg K V c σ = some σ') (hS : SOk σ.2.2) : SOk σ'.2.2 := by
  unfold asg at h
  split at h
  · exact (sE_SOk hm hV8 hV9 (σ := (σ.1 + 2, σ.2)) (Or.inr (by omega)) h hS).1
  · cases h
theorem asl_SOk (hm : ∀ j, m ≤ j → K j = 256) (hV8 : ∀ j, K j = 258 → V j < 16) (hV9 : ∀ j, K j = 259 → V j < 3) {c : Nat} : ∀ k σ σ', asl K V c k σ = some σ' → SOk σ.2.2 → SOk σ'.2.2
  | 0, σ, σ', h, hS => by cases h; exact hS
  | k + 1, σ, σ', h, hS => by
    have h : (if K σ.1 = 44 then (asg K V c (σ.1 + 1, σ.2)).bind (asl K V c k) else some σ) = some σ' := h
    split at h
    · obtain ⟨a, e, h⟩ := bnd h
      exact asl_SOk hm hV8 hV9 k a σ' h (asg_SOk hm hV8 hV9 (σ := (σ.1 + 1, σ.2)) e hS)
    · cases h; exact hS
theorem cho_SOk (hm : ∀ j, m ≤ j → K j = 256) (hV8 : ∀ j, K j = 258 → V j < 16) (hV9 : ∀ j, K j = 259 → V j < 3) {c : Nat} (hc : c < 6) {σ σ' : LoS} (h : cho K V c σ = some σ') (hS : SOk σ.2.2) : SOk σ'.2.2 ∧ ∃ o, σ'.2.2 (15 + c) = some o := by
  obtain ⟨a, e1, h⟩ := bnd h
  obtain ⟨a2, e2, h⟩ := bnd h
  obtain ⟨a3, e3, h⟩ := bnd h
  obtain ⟨a4, e4, h⟩ := bnd h
  have s1 := sC_SOk hm hV8 hV9 (σ := (σ.1 + 1, σ.2)) (by omega) e1 hS
  have s2 : SOk a2.2.2 := by rw [eat_S e2]; exact s1.1
  have s4 := asl_SOk hm hV8 hV9 _ _ _ e4 (asg_SOk hm hV8 hV9 e3 s2)
  rw [eat_S h]
  refine ⟨s4, ?_⟩
  obtain ⟨o, ho⟩ := s1.2
  exact ⟨o, by rw [asl_Ou hV9 _ _ _ e4 _ (by omega), asg_Ou hV9 e3 _ (by omega), eat_S e2]; exact ho⟩
theorem chl_told (hm : ∀ j, m ≤ j → K j = 256) (hV8 : ∀ j, K j = 258 → V j < 16) (hV9 : ∀ j, K j = 259 → V j < 3) : ∀ k c σ c' (σ' : LoS), c + k = 6 → chl K V k c σ = some (c', σ') → SOk σ.2.2 → (∀ i, i < c → ∃ o, σ.2.2 (15 + i) = some o) → SOk σ'.2.2 ∧ (∀ i, i < c' → ∃ o, σ'.2.2 (15 + i) = some o) ∧ (∀ s, s < 15 → σ'.2.2 s = σ.2.2 s) ∧ c' ≤ 6
  | 0, c, σ, c', σ', hc, h, hS, ht => by
    simp only [chl, Option.some.injEq, Prod.mk.injEq] at h
    obtain ⟨rfl, rfl⟩ := h
    exact ⟨hS, ht, fun _ _ => rfl, by omega⟩
  | k + 1, c, σ, c', σ', hc, h, hS, ht => by
    have h : (if K σ.1 = 261 then (cho K V c σ).bind (fun a => chl K V k (c + 1) a) else some (c, σ)) = some (c', σ') := h
    split at h
    · obtain ⟨a, e, h⟩ := bnd h
      have s1 := cho_SOk hm hV8 hV9 (show c < 6 by omega) e hS
      have ou := cho_Ou hV9 e
      have ih := chl_told hm hV8 hV9 k (c + 1) a c' σ' (by omega) h s1.1 (fun i hi => by
        by_cases hic : i = c
        · subst hic; exact s1.2
        · obtain ⟨o, ho⟩ := ht i (by omega)
          exact ⟨o, by rw [ou _ (by omega) (by omega)]; exact ho⟩)
      exact ⟨ih.1, ih.2.1, fun s hs => by rw [ih.2.2.1 s hs, ou s (by omega) (by omega)], ih.2.2.2⟩
    · simp only [Option.some.injEq, Prod.mk.injEq] at h
      obtain ⟨rfl, rfl⟩ := h
      exact ⟨hS, ht, fun _ _ => rfl, by omega⟩
theorem gul_told (hm : ∀ j, m ≤ j → K j = 256) (hV8 : ∀ j, K j = 258 → V j < 16) (hV9 : ∀ j, K j = 259 → V j < 3) : ∀ k g σ g' (σ' : LoS), g + k = 12 → gul K V k g σ = some (g', σ') → SOk σ.2.2 → (∀ i, i < g → ∃ o, σ.2.2 (3 + i) = some o) → SOk σ'.2.2 ∧ (∀ i, i < g' → ∃ o, σ'.2.2 (3 + i) = some o) ∧ (∀ s, (s < 3 ∨ 15 ≤ s) → σ'.2.2 s = σ.2.2 s) ∧ g' ≤ 12
  | 0, g, σ, g', σ', hg, h, hS, ht => by
    simp only [gul, Option.some.injEq, Prod.mk.injEq] at h
    obtain ⟨rfl, rfl⟩ := h
    exact ⟨hS, ht, fun _ _ => rfl, by omega⟩
  | k + 1, g, σ, g', σ', hg, h, hS, ht => by
    have h : (if K σ.1 = 264 then ((sct (pC K V 8) (3 + g) (σ.1 + 1, σ.2)).bind (fun a => eat K 59 a)).bind (fun a => gul K V k (g + 1) a) else some (g, σ)) = some (g', σ') := h
    split at h
    · obtain ⟨a, e, h⟩ := bnd h
      obtain ⟨a1, e0, e1⟩ := bnd e
      have s1 := sC_SOk hm hV8 hV9 (σ := (σ.1 + 1, σ.2)) (show 3 + g ≠ 2 ∧ 3 + g < 21 by omega) e0 hS
      have ou := sct_Ou (σ := (σ.1 + 1, σ.2)) e0
      have ea := eat_S e1
      have ih := gul_told hm hV8 hV9 k (g + 1) a g' σ' (by omega) h (by rw [ea]; exact s1.1) (fun i hi => by
        rw [ea]
        by_cases hic : i = g
        · subst hic; exact s1.2
        · obtain ⟨o, ho⟩ := ht i (by omega)
          exact ⟨o, by rw [ou _ (by omega)]; exact ho⟩)
      exact ⟨ih.1, ih.2.1, fun s hs => by rw [ih.2.2.1 s hs, ea]; exact ou s (by omega), ih.2.2.2⟩
    · simp only [Option.some.injEq, Prod.mk.injEq] at h
      obtain ⟨rfl, rfl⟩ := h
      exact ⟨hS, ht, fun _ _ => rfl, by omega⟩
/-- a loop that was read: all it tells has values; begin, goal, conds and guesses are told -/
theorem pL_told (hm : ∀ j, m ≤ j → K j = 256) (hV8 : ∀ j, K j = 258 → V j < 16) (hV9 : ∀ j, K j = 259 → V j < 3) {c g : Nat} {σ : LoS} (h : pL K V = some (c, g, σ)) : SOk σ.2.2 ∧ (∃ o, σ.2.2 0 = some o) ∧ (∃ o, σ.2.2 1 = some o) ∧ (∀ i, i < c → ∃ o, σ.2.2 (15 + i) = some o) ∧ (∀ i, i < g → ∃ o, σ.2.2 (3 + i) = some o) ∧ 1 ≤ c ∧ c ≤ 6 ∧ g ≤ 12 := by
  obtain ⟨a, e1, h⟩ := bnd h
  obtain ⟨a2, e2, h⟩ := bnd h
  obtain ⟨a3, e3, h⟩ := bnd h
  obtain ⟨⟨c', a4⟩, e4, h⟩ := bnd h
  have h : pL2 K V c' a4 = some (c, g, σ) := h
  unfold pL2 at h
  split at h
  · cases h
  next hc0 =>
  obtain ⟨a5, e5, h⟩ := bnd h
  obtain ⟨a6, e6, h⟩ := bnd h
  obtain ⟨a7, e7, h⟩ := bnd h
  obtain ⟨⟨g', a8⟩, e8, h⟩ := bnd h
  obtain ⟨a9, e9, h⟩ := bnd h
  obtain ⟨a10, e10, h⟩ := bnd h
  simp only [Option.some.injEq, Prod.mk.injEq] at h
  obtain ⟨rfl, rfl, rfl⟩ := h
  have s0 : SOk a.2.2 := by rw [eat_S e1]; exact SOk_0
  have s2 := sC_SOk hm hV8 hV9 (s := 0) (by decide) e2 s0
  have s4 := chl_told hm hV8 hV9 6 0 a3 c' a4 rfl e4 (by rw [eat_S e3]; exact s2.1) (fun i hi => absurd hi (Nat.not_lt_zero i))
  have s6 := sC_SOk hm hV8 hV9 (s := 1) (by decide) e6 (by rw [eat_S e5]; exact s4.1)
  have s8 := gul_told hm hV8 hV9 12 0 a7 g' a8 rfl e8 (by rw [eat_S e7]; exact s6.1) (fun i hi => absurd hi (Nat.not_lt_zero i))
  have r9 : SOk a9.2.2 ∧ ∀ s, s ≠ 2 → a9.2.2 s = a8.2.2 s := by
    have e9 : rnk K V a8 = some a9 := e9
    unfold rnk at e9
    split at e9
    · obtain ⟨b, x1, x2⟩ := bnd e9
      have y := sE_SOk hm hV8 hV9 (s := 2) (σ := (a8.1 + 1, a8.2)) (Or.inl rfl) x1 s8.1
      rw [eat_S x2]
      exact ⟨y.1, fun s hs => sct_Ou (σ := (a8.1 + 1, a8.2)) x1 s (by omega)⟩
    · cases e9; exact ⟨s8.1, fun _ _ => rfl⟩
  have f10 := eat_S e10
  have chain : ∀ s, s ≠ 2 → s ≠ 1 → (s < 3 ∨ 15 ≤ s) → a10.2.2 s = a4.2.2 s := fun s h2 h1 h3 => by
    rw [f10, r9.2 s h2, s8.2.2.1 s h3, eat_S e7, sct_Ou e6 s (by omega), eat_S e5]
  refine ⟨by rw [f10]; exact r9.1, ?_, ?_, ?_, ?_, by omega, s4.2.2.2, s8.2.2.2⟩
  · obtain ⟨o, ho⟩ := s2.2
    refine ⟨o, ?_⟩
    rw [chain 0 (by decide) (by decide) (by decide), s4.2.2.1 0 (by decide), eat_S e3]
    exact ho
  · obtain ⟨o, ho⟩ := s6.2
    refine ⟨o, ?_⟩
    rw [f10, r9.2 1 (by decide), s8.2.2.1 1 (by decide), eat_S e7]
    exact ho
  · intro i hi
    obtain ⟨o, ho⟩ := s4.2.1 i hi
    exact ⟨o, by rw [chain _ (by omega) (by omega) (by omega)]; exact ho⟩
  · intro i hi
    obtain ⟨o, ho⟩ := s8.2.1 i hi
    exact ⟨o, by rw [f10, r9.2 _ (by omega)]; exact ho⟩
end TD
