/-! the reference goes through the states -/
section GO
variable {S : Nat → Option (List Nat)} {l c g : Nat} {ac nm bg gl rk cc wh be gc gs : Nat → Int32}
theorem g78 (hS : SOk S) (hl : l < 2) (hg : g ≤ 12) (hR : RLo l S c g ac nm bg gl rk cc wh be gc gs) {s : Nat} (hs : s < 4096) {x1 : Int32} {h0 : Nat → Int32} {K : (Nat → Int32) → (Nat → Int32) → Prop} (hK : ∀ stack h, h s = nI (Gb S s g) → (∀ t, t ≠ s → h t = h0 t) → K stack h) : ∀ m i stack h, i + m = g → h s = nI (Gb S s i) → (∀ t, t ≠ s → h t = h0 t) → wp_Md_goThrough_L78 x1 (nI s) (nI l) ac nm gc gs K (m + 1) (nI i) stack h
  | 0, i, stack, h, hi, h1, h2 => by
    have : i = g := by omega
    subst this
    refine ⟨vp_in_nI hl (by decide), ?_⟩
    rw [nI_clamp (by omega), hR.2.1]
    exact br_t (nI_le (Nat.le_refl _) (by omega)) (hK stack h h1 h2)
  | m + 1, i, stack, h, hi, h1, h2 => by
    refine ⟨vp_in_nI hl (by decide), ?_⟩
    rw [nI_clamp (by omega), hR.2.1]
    refine br_f (nI_ge (by omega) (by omega)) ⟨vp_in_nI hs (by decide), ?_⟩
    rw [show (12 : Int32) = nI 12 from rfl, pk_mul, nI_add]
    refine ⟨vp_in_nI (by omega) (by decide), ?_⟩
    obtain ⟨o, p, q0, q1, q2⟩ := hR.2.2.2.2.2.1 i (by omega)
    rw [nI_clamp (by omega), q1]
    refine r_val hS q0 q2 hs (fun st1 => ⟨vp_in_nI hs (by decide), ?_⟩)
    have hb := Gb_lt hS s i (by omega)
    have hv := val_lt2 hS s (s := 3 + i) (by omega)
    rw [nI_clamp (by omega), h1, or_shl hb (by omega) (by omega), nI_1]
    refine g78 hS hl hg hR hs hK m (i + 1) st1 _ (by omega) ?_ (fun t ht => ?_)
    · rw [pk_us]; rfl
    · rw [pk_un ht]; exact h2 t ht
theorem g133 (hS : SOk S) (hl : l < 2) (hc6 : c ≤ 6) (hR : RLo l S c g ac nm bg gl rk cc wh be gc gs) {s : Nat} (hs : s < 4096) {x1 : Int32} {n0 : Nat → Int32} {K : (Nat → Int32) → (Nat → Int32) → Prop} (hK : ∀ stack nx, (∀ i, i < 6 → nx (6 * s + i) = tI (nxc S c s i)) → (∀ j, j < 6 * s → nx j = n0 j) → K stack nx) : ∀ m i stack nx, i + m = 6 → (∀ k, k < i → nx (6 * s + k) = tI (nxc S c s k)) → (∀ j, j < 6 * s → nx j = n0 j) → wp_Md_goThrough_L133 x1 (nI s) (nI l) ac nm cc wh be K (m + 1) (nI i) stack nx
  | 0, i, stack, nx, hi, h1, h2 => br_t (show nI 6 ≤ nI i from nI_le (by omega) (by omega)) (hK stack nx (fun k hk => h1 k (by omega)) h2)
  | m + 1, i, stack, nx, hi, h1, h2 => by
    refine br_f (show ¬ nI 6 ≤ nI i from nI_ge (by omega) (by decide)) (q_nextBy hS hl hc6 hR hs (by omega) (fun st1 => ?_))
    rw [show (6 : Int32) = nI 6 from rfl, pk_mul, nI_add]
    refine ⟨vp_in_nI (by omega) (by decide), ?_⟩
    rw [nI_clamp (by omega), nI_1]
    refine g133 hS hl hc6 hR hs hK m (i + 1) st1 _ (by omega) (fun k hk => ?_) (fun j hj => ?_)
    · by_cases e : k = i
      · subst e; rw [pk_us]
      · rw [pk_un (by omega)]; exact h1 k (by omega)
    · rw [pk_un (by omega)]; exact h2 j hj
/-- what is known of the states before s -/
def G4 (S : Nat → Option (List Nat)) (c g s : Nat) (nx iB iG lv qu hg : Nat → Int32) : Prop := (∀ t, t < s → iB t = nI (val S t 0) ∧ iG t = nI (val S t 1) ∧ hg t = nI (Gb S t g) ∧ lv t = tI (l0 S t) ∧ ∀ i, i < 6 → nx (6 * t + i) = tI (nxc S c t i)) ∧ QL qu (bl S s)
theorem gJ (hS : SOk S) (hl : l < 2) (hc6 : c ≤ 6) (hg : g ≤ 12) (hR : RLo l S c g ac nm bg gl rk cc wh be gc gs) {s : Nat} (hs : s < 4096) {nx iB iG lv qu h0 st : Nat → Int32} {s0 : Int32} (h4 : G4 S c g s nx iB iG lv qu h0) (hB : iB s = nI (val S s 0)) (hG : vp_nar .boolean s0 = nI (val S s 1)) {k207 : Int32 → (Nat → Int32) → (Nat → Int32) → (Nat → Int32) → (Nat → Int32) → (Nat → Int32) → (Nat → Int32) → (Nat → Int32) → Prop} {kb : Int32 → Int32 → (Nat → Int32) → (Nat → Int32) → (Nat → Int32) → (Nat → Int32) → (Nat → Int32) → (Nat → Int32) → (Nat → Int32) → Prop} (hk : ∀ st nx iB iG lv qu h, G4 S c g (s + 1) nx iB iG lv qu h → kb (nI (bl S (s + 1)).length) (nI (s + 1)) st nx iB iG lv qu h) : wp_Md_goThrough_J68 (nI (bl S s).length) (nI s) s0 (nI s) (nI l) ac nm bg gl cc wh be gc gs st nx iB iG lv qu h0 kb k207 := by
  have hin : vp_in (nI s) 4096 := vp_in_nI hs (by decide)
  refine ⟨hin, hin, g + 1, ?_⟩
  rw [nI_clamp (by omega)]
  refine g78 hS hl hg hR hs (h0 := h0) (fun st1 h1 a1 a2 => ⟨7, ?_⟩) g 0 st _ (by omega) pk_us (fun t ht => pk_un ht)
  refine g133 hS hl hc6 hR hs (n0 := nx) (fun st2 nx2 b1 b2 => ⟨hin, ?_⟩) 6 0 st1 nx rfl (fun k hk => absurd hk (Nat.not_lt_zero k)) (fun j hj => rfl)
  rw [hB, hG, nI_1]
  have hbl : (bl S s).length ≤ s := by have := bl_len (S := S) s; omega
  have old : ∀ lv' : Nat → Int32, lv' s = tI (l0 S s) → (∀ t, t ≠ s → lv' t = lv t) → ∀ t, t < s + 1 → iB t = nI (val S t 0) ∧ upd iG s (nI (val S s 1)) t = nI (val S t 1) ∧ h1 t = nI (Gb S t g) ∧ lv' t = tI (l0 S t) ∧ ∀ i, i < 6 → nx2 (6 * t + i) = tI (nxc S c t i) := by
    intro lv' e1 e2 t ht
    by_cases e : t = s
    · subst e; exact ⟨hB, pk_us, a1, e1, b1⟩
    · obtain ⟨d1, d2, d3, d4, d5⟩ := h4.1 t (by omega)
      refine ⟨d1, by rw [pk_un e]; exact d2, by rw [a2 t e]; exact d3, by rw [e2 t e]; exact d4, fun i hi => ?_⟩
      rw [b2 _ (by omega)]; exact d5 i hi
  by_cases e : val S s 0 = 0
  · have el : l0 S s = none := if_pos e
    have eb : bl S (s + 1) = bl S s := if_pos e
    have := hk st2 nx2 iB (upd iG s (nI (val S s 1))) (upd lv s (-1)) qu h1 ⟨old _ (by rw [pk_us, el]; rfl) (fun t ht => pk_un ht), by rw [eb]; exact h4.2⟩
    rw [eb] at this
    have z : nI (val S s 0) = 0 := by rw [e]; rfl
    exact br_t z ⟨hin, hin, br_t z this⟩
  · have el : l0 S s = some 0 := if_neg e
    have eb : bl S (s + 1) = bl S s ++ [s] := if_neg e
    have hv := val_lt2 hS s (s := 0) (by decide)
    have z : ¬ nI (val S s 0) = 0 := fun q => e ((nI_eq (b := 0) (by omega) (by decide)).mp q)
    have := hk st2 nx2 iB (upd iG s (nI (val S s 1))) (upd lv s 0) (upd qu (bl S s).length (nI s)) h1 ⟨old _ (by rw [pk_us, el]; rfl) (fun t ht => pk_un ht), by rw [eb]; exact QL_push h4.2⟩
    rw [eb, List.length_append] at this
    refine br_f z ⟨hin, hin, br_f z ⟨vp_in_nI (by omega) (by decide), ?_⟩⟩
    rw [nI_clamp (show (bl S s).length < 2 ^ 31 by omega), nI_1]
    exact this
theorem r_valx (hS : SOk S) {s p t : Nat} {x : Int32} {o : List Nat} (ho : S s = some o) (hx : x = nI p) (ha : AtM ac nm p o) (ht : t < 4096) {stack : Nat → Int32} {post : Int32 → (Nat → Int32) → Prop} (h : ∀ stack', post (nI (val S t s)) stack') : wp_Md_work x (nI t) ac nm stack post := by
  subst hx
  exact r_val hS ho ha ht h
theorem g4 (hS : SOk S) (hl : l < 2) (hc6 : c ≤ 6) (hg : g ≤ 12) (hR : RLo l S c g ac nm bg gl rk cc wh be gc gs) {K : Int32 → (Nat → Int32) → (Nat → Int32) → (Nat → Int32) → (Nat → Int32) → (Nat → Int32) → (Nat → Int32) → (Nat → Int32) → Prop} (hK : ∀ st nx iB iG lv qu h, G4 S c g 4096 nx iB iG lv qu h → K (nI (bl S 4096).length) st nx iB iG lv qu h) : ∀ m s st nx iB iG lv qu h, s + m = 4096 → G4 S c g s nx iB iG lv qu h → wp_Md_goThrough_L4 (nI l) ac nm bg gl cc wh be gc gs K (m + 1) (nI (bl S s).length) (nI s) st nx iB iG lv qu h
  | 0, s, st, nx, iB, iG, lv, qu, h, hs, h4 => by
    have : s = 4096 := by omega
    subst this
    exact br_t (show nI 4096 ≤ nI 4096 from nI_le (Nat.le_refl _) (by decide)) (hK st nx iB iG lv qu h h4)
  | m + 1, s, st, nx, iB, iG, lv, qu, h, hs, h4 => by
    have hs2 : s < 4096 := by omega
    have hin : vp_in (nI s) 4096 := vp_in_nI hs2 (by decide)
    obtain ⟨ob, pb, b0, b1, b2⟩ := hR.2.2.1
    obtain ⟨og, pg, c0, c1, c2⟩ := hR.2.2.2.1
    have hl2 : (nI l).toNatClampNeg = l := nI_clamp (by omega)
    have hs3 : (nI s).toNatClampNeg = s := nI_clamp (by omega)
    have v0 := val_lt2 hS s (s := 0) (by decide)
    have v1 := val_lt2 hS s (s := 1) (by decide)
    have up : ∀ x, x = nI (val S s 0) → G4 S c g s nx (upd iB s x) iG lv qu h := fun x _ => ⟨fun t ht => by
      rw [pk_un (by omega)]; exact h4.1 t ht, h4.2⟩
    have nxt : ∀ s0 x, x = nI (val S s 0) → vp_nar .boolean s0 = nI (val S s 1) → ∀ st, wp_Md_goThrough_J68 (nI (bl S s).length) (nI s) s0 (nI s) (nI l) ac nm bg gl cc wh be gc gs st nx (upd iB (nI s).toNatClampNeg x) iG lv qu h (wp_Md_goThrough_L4 (nI l) ac nm bg gl cc wh be gc gs K (m + 1)) K := fun s0 x hx h0 st => by
      rw [hs3]
      exact gJ hS hl hc6 hg hR hs2 (up x hx) (by rw [pk_us]; exact hx) h0 (fun st nx iB iG lv qu h h5 => g4 hS hl hc6 hg hR hK m (s + 1) st nx iB iG lv qu h (by omega) h5)
    refine br_f (show ¬ nI 4096 ≤ nI s from nI_ge hs2 (by decide)) ⟨vp_in_nI hl (by decide), ?_⟩
    refine r_valx hS b0 (by rw [hl2]; exact b1) b2 hs2 (fun st1 => ?_)
    have g2 : ∀ x, x = nI (val S s 0) → ∀ st1, wp_Md_work (gl (nI l).toNatClampNeg) (nI s) ac nm st1 (fun r_3 md_stack_4 => ((¬ (r_3 : Int32) = (1 : Int32) → wp_Md_goThrough_J68 (nI (bl S s).length) (nI s) 0 (nI s) (nI l) ac nm bg gl cc wh be gc gs md_stack_4 nx (upd iB (nI s).toNatClampNeg x) iG lv qu h (wp_Md_goThrough_L4 (nI l) ac nm bg gl cc wh be gc gs K (m + 1)) K) ∧ ((r_3 : Int32) = (1 : Int32) → wp_Md_goThrough_J68 (nI (bl S s).length) (nI s) 1 (nI s) (nI l) ac nm bg gl cc wh be gc gs md_stack_4 nx (upd iB (nI s).toNatClampNeg x) iG lv qu h (wp_Md_goThrough_L4 (nI l) ac nm bg gl cc wh be gc gs K (m + 1)) K))) := fun x hx st1 => by
      refine r_valx hS c0 (by rw [hl2]; exact c1) c2 hs2 (fun st2 => ?_)
      rcases (show val S s 1 = 0 ∨ val S s 1 = 1 by omega) with e | e
      · rw [e]; exact bn_f (by decide) (nxt 0 x hx (by rw [e]; rfl) st2)
      · rw [e]; exact bn_t rfl (nxt 1 x hx (by rw [e]; rfl) st2)
    rcases (show val S s 0 = 0 ∨ val S s 0 = 1 by omega) with e | e
    · rw [e]; refine bn_f (by decide) ⟨hin, vp_in_nI hl (by decide), ?_⟩
      rw [e] at g2
      exact g2 (vp_nar .boolean 0) rfl st1
    · rw [e]; refine bn_t rfl ⟨hin, vp_in_nI hl (by decide), ?_⟩
      rw [e] at g2
      exact g2 (vp_nar .boolean 1) rfl st1
end GO
