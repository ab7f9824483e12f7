/-! from which states some turns, or all, lead to marked ones: the reference -/
section LD
variable {S : Nat → Option (List Nat)} {c : Nat}
def Sx (al : Bool) (S : Nat → Option (List Nat)) (c : Nat) (X : Nat → Prop) (s : Nat) : Prop := (∃ i t, i < 6 ∧ nxc S c s i = some t ∧ X t) ∧ (al = true → ∀ i t, i < 6 → nxc S c s i = some t → X t)
def Cx (al : Bool) (S : Nat → Option (List Nat)) (c : Nat) (X : Nat → Prop) : Prop := ∀ s, s < 4096 → Sx al S c X s → X s
/-- the least set that holds v and every state that leads into it -/
def LFx (al : Bool) (S : Nat → Option (List Nat)) (c : Nat) (v : Nat → Prop) (s : Nat) : Prop := ∀ X : Nat → Prop, (∀ t, t < 4096 → v t → X t) → Cx al S c X → X s
theorem LF_in {al : Bool} {v : Nat → Prop} {s : Nat} (hs : s < 4096) (h : v s) : LFx al S c v s := fun X h1 _ => h1 s hs h
theorem Sx_mono {al : Bool} {X Y : Nat → Prop} {s : Nat} (h : ∀ t, X t → Y t) (hX : Sx al S c X s) : Sx al S c Y s := by
  obtain ⟨⟨i, t, hi, e, hx⟩, h2⟩ := hX
  exact ⟨⟨i, t, hi, e, h t hx⟩, fun ha i t hi e => h t (h2 ha i t hi e)⟩
theorem LF_step {al : Bool} {v : Nat → Prop} {s : Nat} (hs : s < 4096) (h : Sx al S c (LFx al S c v) s) : LFx al S c v s := fun X h1 h2 => h2 s hs (Sx_mono (fun t ht => ht X h1 h2) h)
/-- a row that is sound, holds v and is closed is the least set -/
theorem LF_iff {al : Bool} {v : Nat → Prop} {f : Nat → Int32} (h1 : ∀ t, t < 4096 → f t ≠ 0 → LFx al S c v t) (h2 : ∀ t, t < 4096 → v t → f t ≠ 0) (h3 : Cx al S c (fun t => f t ≠ 0)) {s : Nat} (hs : s < 4096) : f s ≠ 0 ↔ LFx al S c v s := ⟨h1 s hs, fun h => h _ h2 h3⟩
def Bz (f : Nat → Int32) : Prop := ∀ t, t < 4096 → f t = 0 ∨ f t = 1
theorem Bz_upd {f : Nat → Int32} {s : Nat} {x : Int32} (h : Bz f) (hx : x = 0 ∨ x = 1) : Bz (upd f s x) := fun t ht => by
  by_cases e : t = s
  · subst e; rw [pk_us]; exact hx
  · rw [pk_un e]; exact h t ht
/-- no state looked at so far leads to a marked one unmarked -/
def Qt (S : Nat → Option (List Nat)) (c : Nat) (f : Nat → Int32) (s i : Nat) : Prop := ∀ t j u, (t < s ∨ (t = s ∧ j < i)) → j < 6 → t < 4096 → f t = 0 → nxc S c t j = some u → f u = 0
def Iv (S : Nat → Option (List Nat)) (c : Nat) (v : Nat → Prop) (f : Nat → Int32) : Prop := Bz f ∧ (∀ t, t < 4096 → f t ≠ 0 → LFx false S c v t) ∧ (∀ t, t < 4096 → v t → f t ≠ 0)
theorem Iv_set {v : Nat → Prop} {f : Nat → Int32} {s j u : Nat} (hs : s < 4096) (hj : j < 6) (hS : SOk S) (e : nxc S c s j = some u) (hu : f u ≠ 0) (h : Iv S c v f) : Iv S c v (upd f s (vp_nar .boolean 1)) := by
  rw [nar1]
  refine ⟨Bz_upd h.1 (Or.inr rfl), fun t ht q => ?_, fun t ht q => ?_⟩
  · by_cases z : t = s
    · subst z
      exact LF_step ht ⟨⟨j, u, hj, e, h.2.1 u (nxc_lt hS e) hu⟩, fun q => by cases q⟩
    · rw [pk_un z] at q; exact h.2.1 t ht q
  · by_cases z : t = s
    · subst z; rw [pk_us]; decide
    · rw [pk_un z]; exact h.2.2 t ht q
variable {nr : Nat → Int32} {v : Nat → Prop}
theorem sp19x (hS : SOk S) (hN : NxR S c nr) {s N : Nat} (hs : s < 4096) {K : Int32 → (Nat → Int32) → Prop} (h : ∀ r f, Dn N r f → Iv S c v f → (r = 0 → Qt S c f (s + 1) 0) → K r f) : ∀ m i r f, i + m = 6 → Dn N r f → Iv S c v f → (r = 0 → Qt S c f s i) → wp_Md_spread_L19 (nI s) nr K (m + 1) r (nI i) f := by
  intro m
  induction m with
  | zero =>
    intro i r f hi hd hv hq
    have : i = 6 := by omega
    subst this
    refine br_t (show nI 6 ≤ nI 6 from nI_le (Nat.le_refl _) (by decide)) (h _ _ hd hv (fun q t j u ht hj => hq q t j u (by omega) hj))
  | succ m ih0 =>
    intro i r f hi hd hv hq
    have ih := fun r f hd hv hq => ih0 (i + 1) r f (by omega) hd hv hq
    have hcl : (nI s).toNatClampNeg = s := nI_clamp (by omega)
    refine br_f (show ¬ nI 6 ≤ nI i from nI_ge (by omega) (by decide)) ⟨vp_in_nI hs (by decide), ?_⟩
    rw [hcl]
    refine bn_c (fun z => h _ _ hd hv (fun q t j u ht hj ht2 h0 => ?_)) (fun q0 => ⟨(nxi hs (by omega)).1, fun x ex => ?_⟩)
    · by_cases y : t = s
      · subst y; exact absurd h0 z
      · exact hq q t j u (Or.inl (by omega)) hj ht2 h0
    · rw [(nxi hs (by omega)).2, hN s hs i (by omega)] at ex
      rw [nI_1]
      cases e : nxc S c s i with
      | none =>
        rw [e] at ex
        subst ex
        refine br_t (show (-1 : Int32) < 0 by decide) (ih _ _ hd hv (fun q t j u ht hj ht2 h0 e2 => ?_))
        by_cases y : t = s ∧ j = i
        · rw [y.1, y.2, e] at e2; cases e2
        · exact hq q t j u (by omega) hj ht2 h0 e2
      | some u =>
        have hu := nxc_lt hS e
        rw [e] at ex
        subst ex
        refine br_f (nI_pos (by omega)) ⟨vp_in_nI hu (by decide), ?_⟩
        rw [show tI (some u) = nI u from rfl, nI_clamp (show u < 2 ^ 31 by omega)]
        refine br_c (fun z => ih _ _ hd hv (fun q t j u2 ht hj ht2 h0 e2 => ?_)) (fun z => ⟨vp_in_nI hs (by decide), ih 1 _ (Or.inl ?_) (Iv_set hs (by omega) hS e z hv) (fun q => absurd q (by decide))⟩)
        · by_cases y : t = s ∧ j = i
          · rw [y.1, y.2, e] at e2; cases e2; exact z
          · exact hq q t j u2 (by omega) hj ht2 h0 e2
        · have := ngs_upd (x := vp_nar .boolean 1) hs q0 (by rw [nar1]; decide)
          rcases hd with hd | hd <;> omega
theorem sp10x (hS : SOk S) (hN : NxR S c nr) {N : Nat} {K : Int32 → (Nat → Int32) → Prop} (h : ∀ r f, Dn N r f → Iv S c v f → (r = 0 → Qt S c f 4096 0) → K r f) : ∀ m s r f, s + m = 4096 → Dn N r f → Iv S c v f → (r = 0 → Qt S c f s 0) → wp_Md_spread_L10 nr K (m + 1) r (nI s) f := by
  intro m
  induction m with
  | zero =>
    intro s r f hs hd hv hq
    have : s = 4096 := by omega
    subst this
    exact br_t (nI_le (Nat.le_refl 4096) (by decide)) (h _ _ hd hv hq)
  | succ m ih0 =>
    intro s r f hs hd hv hq
    refine br_f (show ¬ nI 4096 ≤ nI s from nI_ge (by omega) (by decide)) ?_
    rw [nI_1]
    exact ⟨7, sp19x hS hN (by omega) (fun r f hd hv hq => ih0 (s + 1) r f (by omega) hd hv hq) 6 0 r f rfl hd hv hq⟩
theorem sp2x (hS : SOk S) (hN : NxR S c nr) {K : (Nat → Int32) → Prop} (h : ∀ f, Iv S c v f → Qt S c f 4096 0 → K f) : ∀ n r f, ngs f < n ∨ r = 0 → Iv S c v f → (r = 0 → Qt S c f 4096 0) → wp_Md_spread_L2 nr K (n + 1) r f := by
  intro n
  induction n with
  | zero =>
    intro r f hd hv hq
    rcases hd with hd | hd
    · exact absurd hd (Nat.not_lt_zero _)
    · exact br_t hd (h _ hv (hq hd))
  | succ n ih0 =>
    intro r f hd hv hq
    refine br_c (fun z => h _ hv (hq z)) (fun q => ?_)
    rcases hd with hd | hd
    · refine ⟨4097, sp10x hS hN (N := ngs f) (fun r f2 h2 hv hq => ih0 r f2 ?_ hv hq) 4096 0 0 f rfl (Or.inr ⟨rfl, rfl⟩) hv (fun _ t j u ht => by omega)⟩
      rcases h2 with h2 | h2
      · exact Or.inl (by omega)
      · exact Or.inr h2.2
    · exact absurd hd q
theorem q_spread (hS : SOk S) (hN : NxR S c nr) {f : Nat → Int32} (hv : Bz f) {post : (Nat → Int32) → Prop} (h : ∀ f2, Bz f2 → (∀ t, t < 4096 → (f2 t ≠ 0 ↔ LFx false S c (fun t => f t ≠ 0) t)) → post f2) : wp_Md_spread nr f post := by
  refine ⟨4098, sp2x (v := fun t => f t ≠ 0) hS hN (fun f2 hv2 hq => h f2 hv2.1 (fun t ht => LF_iff hv2.2.1 hv2.2.2 (fun s hs hx => ?_) ht)) 4097 1 f (Or.inl (by have := ngs_le f; omega)) ⟨hv, fun t ht q => LF_in ht q, fun t ht q => q⟩ (fun q => absurd q (by decide))⟩
  obtain ⟨⟨i, t, hi, e, hx⟩, _⟩ := hx
  intro z
  exact hx (hq s i t (Or.inl hs) hi hs z e)
/-- all turns, at least one, lead to marked states -/
def tg (S : Nat → Option (List Nat)) (c : Nat) (f : Nat → Int32) (s i : Nat) : Bool := match nxc S c s i with
  | none => true
  | some t => decide (¬ f t = 0)
theorem sa39x (hS : SOk S) (hN : NxR S c nr) {s : Nat} (hs : s < 4096) {x1 : Int32} {f : Nat → Int32} {K : Int32 → Prop} (h : K (b01 (ab (tg S c f s) 6))) : ∀ m i, i + m = 6 → wp_Md_spreadAll_L39 x1 (nI s) nr f K (m + 1) (b01 (ab (tg S c f s) i)) (nI i)
  | 0, i, hi => by
    have : i = 6 := by omega
    subst this
    exact br_t (show nI 6 ≤ nI 6 from nI_le (Nat.le_refl _) (by decide)) h
  | m + 1, i, hi => by
    have ih := sa39x hS hN hs (x1 := x1) h m (i + 1) (by omega)
    rw [show ab (tg S c f s) (i + 1) = (ab (tg S c f s) i && tg S c f s i) from rfl] at ih
    refine br_f (show ¬ nI 6 ≤ nI i from nI_ge (by omega) (by decide)) ⟨(nxi hs (by omega)).1, fun x ex => ?_⟩
    rw [(nxi hs (by omega)).2, hN s hs i (by omega)] at ex
    rw [nI_1]
    cases ea : ab (tg S c f s) i with
    | false => rw [ea] at ih; exact br_t rfl ih
    | true =>
      rw [ea] at ih
      refine br_f (by decide) ?_
      unfold tg at ih
      cases e : nxc S c s i with
      | none =>
        rw [e] at ex ih
        subst ex
        exact br_t (show (-1 : Int32) < 0 by decide) ih
      | some u =>
        have hu := nxc_lt hS e
        rw [e] at ex ih
        subst ex
        refine br_f (nI_pos (by omega)) ⟨vp_in_nI hu (by decide), ?_⟩
        rw [show tI (some u) = nI u from rfl, nI_clamp (show u < 2 ^ 31 by omega)]
        have ih : wp_Md_spreadAll_L39 x1 (nI s) nr f K (m + 1) (b01 (true && decide (¬ f u = 0))) (nI (i + 1)) := ih
        refine br_c (fun z => ?_) (fun z => ?_)
        · rw [decide_eq_false (fun q => q z)] at ih; exact ih
        · rw [decide_eq_true z] at ih; exact ih
theorem ab_all {f : Nat → Bool} : ∀ n, ab f n = true ↔ ∀ i, i < n → f i = true
  | 0 => ⟨fun _ i hi => absurd hi (Nat.not_lt_zero i), fun _ => rfl⟩
  | n + 1 => by
    show (ab f n && f n) = true ↔ _
    rw [Bool.and_eq_true, ab_all n]
    refine ⟨fun h i hi => ?_, fun h => ⟨fun i hi => h i (by omega), h n (by omega)⟩⟩
    by_cases e : i = n
    · subst e; exact h.2
    · exact h.1 i (by omega)
def IvA (S : Nat → Option (List Nat)) (c : Nat) (v : Nat → Prop) (f : Nat → Int32) : Prop := Bz f ∧ (∀ t, t < 4096 → f t ≠ 0 → LFx true S c v t) ∧ (∀ t, t < 4096 → v t → f t ≠ 0)
def QtA (S : Nat → Option (List Nat)) (c : Nat) (f : Nat → Int32) (s : Nat) : Prop := ∀ t, t < s → t < 4096 → f t = 0 → ¬ Sx true S c (fun t => f t ≠ 0) t
theorem en_turn (hc : c ≤ 6) {s : Nat} : en S c s = 0 ↔ ∃ i t, i < 6 ∧ nxc S c s i = some t := by
  rw [← et_en hc s]
  have key : ∀ n, et S c s n = 0 ↔ ∃ i t, i < n ∧ nxc S c s i = some t := by
    intro n
    induction n with
    | zero => exact ⟨fun h => absurd h (show ¬ (1 : Nat) = 0 by decide), fun ⟨i, t, hi, _⟩ => absurd hi (Nat.not_lt_zero i)⟩
    | succ n ih =>
      cases e : nxc S c s n with
      | none =>
        rw [et_none e, ih]
        refine ⟨fun ⟨i, t, hi, h⟩ => ⟨i, t, by omega, h⟩, fun ⟨i, t, hi, h⟩ => ⟨i, t, ?_, h⟩⟩
        by_cases z : i = n
        · subst z; rw [e] at h; cases h
        · omega
      | some t =>
        rw [et_some e]
        exact ⟨fun _ => ⟨n, t, by omega, e⟩, fun _ => rfl⟩
  exact key 6
theorem tg_all (hc : c ≤ 6) {f : Nat → Int32} {s : Nat} (he : en S c s = 0) : ab (tg S c f s) 6 = true ↔ Sx true S c (fun t => f t ≠ 0) s := by
  rw [ab_all]
  have h1 : (∀ i, i < 6 → tg S c f s i = true) ↔ ∀ i t, i < 6 → nxc S c s i = some t → f t ≠ 0 := by
    refine ⟨fun h i t hi e => ?_, fun h i hi => ?_⟩
    · have := h i hi
      unfold tg at this
      rw [e] at this
      exact of_decide_eq_true this
    · unfold tg
      cases e : nxc S c s i with
      | none => rfl
      | some t => exact decide_eq_true (h i t hi e)
  rw [h1]
  obtain ⟨i, t, hi, e⟩ := (en_turn hc).mp he
  exact ⟨fun h => ⟨⟨i, t, hi, e, h i t hi e⟩, fun _ => h⟩, fun h => h.2 rfl⟩
theorem upd_same {f : Nat → Int32} {s : Nat} {x : Int32} (h : f s = x) : upd f s x = f := by
  funext j
  by_cases e : j = s
  · subst e; rw [pk_us, h]
  · exact pk_un e
theorem sa10x (hS : SOk S) (hc : c ≤ 6) (hN : NxR S c nr) {N : Nat} {K : Int32 → (Nat → Int32) → Prop} (h : ∀ r f, Dn N r f → IvA S c v f → (r = 0 → QtA S c f 4096) → K r f) : ∀ m s r f, s + m = 4096 → Dn N r f → IvA S c v f → (r = 0 → QtA S c f s) → wp_Md_spreadAll_L10 nr K (m + 1) r (nI s) f := by
  intro m
  induction m with
  | zero =>
    intro s r f hs hd hv hq
    have : s = 4096 := by omega
    subst this
    exact br_t (nI_le (Nat.le_refl 4096) (by decide)) (h _ _ hd hv hq)
  | succ m ih0 =>
    intro s r f hs hd hv hq
    have ih := fun r f hd hv hq => ih0 (s + 1) r f (by omega) hd hv hq
    have hin : vp_in (nI s) 4096 := vp_in_nI (by omega) (by decide)
    have hcl : (nI s).toNatClampNeg = s := nI_clamp (by omega)
    have up : ∀ {f : Nat → Int32}, QtA S c f s → (f s = 0 → ¬ Sx true S c (fun t => f t ≠ 0) s) → QtA S c f (s + 1) := fun hq hn t ht ht2 h0 => by
      by_cases z : t = s
      · subst z; exact hn h0
      · exact hq t (by omega) ht2 h0
    refine br_f (show ¬ nI 4096 ≤ nI s from nI_ge (by omega) (by decide)) ?_
    rw [nI_1]
    refine ⟨hin, ?_⟩
    rw [hcl]
    refine bn_c (fun z => ih _ _ hd hv (fun q => up (hq q) (fun h0 => absurd h0 z))) (fun q => q_isEnd hS hc hN (by omega) ?_)
    have he := en_lt (S := S) (c := c) s
    rcases (show en S c s = 0 ∨ en S c s = 1 by omega) with e | e
    · rw [e]
      refine bn_t rfl ⟨7, sa39x hS hN (by omega) ⟨hin, ?_⟩ 6 0 rfl⟩
      have hT := tg_all (f := f) hc e
      cases ea : ab (tg S c f s) 6 with
      | false =>
        have hu : upd f s (vp_nar .boolean 0) = f := by rw [nar0]; exact upd_same q
        have hns : ¬ Sx true S c (fun t => f t ≠ 0) s := fun z => by rw [hT.mpr z] at ea; cases ea
        show (¬ r = 0 → wp_Md_spreadAll_L10 nr K (m + 1) 1 (nI (s + 1)) (upd f s (vp_nar .boolean 0))) ∧ (r = 0 → ((0 : Int32) = 0 → wp_Md_spreadAll_L10 nr K (m + 1) 0 (nI (s + 1)) (upd f s (vp_nar .boolean 0))) ∧ (¬ (0 : Int32) = 0 → wp_Md_spreadAll_L10 nr K (m + 1) 1 (nI (s + 1)) (upd f s (vp_nar .boolean 0))))
        rw [hu]
        refine bn_c (fun z => ih _ _ ?_ hv (fun q2 => absurd q2 (by decide))) (fun z => br_t rfl (ih _ _ ?_ hv (fun _ => up (hq z) (fun _ => hns))))
        · rcases hd with hd | hd
          · exact Or.inl hd
          · exact absurd hd.2 z
        · subst z; exact hd
      | true =>
        have hx := hT.mp ea
        show (¬ r = 0 → wp_Md_spreadAll_L10 nr K (m + 1) 1 (nI (s + 1)) (upd f s (vp_nar .boolean 1))) ∧ (r = 0 → ((1 : Int32) = 0 → wp_Md_spreadAll_L10 nr K (m + 1) 0 (nI (s + 1)) (upd f s (vp_nar .boolean 1))) ∧ (¬ (1 : Int32) = 0 → wp_Md_spreadAll_L10 nr K (m + 1) 1 (nI (s + 1)) (upd f s (vp_nar .boolean 1))))
        have e2 := ngs_upd (f := f) (t := s) (x := vp_nar .boolean 1) (by omega) q (by rw [nar1]; decide)
        have e3 : Dn N 1 (upd f s (vp_nar .boolean 1)) := Or.inl (by rcases hd with hd | hd <;> omega)
        have e4 : IvA S c v (upd f s (vp_nar .boolean 1)) := by
          rw [nar1]
          refine ⟨Bz_upd hv.1 (Or.inr rfl), fun t ht q2 => ?_, fun t ht q2 => ?_⟩
          · by_cases z : t = s
            · subst z
              refine LF_step ht ?_
              obtain ⟨⟨i, u, hi, e5, hu⟩, h5⟩ := hx
              exact ⟨⟨i, u, hi, e5, hv.2.1 u (nxc_lt hS e5) hu⟩, fun _ i u hi e5 => hv.2.1 u (nxc_lt hS e5) (h5 rfl i u hi e5)⟩
            · rw [pk_un z] at q2; exact hv.2.1 t ht q2
          · by_cases z : t = s
            · subst z; rw [pk_us]; decide
            · rw [pk_un z]; exact hv.2.2 t ht q2
        exact bn_c (fun _ => ih _ _ e3 e4 (fun q2 => absurd q2 (by decide))) (fun _ => br_f (by decide) (ih _ _ e3 e4 (fun q2 => absurd q2 (by decide))))
    · rw [e]
      refine bn_f (by decide) (ih _ _ hd hv (fun z => up (hq z) (fun _ hx => ?_)))
      obtain ⟨⟨i, t, hi, e5, _⟩, _⟩ := hx
      rw [(en_turn hc).mpr ⟨i, t, hi, e5⟩] at e
      cases e
theorem sa2x (hS : SOk S) (hc : c ≤ 6) (hN : NxR S c nr) {K : (Nat → Int32) → Prop} (h : ∀ f, IvA S c v f → QtA S c f 4096 → K f) : ∀ n r f, ngs f < n ∨ r = 0 → IvA S c v f → (r = 0 → QtA S c f 4096) → wp_Md_spreadAll_L2 nr K (n + 1) r f := by
  intro n
  induction n with
  | zero =>
    intro r f hd hv hq
    rcases hd with hd | hd
    · exact absurd hd (Nat.not_lt_zero _)
    · exact br_t hd (h _ hv (hq hd))
  | succ n ih0 =>
    intro r f hd hv hq
    refine br_c (fun z => h _ hv (hq z)) (fun q => ?_)
    rcases hd with hd | hd
    · refine ⟨4097, sa10x hS hc hN (N := ngs f) (fun r f2 h2 hv hq => ih0 r f2 ?_ hv hq) 4096 0 0 f rfl (Or.inr ⟨rfl, rfl⟩) hv (fun _ t ht => absurd ht (Nat.not_lt_zero t))⟩
      rcases h2 with h2 | h2
      · exact Or.inl (by omega)
      · exact Or.inr h2.2
    · exact absurd hd q
theorem q_spreadAll (hS : SOk S) (hc : c ≤ 6) (hN : NxR S c nr) {f : Nat → Int32} (hv : Bz f) {post : (Nat → Int32) → Prop} (h : ∀ f2, Bz f2 → (∀ t, t < 4096 → (f2 t ≠ 0 ↔ LFx true S c (fun t => f t ≠ 0) t)) → post f2) : wp_Md_spreadAll nr f post := by
  refine ⟨4098, sa2x (v := fun t => f t ≠ 0) hS hc hN (fun f2 hv2 hq => h f2 hv2.1 (fun t ht => LF_iff hv2.2.1 hv2.2.2 (fun s hs hx z => hq s hs hs z hx) ht)) 4097 1 f (Or.inl (by have := ngs_le f; omega)) ⟨hv, fun t ht q => LF_in ht q, fun t ht q => q⟩ (fun q => absurd q (by decide))⟩
end LD
