/-! counter: the reference's shortest run is the class's -/
section CX
variable {S : Nat → Option (List Nat)} {c : Nat}
theorem stp_keep {s i t x : Nat} {q : QLv} (h : q.2 t = some x) : (stp S c s i q).2 t = some x := by
  cases e : nxc S c s i with
  | none => rw [stp_none e]; exact h
  | some u =>
    cases e2 : q.2 u with
    | some y => rw [stp_some e e2]; exact h
    | none =>
      rw [stp_new e e2]
      show (if t = u then _ else q.2 t) = some x
      rw [if_neg (fun z => by rw [z, e2] at h; cases h)]
      exact h
theorem vis_keep {s t x : Nat} {q : QLv} (h : q.2 t = some x) : ∀ i, (vis S c s i q).2 t = some x
  | 0 => h
  | i + 1 => stp_keep (vis_keep h i)
theorem bfs_keep {t x : Nat} : ∀ m k (q : QLv), q.2 t = some x → (bfs S c m k q).2 t = some x
  | 0, k, q, h => h
  | m + 1, k, q, h => by
    by_cases z : k < q.1.length
    · rw [bfs_s z]; exact bfs_keep m (k + 1) _ (vis_keep h 6)
    · rw [bfs_end (m + 1) k q (by omega)]; exact h
theorem come_beg {t : Nat} (h : val S t 0 ≠ 0) : (come S c).2 t = some 0 := bfs_keep 4096 0 _ (if_neg h)
theorem stp_z {s i : Nat} {q : QLv} (h : ∀ t, q.2 t = some 0 → val S t 0 ≠ 0) : ∀ t, (stp S c s i q).2 t = some 0 → val S t 0 ≠ 0 := by
  cases e : nxc S c s i with
  | none => rw [stp_none e]; exact h
  | some u =>
    cases e2 : q.2 u with
    | some y => rw [stp_some e e2]; exact h
    | none =>
      rw [stp_new e e2]
      intro t ht
      have ht : (if t = u then some ((q.2 s).getD 0 + 1) else q.2 t) = some 0 := ht
      by_cases z : t = u
      · rw [if_pos z] at ht; injection ht with ht; omega
      · rw [if_neg z] at ht; exact h t ht
theorem vis_z {s : Nat} {q : QLv} (h : ∀ t, q.2 t = some 0 → val S t 0 ≠ 0) : ∀ i, ∀ t, (vis S c s i q).2 t = some 0 → val S t 0 ≠ 0
  | 0 => h
  | i + 1 => stp_z (vis_z h i)
theorem bfs_z : ∀ m k (q : QLv), (∀ t, q.2 t = some 0 → val S t 0 ≠ 0) → ∀ t, (bfs S c m k q).2 t = some 0 → val S t 0 ≠ 0
  | 0, k, q, h => h
  | m + 1, k, q, h => by
    by_cases z : k < q.1.length
    · rw [bfs_s z]; exact bfs_z m (k + 1) _ (vis_z h 6)
    · rw [bfs_end (m + 1) k q (by omega)]; exact h
theorem come_0 {t : Nat} (h : (come S c).2 t = some 0) : val S t 0 ≠ 0 := bfs_z 4096 0 (bl S 4096, l0 S) (fun t ht => by
  have ht : l0 S t = some 0 := ht
  intro z
  unfold l0 at ht
  rw [if_pos z] at ht
  cases ht) t h
theorem lemA (hS : SOk S) : ∀ j s l, s < 4096 → (come S c).2 s = some l → bd S c j s → ∃ u x, u < 4096 ∧ (come S c).2 u = some x ∧ val S u 1 = 0 ∧ x ≤ l + j
  | 0, s, l, hs, hl, hb => ⟨s, l, hs, hl, hb, Nat.le_refl _⟩
  | j + 1, s, l, hs, hl, ⟨i, u, hi, e, hu⟩ => by
    obtain ⟨x, hx, hle⟩ := come_turn hS hs hi hl e
    obtain ⟨w, y, h1, h2, h3, h4⟩ := lemA hS j u x (nxc_lt hS e) hx hu
    exact ⟨w, y, h1, h2, h3, by omega⟩
theorem lemB (hS : SOk S) : ∀ x u j, u < 4096 → (come S c).2 u = some x → bd S c j u → ∃ b, Bg S c (x + j) b
  | 0, u, j, hu, hx, hb => ⟨u, hu, come_0 hx, by rw [Nat.zero_add]; exact hb⟩
  | x + 1, u, j, hu, hx, hb => by
    obtain ⟨s, i, hs, hi, h1, h2⟩ := Bk_come (c := c) hS u x hx
    obtain ⟨b, h3⟩ := lemB hS x s (j + 1) hs h1 ⟨i, u, hi, h2, hb⟩
    exact ⟨b, by rw [show x + 1 + j = x + (j + 1) by omega]; exact h3⟩
/-- D is the least level of a state without the goal -/
def Dm (S : Nat → Option (List Nat)) (c D : Nat) : Prop := (∃ t, t < 4096 ∧ (come S c).2 t = some D ∧ val S t 1 = 0) ∧ ∀ t l, t < 4096 → (come S c).2 t = some l → val S t 1 = 0 → D ≤ l
theorem Dm_Bg (hS : SOk S) {D : Nat} (h : Dm S c D) : (∃ b, Bg S c D b) ∧ ∀ s j, Bg S c j s → D ≤ j := by
  obtain ⟨⟨t, ht, h1, h2⟩, h3⟩ := h
  refine ⟨lemB hS D t 0 ht h1 h2, fun s j hj => ?_⟩
  obtain ⟨u, x, hu, hx, hv, hle⟩ := lemA hS j s 0 hj.1 (come_beg hj.2.1) hj.2.2
  have := h3 u x hu hx hv
  omega
/-- a turn from level l of the runs that are marked leads to level l + 1 -/
theorem lev_next (hS : SOk S) {D : Nat} (hD : Dm S c D) {s l i t k : Nat} (hs : s < 4096) (hl : (come S c).2 s = some l) (hk : l + k + 1 = D) (hi : i < 6) (e : nxc S c s i = some t) (hb : bd S c k t) : (come S c).2 t = some (l + 1) := by
  obtain ⟨x, hx, hle⟩ := come_turn hS hs hi hl e
  obtain ⟨u, y, hu, hy, hv, hle2⟩ := lemA hS k t x (nxc_lt hS e) hx hb
  have := hD.2 u y hu hy hv
  rw [show l + 1 = x by omega]; exact hx
variable {nr lv iG : Nat → Int32}
theorem lv_iff (hS : SOk S) (hL : LvR lv (come S c).2) {t l : Nat} (ht : t < 4096) (hl : l < 2 ^ 31) : lv t = nI l ↔ (come S c).2 t = some l := by
  rw [hL t ht]
  exact tI_eq (fun x hx => by have := lev_lt hS hx; omega) hl
def LeX (S : Nat → Option (List Nat)) (c s : Nat) (x : Int32) : Prop := (x = -1 ∧ ∀ t l, t < s → (come S c).2 t = some l → val S t 1 ≠ 0) ∨ ∃ k, k < 4096 ∧ x = nI k ∧ (∃ t, t < s ∧ (come S c).2 t = some k ∧ val S t 1 = 0) ∧ ∀ t l, t < s → (come S c).2 t = some l → val S t 1 = 0 → k ≤ l
theorem mr4x (hS : SOk S) (hL : LvR lv (come S c).2) (hG : ∀ t, t < 4096 → iG t = nI (val S t 1)) {K : Int32 → Prop} (h : ∀ x, LeX S c 4096 x → K x) : ∀ m s x, s + m = 4096 → LeX S c s x → wp_Md_markRuns_L4 iG lv K (m + 1) x (nI s)
  | 0, s, x, hs, hx => by
    have : s = 4096 := by omega
    subst this
    exact br_t (nI_le (Nat.le_refl 4096) (by decide)) (h _ hx)
  | m + 1, s, x, hs, hx => by
    have ih := fun x hx => mr4x hS hL hG h m (s + 1) x (by omega) hx
    have hs4 : s < 4096 := by omega
    have hv : vp_in (nI s) 4096 := vp_in_nI hs4 (by decide)
    have hv2 := val_lt2 hS s (s := 1) (by decide)
    have skip : ((come S c).2 s = none ∨ val S s 1 ≠ 0 ∨ ∃ k l, x = nI k ∧ k < 4096 ∧ (come S c).2 s = some l ∧ k ≤ l) → LeX S c (s + 1) x := fun hk => by
      rcases hx with ⟨h1, h2⟩ | ⟨k, hk4, h1, ⟨t, ht, h2⟩, h3⟩
      · refine Or.inl ⟨h1, fun t l ht e => ?_⟩
        by_cases z : t = s
        · subst z
          rcases hk with q | q | ⟨k, l', q, hk4, _, _⟩
          · rw [e] at q; cases q
          · exact q
          · rw [h1] at q
            have := nI_pos (n := k) (by omega)
            rw [← q] at this
            exact absurd (by decide) this
        · exact h2 t l (by omega) e
      · refine Or.inr ⟨k, hk4, h1, ⟨t, by omega, h2⟩, fun t l ht e hb => ?_⟩
        by_cases z : t = s
        · subst z
          rcases hk with q | q | ⟨k', l', q, hk4', q1, q2⟩
          · rw [e] at q; cases q
          · exact absurd hb q
          · rw [h1] at q
            rw [e] at q1
            cases q1
            have := (nI_eq (by omega) (by omega)).mp q
            omega
        · exact h3 t l (by omega) e hb
    refine br_f (show ¬ nI 4096 ≤ nI s from nI_ge (by omega) (by decide)) ?_
    rw [nI_1, nI_clamp (show s < 2 ^ 31 by omega), hL s hs4, hG s hs4]
    refine ⟨hv, ?_⟩
    cases e : (come S c).2 s with
    | none => exact br_t (show (-1 : Int32) < 0 by decide) (ih x (skip (Or.inl e)))
    | some l =>
      have hl := lev_lt hS e
      refine br_f (nI_pos (show l < 2 ^ 31 by omega)) ⟨hv, ?_⟩
      rcases (show val S s 1 = 0 ∨ val S s 1 = 1 by omega) with e1 | e1
      · rw [e1]
        have new : (∀ t l', t < s → (come S c).2 t = some l' → val S t 1 = 0 → l ≤ l') → LeX S c (s + 1) (nI l) := fun hn => Or.inr ⟨l, hl, rfl, ⟨s, by omega, e, e1⟩, fun t l' ht et hb => by
          by_cases z : t = s
          · subst z; rw [e] at et; cases et; exact Nat.le_refl _
          · exact hn t l' (by omega) et hb⟩
        refine bn_t rfl (br_c (fun q => ⟨hv, fun y ey => ?_⟩) (fun q => ⟨hv, br_c (fun q2 => ?_) (fun q2 => ⟨hv, fun y ey => ?_⟩)⟩))
        · rw [ey]
          rcases hx with ⟨h1, h2⟩ | ⟨k, hk4, h1, _⟩
          · exact ih (nI l) (new (fun t l' ht et hb => absurd hb (h2 t l' ht et)))
          · rw [h1] at q; exact absurd q (nI_pos (by omega))
        · rcases hx with ⟨h1, h2⟩ | ⟨k, hk4, h1, _⟩
          · rw [h1] at q; exact absurd (by decide) q
          · rw [h1] at q2
            exact ih x (skip (Or.inr (Or.inr ⟨k, l, h1, hk4, e, (nI_leI (by omega) (by omega)).mp q2⟩)))
        · rw [ey]
          rcases hx with ⟨h1, h2⟩ | ⟨k, hk4, h1, _, h3⟩
          · rw [h1] at q; exact absurd (by decide) q
          · rw [h1] at q2
            refine ih (nI l) (new (fun t l' ht et hb => ?_))
            have a1 := h3 t l' ht et hb
            have a2 : l < k := Nat.lt_of_not_le (fun z => q2 (nI_le z (by omega)))
            omega
      · rw [e1]
        exact bn_f (by decide) (ih x (skip (Or.inr (Or.inl (by omega)))))
/-- what is marked, the levels from k on being done -/
def Em (S : Nat → Option (List Nat)) (c D k : Nat) (f : Nat → Int32) : Prop := ∀ t, t < 4096 → (f t ≠ 0 ↔ ∃ l, k ≤ l ∧ l ≤ D ∧ (come S c).2 t = some l ∧ bd S c (D - l) t)
theorem Em_step (hS : SOk S) (hN : NxR S c nr) (hL : LvR lv (come S c).2) {D k : Nat} (hD : Dm S c D) (hD4 : D < 4096) (hk : k + 1 ≤ D) {f0 f : Nat → Int32} (h : Em S c D (k + 1) f0) (hm : Mk nr lv f0 k 4096 f) : Em S c D k f := by
  intro t ht
  have hmt := hm t ht
  by_cases z : lv t = nI k
  · rw [if_pos ⟨ht, z⟩] at hmt
    have hc := (lv_iff hS hL ht (by omega)).mp z
    rw [hmt]
    refine ⟨fun q => ⟨k, Nat.le_refl _, by omega, hc, ?_⟩, fun ⟨l, h1, h2, h3, h4⟩ => Or.inr ?_⟩
    · rcases q with q | ⟨i, u, hi, hu, e, e2, q⟩
      · obtain ⟨l, h1, _, h3, _⟩ := (h t ht).mp q
        rw [hc] at h3
        cases h3
        omega
      · rw [hN t ht i hi] at e
        have e := (tI_eq (fun x hx => by have := nxc_lt hS hx; omega) (by omega)).mp e
        obtain ⟨l, h1, h2, h3, h4⟩ := (h u hu).mp q
        have e2 := (lv_iff hS hL hu (by omega)).mp e2
        rw [e2] at h3
        cases h3
        rw [show D - k = (D - (k + 1)) + 1 by omega]
        exact ⟨i, u, hi, e, h4⟩
    · rw [hc] at h3
      cases h3
      rw [show D - k = (D - (k + 1)) + 1 by omega] at h4
      obtain ⟨i, u, hi, e, hb⟩ := h4
      have hu := nxc_lt hS e
      have hcu := lev_next hS hD ht hc (show k + (D - (k + 1)) + 1 = D by omega) hi e hb
      refine ⟨i, u, hi, hu, by rw [hN t ht i hi, e]; rfl, (lv_iff hS hL hu (by omega)).mpr hcu, (h u hu).mpr ⟨k + 1, Nat.le_refl _, hk, hcu, hb⟩⟩
  · rw [if_neg (fun q => z q.2)] at hmt
    rw [hmt, h t ht]
    refine ⟨fun ⟨l, h1, h2, h3⟩ => ⟨l, by omega, h2, h3⟩, fun ⟨l, h1, h2, h3⟩ => ⟨l, ?_, h2, h3⟩⟩
    by_cases y : l = k
    · subst y; exact absurd ((lv_iff hS hL ht (by omega)).mpr h3.1) z
    · omega
theorem mr113x (hS : SOk S) (hN : NxR S c nr) (hL : LvR lv (come S c).2) {D : Nat} (hD : Dm S c D) (hD4 : D < 4096) {x1 : Int32} {K : (Nat → Int32) → Prop} (h : ∀ f, Em S c D 0 f → K f) : ∀ k f, k ≤ D → Em S c D k f → wp_Md_markRuns_L113 x1 nr lv K (k + 1) (nI k - 1) f
  | 0, f, hk, hf => br_t (by decide) (h _ hf)
  | k + 1, f, hk, hf => by
    rw [nI_sub1 (by omega), show k + 1 - 1 = k by omega]
    refine br_f (nI_pos (by omega)) ⟨4097, mr119 (NxB_of hS hN) (by omega) (fun f2 h2 => ?_) 4096 0 f rfl (fun t ht => by rw [if_neg (fun z => absurd z.1 (Nat.not_lt_zero t))])⟩
    rw [show nI k + (-1) = nI k - 1 by rw [Int32.sub_eq_add_neg]]
    exact mr113x hS hN hL hD hD4 h k f2 (by omega) (Em_step hS hN hL hD hD4 hk hf h2)
theorem r_markRuns (hS : SOk S) (hN : NxR S c nr) (hL : LvR lv (come S c).2) (hG : ∀ t, t < 4096 → iG t = nI (val S t 1)) {f : Nat → Int32} {post : Int32 → (Nat → Int32) → Prop} (h0 : (∀ t l, t < 4096 → (come S c).2 t = some l → val S t 1 ≠ 0) → ∀ f, post (-1) f) (h1 : ∀ D f, D < 4096 → Dm S c D → Em S c D 0 f → post (nI D) f) : wp_Md_markRuns nr iG lv f post := by
  refine ⟨4097, mr4x hS hL hG (fun x hxe => ⟨4097, mr62 (x := x) (fun f2 hf2 => fun y ey => ?_) 4096 0 f rfl (fun t ht => absurd ht (Nat.not_lt_zero t))⟩) 4096 0 (-1) rfl (Or.inl ⟨rfl, fun t l ht => absurd ht (Nat.not_lt_zero t)⟩)⟩
  subst ey
  rcases hxe with ⟨e, hno⟩ | ⟨k, hk, e, hex, hmin⟩
  · subst e
    exact ⟨1, br_t (by decide) (h0 hno _)⟩
  · subst e
    refine ⟨k + 1, mr113x hS hN hL ⟨hex, hmin⟩ hk (fun f3 h3 => h1 k f3 hk ⟨hex, hmin⟩ h3) k f2 (Nat.le_refl k) (fun t ht => ?_)⟩
    rw [hf2 t ht]
    have hv2 := val_lt2 hS t (s := 1) (by decide)
    have e0 : iG t = 0 ↔ val S t 1 = 0 := by rw [hG t ht]; exact nI_eq (b := 0) (by omega) (by decide)
    rw [lv_iff hS hL ht (by omega), e0]
    refine ⟨fun ⟨_, a, b⟩ => ⟨k, Nat.le_refl _, Nat.le_refl _, a, by rw [Nat.sub_self]; exact b⟩, fun ⟨l, a, b, d, e⟩ => ?_⟩
    have : l = k := by omega
    subst this
    rw [Nat.sub_self] at e
    exact ⟨nI_pos (by omega), d, e⟩
theorem co27x {x1 : Int32} {f : Nat → Int32} {K : Int32 → Prop} {s0 : Nat} (h : K (nI s0)) (h0 : s0 < 4096 ∧ f s0 ≠ 0 ∧ lv s0 = 0) (hmin : ∀ t, t < s0 → ¬ (f t ≠ 0 ∧ lv t = 0)) : ∀ m s, s + m = s0 → wp_Md_counter_L27 x1 lv f K (m + 1) (nI s)
  | 0, s, hs => by
    have : s = s0 := by omega
    subst this
    have hv : vp_in (nI s) 4096 := vp_in_nI h0.1 (by decide)
    refine ⟨hv, ?_⟩
    rw [nI_clamp (by omega)]
    exact br_f h0.2.1 ⟨hv, br_t h0.2.2 h⟩
  | m + 1, s, hs => by
    have ih := co27x (x1 := x1) h h0 hmin m (s + 1) (by omega)
    have hv : vp_in (nI s) 4096 := vp_in_nI (by omega) (by decide)
    refine ⟨hv, ?_⟩
    rw [nI_clamp (by omega), nI_1]
    exact br_c (fun _ => ih) (fun q => ⟨hv, br_c (fun q2 => absurd ⟨q, q2⟩ (hmin s (by omega))) (fun _ => ih)⟩)
/-- t is a turn of s among the first i, marked, of level k -/
def Cd (S : Nat → Option (List Nat)) (c : Nat) (lv f : Nat → Int32) (s k i t : Nat) : Prop := (∃ j, j < i ∧ nxc S c s j = some t) ∧ f t ≠ 0 ∧ lv t = nI k
theorem co68x (hS : SOk S) (hN : NxR S c nr) {s k w : Nat} (hs : s < 4096) {x1 : Int32} {f : Nat → Int32} (hw : Lst (Cd S c lv f s k 6) w) {K : Int32 → Prop} (h : K (nI w)) : ∀ m i b, i + m = 6 → ((b = 4096 ∧ ∀ t, ¬ Cd S c lv f s k i t) ∨ Lst (Cd S c lv f s k i) b) → wp_Md_counter_L68 x1 (nI s) (nI k) nr lv f K (m + 1) (nI b) (nI i) := by
  intro m
  induction m with
  | zero =>
    intro i b hi hb
    have : i = 6 := by omega
    subst this
    have : b = w := by
      rcases hb with ⟨_, hb⟩ | hb
      · exact absurd hw.1 (hb w)
      · exact Lst_eq hb hw
    subst this
    exact br_t (show nI 6 ≤ nI 6 from nI_le (Nat.le_refl _) (by decide)) h
  | succ m ih0 =>
    intro i b hi hb
    have ih := fun b hb => ih0 (i + 1) b (by omega) hb
    have up : ∀ t, Cd S c lv f s k (i + 1) t ↔ Cd S c lv f s k i t ∨ (nxc S c s i = some t ∧ f t ≠ 0 ∧ lv t = nI k) := fun t => by
      refine ⟨fun ⟨⟨j, hj, e⟩, q⟩ => ?_, fun q => ?_⟩
      · by_cases z : j = i
        · subst z; exact Or.inr ⟨e, q⟩
        · exact Or.inl ⟨⟨j, by omega, e⟩, q⟩
      · rcases q with ⟨⟨j, hj, e⟩, q⟩ | ⟨e, q⟩
        · exact ⟨⟨j, by omega, e⟩, q⟩
        · exact ⟨⟨i, by omega, e⟩, q⟩
    have hb4 : b ≤ 4096 := by
      rcases hb with ⟨hb, _⟩ | ⟨⟨⟨j, _, e⟩, _⟩, _⟩
      · omega
      · have := nxc_lt hS e; omega
    have skip : (∀ t, nxc S c s i = some t → f t ≠ 0 → lv t = nI k → b ≤ t ∧ t < 4096) → ((b = 4096 ∧ ∀ t, ¬ Cd S c lv f s k (i + 1) t) ∨ Lst (Cd S c lv f s k (i + 1)) b) := fun hk => by
      rcases hb with ⟨hb, hn⟩ | ⟨hb, hn⟩
      · refine Or.inl ⟨hb, fun t ht => ?_⟩
        rcases (up t).mp ht with q | ⟨q1, q2, q3⟩
        · exact hn t q
        · have := hk t q1 q2 q3; omega
      · refine Or.inr ⟨(up b).mpr (Or.inl hb), fun t ht => ?_⟩
        rcases (up t).mp ht with q | ⟨q1, q2, q3⟩
        · exact hn t q
        · exact (hk t q1 q2 q3).1
    refine br_f (show ¬ nI 6 ≤ nI i from nI_ge (by omega) (by decide)) ⟨(nxi hs (by omega)).1, fun x ex => ?_⟩
    rw [nI_1]
    rw [(nxi hs (by omega)).2, hN s hs i (by omega)] at ex
    cases e : nxc S c s i with
    | none =>
      rw [e] at ex
      subst ex
      exact br_t (show (-1 : Int32) < 0 by decide) (ih b (skip (fun t ht => by rw [e] at ht; cases ht)))
    | some t =>
      have ht := nxc_lt hS e
      rw [e] at ex
      subst ex
      have hv : vp_in (nI t) 4096 := vp_in_nI ht (by decide)
      refine br_f (nI_pos (show t < 2 ^ 31 by omega)) (br_c (fun q => ih b (skip (fun u hu _ _ => ?_))) (fun q => ?_))
      · rw [e] at hu; cases hu
        exact ⟨(nI_leI (by omega) (by omega)).mp q, ht⟩
      · have hlt : t < b := Nat.lt_of_not_le (fun z => q (nI_le z (by omega)))
        refine ⟨hv, ?_⟩
        rw [show tI (some t) = nI t from rfl, nI_clamp (show t < 2 ^ 31 by omega)]
        refine br_c (fun q2 => ih b (skip (fun u hu q3 _ => by rw [e] at hu; cases hu; exact absurd q2 q3))) (fun q2 => ⟨hv, bn_c (fun q3 => ih b (skip (fun u hu _ q4 => by rw [e] at hu; cases hu; exact absurd q4 q3))) (fun q3 => ih t (Or.inr ⟨(up t).mpr (Or.inr ⟨e, q2, q3⟩), fun u hu => ?_⟩))⟩)
        rcases (up u).mp hu with y | ⟨y, _, _⟩
        · rcases hb with ⟨_, hn⟩ | ⟨_, hn⟩
          · exact absurd y (hn u)
          · have := hn u y; omega
        · rw [e] at y; cases y; exact Nat.le_refl _
theorem co54x (hS : SOk S) (hN : NxR S c nr) (hL : LvR lv (come S c).2) {D : Nat} (hD : Dm S c D) (hD4 : D < 4096) {p : Nat → Nat} (hp : Pth S c D p) (hp4 : ∀ l, l ≤ D → p l < 4096) {i : Nat} (hi : i ≤ D) {f : Nat → Int32} (hf : Em S c D 0 f) {K : Int32 → Prop} (h : K (nI (p i))) : ∀ m k, k + m = i → (come S c).2 (p k) = some k → wp_Md_counter_L54 (nI i) nr lv f K (m + 1) (nI (p k)) (nI (k + 1))
  | 0, k, hk, hc => by
    have : k = i := by omega
    subst this
    exact br_t (nI_lt (by omega) (by omega)) h
  | m + 1, k, hk, hc => by
    have hpk := hp4 k (by omega)
    have hl := hp.2.2 k (by omega)
    have iff : ∀ t, Tn S c (D - k - 1) (p k) t ↔ Cd S c lv f (p k) (k + 1) 6 t := fun t => by
      refine ⟨fun ⟨⟨j, hj, e⟩, hb⟩ => ?_, fun ⟨⟨j, hj, e⟩, q1, q2⟩ => ⟨⟨j, hj, e⟩, ?_⟩⟩
      · have ht := nxc_lt hS e
        have hct := lev_next hS hD hpk hc (show k + (D - k - 1) + 1 = D by omega) hj e hb
        exact ⟨⟨j, hj, e⟩, (hf t ht).mpr ⟨k + 1, Nat.zero_le _, by omega, hct, by rw [show D - (k + 1) = D - k - 1 by omega]; exact hb⟩, (lv_iff hS hL ht (by omega)).mpr hct⟩
      · have ht := nxc_lt hS e
        obtain ⟨l, _, _, h3, h4⟩ := (hf t ht).mp q1
        rw [(lv_iff hS hL ht (by omega)).mp q2] at h3
        cases h3
        rw [show D - k - 1 = D - (k + 1) by omega]; exact h4
    have hw := Lst_congr iff hl
    refine br_f (nI_nlt (by omega) (by omega)) ⟨7, co68x hS hN hpk hw ?_ 6 0 4096 rfl (Or.inl ⟨rfl, fun t ⟨⟨j, hj, _⟩, _⟩ => absurd hj (Nat.not_lt_zero j)⟩)⟩
    rw [nI_1]
    exact co54x hS hN hL hD hD4 hp hp4 hi hf h m (k + 1) (by omega) ((lv_iff hS hL (hp4 (k + 1) (by omega)) (by omega)).mp hw.1.2.2)
theorem r_counter (hS : SOk S) (hN : NxR S c nr) (hL : LvR lv (come S c).2) (hG : ∀ t, t < 4096 → iG t = nI (val S t 1)) {rp : Int32} {rpa : Nat → Int32} (hP : PaR S c rp rpa) {l : Nat} (hl : l < 2) {x : Int32} {mk0 : Nat → Int32} {post : Int32 → (Nat → Int32) → Prop} (h0 : (rp = 0 ∨ x < 0 ∨ ∃ D i, rp = nI (D + 1) ∧ D < 4096 ∧ D < i ∧ i < 2 ^ 31 ∧ x = nI i) → ∀ mk0, post (-1) mk0) (h1 : ∀ D i, rp = nI (D + 1) → D < 4096 → i ≤ D → x = nI i → ∀ mk0, post (rpa i) mk0) : wp_Md_counter x (nI l) nr iG lv mk0 post := by
  refine br_t (nI_pos' (by omega)) (r_markRuns hS hN hL hG (fun hno f => ?_) (fun D f hD4 hD hf => ?_))
  · have hrp : rp = 0 := by
      rcases hP with ⟨h, _⟩ | ⟨D, p, _, _, hp, _⟩
      · exact h
      · obtain ⟨u, y, hu, hy, hv, _⟩ := lemA hS D (p 0) 0 hp.2.1.1.1 (come_beg hp.2.1.1.2.1) hp.2.1.1.2.2
        exact absurd hv (hno u y hu hy)
    have := h0 (Or.inl hrp)
    refine br_c (fun _ => this _) (fun q => br_c (fun q2 => ?_) (fun _ => this _))
    exact absurd (Int32.lt_of_le_of_lt q2 (by decide)) q
  · obtain ⟨⟨b, hb⟩, hmin⟩ := Dm_Bg hS hD
    rcases hP with ⟨_, hno⟩ | ⟨D', p, hD4', hrp, hp, hpa⟩
    · exact absurd hb (hno b D)
    · have e : D' = D := Nat.le_antisymm (hp.1 b D hb) (hmin _ _ hp.2.1.1)
      subst e
      refine br_c (fun q => h0 (Or.inr (Or.inl q)) _) (fun q => ?_)
      obtain ⟨i, hi, rfl⟩ := nI_of q
      refine br_c (fun q2 => ?_) (fun q2 => h0 (Or.inr (Or.inr ⟨D', i, hrp, hD4', Nat.lt_of_not_le (fun z => q2 (nI_le z (by omega))), hi, rfl⟩)) _)
      have hik : i ≤ D' := (nI_leI hi (by omega)).mp q2
      have hp0 := hp.2.1
      have hc0 := come_beg (c := c) hp0.1.2.1
      have lv0 : ∀ t, t < 4096 → (lv t = 0 ↔ (come S c).2 t = some 0) := fun t ht => lv_iff hS hL (l := 0) ht (by decide)
      have B : ∀ t, t < 4096 → ((f t ≠ 0 ∧ lv t = 0) ↔ Bg S c D' t) := fun t ht => by
        rw [lv0 t ht]
        refine ⟨fun ⟨a, b⟩ => ?_, fun hB => ?_⟩
        · obtain ⟨l, _, _, h3, h4⟩ := (hf t ht).mp a
          rw [b] at h3
          cases h3
          exact ⟨ht, come_0 b, h4⟩
        · have := come_beg (c := c) hB.2.1
          exact ⟨(hf t ht).mpr ⟨0, Nat.le_refl _, Nat.zero_le _, this, hB.2.2⟩, this⟩
      have hp4 : ∀ l, l ≤ D' → p l < 4096 := fun l hl => (hpa l hl).1
      refine ⟨p 0 + 1, co27x (s0 := p 0) ?h1 ⟨hp4 0 (Nat.zero_le _), (B _ (hp4 0 (Nat.zero_le _))).mpr hp0.1⟩ ?h2 (p 0) 0 (by omega)⟩
      case h1 =>
        refine ⟨i + 1, co54x hS hN hL hD hD4 hp hp4 hik hf ?_ i 0 (by omega) hc0⟩
        rw [← (hpa i hik).2]
        exact h1 D' i hrp hD4' hik rfl _
      case h2 =>
        intro t ht q
        have := hp0.2 t ((B t (by have := hp4 0 (Nat.zero_le _); omega)).mp q)
        omega
end CX
section PC
variable {lg lc lgu lu lr rr rg rp gl ml kb : Int32} {lf lt l1 ls rl rpa gr ac nm bg go rk cc wh be gc gs uc nr iB iG lv hg ro : Nat → Int32}
theorem x_counter {x : Int32} (G : Gn lg lc lgu lu lr lf lt l1 ls rr rg rp rl rpa gl gr ml kb ac nm bg go rk cc wh be gc gs uc nr iB iG lv hg ro) {Q1 : Prop} {mk0 : Nat → Int32} {post : Int32 → Int32 → (Nat → Int32) → Prop} (h1 : Q1) (h : ∀ r mk0, post r r mk0) : wp_LI_counter x lg rp rpa (fun r => Q1 ∧ wp_Md_counter x ml nr iG lv mk0 (fun r' mk0 => post r r' mk0)) := by
  rcases G with ⟨rfl, rfl⟩ | ⟨rfl, l, S, c, g, u, rfl, hLO, hCI, hRI⟩
  · exact br_t rfl ⟨h1, br_f (by decide) (h _ _)⟩
  · obtain ⟨_, _, _, _, _, _, _, _, _, _, hP, _⟩ := hCI
    obtain ⟨hl, _, _, _, _, hN, hV, hL, _⟩ := hRI
    have hS := hLO.1
    have hG : ∀ t, t < 4096 → iG t = nI (val S t 1) := fun t ht => (hV t ht).2.1
    refine br_f (by decide) ?_
    by_cases q : x < 0
    · exact br_t q ⟨h1, r_counter hS hN hL hG hP hl (fun _ _ => h _ _) (fun D i _ _ _ e => by rw [e] at q; exact absurd q (nI_pos (by omega)))⟩
    · obtain ⟨i, hi, rfl⟩ := nI_of q
      refine br_f q ?_
      rcases (show rp = 0 ∨ ∃ (D : Nat) (p : Nat → Nat), D < 4096 ∧ rp = nI (D + 1) ∧ ∀ l, l ≤ D → p l < 4096 ∧ rpa l = nI (p l) from by
        rcases hP with ⟨e, _⟩ | ⟨D, p, h4, e, _, e2⟩
        · exact Or.inl e
        · exact Or.inr ⟨D, p, h4, e, e2⟩) with e | ⟨D, p, hD4, e, hpa⟩
      · refine br_t (by rw [e]; exact nI_pos' hi) ⟨h1, r_counter hS hN hL hG hP hl (fun _ _ => h _ _) (fun D j e2 hD4 _ _ => ?_)⟩
        rw [e] at e2
        have := (nI_eq (a := 0) (by decide) (by omega)).mp e2
        omega
      · rw [e]
        refine br_c (fun q2 => ⟨h1, r_counter hS hN hL hG hP hl (fun _ _ => h _ _) (fun D2 j e2 hD2 hj ej => ?_)⟩) (fun q2 => ?_)
        · rw [e] at e2
          have a1 := (nI_eq (by omega) (by omega)).mp e2
          have a2 := (nI_leI (by omega) hi).mp q2
          have a3 := (nI_eq hi (by omega)).mp ej
          omega
        · have hiD : i ≤ D := by
            have : i < D + 1 := Nat.lt_of_not_le (fun z => q2 (nI_le z (by omega)))
            omega
          refine br_f (show ¬ nI 4096 ≤ nI i from nI_ge (by omega) (by decide)) ⟨vp_in_nI (by omega) (by decide), h1, ?_⟩
          rw [nI_clamp hi]
          refine r_counter hS hN hL hG hP hl (fun hz _ => ?_) (fun D2 j e2 hD2 hj ej mk0 => ?_)
          · exfalso
            rcases hz with z | z | ⟨D2, j, z1, z2, z3, z4, z5⟩
            · rw [e] at z
              have := (nI_eq (b := 0) (by omega) (by decide)).mp z
              omega
            · exact q z
            · rw [e] at z1
              have a1 := (nI_eq (by omega) (by omega)).mp z1
              have a3 := (nI_eq hi z4).mp z5
              omega
          · rw [(nI_eq hi (by omega)).mp ej]; exact h _ _
end PC
