/-! many: counts, the greatest level, the pairs -/
section MA
variable {S : Nat → Option (List Nat)} {c g : Nat}
/-- choice i leads from s to a state that no choice before it leads to -/
def frs (S : Nat → Option (List Nat)) (c s i : Nat) : Bool := match nxc S c s i with
  | none => false
  | some u => ab (fun k => decide (¬ nxc S c s k = some u)) i
theorem frs_none {s i : Nat} (h : nxc S c s i = none) : frs S c s i = false := by unfold frs; rw [h]
theorem frs_some {s i u : Nat} (h : nxc S c s i = some u) : frs S c s i = ab (fun k => decide (¬ nxc S c s k = some u)) i := by unfold frs; rw [h]
theorem cw_big {s : Nat} : ∀ k, cw (frs S c s) (c + k) = cw (frs S c s) c
  | 0 => rfl
  | k + 1 => by
    show cw (frs S c s) (c + k + 1) = _
    rw [cw_s, frs_none (show nxc S c s (c + k) = none from if_neg (by omega)), cw_big k]; rfl
theorem cw_6 (hc : c ≤ 6) (s : Nat) : cw (frs S c s) 6 = cw (frs S c s) c := by
  have := cw_big (S := S) (c := c) (s := s) (6 - c)
  rw [show c + (6 - c) = 6 by omega] at this
  exact this
-- the class
theorem nt13x (hS : SOk S) (hc : c ≤ 6) {tu : Nat → Int32} (hT : Tu S c tu) {s u j : Nat} (hs : s < 4096) (hu : u < 4096) (hj : j ≤ c) {K1 K2 : Prop} (h1 : ab (fun k => decide (¬ nxc S c s k = some u)) j = true → K1) (h2 : ab (fun k => decide (¬ nxc S c s k = some u)) j = false → K2) : ∀ m i, i + m = j → ab (fun k => decide (¬ nxc S c s k = some u)) i = true → wp_Runs_isNewTarget_L13 (nI s) (nI j) (nI u) (nI c) tu K1 K2 (m + 1) (nI i)
  | 0, i, hi, hp => by
    have : i = j := by omega
    subst this
    exact br_t (nI_le (Nat.le_refl _) (by omega)) (h1 hp)
  | m + 1, i, hi, hp => by
    have ih := nt13x hS hc hT hs hu hj h1 h2 m (i + 1) (by omega)
    refine br_f (nI_ge (by omega) (by omega)) (q_turn hc hT (by omega) hs ?_)
    have ex : nxc S c s i = nx S s i := if_pos (by omega)
    have eq := tI_eq (x := nx S s i) (u := u) (fun t ht => by have := nx_lt hS ht; omega) (by omega)
    rw [nI_1]
    have ea : ab (fun k => decide (¬ nxc S c s k = some u)) (i + 1) = (ab (fun k => decide (¬ nxc S c s k = some u)) i && decide (¬ nxc S c s i = some u)) := rfl
    refine bn_c (fun q => ih ?_) (fun q => h2 ?_)
    · rw [ea, hp, decide_eq_true (show ¬ nxc S c s i = some u from fun z => q (eq.mpr (ex.symm.trans z)))]; rfl
    · have key : ∀ d, ab (fun k => decide (¬ nxc S c s k = some u)) (i + 1 + d) = false := fun d => by
        induction d with
        | zero =>
          show ab _ (i + 1) = false
          rw [ea, hp, decide_eq_false (fun z => z (ex.trans (eq.mp q)))]; rfl
        | succ d ihd =>
          show (ab _ (i + 1 + d) && _) = false
          rw [ihd]; rfl
      have := key (j - (i + 1))
      rw [show i + 1 + (j - (i + 1)) = j by omega] at this
      exact this
theorem ct4x (hS : SOk S) (hc : c ≤ 6) {tu : Nat → Int32} (hT : Tu S c tu) {s : Nat} (hs : s < 4096) {K : Int32 → Prop} (hK : K (nI (cw (frs S c s) c))) : ∀ m i, i + m = c → wp_Runs_countTargets_L4 (nI s) (nI c) tu K (m + 1) (nI (cw (frs S c s) i)) (nI i)
  | 0, i, hi => by
    have : i = c := by omega
    subst this
    exact br_t (nI_le (Nat.le_refl _) (by omega)) hK
  | m + 1, i, hi => by
    have ih := ct4x hS hc hT hs hK m (i + 1) (by omega)
    rw [cw_s] at ih
    refine br_f (nI_ge (by omega) (by omega)) (q_turn hc hT (by omega) hs ?_)
    have ex : nxc S c s i = nx S s i := if_pos (by omega)
    rw [nI_1, nI_1]
    cases e : nx S s i with
    | none =>
      rw [frs_none (ex.trans e)] at ih
      exact br_t rfl ih
    | some u =>
      have hu := nx_lt hS e
      rw [frs_some (ex.trans e)] at ih
      refine br_f (fun q => absurd ((tI_m1 (x := some u) (fun v hv => by cases hv; omega)).mp q) (by simp)) (q_turn hc hT (by omega) hs ?_)
      rw [e]
      refine ⟨i + 1, nt13x hS hc hT hs hu (by omega) (fun z => ?_) (fun z => ?_) i 0 (by omega) rfl⟩
      · rw [z] at ih; exact br_f (by decide) ih
      · rw [z] at ih; exact br_t rfl ih
def cmb (S : Nat → Option (List Nat)) (c t : Nat) : Bool := ((come S c).2 t).isSome
def prs (S : Nat → Option (List Nat)) (c t : Nat) : Nat := if cmb S c t then cw (frs S c t) c else 0
theorem cp4x (hS : SOk S) (hc : c ≤ 6) (hg : g ≤ 12) {fa tu : Nat → Int32} (hF : FaL S c g fa (come S c).2) (hT : Tu S c tu) {K : Int32 → Prop} (hK : K (nI (sm (prs S c) 4096))) : ∀ m s, s + m = 4096 → wp_Runs_countPairs_L4 (nI c) fa tu K (m + 1) (nI (sm (prs S c) s)) (nI s)
  | 0, s, hs => by
    have : s = 4096 := by omega
    subst this
    exact br_t (show nI 4096 ≤ nI 4096 from nI_le (Nat.le_refl _) (by decide)) hK
  | m + 1, s, hs => by
    have ih := cp4x hS hc hg hF hT hK m (s + 1) (by omega)
    have es : sm (prs S c) (s + 1) = sm (prs S c) s + prs S c s := rfl
    rw [es] at ih
    refine br_f (show ¬ nI 4096 ≤ nI s from nI_ge (by omega) (by decide)) ?_
    rw [nI_1]
    refine come_bit hS hg hF (by omega) (fun e => br_t rfl ?_) (fun x e => br_f (by decide) ⟨c + 1, ct4x hS hc hT (by omega) (fun z ez => ?_) c 0 (by omega)⟩)
    · have : prs S c s = 0 := by unfold prs cmb; rw [e]; rfl
      rw [this] at ih; exact ih
    · have : prs S c s = cw (frs S c s) c := by unfold prs cmb; rw [e]; rfl
      rw [this] at ih
      rw [ez, nI_add]; exact ih
-- the reference
theorem un38z {s : Nat} (hs : s < 4096) {nr : Nat → Int32} {x2 x4 : Int32} {j : Nat} (hj : j ≤ 6) {K : Int32 → Prop} (h : K 0) : ∀ m i, i + m = j → wp_Md_unlikeNexts_L38 (nI s) x2 (nI j) x4 nr K (m + 1) 0 (nI i)
  | 0, i, hi => by
    have : i = j := by omega
    subst this
    exact br_t (nI_le (Nat.le_refl _) (by omega)) h
  | m + 1, i, hi => by
    have ih := un38z hs (nr := nr) (x2 := x2) (x4 := x4) hj h m (i + 1) (by omega)
    refine br_f (nI_ge (by omega) (by omega)) (br_t rfl ?_)
    rw [nI_1]; exact ih
theorem un38x (hS : SOk S) {nr : Nat → Int32} (hN : NxR S c nr) {s u : Nat} (hs : s < 4096) (hu : u < 4096) {x2 : Int32} {j : Nat} (hj : j ≤ 6) {K : Int32 → Prop} (h : K (b01 (ab (fun k => decide (¬ nxc S c s k = some u)) j))) : ∀ m i, i + m = j → wp_Md_unlikeNexts_L38 (nI s) x2 (nI j) (nI u) nr K (m + 1) (b01 (ab (fun k => decide (¬ nxc S c s k = some u)) i)) (nI i)
  | 0, i, hi => by
    have : i = j := by omega
    subst this
    exact br_t (nI_le (Nat.le_refl _) (by omega)) h
  | m + 1, i, hi => by
    have ih := un38x hS hN hs hu (x2 := x2) hj h m (i + 1) (by omega)
    have ea : ab (fun k => decide (¬ nxc S c s k = some u)) (i + 1) = (ab (fun k => decide (¬ nxc S c s k = some u)) i && decide (¬ nxc S c s i = some u)) := rfl
    rw [ea] at ih
    refine br_f (nI_ge (by omega) (by omega)) ?_
    rw [nI_1]
    cases e : ab (fun k => decide (¬ nxc S c s k = some u)) i with
    | false => rw [e] at ih; exact br_t rfl ih
    | true =>
      rw [e] at ih
      refine br_f (by decide) ⟨(nxi hs (by omega)).1, ?_⟩
      rw [(nxi hs (by omega)).2, hN s hs i (by omega)]
      have eq := tI_eq (x := nxc S c s i) (u := u) (fun t ht => by have := nxc_lt hS ht; omega) (by omega)
      refine br_c (fun q => ?_) (fun q => ?_)
      · rw [decide_eq_false (fun z => z (eq.mp q))] at ih; exact ih
      · rw [decide_eq_true (show ¬ nxc S c s i = some u from fun z => q (eq.mpr z))] at ih; exact ih
theorem un4x (hS : SOk S) {nr : Nat → Int32} (hN : NxR S c nr) {s : Nat} (hs : s < 4096) {K : Int32 → Prop} (h : K (nI (cw (frs S c s) 6))) : ∀ m i, i + m = 6 → wp_Md_unlikeNexts_L4 (nI s) nr K (m + 1) (nI (cw (frs S c s) i)) (nI i)
  | 0, i, hi => by
    have : i = 6 := by omega
    subst this
    exact br_t (show nI 6 ≤ nI 6 from nI_le (Nat.le_refl _) (by decide)) h
  | m + 1, i, hi => by
    have ih := un4x hS hN hs h m (i + 1) (by omega)
    rw [cw_s] at ih
    have z0 : ∀ a : Nat, nI a + (0 : Int32) = nI a := fun a => nI_add a 0
    refine br_f (show ¬ nI 6 ≤ nI i from nI_ge (by omega) (by decide)) ⟨(nxi hs (by omega)).1, fun x ex => ?_⟩
    rw [(nxi hs (by omega)).2, hN s hs i (by omega)] at ex
    rw [nI_1]
    cases e : nxc S c s i with
    | none =>
      rw [e] at ex
      subst ex
      rw [frs_none e] at ih
      exact br_t (show (-1 : Int32) < 0 by decide) ⟨i + 1, un38z hs (by omega) (br_t rfl (fun z ez => by rw [ez, z0]; exact ih)) i 0 (by omega)⟩
    | some u =>
      rw [e] at ex
      subst ex
      have hu := nxc_lt hS e
      rw [frs_some e] at ih
      refine br_f (nI_pos (by omega)) ⟨i + 1, un38x hS hN hs hu (by omega) ?_ i 0 (by omega)⟩
      cases e2 : ab (fun k => decide (¬ nxc S c s k = some u)) i with
      | false => rw [e2] at ih; exact br_t rfl (fun z ez => by rw [ez, z0]; exact ih)
      | true => rw [e2] at ih; exact br_f (by decide) (fun z ez => by rw [ez, nI_1]; exact ih)
def mx (S : Nat → Option (List Nat)) (c : Nat) : Nat → Option Nat
  | 0 => none
  | s + 1 => match (come S c).2 s with
    | none => mx S c s
    | some k => match mx S c s with
      | none => some k
      | some j => some (if k ≤ j then j else k)
theorem mx_none {s : Nat} (h : (come S c).2 s = none) : mx S c (s + 1) = mx S c s := by
  show (match (come S c).2 s with | none => mx S c s | some k => _) = _
  rw [h]
theorem mx_some0 {s k : Nat} (h : (come S c).2 s = some k) (h2 : mx S c s = none) : mx S c (s + 1) = some k := by
  show (match (come S c).2 s with | none => mx S c s | some k => match mx S c s with | none => some k | some j => some (if k ≤ j then j else k)) = _
  rw [h]
  show (match mx S c s with | none => some k | some j => _) = _
  rw [h2]
theorem mx_some {s k j : Nat} (h : (come S c).2 s = some k) (h2 : mx S c s = some j) : mx S c (s + 1) = some (if k ≤ j then j else k) := by
  show (match (come S c).2 s with | none => mx S c s | some k => match mx S c s with | none => some k | some j => some (if k ≤ j then j else k)) = _
  rw [h]
  show (match mx S c s with | none => some k | some j => some (if k ≤ j then j else k)) = _
  rw [h2]
theorem mx_prop : ∀ n, (mx S c n = none → ∀ t, t < n → (come S c).2 t = none) ∧ ∀ k, mx S c n = some k → (∃ t, t < n ∧ (come S c).2 t = some k) ∧ ∀ t x, t < n → (come S c).2 t = some x → x ≤ k
  | 0 => ⟨fun _ t ht => absurd ht (Nat.not_lt_zero t), fun k hk => by cases hk⟩
  | n + 1 => by
    obtain ⟨a, b⟩ := mx_prop n
    cases e : (come S c).2 n with
    | none =>
      rw [mx_none e]
      refine ⟨fun h t ht => ?_, fun k hk => ⟨?_, fun t x ht hx => ?_⟩⟩
      · by_cases z : t = n
        · subst z; exact e
        · exact a h t (by omega)
      · obtain ⟨t, ht, hx⟩ := (b k hk).1
        exact ⟨t, by omega, hx⟩
      · by_cases z : t = n
        · subst z; rw [e] at hx; cases hx
        · exact (b k hk).2 t x (by omega) hx
    | some y =>
      cases e2 : mx S c n with
      | none =>
        rw [mx_some0 e e2]
        refine ⟨fun h => (by cases h), fun k hk => ?_⟩
        cases hk
        refine ⟨⟨n, by omega, e⟩, fun t x ht hx => ?_⟩
        by_cases z : t = n
        · subst z; rw [e] at hx; cases hx; exact Nat.le_refl _
        · rw [a e2 t (by omega)] at hx; cases hx
      | some j =>
        rw [mx_some e e2]
        refine ⟨fun h => (by cases h), fun k hk => ?_⟩
        injection hk with hk
        obtain ⟨⟨t0, ht0, hx0⟩, hb⟩ := b j e2
        refine ⟨?_, fun t x ht hx => ?_⟩
        · by_cases z : y ≤ j
          · rw [if_pos z] at hk; subst hk; exact ⟨t0, by omega, hx0⟩
          · rw [if_neg z] at hk; subst hk; exact ⟨n, by omega, e⟩
        · have : x ≤ j ∨ x = y := by
            by_cases z : t = n
            · subst z; rw [e] at hx; cases hx; exact Or.inr rfl
            · exact Or.inl (hb t x (by omega) hx)
          by_cases z : y ≤ j
          · rw [if_pos z] at hk; omega
          · rw [if_neg z] at hk; omega
theorem mx_grl (hS : SOk S) : mx S c 4096 = grl S c := by
  obtain ⟨a, b⟩ := mx_prop (S := S) (c := c) 4096
  obtain ⟨a2, b2⟩ := grl_max (c := c) hS
  cases e : mx S c 4096 with
  | none =>
    cases e2 : grl S c with
    | none => rfl
    | some k =>
      obtain ⟨⟨t, ht, hx⟩, _⟩ := b2 k e2
      rw [a e t ht] at hx; cases hx
  | some k =>
    obtain ⟨⟨t, ht, hx⟩, hb⟩ := b k e
    cases e2 : grl S c with
    | none => rw [a2 e2 t ht] at hx; cases hx
    | some j =>
      obtain ⟨⟨t2, ht2, hx2⟩, hb2⟩ := b2 j e2
      have h1 := hb t2 j ht2 hx2
      have h2 := hb2 t k ht hx
      rw [show k = j by omega]
theorem mn26x (hS : SOk S) {x1 kb : Int32} {nr iB iG lv hg : Nat → Int32} (hL : LvR lv (come S c).2) {f : Nat → Nat} (hJ : ∀ s, s < 4096 → ∀ (a : Nat) (y : Int32) (kb' : Int32 → Int32 → Int32 → Prop) (k : Int32 → Int32 → Prop), kb' (nI (a + f s)) y (nI (s + 1)) → wp_Md_many_J73 x1 (nI a) (nI s) (b01 (cmb S c s)) y kb nr iB iG lv hg kb' k) {K : Int32 → Int32 → Prop} (hK : K (nI (sm f 4096)) (tI (mx S c 4096))) : ∀ m s, s + m = 4096 → wp_Md_many_L26 x1 kb nr iB iG lv hg K (m + 1) (nI (sm f s)) (tI (mx S c s)) (nI s) := by
  intro m
  induction m with
  | zero =>
    intro s hs
    have : s = 4096 := by omega
    subst this
    exact br_t (show nI 4096 ≤ nI 4096 from nI_le (Nat.le_refl _) (by decide)) hK
  | succ m ih0 =>
    intro s hs
    have ih := ih0 (s + 1) (by omega)
    have es : sm f (s + 1) = sm f s + f s := rfl
    rw [es] at ih
    have hv : vp_in (nI s) 4096 := vp_in_nI (by omega) (by decide)
    have hj := hJ s (by omega)
    refine br_f (show ¬ nI 4096 ≤ nI s from nI_ge (by omega) (by decide)) ⟨hv, ?_⟩
    rw [nI_clamp (show s < 2 ^ 31 by omega), hL s (by omega)]
    cases e : (come S c).2 s with
    | none =>
      have ec : cmb S c s = false := by unfold cmb; rw [e]; rfl
      rw [ec] at hj
      rw [mx_none e] at ih
      refine br_t (show (-1 : Int32) < 0 by decide) ⟨hv, br_t ?_ (hj _ _ _ _ ih)⟩
      show (-1 : Int32) ≤ tI (mx S c s)
      cases e2 : mx S c s with
      | none => exact Int32.le_refl _
      | some j =>
        obtain ⟨⟨t, ht, hx⟩, _⟩ := (mx_prop (S := S) (c := c) s).2 j e2
        have hj2 := lev_lt hS hx
        exact Int32.le_trans (show (-1 : Int32) ≤ 0 by decide) (nI_pos' (by omega))
    | some k =>
      have hk := lev_lt hS e
      have ec : cmb S c s = true := by unfold cmb; rw [e]; rfl
      rw [ec] at hj
      refine br_f (nI_pos (show k < 2 ^ 31 by omega)) ⟨hv, ?_⟩
      cases e2 : mx S c s with
      | none =>
        rw [mx_some0 e e2] at ih
        refine br_f (fun q => ?_) ⟨hv, hj _ _ _ _ ih⟩
        have h0 : (0 : Int32) ≤ nI k := nI_pos' (by omega)
        exact absurd (Int32.le_trans h0 q) (by decide)
      | some j =>
        obtain ⟨⟨t, ht, hx⟩, _⟩ := (mx_prop (S := S) (c := c) s).2 j e2
        have hj2 := lev_lt hS hx
        rw [mx_some e e2] at ih
        refine br_c (fun q => ?_) (fun q => ⟨hv, ?_⟩)
        · rw [if_pos ((nI_leI (by omega) (by omega)).mp q)] at ih
          exact hj _ _ _ _ ih
        · rw [if_neg (fun z => q (nI_le z (by omega)))] at ih
          exact hj _ _ _ _ ih
theorem jk0 {a : Nat} {y t : Int32} {kb : Int32 → Int32 → Int32 → Prop} {b : Nat} (hb : b = 0) (h : kb (nI (a + b)) y t) : ∀ z, z = nI a + 0 → kb z y t := fun z ez => by
  rw [ez, show nI a + (0 : Int32) = nI (a + 0) from nI_add a 0, ← hb]; exact h
theorem jk1 {a : Nat} {y t : Int32} {kb : Int32 → Int32 → Int32 → Prop} {b : Nat} (hb : b = 1) (h : kb (nI (a + b)) y t) : ∀ z, z = nI a + 1 → kb z y t := fun z ez => by
  rw [ez, nI_1, ← hb]; exact h
end MA
