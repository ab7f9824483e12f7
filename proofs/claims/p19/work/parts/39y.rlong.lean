/-! the reference: longest and falls: safe, and they end -/
section RC
variable {nx : Nat → Int32}
theorem ngh_ex (f : Nat → Int32) : ∃ m, m = sm (fun t => if 0 ≤ f t then 0 else 1) 4096 := ⟨_, rfl⟩
noncomputable def ngh (f : Nat → Int32) : Nat := (ngh_ex f).choose
theorem ngh_eq (f : Nat → Int32) : ngh f = sm (fun t => if 0 ≤ f t then 0 else 1) 4096 := (ngh_ex f).choose_spec
theorem ngh_upd {f : Nat → Int32} {t : Nat} {x : Int32} (ht : t < 4096) (h0 : ¬ 0 ≤ f t) (hx : 0 ≤ x) : ngh f = ngh (upd f t x) + 1 := by
  rw [ngh_eq, ngh_eq]
  refine sm_drop (t := t) ?_ (fun u hu => ?_) 4096 ht
  · show (if 0 ≤ f t then 0 else 1) = (if 0 ≤ upd f t x t then 0 else 1) + 1
    rw [pk_us, if_neg h0, if_pos hx]
  · show (if 0 ≤ f u then 0 else 1) = (if 0 ≤ upd f t x u then 0 else 1)
    rw [pk_un hu]
theorem ngh_same {f : Nat → Int32} {t : Nat} {x : Int32} (h0 : ¬ 0 ≤ f t) (hx : ¬ 0 ≤ x) : ngh (upd f t x) = ngh f := by
  rw [ngh_eq, ngh_eq]
  refine sm_ext 4096 (fun u _ => ?_)
  show (if 0 ≤ upd f t x u then 0 else 1) = (if 0 ≤ f u then 0 else 1)
  by_cases hu : u = t
  · subst hu; rw [pk_us, if_neg hx, if_neg h0]
  · rw [pk_un hu]
theorem ngh_le (f : Nat → Int32) : ngh f ≤ 4096 := by
  have : ∀ n, sm (fun t => if 0 ≤ f t then 0 else 1) n ≤ n := by
    intro n
    induction n with
    | zero => exact Nat.le_refl 0
    | succ n ih =>
      show sm _ n + (if 0 ≤ f n then 0 else 1) ≤ n + 1
      split <;> omega
  rw [ngh_eq]
  exact this 4096
def Dh (n : Nat) (x : Int32) (f : Nat → Int32) : Prop := ngh f < n ∨ (ngh f = n ∧ x = 0)
theorem lo19 {K : (Nat → Int32) → Prop} (h : ∀ f, K f) : ∀ m s f, s + m = 4096 → wp_Md_longest_L19 K (m + 1) (nI s) f
  | 0, s, f, hs => by
    have : s = 4096 := by omega
    subst this
    exact br_t (nI_le (Nat.le_refl 4096) (by decide)) (h _)
  | m + 1, s, f, hs => by
    have ih := fun f => lo19 h m (s + 1) f (by omega)
    refine br_f (show ¬ nI 4096 ≤ nI s from nI_ge (by omega) (by decide)) ?_
    rw [nI_1]
    exact ⟨vp_in_nI (by omega) (by decide), ih _⟩
theorem nn_lt {x : Int32} : ¬ x < 0 ↔ 0 ≤ x := Int32.not_lt
theorem lo82 (hx : NxB nx) {s : Nat} (hs : s < 4096) {x1 x2 : Int32} {f : Nat → Int32} {K : Int32 → Prop} (h : ∀ r, K r) : ∀ m i r, i + m = 6 → wp_Md_longest_L82 x1 x2 (nI s) nx f K (m + 1) r (nI i)
  | 0, i, r, hi => by
    have : i = 6 := by omega
    subst this
    exact br_t (show nI 6 ≤ nI 6 from nI_le (Nat.le_refl _) (by decide)) (h _)
  | m + 1, i, r, hi => by
    have ih := fun r => lo82 hx hs (x1 := x1) (x2 := x2) (f := f) h m (i + 1) r (by omega)
    refine br_f (show ¬ nI 6 ≤ nI i from nI_ge (by omega) (by decide)) (br_c (fun _ => h _) (fun _ => ⟨(nxi hs (by omega)).1, fun x ex => ?_⟩))
    rw [nI_1]
    rcases nxv hx hs (i := i) (by omega) with e | ⟨t, ht, e⟩
    · rw [e] at ex; subst ex; exact br_f (by decide) (ih _)
    · rw [e] at ex; subst ex
      have hv : vp_in (nI t) 4096 := vp_in_nI ht (by decide)
      exact br_t (nI_pos' (by omega)) ⟨hv, br_c (fun _ => ⟨hv, br_c (fun _ => ih _) (fun _ => ⟨hv, fun _ _ => ih _⟩)⟩) (fun _ => ih _)⟩
theorem lo49 (hx : NxB nx) {N : Nat} {lv : Nat → Int32} {K : Int32 → (Nat → Int32) → Prop} (h : ∀ r f, Dh N r f → K r f) : ∀ m s r f, s + m = 4096 → Dh N r f → wp_Md_longest_L49 nx lv K (m + 1) r (nI s) f := by
  intro m
  induction m with
  | zero =>
    intro s r f hs hd
    have : s = 4096 := by omega
    subst this
    exact br_t (nI_le (Nat.le_refl 4096) (by decide)) (h _ _ hd)
  | succ m ih0 =>
    intro s r f hs hd
    have ih := fun r f hd => ih0 (s + 1) r f (by omega) hd
    have hv : vp_in (nI s) 4096 := vp_in_nI (by omega) (by decide)
    refine br_f (show ¬ nI 4096 ≤ nI s from nI_ge (by omega) (by decide)) ?_
    rw [nI_1]
    refine ⟨hv, br_c (fun _ => ih _ _ hd) (fun _ => ⟨hv, br_c (fun _ => ih _ _ hd) (fun q => ⟨7, lo82 hx (by omega) (fun x => ⟨hv, ?_⟩) 6 0 0 rfl⟩)⟩)⟩
    rw [nI_clamp (by omega)] at q ⊢
    by_cases hx0 : x < 0
    · have e2 := ngh_same (f := f) (t := s) (x := x) q (fun z => absurd hx0 (nn_lt.mpr z))
      refine bn_c (fun q1 => ih _ _ ?_) (fun q1 => br_t hx0 (ih _ _ ?_))
      · rcases hd with hd | hd
        · exact Or.inl (by omega)
        · exact absurd hd.2 q1
      · rcases hd with hd | hd
        · exact Or.inl (by omega)
        · exact Or.inr ⟨by omega, rfl⟩
    · have e2 := ngh_upd (f := f) (t := s) (x := x) (by omega) q (nn_lt.mp hx0)
      have e3 : Dh N 1 (upd f s x) := Or.inl (by rcases hd with hd | hd <;> omega)
      exact bn_c (fun q1 => ih _ _ e3) (fun q1 => br_f hx0 (ih _ _ e3))
theorem lo41 (hx : NxB nx) {lv : Nat → Int32} {K : (Nat → Int32) → Prop} (h : ∀ f, K f) : ∀ n r f, ngh f < n ∨ r = 0 → wp_Md_longest_L41 nx lv K (n + 1) r f := by
  intro n
  induction n with
  | zero =>
    intro r f hd
    rcases hd with hd | hd
    · exact absurd hd (Nat.not_lt_zero _)
    · exact br_t hd (h _)
  | succ n ih0 =>
    intro r f hd
    refine br_c (fun _ => h _) (fun q => ?_)
    rcases hd with hd | hd
    · refine ⟨4097, lo49 hx (N := ngh f) (fun r f2 h2 => ih0 r f2 ?_) 4096 0 0 f rfl (Or.inr ⟨rfl, rfl⟩)⟩
      rcases h2 with h2 | h2
      · exact Or.inl (by omega)
      · exact Or.inr h2.2
    · exact absurd hd q
theorem lo204 {iB lv f : Nat → Int32} {K : Int32 → Prop} {K2 : Prop} (h : ∀ r, K r) (h2 : K2) : ∀ m s r, s + m = 4096 → wp_Md_longest_L204 iB lv f K K2 (m + 1) r (nI s)
  | 0, s, r, hs => by
    have : s = 4096 := by omega
    subst this
    exact br_t (nI_le (Nat.le_refl 4096) (by decide)) (h _)
  | m + 1, s, r, hs => by
    have ih := fun r => lo204 (iB := iB) (lv := lv) (f := f) h h2 m (s + 1) r (by omega)
    have hv : vp_in (nI s) 4096 := vp_in_nI (by omega) (by decide)
    refine br_f (show ¬ nI 4096 ≤ nI s from nI_ge (by omega) (by decide)) ?_
    rw [nI_1]
    exact ⟨hv, br_c (fun _ => ⟨hv, br_c (fun _ => ih _) (fun _ => ⟨hv, br_c (fun _ => ih _) (fun _ => ⟨hv, fun _ _ => ih _⟩)⟩)⟩) (fun _ => ⟨hv, br_c (fun _ => ⟨hv, br_c (fun _ => ih _) (fun _ => ⟨hv, br_c (fun _ => ih _) (fun _ => ⟨hv, fun _ _ => ih _⟩)⟩)⟩) (fun _ => h2)⟩)⟩
theorem q_Mlongest_a (hx : NxB nx) {ml kb : Int32} {iB iG lv hg f : Nat → Int32} {post : Int32 → (Nat → Int32) → Prop} (h : ∀ r f, post r f) : wp_Md_longest ml kb nx iB iG lv hg f post :=
  br_c (fun _ => h _ _) (fun _ => q_Mmany_a hx (fun _ => bn_c (fun _ => ⟨4097, lo19 (fun f => ⟨4098, lo41 hx (fun f => ⟨4097, lo204 (fun _ => h _ _) (h _ _) 4096 0 0 rfl⟩) 4097 1 f (Or.inl (by have := ngh_le f; omega))⟩) 4096 0 f rfl⟩) (fun _ => h _ _)))
-- falls
variable {S : Nat → Option (List Nat)} {l c g : Nat} {ac nm bg gl rk cc wh be gc gs : Nat → Int32}
theorem fa32 (hx : NxB nx) (hl : l < 2) {W : Nat → Prop} (hW : ∀ t, t < 4096 → ∀ (st : Nat → Int32) (post : Int32 → (Nat → Int32) → Prop), (∀ r st, post r st) → wp_Md_work (rk l) (nI t) ac nm st post) {s : Nat} (hs : s < 4096) {lv : Nat → Int32} {K1 K2 : (Nat → Int32) → Prop} (h1 : ∀ st, K1 st) (h2 : ∀ st, K2 st) : ∀ m i st, i + m = 6 → wp_Md_falls_L32 (nI s) (nI l) ac nm rk nx lv K1 K2 (m + 1) (nI i) st
  | 0, i, st, hi => by
    have : i = 6 := by omega
    subst this
    exact br_t (show nI 6 ≤ nI 6 from nI_le (Nat.le_refl _) (by decide)) (h1 _)
  | m + 1, i, st, hi => by
    have ih := fun st => fa32 hx hl (W := W) hW hs (lv := lv) h1 h2 m (i + 1) st (by omega)
    have hl2 : vp_in (nI l) 2 := vp_in_nI hl (by decide)
    refine br_f (show ¬ nI 6 ≤ nI i from nI_ge (by omega) (by decide)) ⟨vp_in_nI hs (by decide), br_c (fun _ => h1 _) (fun _ => ?_)⟩
    rw [nI_1, nI_clamp (show l < 2 ^ 31 by omega)]
    refine nx_cs hx hs (by omega) (ih _) (fun t ht => ⟨hl2, hW t ht _ _ (fun r st => ⟨hl2, hW s hs _ _ (fun r st => br_c (fun _ => ih _) (fun _ => h2 _))⟩)⟩)
theorem fa23 (hx : NxB nx) (hl : l < 2) (hW : ∀ t, t < 4096 → ∀ (st : Nat → Int32) (post : Int32 → (Nat → Int32) → Prop), (∀ r st, post r st) → wp_Md_work (rk l) (nI t) ac nm st post) {lv : Nat → Int32} {K1 K2 : (Nat → Int32) → Prop} (h1 : ∀ st, K1 st) (h2 : ∀ st, K2 st) : ∀ m s st, s + m = 4096 → wp_Md_falls_L23 (nI l) ac nm rk nx lv K1 K2 (m + 1) (nI s) st
  | 0, s, st, hs => by
    have : s = 4096 := by omega
    subst this
    exact br_t (nI_le (Nat.le_refl 4096) (by decide)) (h1 _)
  | m + 1, s, st, hs => by
    have ih := fun st => fa23 hx hl hW (lv := lv) h1 h2 m (s + 1) st (by omega)
    refine br_f (show ¬ nI 4096 ≤ nI s from nI_ge (by omega) (by decide)) ?_
    rw [nI_1]
    exact ⟨7, fa32 hx hl (W := fun _ => True) hW (by omega) (fun st => ih st) (fun st => h2 st) 6 0 st rfl⟩
theorem q_Mfalls_a (hS : SOk S) (hx : NxB nx) (hl : l < 2) (hR : RLo l S c g ac nm bg gl rk cc wh be gc gs) {lv st : Nat → Int32} {post : Int32 → (Nat → Int32) → Prop} (h : ∀ r st, post r st) : wp_Md_falls (nI l) ac nm rk st nx lv post := by
  refine br_f (nI_pos (by omega)) ⟨vp_in_nI hl (by decide), ?_⟩
  rw [nI_clamp (show l < 2 ^ 31 by omega)]
  cases e : S 2 with
  | none => exact br_f (by rw [hR.2.2.2.2.1.1 e]; decide) (h _ _)
  | some o =>
    obtain ⟨p, ep, ha⟩ := hR.2.2.2.2.1.2 o e
    refine br_c (fun _ => ⟨4097, fa23 hx hl (fun t ht st post hp => ?_) (fun _ => h _ _) (fun _ => h _ _) 4096 0 st rfl⟩) (fun _ => h _ _)
    rw [ep]
    exact r_val hS e ha ht (fun st => hp _ st)
end RC
