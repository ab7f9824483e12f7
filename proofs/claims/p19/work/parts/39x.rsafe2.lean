/-! the reference: induction, follows, falls, longest, spread: safe, and they end -/
section RB
variable {nx : Nat → Int32}
theorem nxv (hx : NxB nx) {s i : Nat} (hs : s < 4096) (hi : i < 6) : nx ((6 : Int32) * nI s + nI i).toNatClampNeg = -1 ∨ ∃ t, t < 4096 ∧ nx ((6 : Int32) * nI s + nI i).toNatClampNeg = nI t := by
  rw [(nxi hs hi).2]; exact hx s hs i hi
/-- a turn's goal: none, or a state -/
theorem nx_cs (hx : NxB nx) {s i : Nat} (hs : s < 4096) (hi : i < 6) {A B : Int32 → Prop} (h0 : A (-1)) (h1 : ∀ t, t < 4096 → B (nI t)) : vp_in ((6 : Int32) * nI s + nI i) 24576 ∧ ∀ x : Int32, x = nx ((6 : Int32) * nI s + nI i).toNatClampNeg → (x < 0 → A x) ∧ (¬ x < 0 → B x) := by
  refine ⟨(nxi hs hi).1, fun x ex => ?_⟩
  rcases nxv hx hs hi with e | ⟨t, ht, e⟩
  · rw [e] at ex; subst ex; exact br_t m1_neg h0
  · rw [e] at ex; subst ex; exact br_f (nI_pos (by omega)) (h1 t ht)
theorem go2 {x1 : Int32} {K : (Nat → Int32) → Prop} (h : ∀ o, K o) : ∀ m s o, s + m = 4096 → wp_Md_goOn_L2 x1 K (m + 1) (nI s) o
  | 0, s, o, hs => by
    have : s = 4096 := by omega
    subst this
    exact br_t (nI_le (Nat.le_refl 4096) (by decide)) (h _)
  | m + 1, s, o, hs => by
    have ih := fun o => go2 (x1 := x1) h m (s + 1) o (by omega)
    refine br_f (show ¬ nI 4096 ≤ nI s from nI_ge (by omega) (by decide)) ?_
    rw [nI_1]
    exact ⟨vp_in_nI (by omega) (by decide), ih _⟩
theorem go33 (hx : NxB nx) {s : Nat} (hs : s < 4096) {x1 : Int32} {iG hg mk0 : Nat → Int32} {K : (Nat → Int32) → Prop} (h : ∀ o, K o) : ∀ m i o, i + m = 6 → wp_Md_goOn_L33 x1 (nI s) nx iG hg mk0 K (m + 1) (nI i) o
  | 0, i, o, hi => by
    have : i = 6 := by omega
    subst this
    exact br_t (show nI 6 ≤ nI 6 from nI_le (Nat.le_refl _) (by decide)) (h _)
  | m + 1, i, o, hi => by
    have ih := fun o => go33 hx hs (x1 := x1) (iG := iG) (hg := hg) (mk0 := mk0) h m (i + 1) o (by omega)
    refine br_f (show ¬ nI 6 ≤ nI i from nI_ge (by omega) (by decide)) ⟨vp_in_nI hs (by decide), br_c (fun _ => h _) (fun _ => ?_)⟩
    rw [nI_1]
    refine nx_cs hx hs (by omega) (ih _) (fun t ht => ?_)
    have hv : vp_in (nI t) 4096 := vp_in_nI ht (by decide)
    exact ⟨hv, br_c (fun _ => ih _) (fun _ => ⟨hv, bn_c (fun _ => ih _) (fun _ => ⟨hv, ih _⟩)⟩)⟩
theorem go24 (hx : NxB nx) {x1 : Int32} {iG hg mk0 : Nat → Int32} {K : (Nat → Int32) → Prop} (h : ∀ o, K o) : ∀ m s o, s + m = 4096 → wp_Md_goOn_L24 x1 nx iG hg mk0 K (m + 1) (nI s) o
  | 0, s, o, hs => by
    have : s = 4096 := by omega
    subst this
    exact br_t (nI_le (Nat.le_refl 4096) (by decide)) (h _)
  | m + 1, s, o, hs => by
    have ih := fun o => go24 hx (x1 := x1) (iG := iG) (hg := hg) (mk0 := mk0) h m (s + 1) o (by omega)
    refine br_f (show ¬ nI 4096 ≤ nI s from nI_ge (by omega) (by decide)) ?_
    rw [nI_1]
    exact ⟨7, go33 hx (by omega) (fun o => ih o) 6 0 o rfl⟩
theorem go111 {o : Nat → Int32} {K : (Nat → Int32) → Prop} (h : ∀ o, K o) : ∀ m s mk0, s + m = 4096 → wp_Md_goOn_L111 o K (m + 1) (nI s) mk0
  | 0, s, mk0, hs => by
    have : s = 4096 := by omega
    subst this
    exact br_t (nI_le (Nat.le_refl 4096) (by decide)) (h _)
  | m + 1, s, mk0, hs => by
    have ih := fun mk0 => go111 (o := o) h m (s + 1) mk0 (by omega)
    refine br_f (show ¬ nI 4096 ≤ nI s from nI_ge (by omega) (by decide)) ?_
    rw [nI_1]
    exact ⟨vp_in_nI (by omega) (by decide), vp_in_nI (by omega) (by decide), ih _⟩
theorem q_goOn_a (hx : NxB nx) {x1 : Int32} {iG hg mk0 ot : Nat → Int32} {post : (Nat → Int32) → (Nat → Int32) → Prop} (h : ∀ a b, post a b) : wp_Md_goOn x1 nx iG hg mk0 ot post :=
  ⟨4097, go2 (fun o => ⟨4097, go24 hx (fun o => ⟨4097, go111 (fun _ => h _ _) 4096 0 mk0 rfl⟩) 4096 0 o rfl⟩) 4096 0 ot rfl⟩
theorem in34 {x2 : Int32} {iG hg : Nat → Int32} {K : (Nat → Int32) → Prop} (h : ∀ o, K o) : ∀ m s o, s + m = 4096 → wp_Md_induction_L34 x2 iG hg K (m + 1) (nI s) o
  | 0, s, o, hs => by
    have : s = 4096 := by omega
    subst this
    exact br_t (nI_le (Nat.le_refl 4096) (by decide)) (h _)
  | m + 1, s, o, hs => by
    have ih := fun o => in34 (x2 := x2) (iG := iG) (hg := hg) h m (s + 1) o (by omega)
    have hv : vp_in (nI s) 4096 := vp_in_nI (by omega) (by decide)
    refine br_f (show ¬ nI 4096 ≤ nI s from nI_ge (by omega) (by decide)) ?_
    rw [nI_1]
    exact ⟨hv, br_c (fun _ => ⟨hv, ih _⟩) (fun _ => ⟨hv, bn_c (fun _ => ⟨hv, ih _⟩) (fun _ => ⟨hv, ih _⟩)⟩)⟩
theorem in93 {x2 x3 : Int32} {iG lv : Nat → Int32} {K : Int32 → Prop} (h : ∀ r, K r) : ∀ m s r, s + m = 4096 → wp_Md_induction_L93 x2 x3 iG lv K (m + 1) r (nI s)
  | 0, s, r, hs => by
    have : s = 4096 := by omega
    subst this
    exact br_t (nI_le (Nat.le_refl 4096) (by decide)) (h _)
  | m + 1, s, r, hs => by
    have ih := fun r => in93 (x2 := x2) (x3 := x3) (iG := iG) (lv := lv) h m (s + 1) r (by omega)
    have hv : vp_in (nI s) 4096 := vp_in_nI (by omega) (by decide)
    refine br_f (show ¬ nI 4096 ≤ nI s from nI_ge (by omega) (by decide)) ?_
    rw [nI_1]
    exact br_c (fun _ => h _) (fun _ => ⟨hv, br_c (fun _ => ih _) (fun _ => ⟨hv, br_c (fun _ => ih _) (fun _ => ⟨hv, br_c (fun _ => ih _) (fun _ => ih _)⟩)⟩)⟩)
theorem in169 (hx : NxB nx) {s : Nat} (hs : s < 4096) {x2 x3 : Int32} {iG mk0 : Nat → Int32} {K : Int32 → Prop} (h : ∀ r, K r) : ∀ m i r, i + m = 6 → wp_Md_induction_L169 x2 x3 (nI s) nx iG mk0 K (m + 1) r (nI i)
  | 0, i, r, hi => by
    have : i = 6 := by omega
    subst this
    exact br_t (show nI 6 ≤ nI 6 from nI_le (Nat.le_refl _) (by decide)) (h _)
  | m + 1, i, r, hi => by
    have ih := fun r => in169 hx hs (x2 := x2) (x3 := x3) (iG := iG) (mk0 := mk0) h m (i + 1) r (by omega)
    refine br_f (show ¬ nI 6 ≤ nI i from nI_ge (by omega) (by decide)) ⟨vp_in_nI hs (by decide), br_c (fun _ => h _) (fun _ => ⟨(nxi hs (by omega)).1, fun x ex => ?_⟩)⟩
    rw [nI_1]
    refine br_c (fun _ => ih _) (fun _ => ?_)
    rcases nxv hx hs (i := i) (by omega) with e | ⟨t, ht, e⟩
    · rw [e] at ex; subst ex; exact br_t m1_neg (ih _)
    · rw [e] at ex; subst ex; exact br_f (nI_pos (by omega)) ⟨vp_in_nI ht (by decide), br_c (fun _ => ih _) (fun _ => ih _)⟩
theorem in153 (hx : NxB nx) {x2 x3 : Int32} {iG mk0 : Nat → Int32} {K : Int32 → Prop} (h : ∀ r, K r) : ∀ m s r, s + m = 4096 → wp_Md_induction_L153 x2 x3 nx iG mk0 K (m + 1) r (nI s)
  | 0, s, r, hs => by
    have : s = 4096 := by omega
    subst this
    exact br_t (nI_le (Nat.le_refl 4096) (by decide)) (h _)
  | m + 1, s, r, hs => by
    have ih := fun r => in153 hx (x2 := x2) (x3 := x3) (iG := iG) (mk0 := mk0) h m (s + 1) r (by omega)
    refine br_f (show ¬ nI 4096 ≤ nI s from nI_ge (by omega) (by decide)) ?_
    rw [nI_1]
    exact br_c (fun _ => h _) (fun _ => ⟨7, in169 hx (by omega) (fun r => ih r) 6 0 r rfl⟩)
theorem in81 (hx : NxB nx) {x2 : Int32} {iG lv hg : Nat → Int32} {K : (Nat → Int32) → (Nat → Int32) → Prop} {K2 : Int32 → (Nat → Int32) → (Nat → Int32) → Prop} (h1 : ∀ a b, K a b) (h2 : ∀ r a b, K2 r a b) : ∀ m k a b, k + m = 17 → wp_Md_induction_L81 x2 nx iG lv hg K K2 (m + 1) (nI k) a b
  | 0, k, a, b, hk => by
    have : k = 17 := by omega
    subst this
    exact br_t (by decide) (h1 _ _)
  | m + 1, k, a, b, hk => by
    have ih := fun a b => in81 hx (x2 := x2) (iG := iG) (lv := lv) (hg := hg) h1 h2 m (k + 1) a b (by omega)
    refine br_c (fun _ => h1 _ _) (fun _ => ?_)
    rw [nI_1]
    exact ⟨4097, in93 (fun r => ⟨4097, in153 hx (fun r => br_c (fun _ => q_goOn_a hx (fun a b => ih a b)) (fun _ => h2 _ _ _)) 4096 0 r rfl⟩) 4096 0 1 rfl⟩
theorem q_Mind_a (hx : NxB nx) {x1 ml kb : Int32} {iG lv hg mk0 ot : Nat → Int32} {post : Int32 → (Nat → Int32) → (Nat → Int32) → Prop} (h : ∀ r a b, post r a b) : wp_Md_induction x1 ml kb nx iG lv hg mk0 ot post :=
  br_c (fun _ => h _ _ _) (fun _ => br_c (fun _ => h _ _ _) (fun _ => br_c (fun _ => bn_c (fun _ => ⟨4097, in34 (fun a => ⟨17, in81 hx (fun _ _ => h _ _ _) (fun _ _ _ => h _ _ _) 16 1 a ot rfl⟩) 4096 0 mk0 rfl⟩) (fun _ => ⟨4097, in34 (fun a => ⟨17, in81 hx (fun _ _ => h _ _ _) (fun _ _ _ => h _ _ _) 16 1 a ot rfl⟩) 4096 0 mk0 rfl⟩)) (fun _ => h _ _ _)))
theorem fo13 {kb : Int32} {iG hg : Nat → Int32} {K : Int32 → Prop} (h : ∀ r, K r) : ∀ m s r, s + m = 4096 → wp_Md_follows_L13 kb iG hg K (m + 1) r (nI s)
  | 0, s, r, hs => by
    have : s = 4096 := by omega
    subst this
    exact br_t (nI_le (Nat.le_refl 4096) (by decide)) (h _)
  | m + 1, s, r, hs => by
    have ih := fun r => fo13 (kb := kb) (iG := iG) (hg := hg) h m (s + 1) r (by omega)
    have hv : vp_in (nI s) 4096 := vp_in_nI (by omega) (by decide)
    refine br_f (show ¬ nI 4096 ≤ nI s from nI_ge (by omega) (by decide)) ?_
    rw [nI_1]
    exact br_c (fun _ => ih _) (fun _ => ⟨hv, bn_c (fun _ => ih _) (fun _ => ⟨hv, br_c (fun _ => ih _) (fun _ => ih _)⟩)⟩)
theorem q_Mfollows_a {ml kb : Int32} {iG hg : Nat → Int32} {post : Int32 → Prop} (h : ∀ r, post r) : wp_Md_follows ml kb iG hg post :=
  br_c (fun _ => ⟨4097, fo13 (fun _ => br_c (fun _ => h _) (fun _ => h _)) 4096 0 1 rfl⟩) (fun _ => h _)
-- spread
theorem ngs_ex (f : Nat → Int32) : ∃ m, m = sm (fun t => if f t = 0 then 1 else 0) 4096 := ⟨_, rfl⟩
noncomputable def ngs (f : Nat → Int32) : Nat := (ngs_ex f).choose
theorem ngs_eq (f : Nat → Int32) : ngs f = sm (fun t => if f t = 0 then 1 else 0) 4096 := (ngs_ex f).choose_spec
theorem ngs_upd {f : Nat → Int32} {t : Nat} {x : Int32} (ht : t < 4096) (h0 : f t = 0) (hx : x ≠ 0) : ngs f = ngs (upd f t x) + 1 := by
  rw [ngs_eq, ngs_eq]
  refine sm_drop (t := t) ?_ (fun u hu => ?_) 4096 ht
  · show (if f t = 0 then 1 else 0) = (if upd f t x t = 0 then 1 else 0) + 1
    rw [pk_us, if_pos h0, if_neg hx]
  · show (if f u = 0 then 1 else 0) = (if upd f t x u = 0 then 1 else 0)
    rw [pk_un hu]
theorem ngs_same {f : Nat → Int32} {t : Nat} {x : Int32} (h0 : f t = 0) (hx : x = 0) : ngs (upd f t x) = ngs f := by
  rw [ngs_eq, ngs_eq]
  refine sm_ext 4096 (fun u _ => ?_)
  show (if upd f t x u = 0 then 1 else 0) = (if f u = 0 then 1 else 0)
  by_cases hu : u = t
  · subst hu; rw [pk_us, hx, h0]
  · rw [pk_un hu]
theorem ngs_le (f : Nat → Int32) : ngs f ≤ 4096 := by
  have : ∀ n, sm (fun t => if f t = 0 then 1 else 0) n ≤ n := by
    intro n
    induction n with
    | zero => exact Nat.le_refl 0
    | succ n ih =>
      show sm _ n + (if f n = 0 then 1 else 0) ≤ n + 1
      split <;> omega
  rw [ngs_eq]
  exact this 4096
/-- fewer than n are left, or as many and nothing was found -/
def Dn (n : Nat) (x : Int32) (f : Nat → Int32) : Prop := ngs f < n ∨ (ngs f = n ∧ x = 0)
theorem nar1 : vp_nar .boolean 1 = 1 := by decide +kernel
theorem nar0 : vp_nar .boolean 0 = 0 := by decide +kernel
theorem sp19 (hx : NxB nx) {s N : Nat} (hs : s < 4096) {K : Int32 → (Nat → Int32) → Prop} (h : ∀ r f, Dn N r f → K r f) : ∀ m i r f, i + m = 6 → Dn N r f → wp_Md_spread_L19 (nI s) nx K (m + 1) r (nI i) f := by
  intro m
  induction m with
  | zero =>
    intro i r f hi hd
    have : i = 6 := by omega
    subst this
    exact br_t (show nI 6 ≤ nI 6 from nI_le (Nat.le_refl _) (by decide)) (h _ _ hd)
  | succ m ih0 =>
    intro i r f hi hd
    have ih := fun r f hd => ih0 (i + 1) r f (by omega) hd
    refine br_f (show ¬ nI 6 ≤ nI i from nI_ge (by omega) (by decide)) ⟨vp_in_nI hs (by decide), bn_c (fun _ => h _ _ hd) (fun q => ?_)⟩
    rw [nI_1]
    refine nx_cs hx hs (by omega) (ih _ _ hd) (fun t ht => ?_)
    refine ⟨vp_in_nI ht (by decide), br_c (fun _ => ih _ _ hd) (fun _ => ⟨vp_in_nI hs (by decide), ih _ _ (Or.inl ?_)⟩)⟩
    rw [nI_clamp (by omega)] at q ⊢
    have := ngs_upd (x := vp_nar .boolean 1) hs q (by rw [nar1]; decide)
    rcases hd with hd | hd <;> omega
theorem sp10 (hx : NxB nx) {N : Nat} {K : Int32 → (Nat → Int32) → Prop} (h : ∀ r f, Dn N r f → K r f) : ∀ m s r f, s + m = 4096 → Dn N r f → wp_Md_spread_L10 nx K (m + 1) r (nI s) f := by
  intro m
  induction m with
  | zero =>
    intro s r f hs hd
    have : s = 4096 := by omega
    subst this
    exact br_t (nI_le (Nat.le_refl 4096) (by decide)) (h _ _ hd)
  | succ m ih0 =>
    intro s r f hs hd
    have ih := fun r f hd => ih0 (s + 1) r f (by omega) hd
    refine br_f (show ¬ nI 4096 ≤ nI s from nI_ge (by omega) (by decide)) ?_
    rw [nI_1]
    exact ⟨7, sp19 hx (by omega) (fun r f hd => ih r f hd) 6 0 r f rfl hd⟩
theorem sp2 (hx : NxB nx) {K : (Nat → Int32) → Prop} (h : ∀ f, K f) : ∀ n r f, ngs f < n ∨ r = 0 → wp_Md_spread_L2 nx K (n + 1) r f := by
  intro n
  induction n with
  | zero =>
    intro r f hd
    rcases hd with hd | hd
    · exact absurd hd (Nat.not_lt_zero _)
    · exact br_t hd (h _)
  | succ n ih0 =>
    intro r f hd
    refine br_c (fun _ => h _) (fun q => ?_)
    rcases hd with hd | hd
    · refine ⟨4097, sp10 hx (N := ngs f) (fun r f2 h2 => ih0 r f2 ?_) 4096 0 0 f rfl (Or.inr ⟨rfl, rfl⟩)⟩
      rcases h2 with h2 | h2
      · exact Or.inl (by omega)
      · exact Or.inr h2.2
    · exact absurd hd q
theorem q_spread_a (hx : NxB nx) {f : Nat → Int32} {post : (Nat → Int32) → Prop} (h : ∀ f, post f) : wp_Md_spread nx f post := ⟨4098, sp2 hx h 4097 1 f (Or.inl (by have := ngs_le f; omega))⟩
theorem sa39 (hx : NxB nx) {s : Nat} (hs : s < 4096) {x1 : Int32} {f : Nat → Int32} {K : Int32 → Prop} (h : ∀ r, vp_z r → K r) : ∀ m i r, i + m = 6 → vp_z r → wp_Md_spreadAll_L39 x1 (nI s) nx f K (m + 1) r (nI i)
  | 0, i, r, hi, hr => by
    have : i = 6 := by omega
    subst this
    exact br_t (show nI 6 ≤ nI 6 from nI_le (Nat.le_refl _) (by decide)) (h _ hr)
  | m + 1, i, r, hi, hr => by
    have ih := fun r hr => sa39 hx hs (x1 := x1) (f := f) h m (i + 1) r (by omega) hr
    refine br_f (show ¬ nI 6 ≤ nI i from nI_ge (by omega) (by decide)) ⟨(nxi hs (by omega)).1, fun x ex => ?_⟩
    rw [nI_1]
    refine br_c (fun _ => ih _ vp_z0) (fun _ => ?_)
    rcases nxv hx hs (i := i) (by omega) with e | ⟨t, ht, e⟩
    · rw [e] at ex; subst ex; exact br_t m1_neg (ih _ vp_z1)
    · rw [e] at ex; subst ex; exact br_f (nI_pos (by omega)) ⟨vp_in_nI ht (by decide), br_c (fun _ => ih _ vp_z0) (fun _ => ih _ vp_z1)⟩
theorem sa10 (hx : NxB nx) {N : Nat} {K : Int32 → (Nat → Int32) → Prop} (h : ∀ r f, Dn N r f → K r f) : ∀ m s r f, s + m = 4096 → Dn N r f → wp_Md_spreadAll_L10 nx K (m + 1) r (nI s) f := by
  intro m
  induction m with
  | zero =>
    intro s r f hs hd
    have : s = 4096 := by omega
    subst this
    exact br_t (nI_le (Nat.le_refl 4096) (by decide)) (h _ _ hd)
  | succ m ih0 =>
    intro s r f hs hd
    have ih := fun r f hd => ih0 (s + 1) r f (by omega) hd
    have hv : vp_in (nI s) 4096 := vp_in_nI (by omega) (by decide)
    refine br_f (show ¬ nI 4096 ≤ nI s from nI_ge (by omega) (by decide)) ?_
    rw [nI_1]
    refine ⟨hv, bn_c (fun _ => ih _ _ hd) (fun q => q_isEnd_a hx (by omega) (fun _ => bn_c (fun _ => ih _ _ hd) (fun _ => ⟨7, sa39 hx (by omega) (fun x hx3 => ⟨hv, ?_⟩) 6 0 1 rfl vp_z1⟩)))⟩
    rw [nI_clamp (by omega)] at q ⊢
    rcases hx3 with e | e
    · subst e
      have e2 := ngs_same (f := f) (t := s) (x := vp_nar .boolean 0) q nar0
      refine bn_c (fun q1 => ih _ _ ?_) (fun q1 => br_t rfl (ih _ _ ?_))
      · rcases hd with hd | hd
        · exact Or.inl (by omega)
        · exact absurd hd.2 q1
      · rcases hd with hd | hd
        · exact Or.inl (by omega)
        · exact Or.inr ⟨by omega, rfl⟩
    · subst e
      have e2 := ngs_upd (f := f) (t := s) (x := vp_nar .boolean 1) (by omega) q (by rw [nar1]; decide)
      have e3 : Dn N 1 (upd f s (vp_nar .boolean 1)) := Or.inl (by rcases hd with hd | hd <;> omega)
      exact bn_c (fun q1 => ih _ _ e3) (fun q1 => br_f (by decide) (ih _ _ e3))
theorem sa2 (hx : NxB nx) {K : (Nat → Int32) → Prop} (h : ∀ f, K f) : ∀ n r f, ngs f < n ∨ r = 0 → wp_Md_spreadAll_L2 nx K (n + 1) r f := by
  intro n
  induction n with
  | zero =>
    intro r f hd
    rcases hd with hd | hd
    · exact absurd hd (Nat.not_lt_zero _)
    · exact br_t hd (h _)
  | succ n ih0 =>
    intro r f hd
    refine br_c (fun _ => h _) (fun q => ?_)
    rcases hd with hd | hd
    · refine ⟨4097, sa10 hx (N := ngs f) (fun r f2 h2 => ih0 r f2 ?_) 4096 0 0 f rfl (Or.inr ⟨rfl, rfl⟩)⟩
      rcases h2 with h2 | h2
      · exact Or.inl (by omega)
      · exact Or.inr h2.2
    · exact absurd hd q
theorem q_spreadAll_a (hx : NxB nx) {f : Nat → Int32} {post : (Nat → Int32) → Prop} (h : ∀ f, post f) : wp_Md_spreadAll nx f post := ⟨4098, sa2 hx h 4097 1 f (Or.inl (by have := ngs_le f; omega))⟩
end RB
