/-! the reference: rows of turns are bounded; pairs, many -/
section RA
variable {S : Nat → Option (List Nat)} {c : Nat} {nx : Nat → Int32}
def NxB (nx : Nat → Int32) : Prop := ∀ s, s < 4096 → ∀ i, i < 6 → nx (6 * s + i) = -1 ∨ ∃ t, t < 4096 ∧ nx (6 * s + i) = nI t
theorem NxB_of (hS : SOk S) (hN : NxR S c nx) : NxB nx := fun s hs i hi => by
  rw [hN s hs i hi]
  cases e : nxc S c s i with
  | none => exact Or.inl rfl
  | some t => exact Or.inr ⟨t, nxc_lt hS e, rfl⟩
theorem nxi {s i : Nat} (hs : s < 4096) (hi : i < 6) : (vp_in ((6 : Int32) * nI s + nI i) 24576) ∧ ((6 : Int32) * nI s + nI i).toNatClampNeg = 6 * s + i := by
  rw [show (6 : Int32) = nI 6 from rfl, pk_mul, nI_add]
  exact ⟨vp_in_nI (by omega) (by decide), nI_clamp (by omega)⟩
theorem m1_neg : (-1 : Int32) < 0 := by decide
theorem un38 (hx : NxB nx) {s : Nat} (hs : s < 4096) {x2 x4 : Int32} {j : Nat} (hj : j ≤ 6) {K : Int32 → Prop} (h : ∀ r, K r) : ∀ m i r, i + m = j → wp_Md_unlikeNexts_L38 (nI s) x2 (nI j) x4 nx K (m + 1) r (nI i)
  | 0, i, r, hi => by
    have : i = j := by omega
    subst this
    exact br_t (nI_le (Nat.le_refl _) (by omega)) (h _)
  | m + 1, i, r, hi => by
    have ih := fun r => un38 hx hs (x2 := x2) (x4 := x4) hj h m (i + 1) r (by omega)
    refine br_f (nI_ge (by omega) (by omega)) ?_
    rw [nI_1]
    exact br_c (fun _ => ih _) (fun _ => ⟨(nxi hs (by omega)).1, br_c (fun _ => ih _) (fun _ => ih _)⟩)
theorem un4 (hx : NxB nx) {s : Nat} (hs : s < 4096) {K : Int32 → Prop} (h : ∀ r, K r) : ∀ m i r, i + m = 6 → wp_Md_unlikeNexts_L4 (nI s) nx K (m + 1) r (nI i)
  | 0, i, r, hi => by
    have : i = 6 := by omega
    subst this
    exact br_t (show nI 6 ≤ nI 6 from nI_le (Nat.le_refl _) (by decide)) (h _)
  | m + 1, i, r, hi => by
    have ih := fun r => un4 hx hs h m (i + 1) r (by omega)
    refine br_f (show ¬ nI 6 ≤ nI i from nI_ge (by omega) (by decide)) ⟨(nxi hs (by omega)).1, fun x _ => ?_⟩
    rw [nI_1]
    exact br_c (fun _ => ⟨i + 1, un38 hx hs (j := i) (by omega) (fun _ => br_c (fun _ => fun _ _ => ih _) (fun _ => fun _ _ => ih _)) i 0 _ (by omega)⟩) (fun _ => ⟨i + 1, un38 hx hs (j := i) (by omega) (fun _ => br_c (fun _ => fun _ _ => ih _) (fun _ => fun _ _ => ih _)) i 0 _ (by omega)⟩)
theorem q_unlike_a (hx : NxB nx) {s : Nat} (hs : s < 4096) {post : Int32 → Prop} (h : ∀ r, post r) : wp_Md_unlikeNexts (nI s) nx post := ⟨7, un4 hx hs h 6 0 _ rfl⟩
theorem ie_a (hx : NxB nx) {s : Nat} (hs : s < 4096) {K : Int32 → Prop} (h : ∀ r, vp_z r → K r) : ∀ m i r, i + m = 6 → vp_z r → wp_Md_isEnd_L4 (nI s) nx K (m + 1) r (nI i)
  | 0, i, r, hi, hr => by
    have : i = 6 := by omega
    subst this
    exact br_t (show nI 6 ≤ nI 6 from nI_le (Nat.le_refl _) (by decide)) (h _ hr)
  | m + 1, i, r, hi, hr => by
    have ih := fun r => ie_a hx hs h m (i + 1) r (by omega)
    refine br_f (show ¬ nI 6 ≤ nI i from nI_ge (by omega) (by decide)) ?_
    rw [nI_1]
    exact br_c (fun _ => ih _ (Or.inl rfl)) (fun _ => ⟨(nxi hs (by omega)).1, br_c (fun _ => ih _ (Or.inl rfl)) (fun _ => ih _ (Or.inr rfl))⟩)
theorem q_isEnd_a (hx : NxB nx) {s : Nat} (hs : s < 4096) {post : Int32 → Prop} (h : ∀ r, post r) : wp_Md_isEnd (nI s) nx post := ⟨7, ie_a hx hs (fun r hr => ⟨hr, h r⟩) 6 0 1 rfl (Or.inr rfl)⟩
theorem mn73 (hx : NxB nx) {s : Nat} (hs : s < 4096) {x1 x2 x5 s0 kb : Int32} {iB iG lv hg : Nat → Int32} {K : Int32 → Int32 → Int32 → Prop} {K2 : Int32 → Int32 → Prop} (h : ∀ r s0, K r s0 (nI (s + 1))) : wp_Md_many_J73 x1 x2 (nI s) x5 s0 kb nx iB iG lv hg K K2 := by
  have hv : vp_in (nI s) 4096 := vp_in_nI hs (by decide)
  have h' : ∀ r s0, K r s0 (nI s + 1) := fun r s0 => by rw [nI_1]; exact h r s0
  exact ⟨fun _ => ⟨hv, br_c (fun _ _ _ => h' _ _) (fun _ _ _ => h' _ _)⟩, fun _ => ⟨hv, br_c (fun _ _ _ => h' _ _) (fun _ _ _ => h' _ _)⟩, fun _ => br_c (fun _ _ _ => h' _ _) (fun _ _ _ => h' _ _), fun _ => br_c (fun _ _ _ => h' _ _) (fun _ => q_isEnd_a hx hs (fun _ => br_c (fun _ _ _ => h' _ _) (fun _ _ _ => h' _ _))), fun _ => ⟨hv, bn_c (fun _ _ _ => h' _ _) (fun _ _ _ => h' _ _)⟩, fun _ => br_c (fun _ _ _ => h' _ _) (fun _ => q_unlike_a hx hs (fun _ _ _ => h' _ _)), fun _ _ _ _ _ _ => ⟨hv, bn_c (fun _ _ _ => h' _ _) (fun _ _ _ => h' _ _)⟩⟩
theorem mn26 (hx : NxB nx) {x1 kb : Int32} {iB iG lv hg : Nat → Int32} {K : Int32 → Int32 → Prop} (h : ∀ r s0, K r s0) : ∀ m s r s0, s + m = 4096 → wp_Md_many_L26 x1 kb nx iB iG lv hg K (m + 1) r s0 (nI s)
  | 0, s, r, s0, hs => by
    have : s = 4096 := by omega
    subst this
    exact br_t (nI_le (Nat.le_refl 4096) (by decide)) (h _ _)
  | m + 1, s, r, s0, hs => by
    have ih := fun r s0 => mn26 hx (x1 := x1) (kb := kb) (iB := iB) (iG := iG) (lv := lv) (hg := hg) h m (s + 1) r s0 (by omega)
    have hv : vp_in (nI s) 4096 := vp_in_nI (by omega) (by decide)
    have hJ : ∀ x2 x5 s0, wp_Md_many_J73 x1 x2 (nI s) x5 s0 kb nx iB iG lv hg (wp_Md_many_L26 x1 kb nx iB iG lv hg K (m + 1)) K := fun x2 x5 s0 => mn73 hx (by omega) ih
    exact br_f (show ¬ nI 4096 ≤ nI s from nI_ge (by omega) (by decide)) ⟨hv, br_c (fun _ => ⟨hv, br_c (fun _ => hJ _ _ _) (fun _ => ⟨hv, hJ _ _ _⟩)⟩) (fun _ => ⟨hv, br_c (fun _ => hJ _ _ _) (fun _ => ⟨hv, hJ _ _ _⟩)⟩)⟩
theorem q_Mmany_a (hx : NxB nx) {x1 ml kb : Int32} {iB iG lv hg : Nat → Int32} {post : Int32 → Prop} (h : ∀ r, post r) : wp_Md_many x1 ml kb nx iB iG lv hg post :=
  br_c (fun _ => h _) (fun _ => br_c (fun _ => h _) (fun _ => br_c (fun _ => ⟨4097, mn26 hx (fun _ _ => bn_c (fun _ => h _) (fun _ => h _)) 4096 0 _ _ rfl⟩) (fun _ => h _)))
end RA
