/-! the class: pairs, rank, longest, induction, futures: safe, and they end -/
section CB
variable {c : Nat} {fa tu : Nat → Int32}
theorem nt13 {x1 x3 : Int32} {j : Nat} (hj : j ≤ 6) {cc : Int32} {K1 K2 : Prop} (h1 : K1) (h2 : K2) : ∀ m i, i + m = j → wp_Runs_isNewTarget_L13 x1 (nI j) x3 cc tu K1 K2 (m + 1) (nI i)
  | 0, i, hi => by
    have : i = j := by omega
    subst this
    exact br_t (nI_le (Nat.le_refl _) (by omega)) h1
  | m + 1, i, hi => by
    have ih := nt13 (x1 := x1) (x3 := x3) hj (cc := cc) h1 h2 m (i + 1) (by omega)
    refine br_f (nI_ge (by omega) (by omega)) (q_turn_a (fun r => bn_c (fun _ => ?_) (fun _ => h2)))
    rw [nI_1]; exact ih
theorem ct4 (hc : c ≤ 6) {x1 : Int32} {K : Int32 → Prop} (h : ∀ r, K r) : ∀ m i r, i + m = c → wp_Runs_countTargets_L4 x1 (nI c) tu K (m + 1) r (nI i)
  | 0, i, r, hi => by
    have : i = c := by omega
    subst this
    exact br_t (nI_le (Nat.le_refl _) (by omega)) (h _)
  | m + 1, i, r, hi => by
    have ih := fun r => ct4 hc (x1 := x1) h m (i + 1) r (by omega)
    refine br_f (nI_ge (by omega) (by omega)) (q_turn_a (fun r1 => ?_))
    rw [nI_1]
    refine br_c (fun _ => ih _) (fun _ => q_turn_a (fun r2 => ⟨i + 1, nt13 (j := i) (by omega) (br_f (by decide) (ih _)) (br_t rfl (ih _)) i 0 (by omega)⟩))
theorem cp4 (hc : c ≤ 6) {K : Int32 → Prop} (h : ∀ r, K r) : ∀ m s r, s + m = 4096 → wp_Runs_countPairs_L4 (nI c) fa tu K (m + 1) r (nI s)
  | 0, s, r, hs => by
    have : s = 4096 := by omega
    subst this
    exact br_t (nI_le (Nat.le_refl 4096) (by decide)) (h _)
  | m + 1, s, r, hs => by
    have ih := fun r => cp4 hc h m (s + 1) r (by omega)
    refine br_f (show ¬ nI 4096 ≤ nI s from nI_ge (by omega) (by decide)) (q_hasAll_a (fun r' => ?_))
    rw [nI_1]
    exact br_c (fun _ => ih _) (fun _ => ⟨c + 1, ct4 hc (fun r2 => fun _ _ => ih _) c 0 0 (by omega)⟩)
theorem q_countPairs_a (hc : c ≤ 6) {post : Int32 → Prop} (h : ∀ r, post r) : wp_Runs_countPairs (nI c) fa tu post := ⟨4097, cp4 hc h 4096 0 0 rfl⟩
theorem rf11 (hc : c ≤ 6) {x1 x2 : Int32} {K1 K2 : Prop} (h1 : K1) (h2 : K2) : ∀ m i, i + m = c → wp_Runs_rankFallsFrom_L11 x1 x2 (nI c) fa tu K1 K2 (m + 1) (nI i)
  | 0, i, hi => by
    have : i = c := by omega
    subst this
    exact br_t (nI_le (Nat.le_refl _) (by omega)) h1
  | m + 1, i, hi => by
    have ih := rf11 hc (x1 := x1) (x2 := x2) h1 h2 m (i + 1) (by omega)
    refine br_f (nI_ge (by omega) (by omega)) (q_turn_a (fun r => ?_))
    rw [nI_1]
    exact br_c (fun _ => ih) (fun _ => q_rankOf_a (fun _ => br_c (fun _ => ih) (fun _ => h2)))
theorem ra2 (hc : c ≤ 6) {K1 K2 : Prop} (h1 : K1) (h2 : K2) : ∀ m s, s + m = 4096 → wp_Runs_rankAlwaysFalls_L2 (nI c) fa tu K1 K2 (m + 1) (nI s)
  | 0, s, hs => by
    have : s = 4096 := by omega
    subst this
    exact br_t (nI_le (Nat.le_refl 4096) (by decide)) h1
  | m + 1, s, hs => by
    have ih := ra2 hc h1 h2 m (s + 1) (by omega)
    refine br_f (show ¬ nI 4096 ≤ nI s from nI_ge (by omega) (by decide)) (q_hasAll_a (fun r' => ?_))
    rw [nI_1]
    exact br_c (fun _ => ih) (fun _ => q_rankOf_a (fun _ => ⟨c + 1, rf11 hc (bn_f (by decide) ih) (bn_t rfl h2) c 0 (by omega)⟩))
theorem q_falls_a (hc : c ≤ 6) {post : Int32 → Prop} (h : ∀ r, post r) : wp_Runs_rankAlwaysFalls (nI c) fa tu post := ⟨4097, ra2 hc (h _) (h _) 4096 0 rfl⟩
-- longest
theorem ca19 (hc : c ≤ 6) {x1 : Int32} {K : (Nat → Int32) → Prop} (h : ∀ s1, K s1) : ∀ m i s1, i + m = c → wp_Runs_countArrivals_L19 x1 (nI c) fa tu K (m + 1) (nI i) s1
  | 0, i, s1, hi => by
    have : i = c := by omega
    subst this
    exact br_t (nI_le (Nat.le_refl _) (by omega)) (h _)
  | m + 1, i, s1, hi => by
    have ih := fun s1 => ca19 hc (x1 := x1) h m (i + 1) s1 (by omega)
    refine br_f (nI_ge (by omega) (by omega)) (q_turn_a (fun r => ?_))
    rw [nI_1]
    refine q_isState_any r (fun t ht e => ?_) (fun _ => br_t rfl (ih _))
    subst e
    have hv : vp_in (nI t) 4096 := vp_in_nI ht (by decide)
    exact br_f (by decide) (q_hasAll_a (fun _ => br_c (fun _ => ih _) (fun _ => ⟨hv, hv, ih _⟩)))
theorem ca10 (hc : c ≤ 6) {K : (Nat → Int32) → Prop} (h : ∀ s1, K s1) : ∀ m s s1, s + m = 4096 → wp_Runs_countArrivals_L10 (nI c) fa tu K (m + 1) (nI s) s1
  | 0, s, s1, hs => by
    have : s = 4096 := by omega
    subst this
    exact br_t (nI_le (Nat.le_refl 4096) (by decide)) (h _)
  | m + 1, s, s1, hs => by
    have ih := fun s1 => ca10 hc h m (s + 1) s1 (by omega)
    refine br_f (show ¬ nI 4096 ≤ nI s from nI_ge (by omega) (by decide)) ⟨c + 1, ca19 hc (fun s1 => ?_) c 0 s1 (by omega)⟩
    rw [nI_1]; exact ih _
theorem lt30 {s1 : Nat → Int32} {K : Int32 → (Nat → Int32) → Prop} (h : ∀ w it, w ≤ 4096 → K (nI w) it) : ∀ m s w it, s + m = 4096 → w ≤ 4096 → wp_Runs_longestTurns_L30 fa s1 K (m + 1) (nI s) (nI w) it
  | 0, s, w, it, hs, hw => by
    have : s = 4096 := by omega
    subst this
    exact br_t (nI_le (Nat.le_refl 4096) (by decide)) (h _ _ hw)
  | m + 1, s, w, it, hs, hw => by
    have ih := fun w it hw => lt30 (s1 := s1) h m (s + 1) w it (by omega) hw
    refine br_f (show ¬ nI 4096 ≤ nI s from nI_ge (by omega) (by decide)) (q_hasAll_a (fun r' => ?_))
    rw [nI_1]
    exact br_c (fun _ => ih _ _ hw) (fun _ => ⟨vp_in_nI (by omega) (by decide), bn_c (fun _ => ih _ _ hw) (fun _ => q_put_a hw (fun w it hw => ih _ _ hw))⟩)
theorem lv11 (hc : c ≤ 6) {x : Nat} (hx : x < 4096) {K : (Nat → Int32) → (Nat → Int32) → Int32 → (Nat → Int32) → Prop} (h : ∀ s1 s2 w it, w ≤ 4096 → K s1 s2 (nI w) it) : ∀ m i s1 s2 w it, i + m = c → w ≤ 4096 → wp_Runs_leave_L11 (nI x) (nI c) tu K (m + 1) (nI i) s1 s2 (nI w) it
  | 0, i, s1, s2, w, it, hi, hw => by
    have : i = c := by omega
    subst this
    exact br_t (nI_le (Nat.le_refl _) (by omega)) (h _ _ _ _ hw)
  | m + 1, i, s1, s2, w, it, hi, hw => by
    have ih := fun s1 s2 w it hw => lv11 hc hx h m (i + 1) s1 s2 w it (by omega) hw
    refine br_f (nI_ge (by omega) (by omega)) (q_turn_a (fun r => ?_))
    rw [nI_1]
    refine q_isState_any r (fun t ht e => ?_) (fun _ => br_t rfl (ih _ _ _ _ hw))
    subst e
    have hv : vp_in (nI t) 4096 := vp_in_nI ht (by decide)
    exact br_f (by decide) ⟨hv, vp_in_nI hx (by decide), hv, hv, hv, hv, bn_c (fun _ => ih _ _ _ _ hw) (fun _ => q_put_a hw (fun w it hw => ih _ _ _ _ hw))⟩
theorem lt76 (hc : c ≤ 6) {K : Int32 → (Nat → Int32) → (Nat → Int32) → Int32 → (Nat → Int32) → Prop} (h : ∀ r s1 s2 w it, w ≤ 4096 → K r s1 s2 (nI w) it) : ∀ m s r s1 s2 w it, s + m = 4096 → w ≤ 4096 → wp_Runs_longestTurns_L76 (nI c) tu K (m + 1) r (nI s) s1 s2 (nI w) it
  | 0, s, r, s1, s2, w, it, hs, hw => by
    have : s = 4096 := by omega
    subst this
    exact br_t (nI_le (Nat.le_refl 4096) (by decide)) (h _ _ _ _ _ hw)
  | m + 1, s, r, s1, s2, w, it, hs, hw => by
    have ih := fun r s1 s2 w it hw => lt76 hc h m (s + 1) r s1 s2 w it (by omega) hw
    refine br_f (show ¬ nI 4096 ≤ nI s from nI_ge (by omega) (by decide)) (br_c (fun _ => h _ _ _ _ _ hw) (fun _ => q_item_a (fun r2 => ?_)))
    rw [nI_1]
    refine q_isState_any r2 (fun t ht e => ?_) (fun _ => bn_t rfl (fun _ _ => ih _ _ _ _ _ hw))
    subst e
    exact bn_f (by decide) ⟨c + 1, lv11 hc ht (fun s1 s2 w it hw => ⟨vp_in_nI ht (by decide), fun _ _ => ih _ _ _ _ _ hw⟩) c 0 s1 s2 w it (by omega) hw⟩
theorem q_longest_a (hc : c ≤ 6) {s1 s2 it : Nat → Int32} {ws rr : Int32} {post : Int32 → (Nat → Int32) → (Nat → Int32) → Int32 → (Nat → Int32) → Prop} (h : ∀ r s1 s2 w it, post r s1 s2 w it) : wp_Runs_longestTurns (nI c) fa tu s1 s2 ws it rr post :=
  bn_c (fun _ => ⟨4097, ca10 hc (fun s1 => ⟨4097, lt30 (fun w it hw => ⟨4097, lt76 hc (fun r s1 s2 w it hw => br_c (fun _ => h _ _ _ _ _) (fun _ => h _ _ _ _ _)) 4096 0 0 _ _ w it rfl hw⟩) 4096 0 0 it rfl (by omega)⟩) 4096 0 _ rfl⟩) (fun _ => h _ _ _ _ _)
-- induction
theorem lm2 (hc : c ≤ 6) {x1 : Int32} {s1 : Nat → Int32} {K1 K2 : Prop} (h1 : K1) (h2 : K2) : ∀ m i, i + m = c → wp_Gues_leadsToMarked_L2 x1 (nI c) tu s1 K1 K2 (m + 1) (nI i)
  | 0, i, hi => by
    have : i = c := by omega
    subst this
    exact br_t (nI_le (Nat.le_refl _) (by omega)) h1
  | m + 1, i, hi => by
    have ih := lm2 hc (x1 := x1) (s1 := s1) h1 h2 m (i + 1) (by omega)
    refine br_f (nI_ge (by omega) (by omega)) (q_turn_a (fun r => ?_))
    rw [nI_1]
    refine q_isState_any r (fun t ht e => ?_) (fun _ => br_t rfl ih)
    subst e
    exact br_f (by decide) ⟨vp_in_nI ht (by decide), bn_c (fun _ => ih) (fun _ => h2)⟩
theorem sb4 (hc : c ≤ 6) {x1 : Int32} {s1 : Nat → Int32} {K : Int32 → (Nat → Int32) → Prop} (h : ∀ z s2, vp_z z → K z s2) : ∀ m s z s2, s + m = 4096 → vp_z z → wp_Gues_stepBack_L4 x1 (nI c) fa tu s1 K (m + 1) z (nI s) s2
  | 0, s, z, s2, hs, hz => by
    have : s = 4096 := by omega
    subst this
    exact br_t (nI_le (Nat.le_refl 4096) (by decide)) (h _ _ hz)
  | m + 1, s, z, s2, hs, hz => by
    have ih0 := fun s2 => sb4 hc (x1 := x1) (s1 := s1) h m (s + 1) 0 s2 (by omega) (Or.inl rfl)
    have ih1 := fun s2 => sb4 hc (x1 := x1) (s1 := s1) h m (s + 1) 1 s2 (by omega) (Or.inr rfl)
    have hv : vp_in (nI s) 4096 := vp_in_nI (by omega) (by decide)
    refine br_f (show ¬ nI 4096 ≤ nI s from nI_ge (by omega) (by decide)) (q_hasAll_a (fun r' => ?_))
    rw [nI_1]
    refine br_c (fun _ => ⟨hv, bn_c (fun _ => ih1 _) (fun _ => ⟨hv, bn_c (fun _ => ih0 _) (fun _ => ih1 _)⟩)⟩) (fun _ => ⟨c + 1, lm2 hc ?_ ?_ c 0 (by omega)⟩)
    · exact br_c (fun _ => ⟨hv, bn_c (fun _ => ih1 _) (fun _ => ⟨hv, bn_c (fun _ => ih0 _) (fun _ => ih1 _)⟩)⟩) (fun _ => ⟨hv, bn_c (fun _ => ih1 _) (fun _ => ⟨hv, bn_c (fun _ => ih0 _) (fun _ => ih1 _)⟩)⟩)
    · exact br_c (fun _ => ⟨hv, bn_c (fun _ => ih1 _) (fun _ => ⟨hv, bn_c (fun _ => ih0 _) (fun _ => ih1 _)⟩)⟩) (fun _ => ⟨hv, bn_c (fun _ => ih1 _) (fun _ => ⟨hv, bn_c (fun _ => ih0 _) (fun _ => ih1 _)⟩)⟩)
theorem q_stepBack_a (hc : c ≤ 6) {x1 : Int32} {s1 s2 : Nat → Int32} {post : Int32 → (Nat → Int32) → (Nat → Int32) → Prop} (h : ∀ z s1 s2, post z s1 s2) : wp_Gues_stepBack x1 (nI c) fa tu s1 s2 post := ⟨4097, sb4 hc (fun z s2 hz => ⟨hz, h _ _ _⟩) 4096 0 0 s2 rfl (Or.inl rfl)⟩
theorem li18 {x2 x3 : Int32} {K : (Nat → Int32) → Prop} (h : ∀ s1, K s1) : ∀ m s s1, s + m = 4096 → wp_Gues_leastInduction_L18 x2 x3 fa K (m + 1) (nI s) s1
  | 0, s, s1, hs => by
    have : s = 4096 := by omega
    subst this
    exact br_t (nI_le (Nat.le_refl 4096) (by decide)) (h _)
  | m + 1, s, s1, hs => by
    have ih := fun s1 => li18 (x2 := x2) (x3 := x3) h m (s + 1) s1 (by omega)
    refine br_f (show ¬ nI 4096 ≤ nI s from nI_ge (by omega) (by decide)) (q_hasAll_a (fun r' => ?_))
    rw [nI_1]
    exact br_c (fun _ => ⟨vp_in_nI (by omega) (by decide), ih _⟩) (fun _ => ⟨vp_in_nI (by omega) (by decide), ih _⟩)
theorem li60 (hc : c ≤ 6) {x2 x3 : Int32} {K1 K2 : (Nat → Int32) → (Nat → Int32) → Prop} {K3 : Int32 → (Nat → Int32) → (Nat → Int32) → Prop} (h1 : ∀ s1 s2, K1 s1 s2) (h2 : ∀ s1 s2, K2 s1 s2) (h3 : ∀ r s1 s2, K3 r s1 s2) : ∀ m k s1 s2, k + m = 17 → wp_Gues_leastInduction_L60 x2 x3 (nI c) fa tu K1 K2 K3 (m + 1) (nI k) s1 s2
  | 0, k, s1, s2, hk => by
    have : k = 17 := by omega
    subst this
    exact br_t (by decide) (h1 _ _)
  | m + 1, k, s1, s2, hk => by
    have ih := fun s1 s2 => li60 hc (x2 := x2) (x3 := x3) h1 h2 h3 m (k + 1) s1 s2 (by omega)
    refine br_c (fun _ => h1 _ _) (fun _ => ?_)
    rw [nI_1]
    exact br_c (fun _ => q_stepBack_a hc (fun _ _ _ => bn_c (fun _ => ih _ _) (fun _ => h3 _ _ _))) (fun _ => br_c (fun _ => q_stepBack_a hc (fun _ _ _ => bn_c (fun _ => ih _ _) (fun _ => h3 _ _ _))) (fun _ => h2 _ _))
theorem q_leastInd_a (hc : c ≤ 6) {x1 x2 gl : Int32} {s1 s2 : Nat → Int32} {post : Int32 → (Nat → Int32) → (Nat → Int32) → Prop} (h : ∀ r s1 s2, post r s1 s2) : wp_Gues_leastInduction x1 x2 (nI c) fa tu s1 s2 gl post :=
  br_c (fun _ => ⟨4097, li18 (fun s1 => ⟨17, li60 hc (fun _ _ => h _ _ _) (fun _ _ => h _ _ _) (fun _ _ _ => h _ _ _) 16 1 s1 s2 rfl⟩) 4096 0 s1 rfl⟩) (fun _ => fun _ _ => ⟨4097, li18 (fun s1 => ⟨17, li60 hc (fun _ _ => h _ _ _) (fun _ _ => h _ _ _) (fun _ _ _ => h _ _ _) 16 1 s1 s2 rfl⟩) 4096 0 s1 rfl⟩)
-- futures
theorem tm2 {K : (Nat → Int32) → Prop} (h : ∀ s1, K s1) : ∀ m s s1, s + m = 4096 → wp_Fut_turnMarks_L2 K (m + 1) (nI s) s1
  | 0, s, s1, hs => by
    have : s = 4096 := by omega
    subst this
    exact br_t (nI_le (Nat.le_refl 4096) (by decide)) (h _)
  | m + 1, s, s1, hs => by
    have ih := fun s1 => tm2 h m (s + 1) s1 (by omega)
    refine br_f (show ¬ nI 4096 ≤ nI s from nI_ge (by omega) (by decide)) ?_
    rw [nI_1]
    exact ⟨vp_in_nI (by omega) (by decide), vp_in_nI (by omega) (by decide), ih _⟩
theorem mS_a {x y : Int32} {s1 s2 it : Nat → Int32} {w : Nat} (hw : w ≤ 4096) {post : (Nat → Int32) → (Nat → Int32) → Int32 → (Nat → Int32) → Prop} (h : ∀ s1 s2 w it, w ≤ 4096 → post s1 s2 (nI w) it) : wp_Fut_markSource x y s1 s2 (nI w) it post := by
  refine q_isState_any x (fun t ht e => ?_) (fun _ => bn_t rfl (h _ _ _ _ hw))
  subst e
  have hv : vp_in (nI t) 4096 := vp_in_nI ht (by decide)
  exact bn_f (by decide) ⟨hv, hv, hv, bn_c (fun _ => h _ _ _ _ hw) (fun _ => br_c (fun _ => ⟨hv, q_put_a hw (fun w it hw => h _ _ _ _ hw)⟩) (fun _ => ⟨hv, bn_c (fun _ => h _ _ _ _ hw) (fun _ => ⟨hv, q_put_a hw (fun w it hw => h _ _ _ _ hw)⟩)⟩))⟩
theorem cl20 {x1 : Int32} {s1 : Nat → Int32} {K : Int32 → (Nat → Int32) → Prop} (h : ∀ w it, w ≤ 4096 → K (nI w) it) : ∀ m s w it, s + m = 4096 → w ≤ 4096 → wp_Fut_countLeading_L20 x1 s1 K (m + 1) (nI s) (nI w) it
  | 0, s, w, it, hs, hw => by
    have : s = 4096 := by omega
    subst this
    exact br_t (nI_le (Nat.le_refl 4096) (by decide)) (h _ _ hw)
  | m + 1, s, w, it, hs, hw => by
    have ih := fun w it hw => cl20 (x1 := x1) (s1 := s1) h m (s + 1) w it (by omega) hw
    refine br_f (show ¬ nI 4096 ≤ nI s from nI_ge (by omega) (by decide)) ?_
    rw [nI_1]
    exact ⟨vp_in_nI (by omega) (by decide), bn_c (fun _ => ih _ _ hw) (fun _ => q_put_a hw (fun w it hw => ih _ _ hw))⟩
theorem cl100 {x1 x2 : Int32} {b : Nat} (hb : b ≤ 24576) {sr : Nat → Int32} {K : (Nat → Int32) → (Nat → Int32) → Int32 → (Nat → Int32) → Prop} (h : ∀ s1 s2 w it, w ≤ 4096 → K s1 s2 (nI w) it) : ∀ m a s1 s2 w it, a ≤ 24576 → b ≤ a + m → w ≤ 4096 → wp_Fut_countLeading_L100 x1 x2 (nI b - 1) sr K (m + 1) (nI a) s1 s2 (nI w) it
  | 0, a, s1, s2, w, it, ha, hs, hw => br_t ((sub1_lt (by omega) (by omega)).mpr (by omega)) (h _ _ _ _ hw)
  | m + 1, a, s1, s2, w, it, ha, hs, hw => by
    refine br_c (fun _ => h _ _ _ _ hw) (fun q => ?_)
    have hlt : a < b := Nat.lt_of_not_le (fun z => q ((sub1_lt (by omega) (by omega)).mpr z))
    refine q_sourceAt_a (fun r => mS_a hw (fun s1 s2 w it hw => ?_))
    rw [nI_1]
    exact cl100 hb h m (a + 1) s1 s2 w it (by omega) (by omega) hw
theorem cl53 {x1 : Int32} {f sr : Nat → Int32} (hf : FiB f) {K : (Nat → Int32) → (Nat → Int32) → Int32 → (Nat → Int32) → Prop} (h : ∀ s1 s2 w it, w ≤ 4096 → K s1 s2 (nI w) it) : ∀ m s s1 s2 w it, s + m = 4096 → w ≤ 4096 → wp_Fut_countLeading_L53 x1 f sr K (m + 1) (nI s) s1 s2 (nI w) it
  | 0, s, s1, s2, w, it, hs, hw => by
    have : s = 4096 := by omega
    subst this
    exact br_t (nI_le (Nat.le_refl 4096) (by decide)) (h _ _ _ _ hw)
  | m + 1, s, s1, s2, w, it, hs, hw => by
    have ih := fun s1 s2 w it hw => cl53 (x1 := x1) (sr := sr) hf h m (s + 1) s1 s2 w it (by omega) hw
    refine br_f (show ¬ nI 4096 ≤ nI s from nI_ge (by omega) (by decide)) (br_c (fun _ => h _ _ _ _ hw) (fun _ => q_item_a (fun r => ?_)))
    refine q_sources_a hf (post := fun r_4 r_3 => ∃ n_8, wp_Fut_countLeading_L100 x1 (nI s) r_3 sr (fun s1_5 s2_5 wk_size_6 wk_items_7 => wp_Fut_countLeading_L53 x1 f sr K (m + 1) (nI s + 1) s1_5 s2_5 wk_size_6 wk_items_7) n_8 r_4 s1 s2 (nI w) it) (fun a b ha hb => ⟨b + 1, cl100 hb (fun s1 s2 w it hw => ?_) b a s1 s2 w it ha (by omega) hw⟩)
    rw [nI_1]
    exact ih _ _ _ _ hw
theorem cn21_a (hc : c ≤ 6) {x : Nat} (hx : x < 4096) {K : (Nat → Int32) → Prop} (h : ∀ s1, K s1) : ∀ m i s1, i + m = c → wp_Loop_countTurns_L21 (nI x) (nI c) tu K (m + 1) (nI i) s1
  | 0, i, s1, hi => by
    have : i = c := by omega
    subst this
    exact br_t (nI_le (Nat.le_refl _) (by omega)) (h _)
  | m + 1, i, s1, hi => by
    have ih := fun s1 => cn21_a hc hx h m (i + 1) s1 (by omega)
    have hv : vp_in (nI x) 4096 := vp_in_nI hx (by decide)
    refine br_f (nI_ge (by omega) (by omega)) (q_turn_a (fun r => ?_))
    rw [nI_1]
    exact br_c (fun _ => ih _) (fun _ => ⟨hv, hv, ih _⟩)
theorem cn2_a (hc : c ≤ 6) {K : (Nat → Int32) → Prop} (h : ∀ s1, K s1) : ∀ m s s1, s + m = 4096 → wp_Loop_countTurns_L2 (nI c) tu K (m + 1) (nI s) s1
  | 0, s, s1, hs => by
    have : s = 4096 := by omega
    subst this
    exact br_t (nI_le (Nat.le_refl 4096) (by decide)) (h _)
  | m + 1, s, s1, hs => by
    have ih := fun s1 => cn2_a hc h m (s + 1) s1 (by omega)
    refine br_f (show ¬ nI 4096 ≤ nI s from nI_ge (by omega) (by decide)) ?_
    rw [nI_1]
    exact br_f (show ¬ nI 4096 ≤ nI s from nI_ge (by omega) (by decide)) ⟨vp_in_nI (by omega) (by decide), c + 1, cn21_a hc (by omega) ih c 0 _ (by omega)⟩
theorem q_countLeading_a (hc : c ≤ 6) {f sr : Nat → Int32} (hf : FiB f) {x1 ws : Int32} {s1 s2 it : Nat → Int32} {post : Int32 → (Nat → Int32) → (Nat → Int32) → Int32 → (Nat → Int32) → Prop} (h : ∀ r s1 s2 w it, post r s1 s2 w it) : wp_Fut_countLeading x1 (nI c) tu f sr s1 s2 ws it post :=
  ⟨4097, cn2_a hc (fun s2 => ⟨4097, cl20 (fun w it hw => by refine ⟨4097, cl53 hf ?_ 4096 0 s1 s2 w it rfl hw⟩; exact fun s1 s2 w it hw => h _ _ _ _ _) 4096 0 0 it rfl (by omega)⟩) 4096 0 s2 rfl⟩
theorem cm4 {x1 : Int32} {s1 : Nat → Int32} {K : Int32 → Prop} (h : ∀ r, K r) : ∀ m s r, s + m = 4096 → wp_Fut_countMarked_L4 x1 fa s1 K (m + 1) r (nI s)
  | 0, s, r, hs => by
    have : s = 4096 := by omega
    subst this
    exact br_t (nI_le (Nat.le_refl 4096) (by decide)) (h _)
  | m + 1, s, r, hs => by
    have ih := fun r => cm4 (x1 := x1) (s1 := s1) h m (s + 1) r (by omega)
    refine br_f (show ¬ nI 4096 ≤ nI s from nI_ge (by omega) (by decide)) ?_
    rw [nI_1]
    exact ⟨vp_in_nI (by omega) (by decide), bn_c (fun _ => ih _) (fun _ => q_hasAll_a (fun _ => br_c (fun _ => ih _) (fun _ => ih _)))⟩
theorem q_answer_a (hc : c ≤ 6) {f sr : Nat → Int32} (hf : FiB f) {x1 ws : Int32} {s1 s2 it : Nat → Int32} {post : Int32 → (Nat → Int32) → (Nat → Int32) → Int32 → (Nat → Int32) → Prop} (h : ∀ r s1 s2 w it, post r s1 s2 w it) : wp_Fut_answer x1 (nI c) fa tu f sr s1 s2 ws it post :=
  ⟨fun _ => ⟨4097, cm4 (fun _ => h _ _ _ _ _) 4096 0 0 rfl⟩, fun _ => ⟨4097, cm4 (fun _ => h _ _ _ _ _) 4096 0 0 rfl⟩, fun _ => q_countLeading_a hc hf h, fun _ => q_countLeading_a hc hf h, fun _ => ⟨4097, tm2 (fun s1 => q_countLeading_a hc hf (fun _ _ _ _ _ => h _ _ _ _ _)) 4096 0 s1 rfl⟩, fun _ _ _ _ _ => h _ _ _ _ _⟩
end CB
