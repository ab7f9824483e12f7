/-! the class: that its searches are safe and end, whatever they find -/
section CA
theorem q_hasAll_a {x m : Int32} {fa : Nat → Int32} {post : Int32 → Prop} (h : ∀ r, post r) : wp_Loop_hasAll x m fa post := by
  refine q_isState_any x (fun t ht e => ?_) (fun _ => br_t rfl (h _))
  subst e
  exact br_f (by decide) ⟨vp_in_nI ht (by decide), bn_c (fun _ => h _) (fun _ => h _)⟩
theorem q_turn_a {x y c : Int32} {tu : Nat → Int32} {post : Int32 → Prop} (h : ∀ r, post r) : wp_Loop_turn x y c tu post := by
  refine q_isState_any x (fun t ht e => ?_) (fun _ => br_t rfl (h _))
  subst e
  refine br_f (by decide) (br_c (fun _ => h _) (fun q1 => br_c (fun _ => h _) (fun _ => br_c (fun q2 => ?_) (fun _ => h _))))
  obtain ⟨i, hi, e⟩ := nI_of q1
  subst e
  have hi6 : i < 6 := (nI_ltI hi (by decide)).mp q2
  refine ⟨?_, h _⟩
  rw [show (4096 : Int32) = nI 4096 from rfl, pk_mul, nI_add]
  exact vp_in_nI (by omega) (by decide)
theorem q_rankOf_a {x : Int32} {fa : Nat → Int32} {post : Int32 → Prop} (h : ∀ r, post r) : wp_Loop_rankOf x fa post := by
  refine q_isState_any x (fun t ht e => ?_) (fun _ => br_t rfl (h _))
  subst e
  exact br_f (by decide) ⟨vp_in_nI ht (by decide), h _⟩
theorem q_item_a {x n : Int32} {it : Nat → Int32} {post : Int32 → Prop} (h : ∀ r, post r) : wp_Work_item x n it post := by
  refine br_c (fun _ => h _) (fun q1 => br_c (fun _ => h _) (fun _ => br_c (fun _ => h _) (fun q2 => ⟨?_, h _⟩)))
  obtain ⟨i, hi, e⟩ := nI_of q1
  subst e
  exact vp_in_nI (Nat.lt_of_not_le (fun q => q2 (nI_le q hi))) (by decide)
theorem q_put_a {x : Int32} {w : Nat} (hw : w ≤ 4096) {it : Nat → Int32} {post : Int32 → (Nat → Int32) → Prop} (h : ∀ w it, w ≤ 4096 → post (nI w) it) : wp_Work_put x (nI w) it post := by
  refine br_c (fun _ => h _ _ hw) (fun q => ?_)
  have : w < 4096 := Nat.lt_of_not_le (fun z => q (nI_le z (by omega)))
  refine ⟨vp_in_nI this (by decide), ?_⟩
  rw [nI_1]
  exact h _ _ this
theorem q_sourceAt_a {x : Int32} {sr : Nat → Int32} {post : Int32 → Prop} (h : ∀ r, post r) : wp_Loop_sourceAt x sr post := by
  refine br_c (fun _ => h _) (fun q1 => br_c (fun _ => h _) (fun q2 => ⟨?_, h _⟩))
  obtain ⟨i, hi, e⟩ := nI_of q1
  subst e
  exact vp_in_nI (Nat.lt_of_not_le (fun q => q2 (nI_le q hi))) (by decide)
/-- the places of the sources are bounded -/
def FiB (f : Nat → Int32) : Prop := ∀ t, t ≤ 4096 → ∃ a, a ≤ 24576 ∧ f t = nI a
theorem q_sources_a {x : Int32} {f : Nat → Int32} (hf : FiB f) {post : Int32 → Int32 → Prop} (h : ∀ a b, a ≤ 24576 → b ≤ 24576 → post (nI a) (nI b - 1)) : wp_Loop_lastSource x f (fun r3 => wp_Loop_firstSource x f (fun r4 => post r4 r3)) := by
  refine q_isState_any x (fun t ht e => ?_) (fun hn => br_t rfl ?_)
  · subst e
    refine br_f (by decide) ⟨by rw [nI_1]; exact vp_in_nI (by omega) (by decide), ?_⟩
    refine q_isState ht (br_f (by decide) ⟨vp_in_nI (by omega) (by decide), ?_⟩)
    rw [nI_1, nI_clamp (by omega), nI_clamp (by omega)]
    obtain ⟨a, ha, ea⟩ := hf t (by omega)
    obtain ⟨b, hb, eb⟩ := hf (t + 1) (by omega)
    rw [ea, eb]
    exact h a b ha hb
  · refine q_isState_any x (fun t ht e => absurd e (hn t ht)) (fun _ => br_t rfl ?_)
    exact h 0 0 (by omega) (by omega)
theorem sub1_lt {a b : Nat} (ha : a < 2 ^ 30) (hb : b < 2 ^ 30) : (nI b - 1 < nI a) ↔ b ≤ a := by
  rw [Int32.lt_iff_toInt_lt, show (1 : Int32) = nI 1 from rfl, pk_sub_toInt hb (by decide), nI_toInt (by omega)]
  omega
theorem ct_a {x : Int32} {fa : Nat → Int32} {K : Int32 → Prop} (h : ∀ r, K r) : ∀ m s r, s + m = 4096 → wp_Loop_countWith_L4 x fa K (m + 1) r (nI s)
  | 0, s, r, hs => by
    have : s = 4096 := by omega
    subst this
    exact br_t (nI_le (Nat.le_refl 4096) (by decide)) (h _)
  | m + 1, s, r, hs => by
    have ih := fun r => ct_a (x := x) (fa := fa) h m (s + 1) r (by omega)
    refine br_f (show ¬ nI 4096 ≤ nI s from nI_ge (by omega) (by decide)) (q_hasAll_a (fun r' => ?_))
    rw [nI_1]
    exact br_c (fun _ => ih _) (fun _ => ih _)
theorem q_countWith_a {x : Int32} {fa : Nat → Int32} {post : Int32 → Prop} (h : ∀ r, post r) : wp_Loop_countWith x fa post := ⟨4097, ct_a h 4096 0 0 rfl⟩
-- measureToBad
theorem mb9 {fa : Nat → Int32} {K : (Nat → Int32) → Int32 → (Nat → Int32) → Prop} (h : ∀ s1 w it, w ≤ 4096 → K s1 (nI w) it) : ∀ m s s1 w it, s + m = 4096 → w ≤ 4096 → wp_Runs_measureToBad_L9 fa K (m + 1) (nI s) s1 (nI w) it
  | 0, s, s1, w, it, hs, hw => by
    have : s = 4096 := by omega
    subst this
    exact br_t (nI_le (Nat.le_refl 4096) (by decide)) (h _ _ _ hw)
  | m + 1, s, s1, w, it, hs, hw => by
    have ih := fun s1 w it hw => mb9 (fa := fa) h m (s + 1) s1 w it (by omega) hw
    refine br_f (show ¬ nI 4096 ≤ nI s from nI_ge (by omega) (by decide)) ⟨vp_in_nI (by omega) (by decide), q_hasAll_a (fun r' => ?_)⟩
    rw [nI_1]
    exact bn_c (fun _ => ih _ _ _ hw) (fun _ => ⟨vp_in_nI (by omega) (by decide), q_put_a hw (fun w it hw => ih _ _ _ hw)⟩)
theorem ms_a {x y : Int32} {s1 it : Nat → Int32} {w : Nat} (hw : w ≤ 4096) {post : (Nat → Int32) → Int32 → (Nat → Int32) → Prop} (h : ∀ s1 w it, w ≤ 4096 → post s1 (nI w) it) : wp_Runs_measureSource x y s1 (nI w) it post := by
  refine q_isState_any x (fun t ht e => ?_) (fun _ => br_t rfl (h _ _ _ hw))
  subst e
  refine br_f (by decide) (q_isState_any y (fun u hu e => ?_) (fun _ => br_t rfl (h _ _ _ hw)))
  subst e
  exact br_f (by decide) ⟨vp_in_nI ht (by decide), bn_c (fun _ => h _ _ _ hw) (fun _ => ⟨vp_in_nI hu (by decide), vp_in_nI ht (by decide), q_put_a hw (fun w it hw => h _ _ _ hw)⟩)⟩
theorem mb104 {x1 x2 : Int32} {b : Nat} (hb : b ≤ 24576) {sr : Nat → Int32} {K : (Nat → Int32) → Int32 → (Nat → Int32) → Prop} (h : ∀ s1 w it, w ≤ 4096 → K s1 (nI w) it) : ∀ m a s1 w it, a ≤ 24576 → b ≤ a + m → w ≤ 4096 → wp_Runs_measureToBad_L104 x1 x2 (nI b - 1) sr K (m + 1) (nI a) s1 (nI w) it
  | 0, a, s1, w, it, ha, hs, hw => br_t ((sub1_lt (by omega) (by omega)).mpr (by omega)) (h _ _ _ hw)
  | m + 1, a, s1, w, it, ha, hs, hw => by
    refine br_c (fun _ => h _ _ _ hw) (fun q => ?_)
    have hlt : a < b := Nat.lt_of_not_le (fun z => q ((sub1_lt (by omega) (by omega)).mpr z))
    refine q_sourceAt_a (fun r => ms_a hw (fun s1 w it hw => ?_))
    rw [nI_1]
    exact mb104 hb h m (a + 1) s1 w it (by omega) (by omega) hw
theorem mb58 {f sr : Nat → Int32} (hf : FiB f) {K : (Nat → Int32) → Int32 → (Nat → Int32) → Prop} (h : ∀ s1 w it, w ≤ 4096 → K s1 (nI w) it) : ∀ m s s1 w it, s + m = 4096 → w ≤ 4096 → wp_Runs_measureToBad_L58 f sr K (m + 1) (nI s) s1 (nI w) it
  | 0, s, s1, w, it, hs, hw => by
    have : s = 4096 := by omega
    subst this
    exact br_t (nI_le (Nat.le_refl 4096) (by decide)) (h _ _ _ hw)
  | m + 1, s, s1, w, it, hs, hw => by
    have ih := fun s1 w it hw => mb58 (sr := sr) hf h m (s + 1) s1 w it (by omega) hw
    refine br_f (show ¬ nI 4096 ≤ nI s from nI_ge (by omega) (by decide)) (br_c (fun _ => h _ _ _ hw) (fun _ => q_item_a (fun r => ?_)))
    refine q_sources_a hf (post := fun r_4 r_3 => ∃ n_8, wp_Runs_measureToBad_L104 (nI s) r r_3 sr (fun s1_5 wk_size_6 wk_items_7 => wp_Runs_measureToBad_L58 f sr K (m + 1) (nI s + 1) s1_5 wk_size_6 wk_items_7) n_8 r_4 s1 (nI w) it) (fun a b ha hb => ⟨b + 1, mb104 hb (fun s1 w it hw => ?_) b a s1 w it ha (by omega) hw⟩)
    rw [nI_1]
    exact ih _ _ _ hw
theorem q_measure_a {fa f sr s1 it : Nat → Int32} {ws : Int32} (hf : FiB f) {post : (Nat → Int32) → Int32 → (Nat → Int32) → Prop} (h : ∀ s1 w it, w ≤ 4096 → post s1 (nI w) it) : wp_Runs_measureToBad fa f sr s1 ws it post :=
  ⟨4097, mb9 (fun s1 w it hw => ⟨4097, mb58 hf h 4096 0 s1 w it rfl hw⟩) 4096 0 s1 0 it rfl (by omega)⟩
theorem bb_a {fa s1 : Nat → Int32} {K : Int32 → Prop} (h : ∀ r, K r) : ∀ m s x1 x2, s + m = 4096 → wp_Runs_bestBegin_L8 fa s1 K (m + 1) x1 x2 (nI s)
  | 0, s, x1, x2, hs => by
    have : s = 4096 := by omega
    subst this
    exact br_t (nI_le (Nat.le_refl 4096) (by decide)) (h _)
  | m + 1, s, x1, x2, hs => by
    have ih := fun x1 x2 => bb_a (fa := fa) (s1 := s1) h m (s + 1) x1 x2 (by omega)
    have hv : vp_in (nI s) 4096 := vp_in_nI (by omega) (by decide)
    refine br_f (show ¬ nI 4096 ≤ nI s from nI_ge (by omega) (by decide)) (q_hasAll_a (fun r' => ?_))
    rw [nI_1]
    exact br_c (fun _ => ih _ _) (fun _ => ⟨hv, br_c (fun _ => ih _ _) (fun _ => ⟨hv, br_c (fun _ => ih _ _) (fun _ => ⟨hv, fun _ _ => ih _ _⟩)⟩)⟩)
theorem bt_a {x : Nat} (hx : x < 4096) {c : Nat} {tu s1 : Nat → Int32} {K : Int32 → Prop} (hc : c ≤ 6) (h : ∀ r, K r) : ∀ m i x2, i + m = c → wp_Runs_bestTurn_L22 (nI x) (nI c) tu s1 K (m + 1) x2 (nI i)
  | 0, i, x2, hs => by
    have : i = c := by omega
    subst this
    exact br_t (nI_le (Nat.le_refl _) (by omega)) (h _)
  | m + 1, i, x2, hs => by
    have ih := fun x2 => bt_a (tu := tu) (s1 := s1) hx hc h m (i + 1) x2 (by omega)
    refine br_f (nI_ge (by omega) (by omega)) (q_turn_a (fun r => q_isState_any r (fun t ht e => ?_) (fun _ => br_t rfl ?_)))
    · subst e
      rw [nI_1]
      exact br_f (by decide) ⟨vp_in_nI ht (by decide), vp_in_nI hx (by decide), bn_c (fun _ => ih _) (fun _ => br_c (fun _ => ih _) (fun _ => br_c (fun _ => ih _) (fun _ => ih _)))⟩
    · rw [nI_1]; exact ih _
theorem q_bestTurn_a {x : Int32} {c : Nat} {tu s1 : Nat → Int32} (hc : c ≤ 6) {post : Int32 → Prop} (h : ∀ r, post r) : wp_Runs_bestTurn x (nI c) tu s1 post := by
  refine q_isState_any x (fun t ht e => ?_) (fun _ => br_t rfl (h _))
  subst e
  exact br_f (by decide) ⟨vp_in_nI ht (by decide), br_c (fun _ => ⟨c + 1, bt_a ht hc h c 0 _ (by omega)⟩) (fun _ => h _)⟩
theorem fp_a {c : Nat} {tu s1 : Nat → Int32} (hc : c ≤ 6) {K : Int32 → (Nat → Int32) → Prop} (h : ∀ p pa, p ≤ 4096 → K (nI p) pa) : ∀ m s x p pa, s + m = 4096 → p ≤ 4096 → wp_Runs_findPath_L12 (nI c) tu s1 K (m + 1) x (nI s) (nI p) pa
  | 0, s, x, p, pa, hs, hp => by
    have : s = 4096 := by omega
    subst this
    exact br_t (nI_le (Nat.le_refl 4096) (by decide)) (h _ _ hp)
  | m + 1, s, x, p, pa, hs, hp => by
    refine br_f (show ¬ nI 4096 ≤ nI s from nI_ge (by omega) (by decide)) (q_isState_any x (fun t ht e => ?_) (fun _ => br_t rfl (h _ _ hp)))
    refine br_f (by decide) ⟨vp_in_nI (by omega) (by decide), q_bestTurn_a hc (fun r => ?_)⟩
    rw [nI_1]
    exact fp_a hc h m (s + 1) r (s + 1) _ (by omega) (by omega)
theorem q_findPath_a {c : Nat} {fa tu s1 pa : Nat → Int32} {ps : Int32} (hc : c ≤ 6) {post : Int32 → (Nat → Int32) → Prop} (h : ∀ p pa, p ≤ 4096 → post (nI p) pa) : wp_Runs_findPath (nI c) fa tu s1 ps pa post :=
  ⟨4097, bb_a (fun r => ⟨4097, fp_a hc h 4096 0 r 0 pa rfl (by omega)⟩) 4096 0 _ _ rfl⟩
end CA
