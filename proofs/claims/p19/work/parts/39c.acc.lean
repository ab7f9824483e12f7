/-! the class's looks at facts and turns -/
theorem q_isState {t : Nat} (ht : t < 4096) {post : Int32 → Prop} (h : post 1) : wp_LI_isState (nI t) post := br_f (nI_pos (by omega)) (br_f (show ¬ nI 4096 ≤ nI t from nI_ge ht (by decide)) h)
theorem q_isState_m1 {post : Int32 → Prop} (h : post 0) : wp_LI_isState (-1) post := br_t (by decide) h
/-- any number: a state, or none -/
theorem q_isState_any (x : Int32) {post : Int32 → Prop} (h1 : ∀ t, t < 4096 → x = nI t → post 1) (h0 : (∀ t, t < 4096 → x ≠ nI t) → post 0) : wp_LI_isState x post := by
  rcases pk_ix x (n := 4096) (by decide) with h | h | ⟨j, hj, rfl⟩
  · exact br_t h (h0 (fun t ht e => by rw [e] at h; exact nI_pos (by omega) h))
  · refine br_c (fun _ => h0 (fun t ht e => by rw [e] at h; exact nI_ge ht (by decide) h)) (fun _ => br_t h (h0 (fun t ht e => by rw [e] at h; exact nI_ge ht (by decide) h)))
  · exact q_isState hj (h1 j hj rfl)
/-- the turns of a loop with c choices -/
def Tu (S : Nat → Option (List Nat)) (c : Nat) (tu : Nat → Int32) : Prop := ∀ i, i < c → ∀ t, t < 4096 → tu (i * 4096 + t) = tI (nx S t i)
theorem q_turn {S : Nat → Option (List Nat)} {c i t : Nat} {tu : Nat → Int32} (hc : c ≤ 6) (hT : Tu S c tu) (hi : i < c) (ht : t < 4096) {post : Int32 → Prop} (h : post (tI (nx S t i))) : wp_Loop_turn (nI t) (nI i) (nI c) tu post := by
  refine q_isState ht (br_f (by decide) (br_f (nI_pos (by omega)) (br_f (nI_ge hi (by omega)) (br_t (show nI i < nI 6 from nI_lt (by omega) (by decide)) ?_))))
  rw [show (4096 : Int32) = nI 4096 from rfl, pk_mul, nI_add]
  refine ⟨vp_in_nI (by omega) (by decide), ?_⟩
  rw [nI_clamp (by omega), hT i hi t ht]; exact h
/-- any state and choice: next() -/
theorem q_turn_any {S : Nat → Option (List Nat)} {c : Nat} {tu : Nat → Int32} (hc : c ≤ 6) (hT : Tu S c tu) (x y : Int32) {post : Int32 → Prop} (h1 : ∀ t i, t < 4096 → i < c → x = nI t → y = nI i → post (tI (nx S t i))) (h0 : ((∀ t, t < 4096 → x ≠ nI t) ∨ (∀ i, i < c → y ≠ nI i)) → post (-1)) : wp_Loop_turn x y (nI c) tu post := by
  by_cases hx : ∃ t, t < 4096 ∧ x = nI t
  · obtain ⟨t, ht, rfl⟩ := hx
    by_cases hy : ∃ i, i < c ∧ y = nI i
    · obtain ⟨i, hi, rfl⟩ := hy
      exact q_turn hc hT hi ht (h1 t i ht hi rfl rfl)
    · have hno := h0 (Or.inr (fun i hi e => hy ⟨i, hi, e⟩))
      refine q_isState ht (br_f (by decide) (br_c (fun _ => hno) (fun a => br_c (fun _ => hno) (fun b => ?_))))
      rcases pk_ix y (n := c) (by omega) with q | q | ⟨j, hj, e⟩
      · exact absurd q a
      · exact absurd q b
      · exact absurd ⟨j, hj, e⟩ hy
  · have hno := h0 (Or.inl (fun t ht e => hx ⟨t, ht, e⟩))
    exact q_isState_any x (fun t ht e => absurd ⟨t, ht, e⟩ hx) (fun _ => br_t rfl hno)
theorem q_hasAll {t a m : Nat} {facts : Nat → Int32} (ht : t < 4096) (hf : facts t = nI a) (ha : a < 2 ^ 31) (hm : m < 2 ^ 31) {post : Int32 → Prop} (h : post (b01 (decide (a &&& m = m)))) : wp_Loop_hasAll (nI t) (nI m) facts post := by
  refine q_isState ht (br_f (by decide) ⟨vp_in_nI ht (by decide), ?_⟩)
  rw [nI_clamp (by omega), hf, nI_and]
  have hle : a &&& m ≤ m := Nat.and_le_right
  have e : nI (a &&& m) = nI m ↔ a &&& m = m := nI_eq (by omega) hm
  refine bn_c (fun q => ?_) (fun q => ?_)
  · rw [decide_eq_false (fun z => q (e.mpr z))] at h; exact h
  · rw [decide_eq_true (e.mp q)] at h; exact h
