/-! the class sifts its guesses -/
theorem cmark {b r : Nat} (hb : b < 4096) {r0 : Nat → Int32} {K : (Nat → Int32) → Prop} (hK : ∀ ro, (∀ i, i < 12 → ro i = if b.testBit i then nI r else r0 i) → K ro) : ∀ m i ro, i + m = 12 → (∀ k, k < i → ro k = if b.testBit k then nI r else r0 k) → (∀ k, i ≤ k → ro k = r0 k) → wp_Gues_dismiss_L14 (nI b) (nI r) K (m + 1) (nI i) ro
  | 0, i, ro, hi, h1, h2 => br_t (show nI 12 ≤ nI i from nI_le (by omega) (by omega)) (hK ro (fun k hk => h1 k (by omega)))
  | m + 1, i, ro, hi, h1, h2 => by
    refine br_f (show ¬ nI 12 ≤ nI i from nI_ge (by omega) (by decide)) ?_
    rw [nI_1]
    have hbit := bit_sh hb (i := i) (by omega)
    by_cases e : b.testBit i = true
    · refine bn_t (hbit.mpr e) ⟨vp_in_nI (by omega) (by decide), ?_⟩
      rw [nI_clamp (by omega)]
      refine cmark hb hK m (i + 1) _ (by omega) (fun k hk => ?_) (fun k hk => by rw [pk_un (by omega)]; exact h2 k (by omega))
      by_cases e2 : k = i
      · subst e2; rw [pk_us, if_pos e]
      · rw [pk_un e2]; exact h1 k (by omega)
    · refine bn_f (fun q => e (hbit.mp q)) (cmark hb hK m (i + 1) ro (by omega) (fun k hk => ?_) (fun k hk => h2 k (by omega)))
      by_cases e2 : k = i
      · subst e2; rw [if_neg e]; exact h2 k (Nat.le_refl k)
      · exact h1 k (by omega)
/-- all rounds -/
def Rc (ro : Nat → Int32) (R : Nat → Nat) : Prop := ∀ i, i < 12 → ro i = nI (R i)
section CT2
variable {S : Nat → Option (List Nat)} {c g : Nat} {tu fa : Nat → Int32} {L : Nat → Option Nat}
theorem q_dismiss {a b r : Nat} (ha : a < 4096) (hs : Sub b a) {ro : Nat → Int32} {R : Nat → Nat} (hR : Rc ro R) {post : Int32 → (Nat → Int32) → Prop} (h : ∀ ro, Rc ro (mk (dif a b) r R) → post (nI b) ro) : wp_Gues_dismiss (nI (dif a b)) (nI r) (nI a) ro post := by
  refine ⟨13, cmark (Nat.lt_of_le_of_lt (dif_le a b) ha) (fun ro2 h2 => ?_) 12 0 ro rfl (fun k hk => absurd hk (Nat.not_lt_zero k)) (fun k _ => rfl)⟩
  rw [nI_dif, dif_dif hs]
  refine h ro2 (fun i hi => ?_)
  rw [h2 i hi]
  unfold mk
  split
  · rfl
  · exact hR i hi
theorem q_lackedBT (hS : SOk S) (hc6 : c ≤ 6) (hg : g ≤ 12) (hT : Tu S c tu) (hF : FaL S c g fa L) {a : Nat} (ha : a < 4096) {post : Int32 → Prop} (h : post (nI (dif a (kr S c g a 4096)))) : wp_Gues_lackedBehindTurns (nI c) fa tu (nI a) post := by
  have z : (0 : Int32) = nI (dif a (kr S c g a 0)) := by show (0 : Int32) = nI (dif a a); rw [(dif_0 (Sub_refl a)).mpr rfl]; rfl
  refine ⟨4097, ?_⟩
  show wp_Gues_lackedBehindTurns_L4 (nI c) fa tu (nI a) _ 4097 0 (nI 0)
  rw [z]
  exact cs_turns hS hc6 hg hT hF ha h 4096 0 rfl
theorem cs40 (hS : SOk S) (hc6 : c ≤ 6) (hg : g ≤ 12) (hT : Tu S c tu) (hF : FaL S c g fa L) {K : Int32 → (Nat → Int32) → Prop} : ∀ m a r ro R, a < 4096 → pcn a 12 ≤ m → r + m = 13 → Rc ro R → (∀ ro, Rc ro (sf S c g m r a R).2 → K (nI (sf S c g m r a R).1) ro) → wp_Gues_sift_L40 (nI c) fa tu K (m + 1) (nI (dif a (kr S c g a 4096))) (nI r) (nI a) ro := by
  intro m
  induction m with
  | zero =>
    intro a r ro R ha hp hr hR hK
    exact br_t (show nI 12 < nI r from nI_lt (by omega) (by omega)) (hK ro hR)
  | succ m ih =>
    intro a r ro R ha hp hr hR hK
    have hsub : Sub (kr S c g a 4096) a := kr_sub 4096
    have hle := Sub_le hsub
    have hdl := dif_le a (kr S c g a 4096)
    have hn : nI r ≤ nI 12 := nI_le (by omega) (by decide)
    refine br_f (show ¬ nI 12 < nI r from Int32.not_lt.mpr hn) ?_
    by_cases e : kr S c g a 4096 = a
    · rw [sf_end e] at hK
      exact br_t (by rw [(dif_0 hsub).mpr e]; rfl) (hK ro hR)
    · rw [sf_s e] at hK
      have hlt := pcn_lt hsub ha e
      refine br_f (fun q => e ((dif_0 hsub).mp ((nI_eq (b := 0) (by omega) (by decide)).mp q))) (q_dismiss ha hsub hR (fun ro2 h2 => q_lackedBT hS hc6 hg hT hF (by omega) ?_))
      rw [nI_1]
      exact ih _ (r + 1) ro2 _ (by omega) (by omega) (by omega) h2 hK
theorem c_sift (hS : SOk S) (hc6 : c ≤ 6) (hg : g ≤ 12) (hT : Tu S c tu) (hF : FaL S c g fa L) {gl : Int32} {ro : Nat → Int32} {post : Int32 → (Nat → Int32) → Prop} (h : ∀ ro, Rc ro (kept S c g).2 → post (nI (kept S c g).1) ro) : wp_Gues_sift (nI c) (nI g) fa tu gl ro post := by
  have ha := a_lt hg
  have hk : kb S g (2 ^ g - 1) 4096 < 4096 := Nat.lt_of_le_of_lt (Sub_le (kb_sub 4096)) ha
  have z : (0 : Int32) = nI (dif (2 ^ g - 1) (kb S g (2 ^ g - 1) 0)) := by show (0 : Int32) = nI (dif _ _); rw [show kb S g (2 ^ g - 1) 0 = 2 ^ g - 1 from rfl, (dif_0 (Sub_refl _)).mpr rfl]; rfl
  unfold wp_Gues_sift wp_Loop_guesses
  dsimp only
  rw [all_g g (by omega)]
  refine ⟨4097, ?_⟩
  have step := cs_begin hS hg hF (a := 2 ^ g - 1) (K := fun r_2 => wp_Gues_dismiss r_2 0 (nI (2 ^ g - 1)) (vp_fill ro 12 100) (fun gu_left_3 gu_rounds_4 => wp_Gues_lackedBehindTurns (nI c) fa tu gu_left_3 (fun r_5 => ∃ n_8, wp_Gues_sift_L40 (nI c) fa tu (fun gu_left_6 gu_rounds_7 => post gu_left_6 gu_rounds_7) n_8 r_5 1 gu_left_3 gu_rounds_4))) (q_dismiss (r := 0) ha (kb_sub 4096) (R := fun _ => 100) (fun i hi => by show (if i < 12 then (100 : Int32) else ro i) = nI 100; rw [if_pos hi]; rfl) (fun ro2 h2 => q_lackedBT hS hc6 hg hT hF hk ⟨13, cs40 hS hc6 hg hT hF 12 _ 1 ro2 _ hk (pcn_12 _ 12) rfl h2 h⟩)) 4096 0 rfl
  rw [← z] at step
  exact step
theorem sf_100 : ∀ m r a R, (∀ i, a.testBit i = true → R i = 100) → ∀ i, (sf S c g m r a R).1.testBit i = true → (sf S c g m r a R).2 i = 100 := by
  intro m
  induction m with
  | zero => intro r a R h i hi; exact h i hi
  | succ m ih =>
    intro r a R h i hi
    by_cases e : kr S c g a 4096 = a
    · rw [sf_end e] at hi ⊢; exact h i hi
    · rw [sf_s e] at hi ⊢
      refine ih _ _ _ (fun j hj => ?_) i hi
      unfold mk
      rw [dif_bit, hj, Bool.not_true, Bool.and_false]
      exact h j (Sub_bit (kr_sub 4096) hj)
theorem kept_100 {i : Nat} (h : (kept S c g).1.testBit i = true) : (kept S c g).2 i = 100 := by
  refine sf_100 12 1 _ _ (fun j hj => ?_) i h
  unfold mk
  rw [dif_bit, hj, Bool.not_true, Bool.and_false]
  rfl
end CT2
