/-! the class's rounds of guesses -/
theorem and_hi {x y a k : Nat} (hx : x < 2 ^ k) : (2 ^ k * y + x) &&& (2 ^ k * a) = 2 ^ k * (y &&& a) := by
  apply Nat.eq_of_testBit_eq
  intro j
  have h0 : ∀ z, (2 ^ k * z).testBit j = if j < k then false else z.testBit (j - k) := fun z => by
    have := Nat.testBit_two_pow_mul_add z (i := k) (b := 0) (Nat.two_pow_pos k) j
    rw [Nat.add_zero, Nat.zero_testBit] at this
    exact this
  rw [Nat.testBit_and, Nat.testBit_two_pow_mul_add _ hx, h0, h0, Nat.testBit_and]
  split
  · rw [Bool.and_false]
  · rfl
theorem and_lo {y r a k : Nat} (ha : a < 2 ^ k) (hy : y < 2 ^ k) : (2 ^ k * r + y) &&& a = y &&& a := by
  apply Nat.eq_of_testBit_eq
  intro j
  rw [Nat.testBit_and, Nat.testBit_and, Nat.testBit_two_pow_mul_add _ hy]
  split
  · rfl
  · next h =>
    have hp : (2 : Nat) ^ k ≤ 2 ^ j := Nat.pow_le_pow_right (by decide) (by omega)
    rw [Nat.testBit_lt_two_pow (show a < 2 ^ j by omega), Bool.and_false, Bool.and_false]
section CS
variable {S : Nat → Option (List Nat)} {c g : Nat} {tu fa : Nat → Int32} {L : Nat → Option Nat}
theorem Gb_lt12 (hS : SOk S) (hg : g ≤ 12) (t : Nat) : Gb S t g < 4096 := Nat.lt_of_lt_of_le (Gb_lt hS t g hg) (Nat.pow_le_pow_right (n := 2) (j := 12) (by decide) hg)
theorem fc_low (hS : SOk S) (t k : Nat) (hk : k ≤ 1) : ∃ x, x < 16 ∧ fc S c g t + 4 * k = 16 * (4096 * val S t 2 + Gb S t g) + x := by
  have a := val_lt2 hS t (s := 0) (by decide)
  have b := val_lt2 hS t (s := 1) (by decide)
  have e := en_lt (S := S) (c := c) t
  refine ⟨val S t 0 + 2 * val S t 1 + 8 * en S c t + 4 * k, by omega, ?_⟩
  unfold fc
  omega
theorem q_guessesOf (hS : SOk S) (hg : g ≤ 12) (hF : FaL S c g fa L) {t : Nat} (ht : t < 4096) {post : Int32 → Prop} (h : post (nI (Gb S t g))) : wp_Loop_guessesOf (nI t) fa post := by
  refine q_isState ht (br_f (by decide) ⟨vp_in_nI ht (by decide), ?_⟩)
  obtain ⟨x, hx, e⟩ := fc_low (c := c) (g := g) hS t (1 - no1 L t) (by omega)
  have hb := Gb_lt12 hS hg t
  have hr := val_lt16 hS t
  rw [nI_clamp (by omega), hF t ht, e, pk_shrN (by omega) _ 4 (by decide +kernel), pk_andN (by omega) 12 rfl]
  rw [show (16 * (4096 * val S t 2 + Gb S t g) + x) / 2 ^ 4 % 2 ^ 12 = Gb S t g by omega]
  exact h
theorem q_keptFacts {a : Nat} (ha : a < 4096) {post : Int32 → Prop} (h : post (nI (16 * a))) : wp_Gues_keptFacts (nI a) post := by
  show post (nI a <<< (4 &&& 31))
  rw [pk_shlN _ 4 (by decide +kernel) (by omega), Nat.mul_comm]; exact h
theorem q_hasKept (hS : SOk S) (hg : g ≤ 12) (hF : FaL S c g fa L) {t a : Nat} (ht : t < 4096) (ha : a < 4096) {post : Int32 → Prop} (h : post (b01 (decide (Gb S t g &&& a = a)))) : wp_Loop_hasAll (nI t) (nI (16 * a)) fa post := by
  obtain ⟨x, hx, e⟩ := fc_low (c := c) (g := g) hS t (1 - no1 L t) (by omega)
  have hb := Gb_lt12 hS hg t
  have hr := val_lt16 hS t
  refine q_hasAll ht (hF t ht) (by rw [e]; omega) (by omega) ?_
  rw [e]
  have e2 : (16 * (4096 * val S t 2 + Gb S t g) + x) &&& (16 * a) = 16 * (Gb S t g &&& a) := by
    have h1 := and_hi (x := x) (y := 4096 * val S t 2 + Gb S t g) (a := a) (k := 4) hx
    have h2 := and_lo (y := Gb S t g) (r := val S t 2) (a := a) (k := 12) ha hb
    rw [show (2 : Nat) ^ 4 = 16 from rfl] at h1
    rw [show (2 : Nat) ^ 12 = 4096 from rfl] at h2
    rw [h1, h2]
  rw [e2, show decide (16 * (Gb S t g &&& a) = 16 * a) = decide (Gb S t g &&& a = a) from decide_eq_decide.mpr (by omega)]
  exact h
theorem cs_begin (hS : SOk S) (hg : g ≤ 12) (hF : FaL S c g fa L) {a : Nat} {K : Int32 → Prop} (hK : K (nI (dif a (kb S g a 4096)))) : ∀ m s, s + m = 4096 → wp_Gues_lackedAtBegin_L4 fa (nI a) K (m + 1) (nI (dif a (kb S g a s))) (nI s)
  | 0, s, hs => by
    have : s = 4096 := by omega
    subst this
    exact br_t (show nI 4096 ≤ nI 4096 from nI_le (Nat.le_refl _) (by decide)) hK
  | m + 1, s, hs => by
    have hs2 : s < 4096 := by omega
    have hlt := fc_lt (c := c) hS hg s
    have h1 := fc_1 (c := c) (g := g) s hS (1 - no1 L s)
    have v0 := val_lt2 hS s (s := 0) (by decide)
    have ih := cs_begin hS hg hF hK m (s + 1) (by omega)
    refine br_f (show ¬ nI 4096 ≤ nI s from nI_ge hs2 (by decide)) (q_hasAll (m := 1) hs2 (hF s hs2) (by omega) (by decide) ?_)
    rw [Nat.and_one_is_mod, h1, nI_1]
    by_cases e : val S s 0 = 0
    · rw [show kb S g a (s + 1) = kb S g a s from if_pos e] at ih
      exact br_t (by rw [e]; rfl) ih
    · rw [show kb S g a (s + 1) = kb S g a s &&& Gb S s g from if_neg e] at ih
      refine br_f (by rw [show val S s 0 = 1 by omega]; decide) (q_guessesOf hS hg hF hs2 (fun y hy => ?_))
      rw [nI_dif, nI_or, dif_or] at hy
      subst hy; exact ih
theorem cs_beh (hS : SOk S) (hc6 : c ≤ 6) (hg : g ≤ 12) (hT : Tu S c tu) (hF : FaL S c g fa L) {a s : Nat} (hs : s < 4096) {K : Int32 → Prop} (hK : K (nI (dif a (kr1 S c g s a c)))) : ∀ m i, i + m = c → wp_Gues_lackedBehind_L4 (nI s) (nI c) fa tu (nI a) K (m + 1) (nI (dif a (kr1 S c g s a i))) (nI i)
  | 0, i, hi => by
    have : i = c := by omega
    subst this
    exact br_t (nI_le (Nat.le_refl _) (by omega)) hK
  | m + 1, i, hi => by
    have ih := cs_beh hS hc6 hg hT hF hs hK m (i + 1) (by omega)
    have hx : nxc S c s i = nx S s i := if_pos (by omega)
    refine br_f (nI_ge (by omega) (by omega)) (q_turn hc6 hT (by omega) hs ?_)
    rw [nI_1]
    cases e : nx S s i with
    | none =>
      rw [kr1_none (hx.trans e)] at ih
      exact br_t rfl ih
    | some t =>
      have ht := nx_lt hS e
      rw [kr1_some (hx.trans e)] at ih
      refine br_f (nI_ne_m1 (by omega)) (q_guessesOf hS hg hF ht (fun y hy => ?_))
      rw [nI_dif, nI_or, dif_or] at hy
      subst hy; exact ih
theorem kr1_big {s a : Nat} : ∀ k, kr1 S c g s a (c + k) = kr1 S c g s a c
  | 0 => rfl
  | k + 1 => by
    have : nxc S c s (c + k) = none := if_neg (by omega)
    rw [← Nat.add_assoc, kr1_none this]; exact kr1_big k
theorem cs_turns (hS : SOk S) (hc6 : c ≤ 6) (hg : g ≤ 12) (hT : Tu S c tu) (hF : FaL S c g fa L) {a : Nat} (ha : a < 4096) {K : Int32 → Prop} (hK : K (nI (dif a (kr S c g a 4096)))) : ∀ m s, s + m = 4096 → wp_Gues_lackedBehindTurns_L4 (nI c) fa tu (nI a) K (m + 1) (nI (dif a (kr S c g a s))) (nI s)
  | 0, s, hs => by
    have : s = 4096 := by omega
    subst this
    exact br_t (show nI 4096 ≤ nI 4096 from nI_le (Nat.le_refl _) (by decide)) hK
  | m + 1, s, hs => by
    have hs2 : s < 4096 := by omega
    have ih := cs_turns hS hc6 hg hT hF ha hK m (s + 1) (by omega)
    refine br_f (show ¬ nI 4096 ≤ nI s from nI_ge hs2 (by decide)) (q_keptFacts ha (q_hasKept hS hg hF hs2 ha ?_))
    rw [nI_1]
    by_cases e : Gb S s g &&& a = a
    · rw [show kr S c g a (s + 1) = kr S c g a s &&& kr1 S c g s a 6 from if_pos e, show kr1 S c g s a 6 = kr1 S c g s a c by rw [show 6 = c + (6 - c) by omega]; exact kr1_big _] at ih
      refine br_f (by rw [decide_eq_true e]; decide) ⟨c + 1, ?_⟩
      have z : (0 : Int32) = nI (dif a (kr1 S c g s a 0)) := by show (0 : Int32) = nI (dif a a); rw [(dif_0 (Sub_refl a)).mpr rfl]; rfl
      show wp_Gues_lackedBehind_L4 (nI s) (nI c) fa tu (nI a) _ (c + 1) 0 (nI 0)
      rw [z]
      refine cs_beh hS hc6 hg hT hF hs2 ?_ c 0 (by omega)
      intro y hy
      rw [nI_or, dif_or] at hy
      subst hy; exact ih
    · rw [show kr S c g a (s + 1) = kr S c g a s from if_neg e] at ih
      exact br_t (by rw [decide_eq_false e]; rfl) ih
end CS
