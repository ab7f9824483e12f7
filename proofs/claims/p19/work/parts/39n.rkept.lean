/-! the reference's guesses -/
theorem bit_sh {b i : Nat} (hb : b < 4096) (hi : i < 12) : ((nI b >>> (nI i &&& 31)) &&& 1 = 1) ↔ b.testBit i = true := by
  rw [pk_shrN (by omega) _ i (sh_k i (by omega)), pk_andN (by have := Nat.div_le_self b (2 ^ i); omega) 1 rfl, Nat.testBit_eq_decide_div_mod_eq, decide_eq_true_iff]
  exact nI_eq (b := 1) (by omega) (by decide)
theorem all_g : ∀ g, g < 13 → ((1 : Int32) <<< (nI g &&& 31)) - 1 = nI (2 ^ g - 1) := by decide +kernel
/-- rows of rounds -/
def RdR (g : Nat) (ro : Nat → Int32) (R : Nat → Nat) (P : Nat → Prop) : Prop := ∀ i, i < g → P i → ro i = nI (R i)
theorem rmark {b r : Nat} (hb : b < 4096) {r0 : Nat → Int32} {K : (Nat → Int32) → Prop} (hK : ∀ ro, (∀ i, i < 12 → ro i = if b.testBit i then nI r else r0 i) → K ro) : ∀ m i ro, i + m = 12 → (∀ k, k < i → ro k = if b.testBit k then nI r else r0 k) → (∀ k, i ≤ k → ro k = r0 k) → wp_Md_mark_L2 (nI b) (nI r) K (m + 1) (nI i) ro
  | 0, i, ro, hi, h1, h2 => br_t (show nI 12 ≤ nI i from nI_le (by omega) (by omega)) (hK ro (fun k hk => h1 k (by omega)))
  | m + 1, i, ro, hi, h1, h2 => by
    refine br_f (show ¬ nI 12 ≤ nI i from nI_ge (by omega) (by decide)) ?_
    rw [nI_1]
    have hbit := bit_sh hb (i := i) (by omega)
    by_cases e : b.testBit i = true
    · refine bn_t (hbit.mpr e) ⟨vp_in_nI (by omega) (by decide), ?_⟩
      rw [nI_clamp (by omega)]
      refine rmark hb hK m (i + 1) _ (by omega) (fun k hk => ?_) (fun k hk => by rw [pk_un (by omega)]; exact h2 k (by omega))
      by_cases e2 : k = i
      · subst e2; rw [pk_us, if_pos e]
      · rw [pk_un e2]; exact h1 k (by omega)
    · refine bn_f (fun q => e (hbit.mp q)) (rmark hb hK m (i + 1) ro (by omega) (fun k hk => ?_) (fun k hk => h2 k (by omega)))
      by_cases e2 : k = i
      · subst e2; rw [if_neg e]; exact h2 k (Nat.le_refl k)
      · exact h1 k (by omega)
theorem q_mark {b r : Nat} (hb : b < 4096) {r0 : Nat → Int32} {post : (Nat → Int32) → Prop} (h : ∀ ro, (∀ i, i < 12 → ro i = if b.testBit i then nI r else r0 i) → post ro) : wp_Md_mark (nI b) (nI r) r0 post := ⟨13, rmark hb h 12 0 r0 rfl (fun k hk => absurd hk (Nat.not_lt_zero k)) (fun k _ => rfl)⟩
section RK
variable {S : Nat → Option (List Nat)} {c g : Nat} {nx iB hG : Nat → Int32}
theorem rk18 (hS : SOk S) (hB : ∀ t, t < 4096 → iB t = nI (val S t 0)) (hGb : ∀ t, t < 4096 → hG t = nI (Gb S t g)) {a : Nat} {x1 : Int32} {K : Int32 → Prop} (hK : K (nI (kb S g a 4096))) : ∀ m s, s + m = 4096 → wp_Md_findKept_L18 x1 iB hG K (m + 1) (nI (kb S g a s)) (nI s)
  | 0, s, hs => by
    have : s = 4096 := by omega
    subst this
    exact br_t (show nI 4096 ≤ nI 4096 from nI_le (Nat.le_refl _) (by decide)) hK
  | m + 1, s, hs => by
    have hin : vp_in (nI s) 4096 := vp_in_nI (by omega) (by decide)
    have v0 := val_lt2 hS s (s := 0) (by decide)
    refine br_f (show ¬ nI 4096 ≤ nI s from nI_ge (by omega) (by decide)) ⟨hin, ?_⟩
    rw [nI_clamp (by omega), hB s (by omega), hGb s (by omega), nI_1, nI_and]
    have ih := rk18 hS hB hGb (a := a) (x1 := x1) hK m (s + 1) (by omega)
    by_cases e : val S s 0 = 0
    · rw [show kb S g a (s + 1) = kb S g a s from if_pos e] at ih
      exact br_t (by rw [e]; rfl) ih
    · rw [show kb S g a (s + 1) = kb S g a s &&& Gb S s g from if_neg e] at ih
      exact br_f (fun q => e ((nI_eq (b := 0) (by omega) (by decide)).mp q)) ⟨hin, fun y hy => by subst hy; exact ih⟩
theorem rk90 (hS : SOk S) (hN : NxR S c nx) (hGb : ∀ t, t < 4096 → hG t = nI (Gb S t g)) {a b s : Nat} (hs : s < 4096) (he : Gb S s g &&& a = a) {x3 : Int32} {K : Int32 → Prop} (hK : K (nI (kr1 S c g s b 6))) : ∀ m i, i + m = 6 → wp_Md_findKept_L90 (nI a) x3 (nI s) nx hG K (m + 1) (nI (kr1 S c g s b i)) (nI i)
  | 0, i, hi => by
    have : i = 6 := by omega
    subst this
    exact br_t (show nI 6 ≤ nI 6 from nI_le (Nat.le_refl _) (by decide)) hK
  | m + 1, i, hi => by
    have ih := rk90 hS hN hGb (a := a) (b := b) hs he (x3 := x3) hK m (i + 1) (by omega)
    refine br_f (show ¬ nI 6 ≤ nI i from nI_ge (by omega) (by decide)) ⟨vp_in_nI hs (by decide), bn_t (by rw [nI_clamp (by omega), hGb s hs, nI_and, he]) ?_⟩
    rw [show (6 : Int32) = nI 6 from rfl, pk_mul, nI_add, nI_1]
    refine ⟨vp_in_nI (by omega) (by decide), fun y hy => ?_⟩
    rw [nI_clamp (by omega), hN s hs i (by omega)] at hy
    subst hy
    cases e : nxc S c s i with
    | none =>
      rw [kr1_none e] at ih
      exact br_f (by decide) ih
    | some t =>
      have ht := nxc_lt hS e
      rw [kr1_some e] at ih
      refine br_t (nI_nn (by omega)) ⟨vp_in_nI ht (by decide), fun z hz => ?_⟩
      rw [show (tI (some t)).toNatClampNeg = t from nI_clamp (by omega), hGb t ht, nI_and] at hz
      subst hz
      exact ih
theorem rk79 (hS : SOk S) (hN : NxR S c nx) (hGb : ∀ t, t < 4096 → hG t = nI (Gb S t g)) {a : Nat} (ha : a < 4096) {x3 : Int32} {K : Int32 → Prop} (hK : K (nI (kr S c g a 4096))) : ∀ m s, s + m = 4096 → wp_Md_findKept_L79 (nI a) x3 nx hG K (m + 1) (nI (kr S c g a s)) (nI s)
  | 0, s, hs => by
    have : s = 4096 := by omega
    subst this
    exact br_t (show nI 4096 ≤ nI 4096 from nI_le (Nat.le_refl _) (by decide)) hK
  | m + 1, s, hs => by
    have hs2 : s < 4096 := by omega
    have ih := rk79 hS hN hGb ha (x3 := x3) hK m (s + 1) (by omega)
    refine br_f (show ¬ nI 4096 ≤ nI s from nI_ge hs2 (by decide)) ⟨7, ?_⟩
    rw [nI_1]
    by_cases e : Gb S s g &&& a = a
    · refine rk90 hS hN hGb (b := kr S c g a s) hs2 e ?_ 6 0 rfl
      rw [kr1_acc (kr_sub s) 6, ← show kr S c g a (s + 1) = kr S c g a s &&& kr1 S c g s a 6 from if_pos e]
      exact ih
    · rw [show kr S c g a (s + 1) = kr S c g a s from if_neg e] at ih
      refine br_f (show ¬ nI 6 ≤ nI 0 by decide) ⟨vp_in_nI hs2 (by decide), bn_f (fun q => e ?_) ih⟩
      rw [nI_clamp (by omega), hGb s hs2, nI_and] at q
      have hle : Gb S s g &&& a ≤ a := Nat.and_le_right
      exact (nI_eq (by omega) (by omega)).mp q
end RK
