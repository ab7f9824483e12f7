/-! the class's count of each state's turns; the states at which runs end -/
def nt (S : Nat → Option (List Nat)) (t : Nat) : Nat → Nat
  | 0 => 0
  | i + 1 => nt S t i + (match nx S t i with | some _ => 1 | none => 0)
theorem nt_none {S : Nat → Option (List Nat)} {t i : Nat} (h : nx S t i = none) : nt S t (i + 1) = nt S t i := by
  show nt S t i + (match nx S t i with | some _ => 1 | none => 0) = _
  rw [h]; rfl
theorem nt_some {S : Nat → Option (List Nat)} {t i x : Nat} (h : nx S t i = some x) : nt S t (i + 1) = nt S t i + 1 := by
  show nt S t i + (match nx S t i with | some _ => 1 | none => 0) = _
  rw [h]
theorem nt_le {S : Nat → Option (List Nat)} {t : Nat} : ∀ i, nt S t i ≤ i
  | 0 => Nat.le_refl 0
  | i + 1 => by
    have h := nt_le (S := S) (t := t) i
    cases e : nx S t i with
    | none => rw [nt_none e]; omega
    | some x => rw [nt_some e]; omega
section CT
variable {S : Nat → Option (List Nat)} {c : Nat} {tu : Nat → Int32}
theorem ct21 (hS : SOk S) (hc : c ≤ 6) (hT : Tu S c tu) {t : Nat} (ht : t < 4096) {X0 : Nat → Int32} {K : (Nat → Int32) → Prop} (hK : ∀ X, X t = nI (nt S t c) → (∀ j, j ≠ t → X j = X0 j) → K X) : ∀ m i X, i + m = c → X t = nI (nt S t i) → (∀ j, j ≠ t → X j = X0 j) → wp_Loop_countTurns_L21 (nI t) (nI c) tu K (m + 1) (nI i) X
  | 0, i, X, hi, h1, h2 => by
    have : i = c := by omega
    subst this
    exact br_t (nI_le (Nat.le_refl _) (by omega)) (hK X h1 h2)
  | m + 1, i, X, hi, h1, h2 => by
    refine br_f (nI_ge (by omega) (by omega)) (q_turn hc hT (by omega) ht ?_)
    rw [nI_1]
    cases e : nx S t i with
    | none => exact br_t rfl (ct21 hS hc hT ht hK m (i + 1) X (by omega) (by rw [nt_none e]; exact h1) h2)
    | some x =>
      refine br_f (nI_ne_m1 (Nat.lt_of_lt_of_le (nx_lt hS e) (by decide))) ⟨vp_in_nI ht (by decide), vp_in_nI ht (by decide), ?_⟩
      rw [nI_clamp (by omega)]
      refine ct21 hS hc hT ht hK m (i + 1) _ (by omega) ?_ (fun j hj => ?_)
      · rw [pk_us, h1, nt_some e, nI_1]
      · rw [pk_un hj]; exact h2 j hj
theorem ct2 (hS : SOk S) (hc : c ≤ 6) (hT : Tu S c tu) {K : (Nat → Int32) → Prop} (hK : ∀ X, (∀ t, t < 4096 → X t = nI (nt S t c)) → K X) : ∀ m s X, s + m = 4096 → (∀ t, t < s → X t = nI (nt S t c)) → wp_Loop_countTurns_L2 (nI c) tu K (m + 1) (nI s) X
  | 0, s, X, hs, h1 => br_t (show nI 4096 ≤ nI s from nI_le (by omega) (by omega)) (hK X (fun t ht => h1 t (by omega)))
  | m + 1, s, X, hs, h1 => by
    have hn : ¬ nI 4096 ≤ nI s := nI_ge (by omega) (by decide)
    refine br_f hn (br_f hn ⟨vp_in_nI (by omega) (by decide), c + 1, ?_⟩)
    rw [nI_clamp (by omega)]
    refine ct21 hS hc hT (t := s) (by omega) (X0 := X) (fun X2 h2 h3 => ?_) c 0 _ (by omega) pk_us (fun j hj => pk_un hj)
    rw [nI_1]
    refine ct2 hS hc hT hK m (s + 1) X2 (by omega) (fun t ht => ?_)
    by_cases e : t = s
    · subst e; exact h2
    · rw [h3 t e]; exact h1 t (by omega)
theorem q_countTurns (hS : SOk S) (hc : c ≤ 6) (hT : Tu S c tu) {X : Nat → Int32} {post : (Nat → Int32) → Prop} (h : ∀ X, (∀ t, t < 4096 → X t = nI (nt S t c)) → post X) : wp_Loop_countTurns (nI c) tu X post :=
  ⟨4097, ct2 hS hc hT h 4096 0 X rfl (fun t ht => absurd ht (Nat.not_lt_zero t))⟩
/-- a state without a turn -/
def en (S : Nat → Option (List Nat)) (c t : Nat) : Nat := if nt S t c = 0 then 1 else 0
theorem or_8 : ∀ b, b < 4 → ∀ g, g < 2 ^ 16 → (b + 16 * g) ||| 8 = b + 8 + 16 * g := fun b hb g hg => by
  have h1 : b + 16 * g = 16 * g ||| b := by
    rw [Nat.mul_comm, show (16 : Nat) = 2 ^ 4 from rfl, ← Nat.shiftLeft_eq, ← Nat.shiftLeft_add_eq_or_of_lt (by omega), Nat.shiftLeft_eq]; omega
  have h2 : b + 8 + 16 * g = 16 * g ||| (b + 8) := by
    rw [Nat.mul_comm, show (16 : Nat) = 2 ^ 4 from rfl, ← Nat.shiftLeft_eq, ← Nat.shiftLeft_add_eq_or_of_lt (by omega), Nat.shiftLeft_eq]; omega
  rw [h1, h2, Nat.or_assoc]
  refine congrArg _ ?_
  rcases (show b = 0 ∨ b = 1 ∨ b = 2 ∨ b = 3 by omega) with e | e | e | e <;> subst e <;> rfl
theorem me10 {X : Nat → Int32} {v B G : Nat → Nat} (hv : ∀ t, t < 4096 → X t = nI (v t) ∧ v t < 100) (hB : ∀ t, B t < 4) (hG : ∀ t, G t < 2 ^ 16) {K : (Nat → Int32) → Prop} (hK : ∀ F, (∀ t, t < 4096 → F t = nI (B t + 8 * (if v t = 0 then 1 else 0) + 16 * G t)) → K F) : ∀ m s F, s + m = 4096 → (∀ t, t < s → F t = nI (B t + 8 * (if v t = 0 then 1 else 0) + 16 * G t)) → (∀ t, s ≤ t → t < 4096 → F t = nI (B t + 16 * G t)) → wp_Loop_markEnds_L10 X K (m + 1) (nI s) F
  | 0, s, F, hs, h1, h2 => br_t (show nI 4096 ≤ nI s from nI_le (by omega) (by omega)) (hK F (fun t ht => h1 t (by omega)))
  | m + 1, s, F, hs, h1, h2 => by
    have hin : vp_in (nI s) 4096 := vp_in_nI (by omega) (by decide)
    refine br_f (show ¬ nI 4096 ≤ nI s from nI_ge (by omega) (by decide)) ⟨hin, ?_⟩
    obtain ⟨q1, q2⟩ := hv s (by omega)
    rw [nI_clamp (by omega), q1, nI_1]
    by_cases e : v s = 0
    · refine bn_t (by rw [e]; rfl) ⟨hin, hin, ?_⟩
      refine me10 hv hB hG hK m (s + 1) _ (by omega) (fun t ht => ?_) (fun t ht ht2 => ?_)
      · by_cases e2 : t = s
        · subst e2
          rw [pk_us, h2 t (Nat.le_refl t) (by omega), show (8 : Int32) = nI 8 from rfl, nI_or, or_8 _ (hB t) _ (hG t), if_pos e]
        · rw [pk_un e2]; exact h1 t (by omega)
      · rw [pk_un (by omega)]; exact h2 t (by omega) ht2
    · refine bn_f (fun q => e ((nI_eq (b := 0) (by omega) (by decide)).mp q)) ?_
      refine me10 hv hB hG hK m (s + 1) _ (by omega) (fun t ht => ?_) (fun t ht ht2 => h2 t (by omega) ht2)
      by_cases e2 : t = s
      · subst e2
        rw [h2 t (Nat.le_refl t) (by omega), if_neg e]; rfl
      · exact h1 t (by omega)
theorem q_markEnds (hS : SOk S) (hc : c ≤ 6) (hT : Tu S c tu) {F X : Nat → Int32} {B G : Nat → Nat} (hB : ∀ t, B t < 4) (hG : ∀ t, G t < 2 ^ 16) (hF : ∀ t, t < 4096 → F t = nI (B t + 16 * G t)) {post : (Nat → Int32) → (Nat → Int32) → Prop} (h : ∀ F X, (∀ t, t < 4096 → F t = nI (B t + 8 * en S c t + 16 * G t)) → post F X) : wp_Loop_markEnds (nI c) F tu X post :=
  q_countTurns hS hc hT (fun X2 h2 => ⟨4097, me10 (v := fun t => nt S t c) (fun t ht => ⟨h2 t ht, by have := nt_le (S := S) (t := t) c; show nt S t c < 100; omega⟩) hB hG (fun F2 h3 => h F2 X2 h3) 4096 0 F rfl (fun t ht => absurd ht (Nat.not_lt_zero t)) (fun t _ ht => hF t ht)⟩)
end CT
