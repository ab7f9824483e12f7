/-! the reference's ends -/
def et (S : Nat → Option (List Nat)) (c s : Nat) : Nat → Nat
  | 0 => 1
  | i + 1 => match nxc S c s i with | none => et S c s i | some _ => 0
section IE
variable {S : Nat → Option (List Nat)} {c : Nat} {nr : Nat → Int32}
theorem et_none {s i : Nat} (h : nxc S c s i = none) : et S c s (i + 1) = et S c s i := by
  show (match nxc S c s i with | none => _ | some _ => _) = _
  rw [h]
theorem et_some {s i t : Nat} (h : nxc S c s i = some t) : et S c s (i + 1) = 0 := by
  show (match nxc S c s i with | none => _ | some _ => _) = _
  rw [h]
theorem et_nt {s : Nat} : ∀ i, i ≤ c → et S c s i = if nt S s i = 0 then 1 else 0
  | 0, _ => rfl
  | i + 1, h => by
    have hx : nxc S c s i = nx S s i := if_pos (by omega)
    cases e : nx S s i with
    | none => rw [et_none (hx.trans e), nt_none e]; exact et_nt i (by omega)
    | some t => rw [et_some (hx.trans e), nt_some e, if_neg (by omega)]
theorem et_big {s : Nat} : ∀ k, et S c s (c + k) = et S c s c
  | 0 => rfl
  | k + 1 => by
    rw [← Nat.add_assoc, et_none (if_neg (by omega))]; exact et_big k
theorem et_en (hc : c ≤ 6) (s : Nat) : et S c s 6 = en S c s := by
  rw [show 6 = c + (6 - c) by omega, et_big, et_nt c (Nat.le_refl c)]; rfl
theorem et_01 {s : Nat} : ∀ i, et S c s i = 0 ∨ et S c s i = 1
  | 0 => Or.inr rfl
  | i + 1 => by
    cases e : nxc S c s i with
    | none => rw [et_none e]; exact et_01 i
    | some t => rw [et_some e]; exact Or.inl rfl
theorem ie4 (hS : SOk S) (hN : NxR S c nr) {s : Nat} (hs : s < 4096) {K : Int32 → Prop} (hK : K (nI (et S c s 6))) : ∀ m i, i + m = 6 → wp_Md_isEnd_L4 (nI s) nr K (m + 1) (nI (et S c s i)) (nI i)
  | 0, i, hi => by
    have : i = 6 := by omega
    subst this
    exact br_t (show nI 6 ≤ nI 6 from nI_le (Nat.le_refl _) (by decide)) hK
  | m + 1, i, hi => by
    have ih := ie4 hS hN hs hK m (i + 1) (by omega)
    have h2 := et_01 (S := S) (c := c) (s := s) i
    refine br_f (show ¬ nI 6 ≤ nI i from nI_ge (by omega) (by decide)) ?_
    rw [show (6 : Int32) = nI 6 from rfl, pk_mul, nI_add, nI_1]
    rcases h2 with e0 | e0
    · have e1 : et S c s (i + 1) = 0 := by
        cases e : nxc S c s i with
        | none => rw [et_none e]; exact e0
        | some t => exact et_some e
      rw [e1] at ih
      exact br_t (by rw [e0]; rfl) ih
    · refine br_f (by rw [e0]; decide) ⟨vp_in_nI (by omega) (by decide), ?_⟩
      rw [nI_clamp (by omega), hN s hs i (by omega)]
      cases e : nxc S c s i with
      | none =>
        rw [et_none e, e0] at ih
        exact br_f (by decide) ih
      | some t =>
        have ht := nxc_lt hS e
        rw [et_some e] at ih
        exact br_t (nI_nn (by omega)) ih
theorem q_isEnd (hS : SOk S) (hc : c ≤ 6) (hN : NxR S c nr) {s : Nat} (hs : s < 4096) {post : Int32 → Prop} (h : post (nI (en S c s))) : wp_Md_isEnd (nI s) nr post := by
  refine ⟨7, ie4 hS hN hs ⟨?_, ?_⟩ 6 0 rfl⟩
  · rcases et_01 (S := S) (c := c) (s := s) 6 with e | e
    · rw [e]; exact Or.inl rfl
    · rw [e]; exact Or.inr rfl
  · rw [et_en hc]; exact h
end IE
