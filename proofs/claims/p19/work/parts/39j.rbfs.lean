/-! the reference's levels -/
def LvR (lv : Nat → Int32) (L : Nat → Option Nat) : Prop := ∀ t, t < 4096 → lv t = tI (L t)
def NxR (S : Nat → Option (List Nat)) (c : Nat) (nx : Nat → Int32) : Prop := ∀ t, t < 4096 → ∀ i, i < 6 → nx (6 * t + i) = tI (nxc S c t i)
theorem LvR_push {lv : Nat → Int32} {L : Nat → Option Nat} {t x : Nat} (h : LvR lv L) : LvR (upd lv t (nI x)) (fun u => if u = t then some x else L u) := by
  intro u hu
  show _ = tI (if u = t then some x else L u)
  by_cases e : u = t
  · subst e; rw [pk_us, if_pos rfl]; rfl
  · rw [pk_un e, if_neg e]; exact h u hu
section RB
variable {S : Nat → Option (List Nat)} {c : Nat} {nx : Nat → Int32}
theorem g224 (hS : SOk S) (hN : NxR S c nx) {s : Nat} {q : QLv} (hq : QI q) (hs : s ∈ q.1) {x2 : Int32} {K : Int32 → (Nat → Int32) → (Nat → Int32) → Prop} (hK : ∀ lv qu, QL qu (vis S c s 6 q).1 → LvR lv (vis S c s 6 q).2 → K (nI (vis S c s 6 q).1.length) lv qu) : ∀ m i lv qu, i + m = 6 → QL qu (vis S c s i q).1 → LvR lv (vis S c s i q).2 → wp_Md_goThrough_L224 x2 (nI s) nx K (m + 1) (nI (vis S c s i q).1.length) (nI i) lv qu
  | 0, i, lv, qu, hi, h1, h2 => by
    have : i = 6 := by omega
    subst this
    exact br_t (show nI 6 ≤ nI 6 from nI_le (Nat.le_refl _) (by decide)) (hK lv qu h1 h2)
  | m + 1, i, lv, qu, hi, h1, h2 => by
    have hs2 := (hq.1 s hs).1
    obtain ⟨a1, a2, a3⟩ := QI_vis (c := c) hS hq hs i
    have next : ∀ q', vis S c s (i + 1) q = q' → ∀ lv qu, QL qu q'.1 → LvR lv q'.2 → wp_Md_goThrough_L224 x2 (nI s) nx K (m + 1) (nI q'.1.length) (nI (i + 1)) lv qu := fun q' e lv qu b1 b2 => by
      subst e
      exact g224 hS hN hq hs hK m (i + 1) lv qu (by omega) b1 b2
    have hv : vis S c s (i + 1) q = stp S c s i (vis S c s i q) := rfl
    refine br_f (show ¬ nI 6 ≤ nI i from nI_ge (by omega) (by decide)) ?_
    rw [show (6 : Int32) = nI 6 from rfl, pk_mul, nI_add, nI_1]
    refine ⟨vp_in_nI (by omega) (by decide), fun y hy => ?_⟩
    rw [nI_clamp (by omega), hN s hs2 i (by omega)] at hy
    subst hy
    generalize vis S c s i q = r at *
    cases e : nxc S c s i with
    | none => exact br_t (by decide) (next r (hv.trans (stp_none e)) lv qu h1 h2)
    | some t =>
      have ht := nxc_lt hS e
      refine br_f (nI_pos (by omega)) ⟨vp_in_nI ht (by decide), ?_⟩
      rw [show (tI (some t)).toNatClampNeg = t from nI_clamp (by omega), h2 t ht]
      cases e2 : r.2 t with
      | some x =>
        have hx := a1.2.1 t x e2
        have hl := QI_le a1
        exact br_t (nI_nn (by omega)) (next r (hv.trans (stp_some e e2)) lv qu h1 h2)
      | none =>
        have hl := QI_lt a1 ht e2
        obtain ⟨_, x, hx⟩ := a1.1 s a2
        refine br_f (by decide) ⟨vp_in_nI hs2 (by decide), vp_in_nI ht (by decide), vp_in_nI hl (by decide), ?_⟩
        rw [nI_clamp (show s < 2 ^ 31 by omega), nI_clamp (show r.1.length < 2 ^ 31 by omega), h2 s hs2, hx, nI_1, show tI (some x) + 1 = nI (x + 1) from nI_1 x]
        have := next _ (hv.trans (stp_new e e2)) (upd lv t (nI (x + 1))) (upd qu r.1.length (nI t)) (QL_push h1) (by rw [hx]; exact LvR_push h2)
        rw [show ((r.1 ++ [t], fun u => if u = t then some ((r.2 s).getD 0 + 1) else r.2 u) : QLv).1.length = r.1.length + 1 from List.length_append] at this
        exact this
theorem g209 (hS : SOk S) (hN : NxR S c nx) {K : (Nat → Int32) → (Nat → Int32) → Prop} (hK : ∀ lv qu, QL qu (come S c).1 → LvR lv (come S c).2 → K lv qu) : ∀ m k (q : QLv) lv qu, k + m = 4096 → QI q → bfs S c m k q = come S c → QL qu q.1 → LvR lv q.2 → wp_Md_goThrough_L209 nx K (m + 1) (nI q.1.length) (nI k) lv qu
  | 0, k, q, lv, qu, hk, hq, hb, h1, h2 => by
    have hl := QI_le hq
    have hb : q = come S c := hb
    rw [hb] at h1 h2
    exact br_t (nI_le (by omega) (by omega)) (hK lv qu h1 h2)
  | m + 1, k, q, lv, qu, hk, hq, hb, h1, h2 => by
    have hl := QI_le hq
    by_cases e : k < q.1.length
    · rw [bfs_s e] at hb
      refine br_f (nI_ge e (by omega)) ⟨vp_in_nI (by omega) (by decide), fun y hy => ⟨7, ?_⟩⟩
      rw [nI_clamp (by omega), h1 k e] at hy
      subst hy
      rw [nI_1]
      refine g224 hS hN hq (getD_mem e) (fun lv2 qu2 a1 a2 => ?_) 6 0 lv qu rfl h1 h2
      exact g209 hS hN hK m (k + 1) _ lv2 qu2 (by omega) (QI_vis hS hq (getD_mem e) 6).1 hb a1 a2
    · rw [bfs_end _ _ _ (by omega)] at hb
      rw [hb] at h1 h2
      exact br_t (nI_le (by omega) (by omega)) (hK lv qu h1 h2)
end RB
