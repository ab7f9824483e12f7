/-! the class's levels: the search -/
def grl (S : Nat → Option (List Nat)) (c : Nat) : Option Nat := if (come S c).1.length = 0 then none else (come S c).2 ((come S c).1.getD ((come S c).1.length - 1) 0)
section CL
variable {S : Nat → Option (List Nat)} {c g : Nat} {tu : Nat → Int32}
theorem fl79 (hS : SOk S) (hc6 : c ≤ 6) (hg : g ≤ 12) (hT : Tu S c tu) {s : Nat} {q : QLv} (hq : QI q) (hs : s ∈ q.1) {x1 : Int32} {K : (Nat → Int32) → Int32 → (Nat → Int32) → (Nat → Int32) → Prop} (hK : ∀ fa wk lv, CQ S c g (vis S c s c q) fa wk lv → K fa (nI (vis S c s c q).1.length) wk lv) : ∀ m i fa wk lv, i + m = c → CQ S c g (vis S c s i q) fa wk lv → wp_Runs_findLevels_L79 x1 (nI s) (nI c) tu K (m + 1) (nI i) fa (nI (vis S c s i q).1.length) wk lv
  | 0, i, fa, wk, lv, hi, h => by
    have : i = c := by omega
    subst this
    exact br_t (nI_le (Nat.le_refl _) (by omega)) (hK fa wk lv h)
  | m + 1, i, fa, wk, lv, hi, h => by
    have hs2 := (hq.1 s hs).1
    obtain ⟨a1, a2, a3⟩ := QI_vis (c := c) hS hq hs i
    have next : ∀ q', vis S c s (i + 1) q = q' → ∀ fa wk lv, CQ S c g q' fa wk lv → wp_Runs_findLevels_L79 x1 (nI s) (nI c) tu K (m + 1) (nI (i + 1)) fa (nI q'.1.length) wk lv := fun q' e fa wk lv b => by
      subst e
      exact fl79 hS hc6 hg hT hq hs hK m (i + 1) fa wk lv (by omega) b
    have hv : vis S c s (i + 1) q = stp S c s i (vis S c s i q) := rfl
    have hx : nxc S c s i = nx S s i := if_pos (by omega)
    generalize vis S c s i q = r at *
    obtain ⟨_, x, hsx⟩ := a1.1 s a2
    refine br_f (nI_ge (by omega) (by omega)) (q_turn hc6 hT (by omega) hs2 (q_levelOf hs2 h.2.1 ?_))
    rw [hsx, nI_1, show tI (some x) + 1 = nI (x + 1) from nI_1 x]
    cases e : nx S s i with
    | none => exact q_reach_m1 (next r (hv.trans (stp_none (hx.trans e))) fa wk lv h)
    | some t =>
      have ht := nx_lt hS e
      cases e2 : r.2 t with
      | some y =>
        have hy := a1.2.1 t y e2
        have hl := QI_le a1
        exact q_reach_old ht e2 (by omega) h (next r (hv.trans (stp_some (hx.trans e) e2)) fa wk lv h)
      | none =>
        have hl := QI_lt a1 ht e2
        have hst := hv.trans (stp_new (hx.trans e) e2)
        rw [hsx] at hst
        refine q_reach_new hS hg ht e2 hl h (fun fa2 wk2 lv2 h2 => ?_)
        have := next _ hst fa2 wk2 lv2 h2
        rw [show ((r.1 ++ [t], fun u => if u = t then some ((some x).getD 0 + 1) else r.2 u) : QLv).1.length = r.1.length + 1 from List.length_append] at this
        exact this
theorem fl50 (hS : SOk S) (hc6 : c ≤ 6) (hg : g ≤ 12) (hT : Tu S c tu) {K : (Nat → Int32) → Int32 → (Nat → Int32) → (Nat → Int32) → Prop} (hK : ∀ fa wk lv, CQ S c g (come S c) fa wk lv → K fa (nI (come S c).1.length) wk lv) : ∀ m k (q : QLv) fa wk lv, k + m = 4096 → QI q → bfs S c m k q = come S c → CQ S c g q fa wk lv → wp_Runs_findLevels_L50 (nI c) tu K (m + 1) (nI k) fa (nI q.1.length) wk lv
  | 0, k, q, fa, wk, lv, hk, hq, hb, h => by
    have hb : q = come S c := hb
    have := hK fa wk lv (by rw [← hb]; exact h)
    rw [← hb] at this
    exact br_t (show nI 4096 ≤ nI k from nI_le (by omega) (by omega)) this
  | m + 1, k, q, fa, wk, lv, hk, hq, hb, h => by
    have hl := QI_le hq
    refine br_f (show ¬ nI 4096 ≤ nI k from nI_ge (by omega) (by decide)) ?_
    by_cases e : k < q.1.length
    · rw [bfs_s e] at hb
      refine br_f (nI_ge e (by omega)) (q_item h.1 e hl ⟨c + 1, ?_⟩)
      rw [nI_1]
      refine fl79 hS hc6 hg hT hq (getD_mem e) (fun fa2 wk2 lv2 h2 => ?_) c 0 fa wk lv (by omega) h
      rw [vis_6 hc6] at hb
      have := (QI_vis (c := c) hS hq (getD_mem e) c).1
      exact fl50 hS hc6 hg hT hK m (k + 1) _ fa2 wk2 lv2 (by omega) this hb h2
    · rw [bfs_end _ _ _ (by omega)] at hb
      have := hK fa wk lv (by rw [← hb]; exact h)
      rw [← hb] at this
      exact br_t (nI_le (by omega) (by omega)) this
theorem c_findLevels (hS : SOk S) (hc6 : c ≤ 6) (hg : g ≤ 12) (hT : Tu S c tu) {fa wk lv : Nat → Int32} {ws rr gr : Int32} (hf : ∀ t, t < 4096 → fa t = nI (fc S c g t)) {post : (Nat → Int32) → Int32 → (Nat → Int32) → Int32 → Int32 → (Nat → Int32) → Prop} (hp : ∀ fa wk lv, CQ S c g (come S c) fa wk lv → post fa (nI (come S c).1.length) wk (nI (come S c).1.length) (tI (grl S c)) lv) : wp_Runs_findLevels (nI c) fa tu ws wk rr gr lv post := by
  have h0 : CQ S c g (bl S 0, la S 0) fa wk (vp_fill lv 4096 (-1)) := by
    refine ⟨fun k hk => absurd hk (Nat.not_lt_zero k), fun t ht => ?_, fun t ht => ?_⟩
    · show (if t < 4096 then (-1 : Int32) else lv t) = tI (la S 0 t)
      rw [if_pos ht]; rfl
    · rw [hf t ht]; rfl
  have hla : la S 4096 = fun t => if t < 4096 then l0 S t else none := rfl
  refine ⟨4097, fl17 hS hg (fun fa1 wk1 lv1 h1 => ⟨4097, ?_⟩) 4096 0 fa wk _ rfl h0⟩
  have h2 : CQ S c g (bl S 4096, l0 S) fa1 wk1 lv1 := by
    refine ⟨h1.1, fun t ht => ?_, fun t ht => ?_⟩
    · rw [h1.2.1 t ht]; show tI (if t < 4096 then l0 S t else none) = tI (l0 S t); rw [if_pos ht]
    · rw [h1.2.2 t ht]
      have e : no1 (la S 4096) t = no1 (l0 S) t := by
        have e2 : la S 4096 t = l0 S t := if_pos ht
        unfold no1; rw [e2]
      show nI (fc S c g t + 4 * (1 - no1 (la S 4096) t)) = _
      rw [e]
  refine fl50 hS hc6 hg hT (fun fa2 wk2 lv2 h3 => ?_) 4096 0 (bl S 4096, l0 S) fa1 wk1 lv1 rfl QI_0 rfl h2
  have hq := QI_come (c := c) hS
  have hl := QI_le hq
  have hpp := hp fa2 wk2 lv2 h3
  unfold grl at hpp
  generalize come S c = q at *
  by_cases e : q.1.length = 0
  · rw [if_pos e] at hpp
    exact br_t (show nI q.1.length ≤ nI 0 from nI_le (by omega) (by omega)) hpp
  · rw [if_neg e] at hpp
    refine br_f (show ¬ nI q.1.length ≤ nI 0 from nI_ge (by omega) (by omega)) ?_
    rw [nI_sub1 (by omega)]
    refine q_item h3.1 (by omega) hl ?_
    have hm := getD_mem (Q := q.1) (k := q.1.length - 1) (by omega)
    exact q_levelOf (hq.1 _ hm).1 h3.2.1 hpp
end CL
