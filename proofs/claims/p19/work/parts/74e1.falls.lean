/-! falls: by what the runs fall -/
section FA
variable {S : Nat → Option (List Nat)} {c g : Nat}
/-- turn j of s, if there is one, leads to a smaller rank -/
def rf (S : Nat → Option (List Nat)) (c s j : Nat) : Prop := ∀ t, nxc S c s j = some t → val S t 2 < val S s 2
def fl (S : Nat → Option (List Nat)) (c s : Nat) : Prop := (come S c).2 s = none ∨ ∀ j, j < c → rf S c s j
theorem q_rankOf (hS : SOk S) (hg : g ≤ 12) {fa : Nat → Int32} {L : Nat → Option Nat} (hF : FaL S c g fa L) {t : Nat} (ht : t < 4096) {post : Int32 → Prop} (h : post (nI (val S t 2))) : wp_Loop_rankOf (nI t) fa post := by
  refine q_isState ht (br_f (by decide) ⟨vp_in_nI ht (by decide), ?_⟩)
  have hb := Gb_lt12 hS hg t
  have hr := val_lt16 hS t
  obtain ⟨y, hy, e⟩ := fc_low (c := c) (g := g) hS t (1 - no1 L t) (by omega)
  rw [nI_clamp (by omega), hF t ht, e, pk_shrN (by omega) _ 16 (by decide +kernel), pk_andN (by omega) 4 rfl]
  rw [show (16 * (4096 * val S t 2 + Gb S t g) + y) / 2 ^ 16 % 2 ^ 4 = val S t 2 by omega]
  exact h
theorem tI_m1 {x : Option Nat} (h : ∀ t, x = some t → t < 2 ^ 31) : tI x = -1 ↔ x = none := by
  cases x with
  | none => exact ⟨fun _ => rfl, fun _ => rfl⟩
  | some t =>
    refine ⟨fun e => ?_, fun e => by cases e⟩
    have := nI_pos (h t rfl)
    rw [show nI t = -1 from e] at this
    exact absurd (by decide) this
theorem rf11x (hS : SOk S) (hc : c ≤ 6) (hg : g ≤ 12) {fa tu : Nat → Int32} {L : Nat → Option Nat} (hF : FaL S c g fa L) (hT : Tu S c tu) {s : Nat} (hs : s < 4096) {K1 K2 : Prop} (h1 : (∀ j, j < c → rf S c s j) → K1) (h2 : (∃ j, j < c ∧ ¬ rf S c s j) → K2) : ∀ m i, i + m = c → (∀ j, j < i → rf S c s j) → wp_Runs_rankFallsFrom_L11 (nI s) (nI (val S s 2)) (nI c) fa tu K1 K2 (m + 1) (nI i)
  | 0, i, hi, hp => by
    have : i = c := by omega
    subst this
    exact br_t (nI_le (Nat.le_refl _) (by omega)) (h1 hp)
  | m + 1, i, hi, hp => by
    have ih := rf11x hS hc hg hF hT hs h1 h2 m (i + 1) (by omega)
    refine br_f (nI_ge (by omega) (by omega)) (q_turn hc hT (by omega) hs ?_)
    have ex : nxc S c s i = nx S s i := if_pos (by omega)
    rw [nI_1]
    cases e : nx S s i with
    | none => exact br_t rfl (ih (fun j hj => by
        by_cases z : j = i
        · subst z; intro t q; rw [ex, e] at q; cases q
        · exact hp j (by omega)))
    | some t =>
      have ht := nx_lt hS e
      have hr := val_lt16 hS t
      have hr2 := val_lt16 hS s
      refine br_f (fun q => absurd ((tI_m1 (x := some t) (fun u hu => by cases hu; omega)).mp q) (by simp)) (q_rankOf hS hg hF ht (br_c (fun q => ih (fun j hj => ?_)) (fun q => h2 ⟨i, by omega, fun z => q (nI_lt (z t (ex.trans e)) (by omega))⟩)))
      by_cases z : j = i
      · subst z; intro t' q2; rw [ex, e] at q2; cases q2; exact (nI_ltI (by omega) (by omega)).mp q
      · exact hp j (by omega)
theorem come_bit (hS : SOk S) (hg : g ≤ 12) {fa : Nat → Int32} (hF : FaL S c g fa (come S c).2) {t : Nat} (ht : t < 4096) {post : Int32 → Prop} (h0 : (come S c).2 t = none → post 0) (h1 : ∀ x, (come S c).2 t = some x → post 1) : wp_Loop_hasAll (nI t) 4 fa post := by
  have hfl := fc_lt (S := S) (c := c) (g := g) hS hg t
  refine q_hasAll (m := 2 ^ 2) ht (hF t ht) (by omega) (by decide) ?_
  rw [has_bit, (fb (c := c) (g := g) hS t _ (show 1 - no1 (come S c).2 t ≤ 1 by omega)).2.2.1]
  cases e : (come S c).2 t with
  | none => rw [no1_none e]; exact h0 e
  | some x => rw [no1_some e]; exact h1 x e
theorem ra2x (hS : SOk S) (hc : c ≤ 6) (hg : g ≤ 12) {fa tu : Nat → Int32} (hF : FaL S c g fa (come S c).2) (hT : Tu S c tu) {K1 K2 : Prop} (h1 : (∀ s, s < 4096 → fl S c s) → K1) (h2 : (∃ s, s < 4096 ∧ ¬ fl S c s) → K2) : ∀ m s, s + m = 4096 → (∀ t, t < s → fl S c t) → wp_Runs_rankAlwaysFalls_L2 (nI c) fa tu K1 K2 (m + 1) (nI s)
  | 0, s, hs, hp => by
    have : s = 4096 := by omega
    subst this
    exact br_t (show nI 4096 ≤ nI 4096 from nI_le (Nat.le_refl _) (by decide)) (h1 hp)
  | m + 1, s, hs, hp => by
    have ih := ra2x hS hc hg hF hT h1 h2 m (s + 1) (by omega)
    have st : fl S c s → ∀ t, t < s + 1 → fl S c t := fun z t ht => by
      by_cases e : t = s
      · subst e; exact z
      · exact hp t (by omega)
    refine br_f (show ¬ nI 4096 ≤ nI s from nI_ge (by omega) (by decide)) ?_
    rw [nI_1]
    refine come_bit hS hg hF (by omega) (fun e => br_t rfl (ih (st (Or.inl e)))) (fun x e => br_f (by decide) ?_)
    refine q_rankOf hS hg hF (by omega) ⟨c + 1, rf11x hS hc hg hF hT (by omega) (fun z => bn_f (by decide) (ih (st (Or.inr z)))) (fun z => bn_t rfl (h2 ⟨s, by omega, fun q => ?_⟩)) c 0 (by omega) (fun j hj => absurd hj (Nat.not_lt_zero j))⟩
    obtain ⟨j, hj, hn⟩ := z
    rcases q with q | q
    · rw [e] at q; cases q
    · exact hn (q j hj)
/-- the reference -/
theorem fa32x {l : Nat} {ac nm rk nr lv : Nat → Int32} (hS : SOk S) (hc : c ≤ 6) (hN : NxR S c nr) (hl : l < 2) (hW : ∀ t, t < 4096 → ∀ (st : Nat → Int32) (post : Int32 → (Nat → Int32) → Prop), (∀ st, post (nI (val S t 2)) st) → wp_Md_work (rk l) (nI t) ac nm st post) {s x : Nat} (hs : s < 4096) (hx : lv s = nI x) (hx2 : x < 4096) {K1 K2 : (Nat → Int32) → Prop} (h1 : (∀ j, j < c → rf S c s j) → ∀ st, K1 st) (h2 : (∃ j, j < c ∧ ¬ rf S c s j) → ∀ st, K2 st) : ∀ m i st, i + m = 6 → (∀ j, j < i → rf S c s j) → wp_Md_falls_L32 (nI s) (nI l) ac nm rk nr lv K1 K2 (m + 1) (nI i) st
  | 0, i, st, hi, hp => by
    have : i = 6 := by omega
    subst this
    exact br_t (show nI 6 ≤ nI 6 from nI_le (Nat.le_refl _) (by decide)) (h1 (fun j hj => hp j (by omega)) _)
  | m + 1, i, st, hi, hp => by
    have ih := fun st => fa32x hS hc hN hl hW hs hx hx2 h1 h2 m (i + 1) st (by omega)
    have hcl : (nI l).toNatClampNeg = l := nI_clamp (by omega)
    refine br_f (show ¬ nI 6 ≤ nI i from nI_ge (by omega) (by decide)) ⟨vp_in_nI hs (by decide), ?_⟩
    rw [nI_clamp (by omega), hx]
    refine br_f (nI_pos (by omega)) ⟨(nxi hs (by omega)).1, fun x3 e3 => ?_⟩
    rw [(nxi hs (by omega)).2, hN s hs i (by omega)] at e3
    subst e3
    rw [nI_1]
    cases e : nxc S c s i with
    | none => exact br_t (show (-1 : Int32) < 0 by decide) (ih st (fun j hj => by
        by_cases z : j = i
        · subst z; intro t q; rw [e] at q; cases q
        · exact hp j (by omega)))
    | some t =>
      have ht := nxc_lt hS e
      have hr := val_lt16 hS t
      have hr2 := val_lt16 hS s
      have hic : i < c := Nat.lt_of_not_le (fun z => by rw [show nxc S c s i = none from if_neg (by omega)] at e; cases e)
      refine br_f (nI_pos (by omega)) ⟨vp_in_nI hl (by decide), ?_⟩
      rw [hcl]
      refine hW t ht _ _ (fun st2 => ⟨vp_in_nI hl (by decide), hW s hs _ _ (fun st3 => br_c (fun q => ih st3 (fun j hj => ?_)) (fun q => h2 ⟨i, hic, fun z => q (nI_lt (z t e) (by omega))⟩ _))⟩)
      by_cases z : j = i
      · subst z; intro t' q2; rw [e] at q2; cases q2; exact (nI_ltI (by omega) (by omega)).mp q
      · exact hp j (by omega)
theorem fa23x {l : Nat} {ac nm rk nr lv : Nat → Int32} (hS : SOk S) (hc : c ≤ 6) (hN : NxR S c nr) (hL : LvR lv (come S c).2) (hl : l < 2) (hW : ∀ t, t < 4096 → ∀ (st : Nat → Int32) (post : Int32 → (Nat → Int32) → Prop), (∀ st, post (nI (val S t 2)) st) → wp_Md_work (rk l) (nI t) ac nm st post) {K1 K2 : (Nat → Int32) → Prop} (h1 : (∀ s, s < 4096 → fl S c s) → ∀ st, K1 st) (h2 : (∃ s, s < 4096 ∧ ¬ fl S c s) → ∀ st, K2 st) : ∀ m s st, s + m = 4096 → (∀ t, t < s → fl S c t) → wp_Md_falls_L23 (nI l) ac nm rk nr lv K1 K2 (m + 1) (nI s) st
  | 0, s, st, hs, hp => by
    have : s = 4096 := by omega
    subst this
    exact br_t (show nI 4096 ≤ nI 4096 from nI_le (Nat.le_refl _) (by decide)) (h1 hp _)
  | m + 1, s, st, hs, hp => by
    have ih := fun st => fa23x hS hc hN hL hl hW h1 h2 m (s + 1) st (by omega)
    have st1 : fl S c s → ∀ t, t < s + 1 → fl S c t := fun z t ht => by
      by_cases e : t = s
      · subst e; exact z
      · exact hp t (by omega)
    refine br_f (show ¬ nI 4096 ≤ nI s from nI_ge (by omega) (by decide)) ?_
    rw [nI_1]
    have hlv := hL s (by omega)
    cases e : (come S c).2 s with
    | none =>
      rw [e] at hlv
      refine ⟨1, br_f (show ¬ nI 6 ≤ nI 0 by decide) ⟨vp_in_nI (by omega) (by decide), ?_⟩⟩
      rw [nI_clamp (by omega), hlv]
      exact br_t (show (-1 : Int32) < 0 by decide) (ih _ (st1 (Or.inl e)))
    | some x =>
      rw [e] at hlv
      refine ⟨7, fa32x hS hc hN hl hW (by omega) hlv (lev_lt hS e) (fun z st => ih _ (st1 (Or.inr z))) (fun z st => h2 ⟨s, by omega, fun q => ?_⟩ _) 6 0 st rfl (fun j hj => absurd hj (Nat.not_lt_zero j))⟩
      obtain ⟨j, hj, hn⟩ := z
      rcases q with q | q
      · rw [e] at q; cases q
      · exact hn (q j hj)
end FA
section PF
variable {lg lc lgu lu lr rr rg rp gl ml kb : Int32} {lf lt l1 ls rl rpa gr ac nm bg go rk cc wh be gc gs uc nr iB iG lv hg ro : Nat → Int32}
theorem x_falls (G : Gn lg lc lgu lu lr lf lt l1 ls rr rg rp rl rpa gl gr ml kb ac nm bg go rk cc wh be gc gs uc nr iB iG lv hg ro) {st : Nat → Int32} {post : Int32 → Int32 → (Nat → Int32) → Prop} (h : ∀ r st, post r r st) : wp_LI_falls lg lc lr lf lt (fun r => wp_Md_falls ml ac nm rk st nr lv (fun r' st => post r r' st)) := by
  rcases G with ⟨rfl, rfl⟩ | ⟨rfl, l, S, c, g, u, rfl, hLO, hCI, hRI⟩
  · exact br_t rfl (br_t (by decide) (h _ _))
  · have hRL := RLo_RI hRI
    obtain ⟨rfl, _, _, rfl, hF, hT, _⟩ := hCI
    obtain ⟨hl, _, _, _, _, hN, _, hL, _⟩ := hRI
    obtain ⟨_, _, _, _, hk, _⟩ := hRL
    obtain ⟨hS, _, hc6, hg12, _⟩ := hLO
    have hv : vp_in (nI l) 2 := vp_in_nI hl (by decide)
    have hcl : (nI l).toNatClampNeg = l := nI_clamp (by omega)
    refine br_f (by decide) ?_
    cases e2 : S 2 with
    | none =>
      refine ⟨Or.inl rfl, bn_t rfl (br_f (nI_pos (by omega)) ⟨hv, ?_⟩)⟩
      rw [hcl, hk.1 e2]
      exact br_f (by decide) (h _ _)
    | some o =>
      obtain ⟨p, hp, hat⟩ := hk.2 o e2
      have hp0 := hat.1
      have hW : ∀ t, t < 4096 → ∀ (st : Nat → Int32) (post : Int32 → (Nat → Int32) → Prop), (∀ st, post (nI (val S t 2)) st) → wp_Md_work (rk l) (nI t) ac nm st post := fun t ht st post hpo => r_valx hS e2 hp hat ht hpo
      have M : ∀ r, ((∀ s, s < 4096 → fl S c s) → r = 1) → ((∃ s, s < 4096 ∧ ¬ fl S c s) → r = 0) → wp_Md_falls (nI l) ac nm rk st nr lv (fun r' st => post r r' st) := fun r a b => by
        refine br_f (nI_pos (by omega)) ⟨hv, ?_⟩
        refine br_t (by rw [hcl, hp]; exact nI_pos' (by omega)) ⟨4097, fa23x hS hc6 hN hL hl hW (fun z st => ?_) (fun z st => ?_) 4096 0 st rfl (fun j hj => absurd hj (Nat.not_lt_zero j))⟩
        · rw [a z]; exact h _ _
        · rw [b z]; exact h _ _
      refine ⟨Or.inr rfl, bn_f (show ¬ (1 : Int32) = 0 by decide) ⟨4097, ra2x hS hc6 hg12 hF hT (fun z => br_f (by decide) (M 1 (fun _ => rfl) (fun y => ?_))) (fun z => br_t rfl (M 0 (fun y => ?_) (fun _ => rfl))) 4096 0 rfl (fun j hj => absurd hj (Nat.not_lt_zero j))⟩⟩
      · obtain ⟨s, hs, hn⟩ := y
        exact absurd (z s hs) hn
      · obtain ⟨s, hs, hn⟩ := z
        exact absurd (y s hs) hn
end PF
