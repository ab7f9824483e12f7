/-! ask: what is asked of the states, on both sides -/
section AQ
variable {S : Nat → Option (List Nat)} {c g : Nat}
theorem LF_congr {al : Bool} {v v' : Nat → Prop} {s : Nat} (h : ∀ t, t < 4096 → (v t ↔ v' t)) : LFx al S c v s ↔ LFx al S c v' s := ⟨fun q X h1 h2 => q X (fun t ht hv => h1 t ht ((h t ht).mp hv)) h2, fun q X h1 h2 => q X (fun t ht hv => h1 t ht ((h t ht).mpr hv)) h2⟩
theorem cw_not (P : Nat → Bool) : ∀ n, cw P n + cw (fun t => !P t) n = n
  | 0 => rfl
  | n + 1 => by
    have := cw_not P n
    rw [cw_s, cw_s]
    cases P n <;> simp <;> omega
/-- what kind k of question answers, asked of the states that have vb -/
def AskR (S : Nat → Option (List Nat)) (c : Nat) (vb : Nat → Bool) (k : Nat) (r : Int32) : Prop :=
  (k = 0 → r = nI (cw vb 4096)) ∧ (k = 1 → r = nI (cw (fun t => vb t && cmb S c t) 4096)) ∧ (k = 2 ∨ k = 3 → ∃ P : Nat → Bool, (∀ t, t < 4096 → (P t = true ↔ LFx (decide (k = 3)) S c (fun t => vb t = true) t)) ∧ r = nI (cw P 4096)) ∧ (k = 4 → ∃ P : Nat → Bool, (∀ t, t < 4096 → (P t = true ↔ LFx false S c (fun t => vb t = false) t)) ∧ r = nI (4096 - cw P 4096))
theorem bool_ext {a b : Bool} (h : a = true ↔ b = true) : a = b := by
  cases a <;> cases b
  · rfl
  · exact (h.mpr rfl)
  · exact (h.mp rfl).symm
  · rfl
theorem AskR_eq {vb : Nat → Bool} {k : Nat} (hk : k ≤ 4) {r r' : Int32} (h : AskR S c vb k r) (h' : AskR S c vb k r') : r = r' := by
  rcases (show k = 0 ∨ k = 1 ∨ (k = 2 ∨ k = 3) ∨ k = 4 by omega) with e | e | e | e
  · rw [h.1 e, h'.1 e]
  · rw [h.2.1 e, h'.2.1 e]
  · obtain ⟨P, hP, e1⟩ := h.2.2.1 e
    obtain ⟨Q, hQ, e2⟩ := h'.2.2.1 e
    rw [e1, e2, cw_ext 4096 (fun t ht => bool_ext ((hP t ht).trans (hQ t ht).symm))]
  · obtain ⟨P, hP, e1⟩ := h.2.2.2 e
    obtain ⟨Q, hQ, e2⟩ := h'.2.2.2 e
    rw [e1, e2, cw_ext 4096 (fun t ht => bool_ext ((hP t ht).trans (hQ t ht).symm))]
-- the class
theorem cm4x {vb H : Nat → Bool} {x1 : Int32} {fa s1 : Nat → Int32} (hs1 : ∀ t, t < 4096 → s1 t = b01 (vb t)) (hH : ∀ t, t < 4096 → ∀ post : Int32 → Prop, post (b01 (H t)) → wp_Loop_hasAll (nI t) x1 fa post) {K : Int32 → Prop} (hK : K (nI (cw (fun t => vb t && H t) 4096))) : ∀ m s, s + m = 4096 → wp_Fut_countMarked_L4 x1 fa s1 K (m + 1) (nI (cw (fun t => vb t && H t) s)) (nI s)
  | 0, s, hs => by
    have : s = 4096 := by omega
    subst this
    exact br_t (show nI 4096 ≤ nI 4096 from nI_le (Nat.le_refl _) (by decide)) hK
  | m + 1, s, hs => by
    have ih := cm4x hs1 hH hK m (s + 1) (by omega)
    rw [cw_s] at ih
    refine br_f (show ¬ nI 4096 ≤ nI s from nI_ge (by omega) (by decide)) ⟨vp_in_nI (by omega) (by decide), ?_⟩
    rw [nI_clamp (show s < 2 ^ 31 by omega), hs1 s (by omega), nI_1 s, nI_1]
    cases e : vb s with
    | false =>
      have ih : wp_Fut_countMarked_L4 x1 fa s1 K (m + 1) (nI (cw (fun t => vb t && H t) s + if (vb s && H s) then 1 else 0)) (nI (s + 1)) := ih
      rw [e] at ih
      exact bn_f (by decide) ih
    | true =>
      refine bn_t rfl (hH s (by omega) _ ?_)
      have ih : wp_Fut_countMarked_L4 x1 fa s1 K (m + 1) (nI (cw (fun t => vb t && H t) s + if (vb s && H s) then 1 else 0)) (nI (s + 1)) := ih
      rw [e] at ih
      cases e2 : H s with
      | false => rw [e2] at ih; exact br_t rfl ih
      | true => rw [e2] at ih; exact br_f (by decide) ih
theorem tm2x {vb : Nat → Bool} {K : (Nat → Int32) → Prop} (h : ∀ s1, (∀ t, t < 4096 → s1 t = b01 (!vb t)) → K s1) : ∀ m s s1, s + m = 4096 → (∀ t, t < s → s1 t = b01 (!vb t)) → (∀ t, s ≤ t → t < 4096 → s1 t = b01 (vb t)) → wp_Fut_turnMarks_L2 K (m + 1) (nI s) s1
  | 0, s, s1, hs, h1, h2 => by
    have : s = 4096 := by omega
    subst this
    exact br_t (show nI 4096 ≤ nI 4096 from nI_le (Nat.le_refl _) (by decide)) (h s1 h1)
  | m + 1, s, s1, hs, h1, h2 => by
    have hv : vp_in (nI s) 4096 := vp_in_nI (by omega) (by decide)
    refine br_f (show ¬ nI 4096 ≤ nI s from nI_ge (by omega) (by decide)) ⟨hv, hv, ?_⟩
    rw [nI_clamp (show s < 2 ^ 31 by omega), nI_1, h2 s (Nat.le_refl _) (by omega)]
    refine tm2x h m (s + 1) _ (by omega) (fun t ht => ?_) (fun t ht ht2 => ?_)
    · by_cases e : t = s
      · subst e; rw [pk_us]; cases vb t <;> decide
      · rw [pk_un e]; exact h1 t (by omega)
    · rw [pk_un (by omega)]; exact h2 t (by omega) ht2
theorem b01_nz (b : Bool) : b01 b ≠ 0 ↔ b = true := by cases b <;> decide
theorem b01_Bz {f : Nat → Int32} {vb : Nat → Bool} (h : ∀ t, t < 4096 → f t = b01 (vb t)) : Bz f := fun t ht => by
  rw [h t ht]
  cases vb t
  · exact Or.inl rfl
  · exact Or.inr rfl
theorem c_answer (hS : SOk S) (hc : c ≤ 6) (hg : g ≤ 12) {fa tu f sr s1 s2 wi : Nat → Int32} {ws : Int32} (hF : FaL S c g fa (come S c).2) (hT : Tu S c tu) (hR : Sr S c f sr) {vb : Nat → Bool} (hs1 : ∀ t, t < 4096 → s1 t = b01 (vb t)) {k : Nat} (hk : k ≤ 4) {post : Int32 → (Nat → Int32) → (Nat → Int32) → Int32 → (Nat → Int32) → Prop} (h : ∀ r s1 s2 ws wi, AskR S c vb k r → post r s1 s2 ws wi) : wp_Fut_answer (nI k) (nI c) fa tu f sr s1 s2 ws wi post := by
  have lead : ∀ (al : Bool) (vb : Nat → Bool) (s1' : Nat → Int32), (∀ t, t < 4096 → s1' t = b01 (vb t)) → ∀ (post : Int32 → (Nat → Int32) → (Nat → Int32) → Int32 → (Nat → Int32) → Prop), (∀ (P : Nat → Bool) s1 s2 ws wi, (∀ t, t < 4096 → (P t = true ↔ LFx al S c (fun t => vb t = true) t)) → post (nI (cw P 4096)) s1 s2 ws wi) → wp_Fut_countLeading (b01 al) (nI c) tu f sr s1' s2 ws wi post := fun al vb s1' hs1' post hp => by
    refine c_leading hS hc hT hR (b01_Bz hs1') (fun s1'' s2 ws wi hb hl => hp _ _ _ _ _ (fun t ht => ?_))
    rw [decide_eq_true_iff, show (s1'' t = 1 ↔ s1'' t ≠ 0) from ⟨fun q => by rw [q]; decide, fun q => (hb t ht).resolve_left q⟩, hl t ht]
    exact LF_congr (fun t ht => by rw [hs1' t ht]; exact b01_nz _)
  have cnt : ∀ (x1 : Int32) (H : Nat → Bool), (∀ t, t < 4096 → ∀ post : Int32 → Prop, post (b01 (H t)) → wp_Loop_hasAll (nI t) x1 fa post) → ∀ post : Int32 → Prop, post (nI (cw (fun t => vb t && H t) 4096)) → wp_Fut_countMarked x1 fa s1 post := fun x1 H hH post hp => ⟨4097, cm4x hs1 hH hp 4096 0 rfl⟩
  rcases (show k = 0 ∨ k = 1 ∨ k = 2 ∨ k = 3 ∨ k = 4 by omega) with e | e | e | e | e <;> subst e
  · refine ⟨fun _ => cnt 0 (fun _ => true) (fun t ht post hp => ?_) _ (h _ _ _ _ _ ⟨fun _ => ?_, fun q => absurd q (by decide), fun q => absurd q (by decide), fun q => absurd q (by decide)⟩), fun q => absurd q (by decide), fun q => absurd q (by decide), fun q => absurd q (by decide), fun q => absurd q (by decide), fun q _ _ _ _ => absurd rfl q⟩
    · have hfl := fc_lt (S := S) (c := c) (g := g) hS hg t
      refine q_hasAll (m := 0) ht (hF t ht) (by omega) (by decide) ?_
      rw [Nat.and_zero]; exact hp
    · exact congrArg nI (cw_ext 4096 (fun t _ => Bool.and_true _))
  · exact ⟨fun q => absurd q (by decide), fun _ => cnt 4 (cmb S c) (fun t ht post hp => (c_mask (a := 0) hS hg hF ht (by decide)).2.2.1 hp) _ (h _ _ _ _ _ ⟨fun q => absurd q (by decide), fun _ => rfl, fun q => absurd q (by decide), fun q => absurd q (by decide)⟩), fun q => absurd q (by decide), fun q => absurd q (by decide), fun q => absurd q (by decide), fun _ q _ _ _ => absurd rfl q⟩
  · exact ⟨fun q => absurd q (by decide), fun q => absurd q (by decide), fun _ => lead false vb s1 hs1 _ (fun P s1 s2 ws wi hP => h _ _ _ _ _ ⟨fun q => absurd q (by decide), fun q => absurd q (by decide), fun _ => ⟨P, hP, rfl⟩, fun q => absurd q (by decide)⟩), fun q => absurd q (by decide), fun q => absurd q (by decide), fun _ _ q _ _ => absurd rfl q⟩
  · exact ⟨fun q => absurd q (by decide), fun q => absurd q (by decide), fun q => absurd q (by decide), fun _ => lead true vb s1 hs1 _ (fun P s1 s2 ws wi hP => h _ _ _ _ _ ⟨fun q => absurd q (by decide), fun q => absurd q (by decide), fun _ => ⟨P, hP, rfl⟩, fun q => absurd q (by decide)⟩), fun q => absurd q (by decide), fun _ _ _ q _ => absurd rfl q⟩
  · have t4 : wp_Fut_turnMarks s1 (fun s1_13 => wp_Fut_countLeading 0 (nI c) tu f sr s1_13 s2 ws wi (fun r_14 s1_15 s2_16 ws_17 wi_18 => post (4096 - r_14) s1_15 s2_16 ws_17 wi_18)) := by
      refine ⟨4097, tm2x (vb := vb) (fun s1' hs1' => ?_) 4096 0 s1 rfl (fun t ht => absurd ht (Nat.not_lt_zero t)) (fun t _ ht => hs1 t ht)⟩
      refine lead false (fun t => !vb t) s1' hs1' _ (fun P s1 s2 ws wi hP => ?_)
      have e : (4096 : Int32) - nI (cw P 4096) = nI (4096 - cw P 4096) := pk_sub (a := 4096) (cw_le P 4096)
      rw [e]
      exact h _ _ _ _ _ ⟨fun q => absurd q (by decide), fun q => absurd q (by decide), fun q => absurd q (by decide), fun _ => ⟨P, fun t ht => (hP t ht).trans (LF_congr (fun t _ => by cases vb t <;> simp)), rfl⟩⟩
    exact ⟨fun q => absurd q (by decide), fun q => absurd q (by decide), fun q => absurd q (by decide), fun q => absurd q (by decide), fun _ => t4, fun _ _ _ _ q => absurd rfl q⟩
-- the reference
def Vk (S : Nat → Option (List Nat)) (c : Nat) (vb : Nat → Bool) (k t : Nat) : Bool := if k = 1 then (vb t && cmb S c t) else if k = 4 then !vb t else vb t
theorem ajx (hS : SOk S) {vb : Nat → Bool} {k : Nat} (hk : k ≤ 4) {x2 : Int32} {s : Nat} (hs : s < 4096) {ac nm st lv mk0 : Nat → Int32} (hL : LvR lv (come S c).2) {kb : Int32 → (Nat → Int32) → (Nat → Int32) → Prop} {K : (Nat → Int32) → (Nat → Int32) → Prop} (h : kb (nI (s + 1)) st (upd mk0 s (b01 (Vk S c vb k s)))) : wp_Md_ask_J104 (nI k) x2 (nI s) (b01 (vb s)) ac nm st lv mk0 kb K := by
  have hv : vp_in (nI s) 4096 := vp_in_nI hs (by decide)
  have hcl : (nI s).toNatClampNeg = s := nI_clamp (by omega)
  have e1 : nI k = nI 1 ↔ k = 1 := nI_eq (by omega) (by decide)
  have e4 : nI k = nI 4 ↔ k = 4 := nI_eq (by omega) (by decide)
  unfold wp_Md_ask_J104
  rw [nI_1, hcl, hL s hs]
  unfold Vk at h
  refine bn_c (fun q => bn_c (fun q2 => ⟨hv, ?_⟩) (fun q2 => ?_)) (fun q => ?_)
  · rw [if_neg (fun z => q (e1.mpr z)), if_neg (fun z => q2 (e4.mpr z))] at h
    cases e : vb s with
    | false => rw [e] at h; rw [show vp_nar .boolean (b01 false) = b01 false from nar0]; exact h
    | true => rw [e] at h; rw [show vp_nar .boolean (b01 true) = b01 true from nar1]; exact h
  · rw [if_neg (fun z => q (e1.mpr z)), if_pos (e4.mp q2)] at h
    cases e : vb s with
    | false => rw [e] at h; refine bn_t rfl ⟨hv, ?_⟩; rw [nar1]; exact h
    | true => rw [e] at h; refine bn_f (by decide) ⟨hv, ?_⟩; rw [nar0]; exact h
  · rw [if_pos (e1.mp q)] at h
    cases e : vb s with
    | false => rw [e] at h; refine br_t rfl ⟨hv, ?_⟩; rw [nar0]; exact h
    | true =>
      rw [e] at h
      refine br_f (by decide) ⟨hv, ?_⟩
      unfold cmb at h
      cases e2 : (come S c).2 s with
      | none => rw [e2] at h; refine br_t (show (-1 : Int32) < 0 by decide) ⟨hv, ?_⟩; rw [nar0]; exact h
      | some x =>
        have := lev_lt hS e2
        rw [e2] at h; refine br_f (nI_pos (show x < 2 ^ 31 by omega)) ⟨hv, ?_⟩; rw [nar1]; exact h
theorem a82x (hS : SOk S) {vb : Nat → Bool} {k : Nat} (hk : k ≤ 4) {x2 : Int32} {ac nm lv : Nat → Int32} (hL : LvR lv (come S c).2) (hW : ∀ t, t < 4096 → ∀ (st : Nat → Int32) (post : Int32 → (Nat → Int32) → Prop), (∀ st, post (b01 (vb t)) st) → wp_Md_work x2 (nI t) ac nm st post) {K : (Nat → Int32) → (Nat → Int32) → Prop} (h : ∀ st mk0, (∀ t, t < 4096 → mk0 t = b01 (Vk S c vb k t)) → K st mk0) : ∀ m s st mk0, s + m = 4096 → (∀ t, t < s → mk0 t = b01 (Vk S c vb k t)) → wp_Md_ask_L82 (nI k) x2 ac nm lv K (m + 1) (nI s) st mk0 := by
  intro m
  induction m with
  | zero =>
    intro s st mk0 hs hm
    have : s = 4096 := by omega
    subst this
    exact br_t (show nI 4096 ≤ nI 4096 from nI_le (Nat.le_refl _) (by decide)) (h _ _ hm)
  | succ m ih =>
    intro s st mk0 hs hm
    refine br_f (show ¬ nI 4096 ≤ nI s from nI_ge (by omega) (by decide)) (hW s (by omega) st _ (fun st2 => ?_))
    have J := fun b (hb : vb s = b) => ajx (S := S) (c := c) (vb := vb) (k := k) (x2 := x2) (ac := ac) (nm := nm) (st := st2) (mk0 := mk0) hS hk (s := s) (by omega) hL (K := K) (kb := wp_Md_ask_L82 (nI k) x2 ac nm lv K (m + 1)) (ih (s + 1) _ _ (by omega) (fun t ht => by
      by_cases e : t = s
      · subst e; rw [pk_us]
      · rw [pk_un e]; exact hm t (by omega)))
    cases e : vb s with
    | false => have J := J false e; rw [e] at J; exact bn_f (by decide) J
    | true => have J := J true e; rw [e] at J; exact bn_t rfl J
theorem a196x {k : Nat} (hk : k ≤ 4) {mk0 : Nat → Int32} {P : Nat → Bool} (hP : ∀ t, t < 4096 → P t = if k = 4 then decide (¬ mk0 t = 1) else decide (¬ mk0 t = 0)) {K : Int32 → Prop} (h : K (nI (cw P 4096))) : ∀ m s, s + m = 4096 → wp_Md_ask_L196 (nI k) mk0 K (m + 1) (nI (cw P s)) (nI s)
  | 0, s, hs => by
    have : s = 4096 := by omega
    subst this
    exact br_t (show nI 4096 ≤ nI 4096 from nI_le (Nat.le_refl _) (by decide)) h
  | m + 1, s, hs => by
    have ih := a196x hk hP h m (s + 1) (by omega)
    rw [cw_s, hP s (by omega)] at ih
    have e4 : nI k = nI 4 ↔ k = 4 := nI_eq (by omega) (by decide)
    have z0 : ∀ a : Nat, nI a + (0 : Int32) = nI a := fun a => nI_add a 0
    refine br_f (show ¬ nI 4096 ≤ nI s from nI_ge (by omega) (by decide)) ⟨vp_in_nI (by omega) (by decide), ?_⟩
    rw [nI_clamp (show s < 2 ^ 31 by omega), nI_1 s]
    refine bn_c (fun q => ?_) (fun q => ?_)
    · rw [if_neg (fun z => q (e4.mpr z))] at ih
      refine br_c (fun z x ex => ?_) (fun z x ex => ?_)
      · rw [decide_eq_false (fun y => y z)] at ih; rw [ex, z0]; exact ih
      · rw [decide_eq_true z] at ih; rw [ex, nI_1]; exact ih
    · rw [if_pos (e4.mp q)] at ih
      refine br_c (fun z x ex => ?_) (fun z x ex => ?_)
      · rw [decide_eq_false (fun y => y z)] at ih; rw [ex, z0]; exact ih
      · rw [decide_eq_true z] at ih; rw [ex, nI_1]; exact ih
theorem aJ0x (hS : SOk S) (hc : c ≤ 6) {nr lv : Nat → Int32} (hN : NxR S c nr) (hL : LvR lv (come S c).2) {vb : Nat → Bool} {k : Nat} (hk : k ≤ 4) {x2 sz a t p nu sg fp bk un op pd : Int32} {ac nm ct pile st mk0 : Nat → Int32} (hW : ∀ t, t < 4096 → ∀ (st : Nat → Int32) (post : Int32 → (Nat → Int32) → Prop), (∀ st, post (b01 (vb t)) st) → wp_Md_work x2 (nI t) ac nm st post) {post : RAp} (h : ∀ r st mk0, AskR S c vb k r → post r 0 a t p nu sg 0 fp bk un op pd ac nm ct pile st mk0) : wp_Md_ask_J65 (nI k) x2 sz a t p nu sg 0 fp bk un op pd ac nm ct pile st nr lv mk0 post := by
  have e2 : nI k = nI 2 ↔ k = 2 := nI_eq (by omega) (by decide)
  have e3 : nI k = nI 3 ↔ k = 3 := nI_eq (by omega) (by decide)
  have e4 : nI k = nI 4 ↔ k = 4 := nI_eq (by omega) (by decide)
  refine br_t rfl ⟨4097, a82x (vb := vb) hS hk hL hW (fun st mk1 hm => ?_) 4096 0 st mk0 rfl (fun t ht => absurd ht (Nat.not_lt_zero t))⟩
  have hb := b01_Bz hm
  have nz : ∀ t, t < 4096 → (mk1 t ≠ 0 ↔ Vk S c vb k t = true) := fun t ht => by rw [hm t ht]; exact b01_nz _
  have vk : ∀ t, k ≠ 1 → k ≠ 4 → Vk S c vb k t = vb t := fun t h1 h4 => by unfold Vk; rw [if_neg h1, if_neg h4]
  refine br_c (fun q => ?_) (fun q => bn_c (fun q4 => bn_c (fun q3 => ?_) (fun q3 => ?_)) (fun q4 => ?_))
  · have hk2 := e2.mp q
    subst hk2
    refine q_spread hS hN hb (fun f hf hl => ⟨4097, a196x (P := fun t => decide (¬ f t = 0)) hk (fun t _ => by rw [if_neg (by decide)]) (h _ _ _ ⟨fun q => absurd q (by decide), fun q => absurd q (by decide), fun _ => ⟨_, fun t ht => ?_, rfl⟩, fun q => absurd q (by decide)⟩) 4096 0 rfl⟩)
    rw [decide_eq_true_iff]
    exact (hl t ht).trans (LF_congr (fun t ht => (nz t ht).trans (by rw [vk t (by decide) (by decide)])))
  · have hk01 : k = 0 ∨ k = 1 := by
      have a2 : k ≠ 2 := fun z => q (e2.mpr z)
      have a3 : k ≠ 3 := fun z => q3 (e3.mpr z)
      have a4 : k ≠ 4 := fun z => q4 (e4.mpr z)
      omega
    refine ⟨4097, a196x (P := fun t => decide (¬ mk1 t = 0)) hk (fun t _ => by rw [if_neg (by omega)]) (h _ _ _ ⟨fun e => ?_, fun e => ?_, fun e => by omega, fun e => by omega⟩) 4096 0 rfl⟩
    · refine congrArg nI (cw_ext 4096 (fun t ht => bool_ext ?_))
      rw [decide_eq_true_iff]
      exact (nz t ht).trans (by rw [vk t (by omega) (by omega)])
    · refine congrArg nI (cw_ext 4096 (fun t ht => bool_ext ?_))
      rw [decide_eq_true_iff]
      refine (nz t ht).trans ?_
      unfold Vk
      rw [if_pos e]
  · have hk3 := e3.mp q3
    subst hk3
    refine q_spreadAll hS hc hN hb (fun f hf hl => ⟨4097, a196x (P := fun t => decide (¬ f t = 0)) hk (fun t _ => by rw [if_neg (by decide)]) (h _ _ _ ⟨fun q => absurd q (by decide), fun q => absurd q (by decide), fun _ => ⟨_, fun t ht => ?_, rfl⟩, fun q => absurd q (by decide)⟩) 4096 0 rfl⟩)
    rw [decide_eq_true_iff]
    exact (hl t ht).trans (LF_congr (fun t ht => (nz t ht).trans (by rw [vk t (by decide) (by decide)])))
  · have hk4 := e4.mp q4
    subst hk4
    refine q_spread hS hN hb (fun f hf hl => ⟨4097, a196x (P := fun t => decide (¬ f t = 1)) hk (fun t _ => by rw [if_pos rfl]) (h _ _ _ ⟨fun q => absurd q (by decide), fun q => absurd q (by decide), fun q => absurd q (by decide), fun _ => ⟨fun t => decide (f t = 1), fun t ht => ?_, ?_⟩⟩) 4096 0 rfl⟩)
    · rw [decide_eq_true_iff, show (f t = 1 ↔ f t ≠ 0) from ⟨fun q => by rw [q]; decide, fun q => (hf t ht).resolve_left q⟩]
      refine (hl t ht).trans (LF_congr (fun t ht => (nz t ht).trans ?_))
      unfold Vk
      rw [if_neg (by decide), if_pos rfl]
      cases vb t <;> simp
    · have hn := cw_not (fun t => decide (f t = 1)) 4096
      have e5 : cw (fun t => decide (¬ f t = 1)) 4096 = cw (fun t => !decide (f t = 1)) 4096 := cw_ext 4096 (fun t _ => by simp)
      rw [e5]
      exact congrArg nI (by omega)
end AQ
