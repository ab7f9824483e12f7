/-! longest: the class takes states once all turns to them are taken -/
section LG
variable {S : Nat → Option (List Nat)} {c g : Nat}
/-- a run of k turns through states come to ends in t -/
def En (S : Nat → Option (List Nat)) (c : Nat) : Nat → Nat → Prop
  | 0, t => Rc1 S c t
  | k + 1, t => ∃ s i, Rc1 S c s ∧ i < 6 ∧ En S c k s ∧ nxc S c s i = some t
theorem En_Lp : ∀ k m t, Rc1 S c t → En S c k t → Pk S c m t → Lpk S c (k + m)
  | 0, m, t, hr, _, hp => ⟨t, hr, by rw [Nat.zero_add]; exact hp⟩
  | k + 1, m, t, hr, ⟨s, i, hs, hi, he, e⟩, hp => by
    have := En_Lp k (m + 1) s hs he ⟨i, t, hi, e, hp⟩
    rw [show k + 1 + m = k + (m + 1) by omega]; exact this
theorem cmb_Rc {t : Nat} (ht : t < 4096) : cmb S c t = true ↔ Rc1 S c t := by
  unfold cmb Rc1
  cases e : (come S c).2 t with
  | none => exact ⟨fun h => (by cases h), fun ⟨_, l, hl⟩ => by cases hl⟩
  | some x => exact ⟨fun _ => ⟨ht, x, rfl⟩, fun _ => rfl⟩
theorem sm_pos {f : Nat → Nat} : ∀ n, 0 < sm f n → ∃ t, t < n ∧ 0 < f t
  | 0, h => absurd h (Nat.lt_irrefl 0)
  | n + 1, h => by
    have h : 0 < sm f n + f n := h
    by_cases z : 0 < f n
    · exact ⟨n, by omega, z⟩
    · obtain ⟨t, ht, hf⟩ := sm_pos (f := f) n (by omega)
      exact ⟨t, by omega, hf⟩
theorem sm_bnd {f : Nat → Nat} {b : Nat} (h : ∀ t, f t ≤ b) : ∀ n, sm f n ≤ n * b
  | 0 => by rw [Nat.zero_mul]; exact Nat.le_refl 0
  | n + 1 => by
    have := sm_bnd h n
    have := h n
    show sm f n + f n ≤ (n + 1) * b
    rw [Nat.succ_mul]
    omega
/-- turns to t from the states come to, below s -/
def arr (S : Nat → Option (List Nat)) (c s t : Nat) : Nat := sm (fun s => if cmb S c s then rcn S s t c else 0) s
theorem ca19x (hS : SOk S) (hc : c ≤ 6) (hg : g ≤ 12) {fa tu : Nat → Int32} (hF : FaL S c g fa (come S c).2) (hT : Tu S c tu) {s : Nat} (hs : s < 4096) {A : Nat → Nat} {K : (Nat → Int32) → Prop} (h : ∀ f, (∀ t, t < 4096 → f t = nI (A t + if cmb S c s then rcn S s t c else 0)) → K f) : ∀ m i f, i + m = c → (∀ t, t < 4096 → f t = nI (A t + if cmb S c s then rcn S s t i else 0)) → wp_Runs_countArrivals_L19 (nI s) (nI c) fa tu K (m + 1) (nI i) f
  | 0, i, f, hi, hf => by
    have : i = c := by omega
    subst this
    exact br_t (nI_le (Nat.le_refl _) (by omega)) (h f hf)
  | m + 1, i, f, hi, hf => by
    have ih := fun f hf => ca19x hS hc hg hF hT hs h m (i + 1) f (by omega) hf
    refine br_f (nI_ge (by omega) (by omega)) (q_turn hc hT (by omega) hs ?_)
    rw [nI_1]
    cases e : nx S s i with
    | none => exact q_isState_m1 (br_t rfl (ih f (fun t ht => by rw [rcn_ne (by rw [e]; simp)]; exact hf t ht)))
    | some u =>
      have hu := nx_lt hS e
      have hin : vp_in (nI u) 4096 := vp_in_nI hu (by decide)
      refine q_isState hu (br_f (by decide) (come_bit hS hg hF hs (fun e2 => br_t rfl (ih f (fun t ht => ?_))) (fun x e2 => br_f (by decide) ⟨hin, hin, ih _ (fun t ht => ?_)⟩)))
      · have := hf t ht
        have ec : cmb S c s = false := by unfold cmb; rw [e2]; rfl
        rw [ec] at this ⊢
        exact this
      · have ec : cmb S c s = true := by unfold cmb; rw [e2]; rfl
        rw [show tI (some u) = nI u from rfl, nI_clamp (show u < 2 ^ 31 by omega)]
        by_cases z : t = u
        · subst z
          have hft := hf t ht
          rw [ec, if_pos rfl] at hft
          rw [pk_us, hft, nI_1, ec, if_pos rfl, rcn_eq e, Nat.add_assoc]
        · rw [pk_un z, hf t ht, ec, rcn_ne (by rw [e]; intro q; injection q with q; exact z q.symm)]
theorem ca10x (hS : SOk S) (hc : c ≤ 6) (hg : g ≤ 12) {fa tu : Nat → Int32} (hF : FaL S c g fa (come S c).2) (hT : Tu S c tu) {K : (Nat → Int32) → Prop} (h : ∀ f, (∀ t, t < 4096 → f t = nI (arr S c 4096 t)) → K f) : ∀ m s f, s + m = 4096 → (∀ t, t < 4096 → f t = nI (arr S c s t)) → wp_Runs_countArrivals_L10 (nI c) fa tu K (m + 1) (nI s) f
  | 0, s, f, hs, hf => by
    have : s = 4096 := by omega
    subst this
    exact br_t (nI_le (Nat.le_refl 4096) (by decide)) (h f hf)
  | m + 1, s, f, hs, hf => by
    refine br_f (show ¬ nI 4096 ≤ nI s from nI_ge (by omega) (by decide)) ⟨c + 1, ca19x hS hc hg hF hT (by omega) (A := arr S c s) (fun f hf => ?_) c 0 f (by omega) (fun t ht => ?_)⟩
    · rw [nI_1]
      exact ca10x hS hc hg hF hT h m (s + 1) f (by omega) hf
    · rw [hf t ht, show rcn S s t 0 = 0 from rfl, ite_self, Nat.add_zero]
/-- the worklist, the turns left to be taken, the lengths -/
def KB (S : Nat → Option (List Nat)) (c : Nat) (W : List Nat) (o : Nat → Nat) (s1 wi : Nat → Int32) : Prop := QL wi W ∧ Dj W ∧ (∀ t, t < 4096 → s1 t = nI (o t) ∧ o t < 2 ^ 30) ∧ (∀ t, t < 4096 → (t ∈ W ↔ cmb S c t = true ∧ o t = 0)) ∧ (∀ t, t ∈ W → t < 4096) ∧ W.length = cw (fun t => cmb S c t && decide (o t = 0)) 4096
def KW (S : Nat → Option (List Nat)) (c N : Nat) (s2 : Nat → Int32) (w : Nat → Nat) : Prop := ∀ t, t < 4096 → s2 t = nI (w t) ∧ w t ≤ N ∧ (Rc1 S c t → En S c (w t) t)
theorem Dj_app {W : List Nat} {t : Nat} (h : Dj W) (hn : t ∉ W) : Dj (W ++ [t]) := by
  intro i j hij hj
  rw [List.length_append] at hj
  have hj : j < W.length + 1 := hj
  rw [getD_app, getD_app, if_pos (by omega)]
  by_cases z : j = W.length
  · rw [if_neg (by omega), if_pos z]
    intro q
    exact hn (q ▸ getD_mem (show i < W.length by omega))
  · rw [if_pos (by omega)]; exact h i j hij (by omega)
theorem mem_app1 {W : List Nat} {t u : Nat} : u ∈ W ++ [t] ↔ u ∈ W ∨ u = t := by
  rw [List.mem_append, List.mem_singleton]
theorem lt30x (hS : SOk S) (hg : g ≤ 12) {fa s1 : Nat → Int32} (hF : FaL S c g fa (come S c).2) {o : Nat → Nat} (ho : ∀ t, t < 4096 → s1 t = nI (o t) ∧ o t < 2 ^ 30) {K : Int32 → (Nat → Int32) → Prop} (h : ∀ W wi, KB S c W o s1 wi → K (nI W.length) wi) : ∀ m s W wi, s + m = 4096 → (QL wi W ∧ Dj W ∧ (∀ t, t ∈ W ↔ t < s ∧ cmb S c t = true ∧ o t = 0) ∧ W.length = cw (fun t => cmb S c t && decide (o t = 0)) s) → wp_Runs_longestTurns_L30 fa s1 K (m + 1) (nI s) (nI W.length) wi
  | 0, s, W, wi, hs, ⟨a1, a2, a3, a4⟩ => by
    have : s = 4096 := by omega
    subst this
    exact br_t (nI_le (Nat.le_refl 4096) (by decide)) (h W wi ⟨a1, a2, ho, fun t ht => ⟨fun q => ((a3 t).mp q).2, fun q => (a3 t).mpr ⟨ht, q⟩⟩, fun t q => ((a3 t).mp q).1, a4⟩)
  | m + 1, s, W, wi, hs, ⟨a1, a2, a3, a4⟩ => by
    have ih := lt30x hS hg hF ho h m (s + 1)
    have hs4 : s < 4096 := by omega
    have hle := cw_le (fun t => cmb S c t && decide (o t = 0)) s
    have hn : s ∉ W := fun q => absurd ((a3 s).mp q).1 (Nat.lt_irrefl s)
    have skip : ¬ (cmb S c s = true ∧ o s = 0) → (∀ t, t ∈ W ↔ t < s + 1 ∧ cmb S c t = true ∧ o t = 0) ∧ W.length = cw (fun t => cmb S c t && decide (o t = 0)) (s + 1) := fun hk => by
      refine ⟨fun t => (a3 t).trans ⟨fun q => ⟨by omega, q.2⟩, fun q => ⟨?_, q.2⟩⟩, ?_⟩
      · by_cases z : t = s
        · subst z; exact absurd q.2 hk
        · omega
      · rw [cw_s, if_neg (fun q => hk (by simpa using q)), a4]; rfl
    refine br_f (show ¬ nI 4096 ≤ nI s from nI_ge (by omega) (by decide)) ?_
    rw [nI_1]
    refine come_bit hS hg hF hs4 (fun e => br_t rfl (ih W wi (by omega) ⟨a1, a2, skip (fun q => ?_)⟩)) (fun x e => br_f (by decide) ⟨vp_in_nI hs4 (by decide), ?_⟩)
    · unfold cmb at q
      rw [e] at q
      cases q.1
    · rw [nI_clamp (show s < 2 ^ 31 by omega), (ho s hs4).1]
      have hb := (ho s hs4).2
      have e0 : nI (o s) = 0 ↔ o s = 0 := nI_eq (b := 0) (by omega) (by decide)
      refine bn_c (fun q => ih W wi (by omega) ⟨a1, a2, skip (fun z => q (e0.mpr z.2))⟩) (fun q => ?_)
      have hp : cmb S c s = true ∧ o s = 0 := ⟨by unfold cmb; rw [e]; rfl, e0.mp q⟩
      refine q_put_x (by omega) ?_
      have := ih (W ++ [s]) (upd wi W.length (nI s)) (by omega) ⟨QL_push a1, Dj_app a2 hn, fun t => ?_, ?_⟩
      · rw [List.length_append] at this; exact this
      · rw [mem_app1, a3 t]
        refine ⟨fun z => ?_, fun z => ?_⟩
        · rcases z with z | z
          · exact ⟨by omega, z.2⟩
          · subst z; exact ⟨by omega, hp⟩
        · by_cases y : t = s
          · exact Or.inr y
          · exact Or.inl ⟨by omega, z.2⟩
      · rw [List.length_append, cw_s, if_pos (by simpa using hp), a4]; rfl
/-- one turn from x to t is taken -/
theorem kstep (hS : SOk S) {W : List Nat} {o w : Nat → Nat} {s1 s2 wi : Nat → Int32} {N x t i : Nat} (h : KB S c W o s1 wi) (hw : KW S c (N + 1) s2 w) (hx : x ∈ W) (hwx : w x ≤ N) (hN : N < 4096) (hi : i < 6) (e : nxc S c x i = some t) (ho : 1 ≤ o t) :
    ∃ w', KW S c (N + 1) (upd s2 t (if s2 t < s2 x + 1 then s2 x + 1 else s2 t)) w' ∧ (∀ u, w u ≤ w' u) ∧ (∀ u, u ∈ W → w' u = w u) ∧ w x + 1 ≤ w' t ∧ s1 t - 1 = nI (o t - 1) ∧ ((o t - 1 ≠ 0 ∧ KB S c W (fun u => if u = t then o t - 1 else o u) (upd s1 t (s1 t - 1)) wi) ∨ (o t - 1 = 0 ∧ W.length < 4096 ∧ KB S c (W ++ [t]) (fun u => if u = t then o t - 1 else o u) (upd s1 t (s1 t - 1)) (upd wi W.length (nI t)))) := by
  obtain ⟨a1, a2, a3, a4, a5, a6⟩ := h
  have hx4 := a5 x hx
  have hrx : Rc1 S c x := (cmb_Rc hx4).mp ((a4 x hx4).mp hx).1
  have ht := nxc_lt hS e
  have hrt : Rc1 S c t := Rc_next hS hrx hi e
  have hct := (cmb_Rc ht).mpr hrt
  have htW : t ∉ W := fun q => by have := ((a4 t ht).mp q).2; omega
  have hxt : x ≠ t := fun z => htW (z ▸ hx)
  obtain ⟨hs1, hb1⟩ := a3 t ht
  obtain ⟨hst, hbt, het⟩ := hw t ht
  obtain ⟨hsx, hbx, hex⟩ := hw x hx4
  have hd : s1 t - 1 = nI (o t - 1) := by rw [hs1, nI_sub1 ho]
  refine ⟨fun u => if u = t then (if w t < w x + 1 then w x + 1 else w t) else w u, fun u hu => ?_, fun u => ?_, fun u hu => if_neg (fun (z : u = t) => htW (z ▸ hu)), ?_, hd, ?_⟩
  · by_cases z : u = t
    · subst z
      rw [pk_us, hst, hsx, nI_1]
      show (if nI (w u) < nI (w x + 1) then nI (w x + 1) else nI (w u)) = nI (if u = u then (if w u < w x + 1 then w x + 1 else w u) else w u) ∧ (if u = u then (if w u < w x + 1 then w x + 1 else w u) else w u) ≤ N + 1 ∧ (Rc1 S c u → En S c (if u = u then (if w u < w x + 1 then w x + 1 else w u) else w u) u)
      rw [if_pos rfl]
      by_cases y : w u < w x + 1
      · rw [if_pos y, if_pos (nI_lt y (by omega))]
        exact ⟨rfl, by omega, fun _ => ⟨x, i, hrx, hi, hex hrx, e⟩⟩
      · rw [if_neg y, if_neg (fun q => y ((nI_ltI (by omega) (by omega)).mp q))]
        exact ⟨rfl, hbt, het⟩
    · rw [pk_un z]
      show s2 u = nI (if u = t then _ else w u) ∧ (if u = t then _ else w u) ≤ N + 1 ∧ (Rc1 S c u → En S c (if u = t then _ else w u) u)
      rw [if_neg z]
      exact hw u hu
  · show w u ≤ if u = t then (if w t < w x + 1 then w x + 1 else w t) else w u
    by_cases z : u = t
    · subst z; rw [if_pos rfl]; split <;> omega
    · rw [if_neg z]; exact Nat.le_refl _
  · show w x + 1 ≤ if t = t then (if w t < w x + 1 then w x + 1 else w t) else w t
    rw [if_pos rfl]
    split <;> omega
  · have r3 : ∀ u, u < 4096 → upd s1 t (s1 t - 1) u = nI (if u = t then o t - 1 else o u) ∧ (if u = t then o t - 1 else o u) < 2 ^ 30 := fun u hu => by
      by_cases z : u = t
      · subst z; rw [pk_us, if_pos rfl]; exact ⟨hd, by omega⟩
      · rw [pk_un z, if_neg z]; exact a3 u hu
    by_cases z : o t - 1 = 0
    · refine Or.inr ⟨z, ?_, QL_push a1, Dj_app a2 htW, r3, fun u hu => ?_, fun u hu => ?_, ?_⟩
      · rw [a6]
        exact cw_lt (t := t) (by rw [decide_eq_false (show ¬ o t = 0 by omega), Bool.and_false]) 4096 ht
      · rw [mem_app1, a4 u hu]
        show _ ↔ cmb S c u = true ∧ (if u = t then o t - 1 else o u) = 0
        by_cases y : u = t
        · subst y; rw [if_pos rfl]; exact ⟨fun _ => ⟨hct, z⟩, fun _ => Or.inr rfl⟩
        · rw [if_neg y]; exact ⟨fun q => q.resolve_right y, fun q => Or.inl q⟩
      · rcases mem_app1.mp hu with q | q
        · exact a5 u q
        · rw [q]; exact ht
      · rw [List.length_append, a6]
        refine (sm_drop (t := t) ?_ (fun u hu => ?_) 4096 ht).symm
        · show (if (cmb S c t && decide ((if t = t then o t - 1 else o t) = 0)) then 1 else 0) = (if (cmb S c t && decide (o t = 0)) then 1 else 0) + 1
          rw [if_pos (rfl : t = t), hct, z, decide_eq_false (show ¬ o t = 0 by omega)]; rfl
        · show (if (cmb S c u && decide ((if u = t then o t - 1 else o u) = 0)) then 1 else 0) = (if (cmb S c u && decide (o u = 0)) then 1 else 0)
          rw [if_neg hu]
    · refine Or.inl ⟨z, a1, a2, r3, fun u hu => ?_, a5, ?_⟩
      · rw [a4 u hu]
        show _ ↔ cmb S c u = true ∧ (if u = t then o t - 1 else o u) = 0
        by_cases y : u = t
        · subst y; rw [if_pos rfl]; exact ⟨fun q => absurd q.2 (by omega), fun q => absurd q.2 z⟩
        · rw [if_neg y]
      · rw [a6]
        refine cw_ext 4096 (fun u _ => ?_)
        show (cmb S c u && decide (o u = 0)) = (cmb S c u && decide ((if u = t then o t - 1 else o u) = 0))
        by_cases y : u = t
        · subst y; rw [if_pos rfl, decide_eq_false z, decide_eq_false (show ¬ o u = 0 by omega)]
        · rw [if_neg y]
/-- turns to t from states come to that aren't among the first n -/
def un2 (S : Nat → Option (List Nat)) (c : Nat) (W : List Nat) (n t : Nat) : Nat := sm (fun s => if (cmb S c s && !pin W n s) then rcn S s t c else 0) 4096
theorem un2_app {W : List Nat} {x n t : Nat} (h : n ≤ W.length) : un2 S c (W ++ [x]) n t = un2 S c W n t := sm_ext 4096 (fun u _ => by rw [pin_app n h])
theorem un2_s {W : List Nat} {n t : Nat} (hx : W.getD n 0 < 4096) (hc : cmb S c (W.getD n 0) = true) (hn : pin W n (W.getD n 0) = false) : un2 S c W n t = un2 S c W (n + 1) t + rcn S (W.getD n 0) t c := by
  unfold un2
  refine sm_dropk (t := W.getD n 0) ?_ (fun u hu => ?_) 4096 hx
  · show (if (cmb S c (W.getD n 0) && !pin W n (W.getD n 0)) then rcn S (W.getD n 0) t c else 0) = (if (cmb S c (W.getD n 0) && !(pin W n (W.getD n 0) || decide (W.getD n 0 = W.getD n 0))) then rcn S (W.getD n 0) t c else 0) + rcn S (W.getD n 0) t c
    rw [hc, hn, decide_eq_true rfl]
    exact (Nat.zero_add _).symm
  · show (if (cmb S c u && !pin W n u) then rcn S u t c else 0) = (if (cmb S c u && !(pin W n u || decide (W.getD n 0 = u))) then rcn S u t c else 0)
    rw [decide_eq_false (fun e => hu e.symm), Bool.or_false]
theorem rcn_m {s t i : Nat} (hi : i < c) (e : nx S s i = some t) : rcn S s t i + 1 ≤ rcn S s t c := by
  have := rcn_mono (S := S) (s := s) (t := t) (i := i + 1) (j := c) (by omega)
  rw [rcn_eq e] at this
  exact this
theorem lv11x (hS : SOk S) (hc : c ≤ 6) {tu : Nat → Int32} (hT : Tu S c tu) {n x : Nat} (hn4 : n < 4096) {w0 : Nat → Nat} {W0 : List Nat} {K : (Nat → Int32) → (Nat → Int32) → Int32 → (Nat → Int32) → Prop} (h : ∀ W s1 s2 wi w, n < W.length → W.getD n 0 = x → KB S c W (un2 S c W (n + 1)) s1 wi → KW S c (n + 1) s2 w → (∀ u, w0 u ≤ w u) → (∀ j, j ≤ n → w (W.getD j 0) = w0 (W.getD j 0)) → (∀ j, j ≤ n → W.getD j 0 = W0.getD j 0) → (∀ i t, i < 6 → nxc S c x i = some t → w x + 1 ≤ w t) → K s1 s2 (nI W.length) wi) (hx0 : w0 x ≤ n) : ∀ m i W s1 s2 wi w, i + m = c → n < W.length → W.getD n 0 = x → KB S c W (fun t => un2 S c W (n + 1) t + (rcn S x t c - rcn S x t i)) s1 wi → KW S c (n + 1) s2 w → (∀ u, w0 u ≤ w u) → (∀ j, j ≤ n → w (W.getD j 0) = w0 (W.getD j 0)) → (∀ j, j ≤ n → W.getD j 0 = W0.getD j 0) → (∀ j t, j < i → nxc S c x j = some t → w x + 1 ≤ w t) → wp_Runs_leave_L11 (nI x) (nI c) tu K (m + 1) (nI i) s1 s2 (nI W.length) wi := by
  intro m
  induction m with
  | zero =>
    intro i W s1 s2 wi w hi hn ex hB hW h0 hj hpre hcm
    have : i = c := by omega
    subst this
    have eo : (fun t => un2 S i W (n + 1) t + (rcn S x t i - rcn S x t i)) = un2 S i W (n + 1) := by funext t; rw [Nat.sub_self, Nat.add_zero]
    rw [eo] at hB
    refine br_t (nI_le (Nat.le_refl _) (by omega)) (h W s1 s2 wi w hn ex hB hW h0 hj hpre (fun j t hj6 e => hcm j t (Nat.lt_of_not_le (fun z => ?_)) e))
    rw [show nxc S i x j = none from if_neg (by omega)] at e; cases e
  | succ m ih0 =>
    intro i W s1 s2 wi w hi hn ex hB hW h0 hj hpre hcm
    have hxW : x ∈ W := ex ▸ getD_mem hn
    have hx4 := hB.2.2.2.2.1 x hxW
    refine br_f (nI_ge (by omega) (by omega)) (q_turn hc hT (by omega) hx4 ?_)
    have enx : nxc S c x i = nx S x i := if_pos (by omega)
    rw [nI_1]
    cases e : nx S x i with
    | none =>
      refine q_isState_m1 (br_t rfl (ih0 (i + 1) W s1 s2 wi w (by omega) hn ex ?_ hW h0 hj hpre (fun j t hj2 et => ?_)))
      · have eo : (fun t => un2 S c W (n + 1) t + (rcn S x t c - rcn S x t (i + 1))) = (fun t => un2 S c W (n + 1) t + (rcn S x t c - rcn S x t i)) := by funext t; rw [rcn_ne (by rw [e]; simp)]
        rw [eo]; exact hB
      · by_cases z : j = i
        · subst z; rw [enx, e] at et; cases et
        · exact hcm j t (by omega) et
    | some t =>
      have ht := nx_lt hS e
      have hm := rcn_m (c := c) (by omega) e
      have hin : vp_in (nI t) 4096 := vp_in_nI ht (by decide)
      have hwx : w x = w0 x := by have := hj n (Nat.le_refl _); rw [ex] at this; exact this
      obtain ⟨w', k1, k2, k3, k4, k5, k6⟩ := kstep hS hB hW hxW (by omega) hn4 (show i < 6 by omega) (enx.trans e) (show 1 ≤ un2 S c W (n + 1) t + (rcn S x t c - rcn S x t i) by omega)
      have k5 : s1 t - 1 = nI (un2 S c W (n + 1) t + (rcn S x t c - rcn S x t i) - 1) := k5
      have k6 : (un2 S c W (n + 1) t + (rcn S x t c - rcn S x t i) - 1 ≠ 0 ∧ KB S c W (fun u => if u = t then un2 S c W (n + 1) t + (rcn S x t c - rcn S x t i) - 1 else un2 S c W (n + 1) u + (rcn S x u c - rcn S x u i)) (upd s1 t (s1 t - 1)) wi) ∨ (un2 S c W (n + 1) t + (rcn S x t c - rcn S x t i) - 1 = 0 ∧ W.length < 4096 ∧ KB S c (W ++ [t]) (fun u => if u = t then un2 S c W (n + 1) t + (rcn S x t c - rcn S x t i) - 1 else un2 S c W (n + 1) u + (rcn S x u c - rcn S x u i)) (upd s1 t (s1 t - 1)) (upd wi W.length (nI t))) := k6
      have eo : ∀ W', un2 S c W' (n + 1) = un2 S c W (n + 1) → (fun u => un2 S c W' (n + 1) u + (rcn S x u c - rcn S x u (i + 1))) = (fun u => if u = t then un2 S c W (n + 1) t + (rcn S x t c - rcn S x t i) - 1 else un2 S c W (n + 1) u + (rcn S x u c - rcn S x u i)) := fun W' hW' => by
        funext u
        rw [hW']
        by_cases z : u = t
        · subst z; rw [if_pos rfl, rcn_eq e]; omega
        · rw [if_neg z, rcn_ne (by rw [e]; intro q; injection q with q; exact z q.symm)]
      have hmW : ∀ j, j ≤ n → W.getD j 0 ∈ W := fun j hj => getD_mem (by omega)
      have hcm' : ∀ j u, j < i + 1 → nxc S c x j = some u → w' x + 1 ≤ w' u := fun j u hj2 eu => by
        rw [k3 x hxW]
        by_cases z : j = i
        · subst z; rw [enx, e] at eu; cases eu; exact k4
        · exact Nat.le_trans (hcm j u (by omega) eu) (k2 u)
      have h0' : ∀ u, w0 u ≤ w' u := fun u => Nat.le_trans (h0 u) (k2 u)
      refine q_isState ht (br_f (by decide) ⟨hin, vp_in_nI hx4 (by decide), hin, hin, hin, hin, ?_⟩)
      rw [show tI (some t) = nI t from rfl, nI_clamp (show t < 2 ^ 31 by omega), nI_clamp (show x < 2 ^ 31 by omega), pk_us, k5]
      rcases k6 with ⟨q, hB'⟩ | ⟨q, hlt, hB'⟩
      · have hbn := (hB'.2.2.1 t ht).2
        have hbn : (if t = t then un2 S c W (n + 1) t + (rcn S x t c - rcn S x t i) - 1 else un2 S c W (n + 1) t + (rcn S x t c - rcn S x t i)) < 2 ^ 30 := hbn
        rw [if_pos rfl] at hbn
        refine bn_f (nI_ne0 (by omega) (by omega)) (ih0 (i + 1) W _ _ wi w' (by omega) hn ex ?_ k1 h0' (fun j hj2 => by rw [k3 _ (hmW j hj2)]; exact hj j hj2) hpre hcm')
        rw [eo W rfl, ← k5]
        exact hB'
      · rw [q]
        refine bn_t rfl (q_put_x hlt ?_)
        have := ih0 (i + 1) (W ++ [t]) (upd s1 t (s1 t - 1)) (upd s2 t (if s2 t < s2 x + 1 then s2 x + 1 else s2 t)) (upd wi W.length (nI t)) w' (by omega) (by rw [List.length_append]; omega) (by rw [getD_app, if_pos hn]; exact ex) (by rw [eo (W ++ [t]) (funext (fun u => un2_app (by omega)))]; exact hB') k1 h0' (fun j hj2 => by rw [getD_app, if_pos (by omega), k3 _ (hmW j hj2)]; exact hj j hj2) (fun j hj2 => by rw [getD_app, if_pos (by omega)]; exact hpre j hj2) hcm'
        rw [List.length_append, k5, q] at this
        exact this
end LG
