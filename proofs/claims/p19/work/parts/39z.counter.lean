/-! the reference's counter: there is a marked state that begins -/
section CN
variable {S : Nat → Option (List Nat)} {c : Nat} {nx : Nat → Int32}
/-- who has a level above 0 was come to from the level below -/
def Bk (S : Nat → Option (List Nat)) (c : Nat) (q : QLv) : Prop := ∀ t k, q.2 t = some (k + 1) → ∃ s i, s < 4096 ∧ i < 6 ∧ q.2 s = some k ∧ nxc S c s i = some t
theorem Bk_stp (hS : SOk S) {s i : Nat} {q : QLv} (hi : i < 6) (hq : QI q) (hs : s ∈ q.1) (h : Bk S c q) : Bk S c (stp S c s i q) := by
  cases e : nxc S c s i with
  | none => rw [stp_none e]; exact h
  | some t =>
    cases e2 : q.2 t with
    | some x => rw [stp_some e e2]; exact h
    | none =>
      rw [stp_new e e2]
      intro u k hu
      have key : ∀ w, q.2 w = some k → (fun u => if u = t then some ((q.2 s).getD 0 + 1) else q.2 u) w = some k := by
        intro w hw
        show (if w = t then _ else q.2 w) = some k
        by_cases hwt : w = t
        · rw [hwt, e2] at hw; cases hw
        · rw [if_neg hwt]; exact hw
      by_cases hut : u = t
      · have hu' : (if u = t then some ((q.2 s).getD 0 + 1) else q.2 u) = some (k + 1) := hu
        rw [if_pos hut] at hu'
        obtain ⟨x, ex⟩ := (hq.1 s hs).2
        rw [ex] at hu'
        have hk : x = k := by
          have := Option.some.inj hu'
          simpa using this
        exact ⟨s, i, (hq.1 s hs).1, hi, key s (by rw [ex, hk]), by rw [hut]; exact e⟩
      · have hu' : (if u = t then some ((q.2 s).getD 0 + 1) else q.2 u) = some (k + 1) := hu
        rw [if_neg hut] at hu'
        obtain ⟨w, j, h1, h2, h3, h4⟩ := h u k hu'
        exact ⟨w, j, h1, h2, key w h3, h4⟩
theorem Bk_vis (hS : SOk S) {s : Nat} {q : QLv} (hq : QI q) (hs : s ∈ q.1) (h : Bk S c q) : ∀ i, i ≤ 6 → Bk S c (vis S c s i q)
  | 0, _ => h
  | i + 1, hi => Bk_stp hS (by omega) (QI_vis hS hq hs i).1 (QI_vis hS hq hs i).2.1 (Bk_vis hS hq hs h i (by omega))
theorem Bk_bfs (hS : SOk S) : ∀ m k (q : QLv), QI q → Bk S c q → Bk S c (bfs S c m k q)
  | 0, _, _, _, h => h
  | m + 1, k, q, hq, h => by
    by_cases hk : k < q.1.length
    · rw [bfs_s hk]
      have hm := getD_mem hk
      exact Bk_bfs hS m (k + 1) _ (QI_vis hS hq hm 6).1 (Bk_vis hS hq hm h 6 (Nat.le_refl 6))
    · rw [bfs_end (m + 1) k q (by omega)]; exact h
theorem Bk_come (hS : SOk S) : Bk S c (come S c) := Bk_bfs hS 4096 0 _ QI_0 (fun t k hk => by
  have hk : (if val S t 0 = 0 then none else some 0) = some (k + 1) := hk
  split at hk
  · cases hk
  · cases hk)
theorem lev_lt (hS : SOk S) {t k : Nat} (h : (come S c).2 t = some k) : k < 4096 := by
  have hq := QI_come (c := c) hS
  rcases hq.2.1 t k h with h1 | h1
  · have := QI_le hq; omega
  · omega
/-- levels as the reference has them -/
def LvB (nx lv : Nat → Int32) : Prop := (∀ t, t < 4096 → lv t = -1 ∨ ∃ k, k < 4096 ∧ lv t = nI k) ∧ ∀ t k, t < 4096 → k + 1 < 4096 → lv t = nI (k + 1) → ∃ s i, s < 4096 ∧ i < 6 ∧ lv s = nI k ∧ nx (6 * s + i) = nI t
theorem LvB_of (hS : SOk S) (hN : NxR S c nx) {lv : Nat → Int32} (hL : LvR lv (come S c).2) : LvB nx lv := by
  refine ⟨fun t ht => ?_, fun t k ht hk e => ?_⟩
  · rw [hL t ht]
    cases e : (come S c).2 t with
    | none => exact Or.inl rfl
    | some k => exact Or.inr ⟨k, lev_lt hS e, rfl⟩
  · rw [hL t ht] at e
    cases e2 : (come S c).2 t with
    | none => rw [e2] at e; exact absurd e.symm (nI_ne_m1 (by omega))
    | some j =>
      rw [e2] at e
      have hj := lev_lt hS e2
      have : j = k + 1 := (nI_eq (by omega) (by omega)).mp e
      subst this
      obtain ⟨s, i, h1, h2, h3, h4⟩ := Bk_come hS t k e2
      refine ⟨s, i, h1, h2, ?_, ?_⟩
      · rw [hL s h1, h3]; rfl
      · rw [hN s h1 i h2, h4]; rfl
variable {lv iG : Nat → Int32}
/-- the least level without the goal, as far as it was looked for -/
def LeP (lv iG : Nat → Int32) (x : Int32) : Prop := x = -1 ∨ ∃ k, k < 4096 ∧ x = nI k ∧ ∃ s, s < 4096 ∧ lv s = nI k ∧ iG s = 0
theorem mr4 (hL : LvB nx lv) {K : Int32 → Prop} (h : ∀ x, LeP lv iG x → K x) : ∀ m s x, s + m = 4096 → LeP lv iG x → wp_Md_markRuns_L4 iG lv K (m + 1) x (nI s)
  | 0, s, x, hs, hx => by
    have : s = 4096 := by omega
    subst this
    exact br_t (nI_le (Nat.le_refl 4096) (by decide)) (h _ hx)
  | m + 1, s, x, hs, hx => by
    have ih := fun x hx => mr4 hL h m (s + 1) x (by omega) hx
    have hv : vp_in (nI s) 4096 := vp_in_nI (by omega) (by decide)
    refine br_f (show ¬ nI 4096 ≤ nI s from nI_ge (by omega) (by decide)) ?_
    rw [nI_1, nI_clamp (by omega)]
    refine ⟨hv, br_c (fun _ => ih _ hx) (fun q1 => ⟨hv, bn_c (fun _ => ih _ hx) (fun q2 => ?_)⟩)⟩
    have new : LeP lv iG (lv s) := by
      rcases hL.1 s (by omega) with e | ⟨k, hk, e⟩
      · rw [e] at q1; exact absurd m1_neg q1
      · exact Or.inr ⟨k, hk, e, s, by omega, e, q2⟩
    exact br_c (fun _ => ⟨hv, fun y ey => by rw [ey]; exact ih _ new⟩) (fun _ => ⟨hv, br_c (fun _ => ih _ hx) (fun _ => ⟨hv, fun y ey => by rw [ey]; exact ih _ new⟩)⟩)
/-- the marks behind the first row -/
def M0 (lv iG : Nat → Int32) (x : Int32) (f : Nat → Int32) (s : Nat) : Prop := ∀ t, t < s → (f t ≠ 0 ↔ ¬ x < 0 ∧ lv t = x ∧ iG t = 0)
theorem mr62 {x : Int32} {K : (Nat → Int32) → Prop} (h : ∀ f, M0 lv iG x f 4096 → K f) : ∀ m s f, s + m = 4096 → M0 lv iG x f s → wp_Md_markRuns_L62 x iG lv K (m + 1) (nI s) f
  | 0, s, f, hs, hf => by
    have : s = 4096 := by omega
    subst this
    exact br_t (nI_le (Nat.le_refl 4096) (by decide)) (h _ hf)
  | m + 1, s, f, hs, hf => by
    have ih := fun f hf => mr62 h m (s + 1) f (by omega) hf
    have hv : vp_in (nI s) 4096 := vp_in_nI (by omega) (by decide)
    refine br_f (show ¬ nI 4096 ≤ nI s from nI_ge (by omega) (by decide)) ?_
    rw [nI_1, nI_clamp (by omega), nar0, nar1]
    have st : ∀ y : Int32, (y ≠ 0 ↔ ¬ x < 0 ∧ lv s = x ∧ iG s = 0) → M0 lv iG x (upd f s y) (s + 1) := by
      intro y hy t ht
      by_cases hts : t = s
      · subst hts; rw [pk_us]; exact hy
      · rw [pk_un hts]; exact hf t (by omega)
    refine br_c (fun q => ⟨hv, ih _ (st 0 ⟨fun z => absurd rfl z, fun z => absurd q z.1⟩)⟩) (fun q => ⟨hv, bn_c (fun q1 => ⟨hv, ih _ (st 0 ⟨fun z => absurd rfl z, fun z => absurd z.2.1 q1⟩)⟩) (fun q1 => ⟨hv, bn_c (fun q2 => ⟨hv, ih _ (st 0 ⟨fun z => absurd rfl z, fun z => absurd z.2.2 q2⟩)⟩) (fun q2 => ⟨hv, ih _ (st 1 ⟨fun _ => ⟨q, q1, q2⟩, fun _ => by decide⟩)⟩)⟩)⟩)
/-- a turn of s leads to a marked state of the level k + 1 -/
def Ld (nx lv f : Nat → Int32) (k s j : Nat) : Prop := ∃ i t, i < j ∧ t < 4096 ∧ nx (6 * s + i) = nI t ∧ lv t = nI (k + 1) ∧ f t ≠ 0
theorem mr129 (hx : NxB nx) {s k : Nat} (hs : s < 4096) (hk : k + 1 < 4096) (hl : lv s = nI k) {x1 : Int32} {f0 : Nat → Int32} {K : (Nat → Int32) → Prop} (h : ∀ f, (∀ t, t ≠ s → f t = f0 t) → (f s ≠ 0 ↔ f0 s ≠ 0 ∨ Ld nx lv f0 k s 6) → K f) : ∀ m i f, i + m = 6 → (∀ t, t ≠ s → f t = f0 t) → (f s ≠ 0 ↔ f0 s ≠ 0 ∨ Ld nx lv f0 k s i) → wp_Md_markRuns_L129 x1 (nI k) (nI s) nx lv K (m + 1) (nI i) f
  | 0, i, f, hi, h1, h2 => by
    have : i = 6 := by omega
    subst this
    exact br_t (show nI 6 ≤ nI 6 from nI_le (Nat.le_refl _) (by decide)) (h _ h1 h2)
  | m + 1, i, f, hi, h1, h2 => by
    have ih := fun f h1 h2 => mr129 hx hs hk hl (x1 := x1) (f0 := f0) h m (i + 1) f (by omega) h1 h2
    have hv : vp_in (nI s) 4096 := vp_in_nI hs (by decide)
    refine br_f (show ¬ nI 6 ≤ nI i from nI_ge (by omega) (by decide)) ⟨hv, bn_t (by rw [nI_clamp (by omega)]; exact hl) ⟨(nxi hs (by omega)).1, fun x ex => ⟨hv, ?_⟩⟩⟩
    rw [nI_1, nI_1, nI_clamp (show s < 2 ^ 31 by omega), nar0, nar1]
    rw [(nxi hs (by omega)).2] at ex
    have up : ∀ y : Int32, ∀ t, t ≠ s → upd f s y t = f0 t := fun y t ht => by rw [pk_un ht]; exact h1 t ht
    have mono : Ld nx lv f0 k s i → Ld nx lv f0 k s (i + 1) := fun ⟨j, t, a, b⟩ => ⟨j, t, by omega, b⟩
    have old : (Ld nx lv f0 k s (i + 1) → Ld nx lv f0 k s i) → f s = 0 → (upd f s 0 s ≠ 0 ↔ f0 s ≠ 0 ∨ Ld nx lv f0 k s (i + 1)) := by
      intro hb q
      rw [pk_us]
      refine ⟨fun z => absurd rfl z, fun z => ?_⟩
      exfalso
      rcases z with z | z
      · exact h2.mpr (Or.inl z) q
      · exact h2.mpr (Or.inr (hb z)) q
    refine bn_c (fun q => ⟨hv, ih _ (up 1) ?_⟩) (fun q => ?_)
    · rw [pk_us]
      refine ⟨fun _ => ?_, fun _ => by decide⟩
      rcases h2.mp q with z | z
      · exact Or.inl z
      · exact Or.inr (mono z)
    rcases hx s hs i (by omega) with e | ⟨t, ht, e⟩
    · rw [e] at ex; subst ex
      refine br_t m1_neg ⟨hv, ih _ (up 0) (old (fun ⟨j, t, a, b, d, r⟩ => ?_) q)⟩
      rcases Nat.lt_or_ge j i with hj | hj
      · exact ⟨j, t, hj, b, d, r⟩
      · have : j = i := by omega
        subst this
        rw [e] at d
        exact absurd d.symm (nI_ne_m1 (by omega))
    · rw [e] at ex; subst ex
      have hvt : vp_in (nI t) 4096 := vp_in_nI ht (by decide)
      have back : ¬ (lv t = nI (k + 1) ∧ f0 t ≠ 0) → Ld nx lv f0 k s (i + 1) → Ld nx lv f0 k s i := by
        intro hno ⟨j, u, a, b, d, r⟩
        rcases Nat.lt_or_ge j i with hj | hj
        · exact ⟨j, u, hj, b, d, r⟩
        · have : j = i := by omega
          subst this
          rw [e] at d
          have : t = u := (nI_eq (by omega) (by omega)).mp d
          subst this
          exact absurd r hno
      refine br_f (nI_pos (by omega)) ⟨hvt, ?_⟩
      rw [nI_clamp (show t < 2 ^ 31 by omega)]
      have hts : lv t = nI (k + 1) → t ≠ s := fun z y => by
        subst y
        rw [hl] at z
        have := (nI_eq (show k < 2 ^ 31 by omega) (show k + 1 < 2 ^ 31 by omega)).mp z
        omega
      refine bn_c (fun q1 => ⟨hv, ih _ (up 0) (old (back (fun z => q1 z.1)) q)⟩) (fun q1 => ⟨hvt, ?_⟩)
      rw [h1 t (hts q1)]
      refine br_c (fun q2 => ⟨hv, ih _ (up 0) (old (back (fun z => z.2 q2)) q)⟩) (fun q2 => ⟨hv, ih _ (up 1) ?_⟩)
      rw [pk_us]
      exact ⟨fun _ => Or.inr ⟨i, t, by omega, ht, e, q1, q2⟩, fun _ => by decide⟩
theorem mr129n {s k : Nat} (hs : s < 4096) (hl : lv s ≠ nI k) {x1 : Int32} {f : Nat → Int32} {K : (Nat → Int32) → Prop} (h : K f) : wp_Md_markRuns_L129 x1 (nI k) (nI s) nx lv K 1 0 f :=
  br_f (by decide) ⟨vp_in_nI hs (by decide), bn_f (by rw [nI_clamp (by omega)]; exact hl) h⟩
/-- the marks behind the level k, of the states below s -/
def Mk (nx lv f0 : Nat → Int32) (k s : Nat) (f : Nat → Int32) : Prop := ∀ t, t < 4096 → if t < s ∧ lv t = nI k then (f t ≠ 0 ↔ f0 t ≠ 0 ∨ Ld nx lv f0 k t 6) else f t = f0 t
theorem Ld_eq {f0 f : Nat → Int32} {k s j : Nat} (h : ∀ t, t < 4096 → lv t = nI (k + 1) → f t = f0 t) : Ld nx lv f k s j ↔ Ld nx lv f0 k s j :=
  ⟨fun ⟨i, t, a, b, d, e, r⟩ => ⟨i, t, a, b, d, e, by rw [← h t b e]; exact r⟩, fun ⟨i, t, a, b, d, e, r⟩ => ⟨i, t, a, b, d, e, by rw [h t b e]; exact r⟩⟩
theorem mr119 (hx : NxB nx) {k : Nat} (hk : k + 1 < 4096) {x1 : Int32} {f0 : Nat → Int32} {K : (Nat → Int32) → Prop} (h : ∀ f, Mk nx lv f0 k 4096 f → K f) : ∀ m s f, s + m = 4096 → Mk nx lv f0 k s f → wp_Md_markRuns_L119 x1 (nI k) nx lv K (m + 1) (nI s) f
  | 0, s, f, hs, hf => by
    have : s = 4096 := by omega
    subst this
    exact br_t (nI_le (Nat.le_refl 4096) (by decide)) (h _ hf)
  | m + 1, s, f, hs, hf => by
    have ih := fun f hf => mr119 hx hk (x1 := x1) (f0 := f0) h m (s + 1) f (by omega) hf
    refine br_f (show ¬ nI 4096 ≤ nI s from nI_ge (by omega) (by decide)) ?_
    rw [nI_1]
    have kk : ∀ t, t < 4096 → lv t = nI (k + 1) → f t = f0 t := fun t ht e => by
      have := hf t ht
      rw [if_neg (fun z => by
        rw [e] at z
        have := (nI_eq (show k + 1 < 2 ^ 31 by omega) (show k < 2 ^ 31 by omega)).mp z.2
        omega)] at this
      exact this
    have hfs : f s = f0 s := by
      have := hf s (by omega)
      rw [if_neg (fun z => absurd z.1 (Nat.lt_irrefl s))] at this
      exact this
    by_cases hl : lv s = nI k
    · refine ⟨7, mr129 hx (by omega) hk hl (f0 := f) (fun f2 a1 a2 => ih f2 (fun t ht => ?_)) 6 0 f rfl (fun _ _ => rfl) ⟨fun z => Or.inl z, fun z => z.elim id (fun ⟨i, _, a, _⟩ => absurd a (Nat.not_lt_zero i))⟩⟩
      by_cases hts : t = s
      · subst hts
        rw [if_pos ⟨by omega, hl⟩, ← hfs, ← Ld_eq kk]; exact a2
      · rw [a1 t hts]
        have := hf t ht
        by_cases q : t < s ∧ lv t = nI k
        · rw [if_pos ⟨by omega, q.2⟩]; rw [if_pos q] at this; exact this
        · rw [if_neg (fun z => q ⟨by omega, z.2⟩)]; rw [if_neg q] at this; exact this
    · refine ⟨1, mr129n (by omega) hl (ih f (fun t ht => ?_))⟩
      have := hf t ht
      by_cases q : t < s ∧ lv t = nI k
      · rw [if_pos ⟨by omega, q.2⟩]; rw [if_pos q] at this; exact this
      · rw [if_neg (fun z => q ⟨by
          rcases Nat.lt_or_ge t s with y | y
          · exact y
          · exact absurd (show lv s = nI k by rw [show s = t by omega]; exact z.2) hl, z.2⟩)]
        rw [if_neg q] at this; exact this
/-- what the marks are worth, when the levels from k on are done -/
def JJ (nx lv : Nat → Int32) (least k : Nat) (f : Nat → Int32) : Prop := (∃ s, s < 4096 ∧ f s ≠ 0 ∧ lv s = nI k) ∧ ∀ s, s < 4096 → f s ≠ 0 → ∃ j, k ≤ j ∧ j ≤ least ∧ lv s = nI j ∧ (j < least → Ld nx lv f j s 6)
theorem JJ_step (hL : LvB nx lv) {least k : Nat} (hl : least < 4096) (hk : k + 1 ≤ least) {f0 f : Nat → Int32} (h : JJ nx lv least (k + 1) f0) (hm : Mk nx lv f0 k 4096 f) : JJ nx lv least k f := by
  have same : ∀ t, t < 4096 → lv t ≠ nI k → f t = f0 t := fun t ht z => by
    have := hm t ht
    rw [if_neg (fun y => z y.2)] at this; exact this
  have no0 : ∀ t, t < 4096 → lv t = nI k → f0 t = 0 := fun t ht z => by
    by_cases q : f0 t = 0
    · exact q
    · obtain ⟨j, a, b, d, _⟩ := h.2 t ht q
      rw [z] at d
      have := (nI_eq (show k < 2 ^ 31 by omega) (show j < 2 ^ 31 by omega)).mp d
      omega
  have ldk : ∀ j s, k < j + 1 → j + 1 < 4096 → (Ld nx lv f j s 6 ↔ Ld nx lv f0 j s 6) := fun j s a b => Ld_eq (fun t ht e => same t ht (fun z => by
    rw [e] at z
    have := (nI_eq (show j + 1 < 2 ^ 31 by omega) (show k < 2 ^ 31 by omega)).mp z
    omega))
  constructor
  · obtain ⟨t, ht, a, b⟩ := h.1
    obtain ⟨s, i, h1, h2, h3, h4⟩ := hL.2 t k ht (by omega) b
    refine ⟨s, h1, ?_, h3⟩
    have := hm s h1
    rw [if_pos ⟨h1, h3⟩] at this
    exact this.mpr (Or.inr ⟨i, t, h2, ht, h4, b, a⟩)
  · intro s hs q
    by_cases z : lv s = nI k
    · refine ⟨k, Nat.le_refl k, by omega, z, fun _ => ?_⟩
      have := hm s hs
      rw [if_pos ⟨hs, z⟩] at this
      rcases this.mp q with y | y
      · exact absurd (no0 s hs z) y
      · exact (ldk k s (by omega) (by omega)).mpr y
    · rw [same s hs z] at q
      obtain ⟨j, a, b, d, e⟩ := h.2 s hs q
      exact ⟨j, by omega, b, d, fun y => (ldk j s (by omega) (by omega)).mpr (e y)⟩
theorem mr113 (hx : NxB nx) (hL : LvB nx lv) {x1 : Int32} {least : Nat} (hl : least < 4096) {K : (Nat → Int32) → Prop} (h : ∀ f, JJ nx lv least 0 f → K f) : ∀ k f, k ≤ least → JJ nx lv least k f → wp_Md_markRuns_L113 x1 nx lv K (k + 1) (nI k - 1) f
  | 0, f, hk, hf => br_t (by decide) (h _ hf)
  | k + 1, f, hk, hf => by
    rw [nI_sub1 (by omega), show k + 1 - 1 = k by omega]
    refine br_f (nI_pos (by omega)) ⟨4097, mr119 hx (by omega) (fun f2 h2 => ?_) 4096 0 f rfl (fun t ht => by rw [if_neg (fun z => absurd z.1 (Nat.not_lt_zero t))])⟩
    rw [show nI k + (-1) = nI k - 1 by rw [Int32.sub_eq_add_neg]]
    exact mr113 hx hL hl h k f2 (by omega) (JJ_step hL hl hk hf h2)
theorem q_markRuns (hx : NxB nx) (hL : LvB nx lv) {f : Nat → Int32} {post : Int32 → (Nat → Int32) → Prop} (h0 : ∀ f, post (-1) f) (h1 : ∀ k f, k < 4096 → JJ nx lv k 0 f → post (nI k) f) : wp_Md_markRuns nx iG lv f post := by
  refine ⟨4097, mr4 hL (fun x hxe => ⟨4097, mr62 (x := x) (fun f2 hf2 => fun y ey => ?_) 4096 0 f rfl (fun t ht => absurd ht (Nat.not_lt_zero t))⟩) 4096 0 (-1) rfl (Or.inl rfl)⟩
  subst ey
  rcases hxe with e | ⟨k, hk, e, s, hs, e1, e2⟩
  · subst e
    exact ⟨1, br_t (by decide) (h0 _)⟩
  · subst e
    refine ⟨k + 1, mr113 hx hL hk (fun f3 h3 => h1 k f3 hk h3) k f2 (Nat.le_refl k) ⟨⟨s, hs, ?_, e1⟩, fun t ht q => ?_⟩⟩
    · exact (hf2 s hs).mpr ⟨nI_pos (by omega), e1, e2⟩
    · exact ⟨k, Nat.le_refl k, Nat.le_refl k, ((hf2 t ht).mp q).2.1, fun z => absurd z (Nat.lt_irrefl k)⟩
theorem co27 {x1 : Int32} {f : Nat → Int32} {K : Int32 → Prop} (h : ∀ s, s < 4096 → f s ≠ 0 → lv s = 0 → K (nI s)) {s0 : Nat} (h0 : s0 < 4096 ∧ f s0 ≠ 0 ∧ lv s0 = 0) : ∀ m s, s + m = s0 → wp_Md_counter_L27 x1 lv f K (m + 1) (nI s)
  | 0, s, hs => by
    have : s = s0 := by omega
    subst this
    have hv : vp_in (nI s) 4096 := vp_in_nI h0.1 (by decide)
    refine ⟨hv, ?_⟩
    rw [nI_clamp (by omega)]
    exact br_f h0.2.1 ⟨hv, br_t h0.2.2 (h s h0.1 h0.2.1 h0.2.2)⟩
  | m + 1, s, hs => by
    have ih := co27 (x1 := x1) h h0 m (s + 1) (by omega)
    have hv : vp_in (nI s) 4096 := vp_in_nI (by omega) (by decide)
    refine ⟨hv, ?_⟩
    rw [nI_clamp (by omega), nI_1]
    exact br_c (fun _ => ih) (fun q => ⟨hv, br_c (fun q2 => h s (by omega) q q2) (fun _ => ih)⟩)
theorem co68 (hx : NxB nx) {s k : Nat} (hs : s < 4096) {x1 : Int32} {f : Nat → Int32} {K : Int32 → Prop} (h : ∀ t, t < 4096 → f t ≠ 0 → lv t = nI (k + 1) → K (nI t)) (hl : Ld nx lv f k s 6) : ∀ m i b, i + m = 6 → b ≤ 4096 → (b < 4096 → f b ≠ 0 ∧ lv b = nI (k + 1)) → (Ld nx lv f k s i → b < 4096) → wp_Md_counter_L68 x1 (nI s) (nI (k + 1)) nx lv f K (m + 1) (nI b) (nI i)
  | 0, i, b, hi, hb, h1, h2 => by
    have : i = 6 := by omega
    subst this
    exact br_t (show nI 6 ≤ nI 6 from nI_le (Nat.le_refl _) (by decide)) (h b (h2 hl) (h1 (h2 hl)).1 (h1 (h2 hl)).2)
  | m + 1, i, b, hi, hb, h1, h2 => by
    have ih := fun b hb h1 h2 => co68 hx hs (x1 := x1) h hl m (i + 1) b (by omega) hb h1 h2
    refine br_f (show ¬ nI 6 ≤ nI i from nI_ge (by omega) (by decide)) ⟨(nxi hs (by omega)).1, fun x ex => ?_⟩
    rw [nI_1]
    rw [(nxi hs (by omega)).2] at ex
    have back : (∀ u, u < 4096 → nx (6 * s + i) = nI u → ¬ (lv u = nI (k + 1) ∧ f u ≠ 0)) → Ld nx lv f k s (i + 1) → b < 4096 := by
      intro hno ⟨j, u, a, e1, d, r⟩
      rcases Nat.lt_or_ge j i with hj | hj
      · exact h2 ⟨j, u, hj, e1, d, r⟩
      · have : j = i := by omega
        subst this
        exact absurd r (hno u e1 d)
    rcases hx s hs i (by omega) with e | ⟨t, ht, e⟩
    · rw [e] at ex; subst ex
      exact br_t m1_neg (ih b hb h1 (back (fun u hu z => by rw [e] at z; exact absurd z.symm (nI_ne_m1 (by omega)))))
    · rw [e] at ex; subst ex
      have hv : vp_in (nI t) 4096 := vp_in_nI ht (by decide)
      have back2 : ¬ (lv t = nI (k + 1) ∧ f t ≠ 0) → Ld nx lv f k s (i + 1) → b < 4096 := fun hno => back (fun u hu z => by
        rw [e] at z
        have : t = u := (nI_eq (by omega) (by omega)).mp z
        subst this; exact hno)
      refine br_f (nI_pos (by omega)) (br_c (fun q => ih b hb h1 (fun _ => ?_)) (fun q => ?_))
      · have := (nI_leI (show b < 2 ^ 31 by omega) (show t < 2 ^ 31 by omega)).mp q
        omega
      · refine ⟨hv, ?_⟩
        rw [nI_clamp (by omega)]
        refine br_c (fun q2 => ih b hb h1 (back2 (fun z => z.2 q2))) (fun q2 => ⟨hv, bn_c (fun q3 => ih b hb h1 (back2 (fun z => q3 z.1))) (fun q3 => ih t (by omega) (fun _ => ⟨q2, q3⟩) (fun _ => ht))⟩)
theorem co54 (hx : NxB nx) {least i : Nat} (hl : least < 4096) (hi : i ≤ least) {f : Nat → Int32} (hf : JJ nx lv least 0 f) {K : Int32 → Prop} (h : ∀ x, K x) : ∀ m k s, k + m = i → s < 4096 → f s ≠ 0 → lv s = nI k → wp_Md_counter_L54 (nI i) nx lv f K (m + 1) (nI s) (nI (k + 1))
  | 0, k, s, hk, hs, q1, q2 => by
    have : k = i := by omega
    subst this
    exact br_t (nI_lt (by omega) (by omega)) (h _)
  | m + 1, k, s, hk, hs, q1, q2 => by
    refine br_f (nI_nlt (by omega) (by omega)) ⟨7, ?_⟩
    have hld : Ld nx lv f k s 6 := by
      obtain ⟨j, a, b, d, e⟩ := hf.2 s hs q1
      rw [q2] at d
      have : k = j := (nI_eq (show k < 2 ^ 31 by omega) (show j < 2 ^ 31 by omega)).mp d
      subst this
      exact e (by omega)
    refine co68 hx hs (fun t ht a b => ?_) hld 6 0 4096 rfl (Nat.le_refl _) (fun z => absurd z (Nat.lt_irrefl _)) (fun ⟨j, _, a, _⟩ => absurd a (Nat.not_lt_zero j))
    rw [nI_1]
    exact co54 hx hl hi hf h m (k + 1) t (by omega) ht a b
theorem q_Mcounter_a (hx : NxB nx) (hL : LvB nx lv) {x1 ml : Int32} {f : Nat → Int32} {post : Int32 → (Nat → Int32) → Prop} (h : ∀ r f, post r f) : wp_Md_counter x1 ml nx iG lv f post := by
  refine br_c (fun _ => q_markRuns hx hL (fun f => ?_) (fun k f hk hf => ?_)) (fun _ => h _ _)
  · refine br_c (fun _ => h _ _) (fun q => br_c (fun q2 => ?_) (fun _ => h _ _))
    exact absurd (Int32.lt_of_le_of_lt q2 m1_neg) q
  · refine br_c (fun _ => h _ _) (fun q => br_c (fun q2 => ?_) (fun _ => h _ _))
    obtain ⟨i, hi, e⟩ := nI_of q
    subst e
    have hik := (nI_leI hi (by omega)).mp q2
    obtain ⟨s, hs, a, b⟩ := hf.1
    refine ⟨s + 1, co27 (fun t ht a b => ⟨i + 1, co54 hx hk hik hf (fun x => h _ _) i 0 t (by omega) ht a b⟩) ⟨hs, a, b⟩ s 0 (by omega)⟩
end CN
