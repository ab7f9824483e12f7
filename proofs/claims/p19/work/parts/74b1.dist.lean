/-! how many turns a state needs at least to come to one without the goal: the class's search backwards -/
section DI
variable {S : Nat → Option (List Nat)} {c g : Nat}
theorem rcn_pos {s t : Nat} : ∀ i, 0 < rcn S s t i ↔ ∃ j, j < i ∧ nx S s j = some t
  | 0 => ⟨fun h => absurd h (Nat.lt_irrefl 0), fun ⟨j, hj, _⟩ => absurd hj (Nat.not_lt_zero j)⟩
  | i + 1 => by
    by_cases e : nx S s i = some t
    · rw [rcn_eq e]
      exact ⟨fun _ => ⟨i, by omega, e⟩, fun _ => by omega⟩
    · rw [rcn_ne e, rcn_pos i]
      refine ⟨fun ⟨j, hj, h⟩ => ⟨j, by omega, h⟩, fun ⟨j, hj, h⟩ => ⟨j, ?_, h⟩⟩
      by_cases z : j = i
      · subst z; exact absurd h e
      · omega
theorem rcn_nxc (hc : c ≤ 6) {s t : Nat} : 0 < rcn S s t c ↔ ∃ j, j < 6 ∧ nxc S c s j = some t := by
  rw [rcn_pos]
  refine ⟨fun ⟨j, hj, h⟩ => ⟨j, by omega, (show nxc S c s j = nx S s j from if_pos hj).trans h⟩, fun ⟨j, hj, h⟩ => ?_⟩
  by_cases z : j < c
  · exact ⟨j, z, (show nxc S c s j = nx S s j from if_pos z).symm.trans h⟩
  · rw [show nxc S c s j = none from if_neg z] at h; cases h
theorem sl_count {s t : Nat} (hs : s < 4096) : ∀ m, m ≤ 4096 → (sl S c t m).count s = if 4096 - m ≤ s then rcn S s t c else 0
  | 0, _ => by
    rw [if_neg (by omega)]; rfl
  | m + 1, h => by
    show (List.replicate (rcn S (4095 - m) t c) (4095 - m) ++ sl S c t m).count s = _
    rw [List.count_append, List.count_replicate, sl_count hs m (by omega)]
    by_cases e : 4095 - m = s
    · subst e
      rw [if_neg (show ¬ 4096 - m ≤ 4095 - m by omega), if_pos (show 4096 - (m + 1) ≤ 4095 - m by omega)]
      simp
    · have : (4095 - m == s) = false := by simpa using e
      rw [this, if_neg (show ¬ (false = true) by decide), Nat.zero_add]
      by_cases z : 4096 - m ≤ s
      · rw [if_pos z, if_pos (show 4096 - (m + 1) ≤ s by omega)]
      · rw [if_neg z, if_neg (show ¬ 4096 - (m + 1) ≤ s by omega)]
theorem sl_lt {t x : Nat} : ∀ m, x ∈ sl S c t m → x < 4096
  | 0, h => by cases h
  | m + 1, h => by
    rcases List.mem_append.mp (show x ∈ List.replicate (rcn S (4095 - m) t c) (4095 - m) ++ sl S c t m from h) with h | h
    · have := (List.mem_replicate.mp h).2; omega
    · exact sl_lt m h
theorem off_sl (t : Nat) : off S c (t + 1) = off S c t + (sl S c t 4096).length := by
  have h := sl_len (S := S) (c := c) t 4096 (Nat.le_refl _)
  rw [show pre S c t (4096 - 4096) = 0 from rfl, Nat.add_zero] at h
  rw [off_s, h]
theorem sl_mem (hc : c ≤ 6) {s t : Nat} : s ∈ sl S c t 4096 ↔ s < 4096 ∧ ∃ j, j < 6 ∧ nxc S c s j = some t := by
  refine ⟨fun h => ⟨sl_lt 4096 h, ?_⟩, fun ⟨hs, h⟩ => ?_⟩
  · have := sl_count (S := S) (c := c) (t := t) (sl_lt 4096 h) 4096 (Nat.le_refl _)
    rw [if_pos (by omega)] at this
    exact (rcn_nxc hc).mp (by rw [← this]; exact List.count_pos_iff.mpr h)
  · have := sl_count (S := S) (c := c) (t := t) hs 4096 (Nat.le_refl _)
    rw [if_pos (by omega)] at this
    exact List.count_pos_iff.mp (by rw [this]; exact (rcn_nxc hc).mpr h)
theorem mem_getD {W : List Nat} {t : Nat} : t ∈ W ↔ ∃ j, j < W.length ∧ W.getD j 0 = t := by
  refine ⟨fun h => ?_, fun ⟨j, hj, e⟩ => e ▸ getD_mem hj⟩
  obtain ⟨j, hj, ej⟩ := List.getElem_of_mem h
  refine ⟨j, hj, ?_⟩
  simp only [List.getD]
  rw [List.getElem?_eq_getElem hj, ej]; rfl
theorem tI_eq {x : Option Nat} {u : Nat} (hx : ∀ t, x = some t → t < 2 ^ 31) (hu : u < 2 ^ 31) : tI x = nI u ↔ x = some u := by
  cases x with
  | none =>
    refine ⟨fun e => ?_, fun e => by cases e⟩
    have := nI_pos hu
    rw [← show (-1 : Int32) = nI u from e] at this
    exact absurd (by decide) this
  | some t =>
    have ht := hx t rfl
    exact ⟨fun e => by rw [(nI_eq ht hu).mp e], fun e => by cases e; rfl⟩
/-- some run of k turns leads from t to a state without the goal -/
def bd (S : Nat → Option (List Nat)) (c : Nat) : Nat → Nat → Prop
  | 0, t => val S t 1 = 0
  | k + 1, t => ∃ i u, i < 6 ∧ nxc S c t i = some u ∧ bd S c k u
/-- t is put behind, one further than the k-th -/
def psh (q : QLv) (k t : Nat) : QLv := match q.2 t with
  | some _ => q
  | none => (q.1 ++ [t], fun u => if u = t then some (lq q k + 1) else q.2 u)
theorem psh_some {q : QLv} {k t y : Nat} (h : q.2 t = some y) : psh q k t = q := by unfold psh; rw [h]
theorem psh_none {q : QLv} {k t : Nat} (h : q.2 t = none) : psh q k t = (q.1 ++ [t], fun u => if u = t then some (lq q k + 1) else q.2 u) := by unfold psh; rw [h]
theorem lq_le {q : QLv} (hq : QI q) {k : Nat} (hk : k < q.1.length) : lq q k + 1 ≤ q.1.length := by
  obtain ⟨_, x, hx⟩ := hq.1 _ (getD_mem hk)
  have e : lq q k = x := by unfold lq; rw [hx]; rfl
  have := hq.2.1 _ x hx
  omega
theorem Mo_psh {q : QLv} (hq : QI q) {k t : Nat} (hk : k < q.1.length) (ht : t < 4096) (h : Mo q k) : QI (psh q k t) ∧ Mo (psh q k t) k ∧ k < (psh q k t).1.length ∧ (∀ j, j < q.1.length → (psh q k t).1.getD j 0 = q.1.getD j 0) ∧ (∀ j, j < q.1.length → lq (psh q k t) j = lq q j) ∧ q.1.length ≤ (psh q k t).1.length ∧ (∀ u x, q.2 u = some x → (psh q k t).2 u = some x) ∧ (∃ x, (psh q k t).2 t = some x ∧ x ≤ lq q k + 1) := by
  cases e2 : q.2 t with
  | some y =>
    rw [psh_some e2]
    refine ⟨hq, h, hk, fun _ _ => rfl, fun _ _ => rfl, Nat.le_refl _, fun _ _ z => z, y, e2, ?_⟩
    obtain ⟨j, hj, ej⟩ := mem_getD.mp (h.1 t y ht e2)
    have := h.2.2 hk j hj
    have e3 : lq q j = y := by unfold lq; rw [ej, e2]; rfl
    omega
  | none =>
    rw [psh_none e2]
    have P := lq_push (x := lq q k + 1) hq e2
    have len : (q.1 ++ [t]).length = q.1.length + 1 := by rw [List.length_append]; rfl
    refine ⟨QI_push hq ht e2 (lq_le hq hk), ⟨fun u x hu hx => ?_, fun i j hij hj => ?_, fun hk2 j hj => ?_⟩, ?_, fun j hj => ?_, fun j hj => P.1 j hj, ?_, fun u x hx => ?_, lq q k + 1, if_pos rfl, Nat.le_refl _⟩
    · show u ∈ q.1 ++ [t]
      have hx : (if u = t then some (lq q k + 1) else q.2 u) = some x := hx
      by_cases z : u = t
      · rw [z]; exact List.mem_append_right _ (List.mem_singleton.mpr rfl)
      · rw [if_neg z] at hx; exact List.mem_append_left _ (h.1 u x hu hx)
    · have hj : j < (q.1 ++ [t]).length := hj
      rw [len] at hj
      by_cases z : j = q.1.length
      · subst z
        by_cases y : i = q.1.length
        · subst y; exact Nat.le_refl _
        · rw [P.1 i (by omega), P.2]
          exact h.2.2 hk i (by omega)
      · rw [P.1 i (by omega), P.1 j (by omega)]
        exact h.2.1 i j hij (by omega)
    · have hj : j < (q.1 ++ [t]).length := hj
      rw [len] at hj
      rw [P.1 k hk]
      by_cases z : j = q.1.length
      · subst z; rw [P.2]; exact Nat.le_refl _
      · rw [P.1 j (by omega)]; exact h.2.2 hk j (by omega)
    · show k < (q.1 ++ [t]).length
      omega
    · show (q.1 ++ [t]).getD j 0 = _
      rw [getD_app, if_pos hj]
    · show q.1.length ≤ (q.1 ++ [t]).length
      omega
    · show (if u = t then _ else q.2 u) = some x
      rw [if_neg (fun z => by rw [z, e2] at hx; cases hx)]
      exact hx
/-- the class's row of distances and its worklist -/
def DW (q : QLv) (s1 wi : Nat → Int32) : Prop := QI q ∧ LvR s1 q.2 ∧ QL wi q.1
def Sd (S : Nat → Option (List Nat)) (c : Nat) (q : QLv) : Prop := (∀ t x, t < 4096 → q.2 t = some x → bd S c x t) ∧ ∀ t, t < 4096 → val S t 1 = 0 → q.2 t = some 0
/-- the sources of the first n have their distance -/
def Vb (S : Nat → Option (List Nat)) (c : Nat) (q : QLv) (n : Nat) : Prop := ∀ j s, j < n → j < q.1.length → s < 4096 → (∃ i, i < 6 ∧ nxc S c s i = some (q.1.getD j 0)) → ∃ x, q.2 s = some x ∧ x ≤ lq q j + 1
theorem lq_bd {q : QLv} (hq : QI q) (h : Sd S c q) {k : Nat} (hk : k < q.1.length) : bd S c (lq q k) (q.1.getD k 0) := by
  obtain ⟨hl, x, hx⟩ := hq.1 _ (getD_mem hk)
  have e : lq q k = x := by unfold lq; rw [hx]; rfl
  rw [e]
  exact h.1 _ x hl hx
theorem Sd_psh {q : QLv} (hq : QI q) {k t : Nat} (hk : k < q.1.length) (hi : ∃ i, i < 6 ∧ nxc S c t i = some (q.1.getD k 0)) (h : Sd S c q) : Sd S c (psh q k t) := by
  cases e2 : q.2 t with
  | some y => rw [psh_some e2]; exact h
  | none =>
    rw [psh_none e2]
    refine ⟨fun u x hu hx => ?_, fun u hu hv => ?_⟩
    · have hx : (if u = t then some (lq q k + 1) else q.2 u) = some x := hx
      by_cases z : u = t
      · rw [if_pos z] at hx
        cases hx
        obtain ⟨i, hi, e⟩ := hi
        rw [z]
        exact ⟨i, _, hi, e, lq_bd hq h hk⟩
      · rw [if_neg z] at hx; exact h.1 u x hu hx
    · show (if u = t then _ else q.2 u) = some 0
      have := h.2 u hu hv
      rw [if_neg (fun z => by rw [z, e2] at this; cases this)]
      exact this
theorem Vb_psh {q : QLv} (hq : QI q) {k t n : Nat} (hn : n ≤ q.1.length) (hk : k < q.1.length) (ht : t < 4096) (hm : Mo q k) (h : Vb S c q n) : Vb S c (psh q k t) n := by
  obtain ⟨_, _, _, a4, a5, _, a7, _⟩ := Mo_psh hq hk ht hm
  intro j s hj hl hs hi
  rw [a4 j (by omega)] at hi
  obtain ⟨x, hx, hle⟩ := h j s hj (by omega) hs hi
  exact ⟨x, a7 s x hx, by rw [a5 j (by omega)]; exact hle⟩
-- the machine's side
theorem msrc {q : QLv} {s1 wi : Nat → Int32} (hw : DW q s1 wi) {k s : Nat} (hk : k < q.1.length) (hs : s < 4096) {post : (Nat → Int32) → Int32 → (Nat → Int32) → Prop} (h : ∀ s1 wi, DW (psh q k s) s1 wi → post s1 (nI (psh q k s).1.length) wi) (hm : Mo q k) : wp_Runs_measureSource (nI s) (nI (q.1.getD k 0)) s1 (nI q.1.length) wi post := by
  obtain ⟨hq, hL, hQ⟩ := hw
  have ht := (hq.1 _ (getD_mem hk)).1
  have hin : vp_in (nI s) 4096 := vp_in_nI hs (by decide)
  have hqi := (Mo_psh hq hk hs hm).1
  refine q_isState hs (br_f (by decide) (q_isState ht (br_f (by decide) ⟨hin, ?_⟩)))
  rw [nI_clamp (show s < 2 ^ 31 by omega), hL s hs]
  cases e : q.2 s with
  | some y =>
    rw [psh_some e] at h
    have hy := hq.2.1 s y e
    have hl := QI_le hq
    refine bn_f (fun z => ?_) (h s1 wi ⟨hq, hL, hQ⟩)
    have := nI_pos (n := y) (by omega)
    rw [show nI y = -1 from z] at this
    exact absurd (by decide) this
  | none =>
    have hlt := QI_lt hq hs e
    rw [psh_none e] at h hqi
    refine bn_t rfl ⟨vp_in_nI ht (by decide), hin, ?_⟩
    rw [nI_clamp (show q.1.getD k 0 < 2 ^ 31 by omega), hL _ ht]
    obtain ⟨_, x, hx⟩ := hq.1 _ (getD_mem hk)
    have ex : lq q k = x := by unfold lq; rw [hx]; rfl
    rw [hx, show tI (some x) = nI x from rfl, nI_1]
    refine br_f (show ¬ nI 4096 ≤ nI q.1.length from nI_ge hlt (by decide)) ⟨vp_in_nI hlt (by decide), ?_⟩
    rw [nI_1, nI_clamp (by omega)]
    have := h (upd s1 s (nI (x + 1))) (upd wi q.1.length (nI s)) ⟨hqi, by rw [ex]; exact LvR_push hL, QL_push hQ⟩
    rw [List.length_append] at this
    exact this
theorem mb104x (hS : SOk S) (hc : c ≤ 6) {f sr : Nat → Int32} (hR : Sr S c f sr) {n : Nat} {x1 : Int32} {K : (Nat → Int32) → Int32 → (Nat → Int32) → Prop} (h : ∀ q s1 wi, DW q s1 wi → n < q.1.length → Mo q n → Sd S c q → Vb S c q (n + 1) → K s1 (nI q.1.length) wi) : ∀ m k q s1 wi, k + m = (sl S c (q.1.getD n 0) 4096).length → DW q s1 wi → n < q.1.length → Mo q n → Sd S c q → Vb S c q n → (∀ j s, j < k → (sl S c (q.1.getD n 0) 4096)[j]? = some s → ∃ x, q.2 s = some x ∧ x ≤ lq q n + 1) → wp_Runs_measureToBad_L104 x1 (nI (q.1.getD n 0)) (nI (off S c (q.1.getD n 0 + 1)) - 1) sr K (m + 1) (nI (off S c (q.1.getD n 0) + k)) s1 (nI q.1.length) wi := by
  intro m
  induction m with
  | zero =>
    intro k q s1 wi hk hw hn hm hs hv hp
    have hoff := off_sl (S := S) (c := c) (q.1.getD n 0)
    have hle := off_le (S := S) hc (q.1.getD n 0 + 1)
    refine br_t ((sub1_lt (by omega) (by omega)).mpr (by omega)) (h q s1 wi hw hn hm hs (fun j s hj hl hs4 hi => ?_))
    by_cases z : j = n
    · subst z
      obtain ⟨i, hi1, hi2⟩ := List.getElem_of_mem ((sl_mem hc).mpr ⟨hs4, hi⟩)
      exact hp i s (by omega) (by rw [List.getElem?_eq_getElem hi1, hi2])
    · exact hv j s (by omega) hl hs4 hi
  | succ m ih =>
    intro k q s1 wi hk hw hn hm hs hv hp
    have hoff := off_sl (S := S) (c := c) (q.1.getD n 0)
    have hle := off_le (S := S) hc (q.1.getD n 0 + 1)
    have ht := (hw.1.1 _ (getD_mem hn)).1
    have hkl : k < (sl S c (q.1.getD n 0) 4096).length := by omega
    refine br_f (fun z => by have := (sub1_lt (by omega) (by omega)).mp z; omega) ?_
    refine br_f (nI_pos (by omega)) (br_f (show ¬ nI 24576 ≤ nI (off S c (q.1.getD n 0) + k) from nI_ge (by omega) (by decide)) ⟨vp_in_nI (by omega) (by decide), ?_⟩)
    have hget : (sl S c (q.1.getD n 0) 4096)[k]? = some ((sl S c (q.1.getD n 0) 4096)[k]) := List.getElem?_eq_getElem hkl
    rw [nI_clamp (by omega), nI_1, hR.2 _ ht k _ hget]
    obtain ⟨hx, hi⟩ := (sl_mem hc).mp (List.getElem_mem hkl)
    refine msrc hw hn hx (fun s1' wi' hw' => ?_) hm
    obtain ⟨b1, b2, b3, b4, b5, b6, b7, b8⟩ := Mo_psh hw.1 hn hx hm
    have en := b4 n hn
    have := ih (k + 1) (psh q n ((sl S c (q.1.getD n 0) 4096)[k])) s1' wi'
    rw [en] at this
    refine this (by omega) hw' b3 b2 (Sd_psh hw.1 hn hi hs) (Vb_psh hw.1 (by omega) hn hx hm hv) (fun j s hj hjs => ?_)
    rw [b5 n hn]
    by_cases z : j = k
    · subst z
      rw [hget] at hjs
      cases hjs
      exact b8
    · obtain ⟨x, hx1, hx2⟩ := hp j s (by omega) hjs
      exact ⟨x, b7 s x hx1, hx2⟩
theorem mb58x (hS : SOk S) (hc : c ≤ 6) {f sr : Nat → Int32} (hR : Sr S c f sr) {K : (Nat → Int32) → Int32 → (Nat → Int32) → Prop} (h : ∀ q s1 wi, DW q s1 wi → (∀ t x, t < 4096 → q.2 t = some x → t ∈ q.1) → Sd S c q → Vb S c q q.1.length → K s1 (nI q.1.length) wi) : ∀ m n q s1 wi, n + m = 4096 → DW q s1 wi → Mo q n → Sd S c q → Vb S c q n → wp_Runs_measureToBad_L58 f sr K (m + 1) (nI n) s1 (nI q.1.length) wi := by
  intro m
  induction m with
  | zero =>
    intro n q s1 wi hn hw hm hs hv
    have hl := QI_le hw.1
    have : n = 4096 := by omega
    subst this
    exact br_t (nI_le (Nat.le_refl 4096) (by decide)) (h q s1 wi hw hm.1 hs (fun j s hj hl2 => hv j s (by omega) hl2))
  | succ m ih =>
    intro n q s1 wi hn hw hm hs hv
    have hl := QI_le hw.1
    refine br_f (show ¬ nI 4096 ≤ nI n from nI_ge (by omega) (by decide)) (br_c (fun z => ?_) (fun z => ?_))
    · have : q.1.length ≤ n := (nI_leI (by omega) (by omega)).mp z
      exact h q s1 wi hw hm.1 hs (fun j s hj hl2 => hv j s (by omega) hl2)
    · have hlt : n < q.1.length := Nat.lt_of_not_le (fun y => z (nI_le y (by omega)))
      have ht := (hw.1.1 _ (getD_mem hlt)).1
      refine q_item hw.2.2 hlt hl ?_
      refine q_isState ht (br_f (by decide) ⟨?_, q_isState ht (br_f (by decide) ⟨vp_in_nI (by omega) (by decide), ?_⟩)⟩)
      · rw [nI_1]; exact vp_in_nI (by omega) (by decide)
      rw [nI_clamp (show q.1.getD n 0 < 2 ^ 31 by omega), nI_1 (q.1.getD n 0), nI_clamp (show q.1.getD n 0 + 1 < 2 ^ 31 by omega), hR.1 _ (show q.1.getD n 0 ≤ 4096 by omega), hR.1 _ (show q.1.getD n 0 + 1 ≤ 4096 by omega), nI_1 n]
      exact ⟨_, mb104x hS hc hR (n := n) (fun q' s1' wi' hw' hn' hm' hs' hv' => ih (n + 1) q' s1' wi' (by omega) hw' (Mo_next hm' hn') hs' hv') (sl S c (q.1.getD n 0) 4096).length 0 q s1 wi (by omega) hw hlt hm hs hv (fun j s hj => absurd hj (Nat.not_lt_zero j))⟩
/-- the states without the goal, in order -/
def bad (S : Nat → Option (List Nat)) : Nat → QLv
  | 0 => ([], fun _ => none)
  | s + 1 => if val S s 1 = 0 then ((bad S s).1 ++ [s], fun u => if u = s then some 0 else (bad S s).2 u) else bad S s
theorem bad_2 (s : Nat) : ∀ u, (bad S s).2 u = if u < s ∧ val S u 1 = 0 then some 0 else none := by
  induction s with
  | zero => intro u; rw [if_neg (fun z => absurd z.1 (Nat.not_lt_zero u))]; rfl
  | succ s ih =>
    intro u
    by_cases z : val S s 1 = 0
    · have e : bad S (s + 1) = ((bad S s).1 ++ [s], fun u => if u = s then some 0 else (bad S s).2 u) := if_pos z
      rw [e]
      show (if u = s then some 0 else (bad S s).2 u) = _
      by_cases y : u = s
      · subst y; rw [if_pos rfl, if_pos ⟨by omega, z⟩]
      · rw [if_neg y, ih u]
        by_cases w : u < s ∧ val S u 1 = 0
        · rw [if_pos w, if_pos ⟨by omega, w.2⟩]
        · rw [if_neg w, if_neg (fun v => w ⟨by omega, v.2⟩)]
    · have e : bad S (s + 1) = bad S s := if_neg z
      rw [e, ih u]
      by_cases w : u < s ∧ val S u 1 = 0
      · rw [if_pos w, if_pos ⟨by omega, w.2⟩]
      · rw [if_neg w, if_neg (fun v => w ⟨by
          by_cases y : u = s
          · subst y; exact absurd v.2 z
          · omega, v.2⟩)]
theorem bad_q (s : Nat) (hs : s ≤ 4096) : (∀ t, t ∈ (bad S s).1 ↔ t < s ∧ val S t 1 = 0) ∧ sm (no1 (bad S s).2) 4096 + (bad S s).1.length = 4096 := by
  induction s with
  | zero =>
    refine ⟨fun t => ⟨fun h => (by cases h), fun h => absurd h.1 (Nat.not_lt_zero t)⟩, ?_⟩
    have k0 : ∀ N, sm (no1 (bad S 0).2) N + (bad S 0).1.length = N := by
      intro N
      induction N with
      | zero => rfl
      | succ N ih =>
        have e1 : no1 (bad S 0).2 N = 1 := rfl
        show sm (no1 (bad S 0).2) N + no1 (bad S 0).2 N + (bad S 0).1.length = N + 1
        omega
    exact k0 4096
  | succ s ih =>
    obtain ⟨a, b⟩ := ih (by omega)
    by_cases z : val S s 1 = 0
    · have e : bad S (s + 1) = ((bad S s).1 ++ [s], fun u => if u = s then some 0 else (bad S s).2 u) := if_pos z
      rw [e]
      refine ⟨fun t => ?_, ?_⟩
      · show t ∈ (bad S s).1 ++ [s] ↔ _
        rw [List.mem_append, List.mem_singleton, a t]
        refine ⟨fun h => ?_, fun h => ?_⟩
        · rcases h with h | h
          · exact ⟨by omega, h.2⟩
          · subst h; exact ⟨by omega, z⟩
        · by_cases y : t = s
          · exact Or.inr y
          · exact Or.inl ⟨by omega, h.2⟩
      · show sm (no1 (fun u => if u = s then some 0 else (bad S s).2 u)) 4096 + ((bad S s).1 ++ [s]).length = 4096
        rw [List.length_append]
        have hn : (bad S s).2 s = none := by rw [bad_2, if_neg (fun w => absurd w.1 (Nat.lt_irrefl s))]
        have := sm_drop (f := no1 (bad S s).2) (g := no1 (fun u => if u = s then some 0 else (bad S s).2 u)) (t := s) (by rw [no1_none hn, no1_some (L := fun u => if u = s then some 0 else (bad S s).2 u) (x := 0) (if_pos rfl)]) (fun u hu => by
          have e3 : (fun v => if v = s then some 0 else (bad S s).2 v) u = (bad S s).2 u := if_neg hu
          unfold no1; rw [e3]) 4096 (by omega)
        show _ + ((bad S s).1.length + 1) = 4096
        omega
    · have e : bad S (s + 1) = bad S s := if_neg z
      rw [e]
      refine ⟨fun t => ?_, b⟩
      rw [a t]
      refine ⟨fun h => ⟨by omega, h.2⟩, fun h => ⟨?_, h.2⟩⟩
      by_cases y : t = s
      · subst y; exact absurd h.2 z
      · omega
theorem mb9x (hS : SOk S) (hg : g ≤ 12) {fa : Nat → Int32} (hF : FaL S c g fa (come S c).2) {K : (Nat → Int32) → Int32 → (Nat → Int32) → Prop} (h : ∀ s1 wi, LvR s1 (bad S 4096).2 → QL wi (bad S 4096).1 → K s1 (nI (bad S 4096).1.length) wi) : ∀ m s s1 wi, s + m = 4096 → (∀ t, t < s → s1 t = tI ((bad S s).2 t)) → QL wi (bad S s).1 → wp_Runs_measureToBad_L9 fa K (m + 1) (nI s) s1 (nI (bad S s).1.length) wi := by
  intro m
  induction m with
  | zero =>
    intro s s1 wi hs h1 h2
    have : s = 4096 := by omega
    subst this
    exact br_t (nI_le (Nat.le_refl 4096) (by decide)) (h s1 wi h1 h2)
  | succ m ih =>
    intro s s1 wi hs h1 h2
    have hin : vp_in (nI s) 4096 := vp_in_nI (by omega) (by decide)
    have hfl := fc_lt (S := S) (c := c) (g := g) hS hg s
    have hcl : (nI s).toNatClampNeg = s := nI_clamp (by omega)
    have hb := bad_q (S := S) s (by omega)
    have hn : (bad S s).2 s = none := by rw [bad_2, if_neg (fun w => absurd w.1 (Nat.lt_irrefl s))]
    have hlt : (bad S s).1.length < 4096 := by
      have := sm_get (f := no1 (bad S s).2) (t := s) (n := 4096) (by omega)
      rw [no1_none hn] at this
      omega
    have hv := val_lt2 hS s (s := 1) (by decide)
    refine br_f (show ¬ nI 4096 ≤ nI s from nI_ge (by omega) (by decide)) ⟨hin, ?_⟩
    refine q_hasAll (m := 2 ^ 1) (show s < 4096 by omega) (hF s (by omega)) (by omega) (by decide) ?_
    have ebit : decide (fc S c g s + 4 * (1 - no1 (come S c).2 s) &&& 2 ^ 1 = 2 ^ 1) = decide (val S s 1 = 1) := by
      have a := val_lt2 hS s (s := 0) (by decide)
      have h3 := and_hi (x := (fc S c g s + 4 * (1 - no1 (come S c).2 s)) % 2 ^ 1) (y := (fc S c g s + 4 * (1 - no1 (come S c).2 s)) / 2 ^ 1) (a := 1) (k := 1) (Nat.mod_lt _ (Nat.two_pow_pos 1))
      rw [Nat.div_add_mod, Nat.mul_one, Nat.and_one_is_mod] at h3
      rw [h3]
      refine decide_eq_decide.mpr ?_
      unfold fc
      omega
    rw [ebit, nI_1, hcl]
    rcases (show val S s 1 = 0 ∨ val S s 1 = 1 by omega) with e | e
    · rw [e]
      refine bn_t rfl ⟨hin, br_f (show ¬ nI 4096 ≤ nI (bad S s).1.length from nI_ge hlt (by decide)) ⟨vp_in_nI hlt (by decide), ?_⟩⟩
      rw [nI_1, nI_clamp (by omega)]
      have e2 : bad S (s + 1) = ((bad S s).1 ++ [s], fun u => if u = s then some 0 else (bad S s).2 u) := if_pos e
      have := ih (s + 1) (upd (upd s1 s (-1)) s 0) (upd wi (bad S s).1.length (nI s)) (by omega) (fun t ht => ?_) (by rw [e2]; exact QL_push h2)
      · rw [e2, List.length_append] at this
        exact this
      · rw [e2]
        show _ = tI (if t = s then some 0 else (bad S s).2 t)
        by_cases z : t = s
        · subst z; rw [pk_us, if_pos rfl]; rfl
        · rw [pk_un z, pk_un z, if_neg z]; exact h1 t (by omega)
    · rw [e]
      have e2 : bad S (s + 1) = bad S s := if_neg (by omega)
      have := ih (s + 1) (upd s1 s (-1)) wi (by omega) (fun t ht => ?_) (by rw [e2]; exact h2)
      · rw [e2] at this
        exact bn_f (by decide) this
      · rw [e2]
        by_cases z : t = s
        · subst z; rw [pk_us, hn]; rfl
        · rw [pk_un z]; exact h1 t (by omega)
/-- d is the least number of turns to a state without the goal -/
def Dd (S : Nat → Option (List Nat)) (c : Nat) (d : Nat → Option Nat) : Prop := ∀ t, t < 4096 → (∀ x, d t = some x → x < 4096 ∧ bd S c x t ∧ ∀ j, bd S c j t → x ≤ j) ∧ (d t = none → ∀ j, ¬ bd S c j t)
theorem Dd_of (hS : SOk S) {q : QLv} (hq : QI q) (hs : Sd S c q) (hv : Vb S c q q.1.length) (hm : ∀ t x, t < 4096 → q.2 t = some x → t ∈ q.1) : Dd S c q.2 := by
  have key : ∀ j t, t < 4096 → bd S c j t → ∃ x, q.2 t = some x ∧ x ≤ j := by
    intro j
    induction j with
    | zero => intro t ht h; exact ⟨0, hs.2 t ht h, Nat.le_refl _⟩
    | succ j ih =>
      intro t ht ⟨i, u, hi, e, hu⟩
      have hul := nxc_lt hS e
      obtain ⟨x, hx, hle⟩ := ih u hul hu
      obtain ⟨k, hk, ek⟩ := mem_getD.mp (hm u x hul hx)
      obtain ⟨y, hy, hly⟩ := hv k t hk hk ht ⟨i, hi, by rw [ek]; exact e⟩
      have : lq q k = x := by unfold lq; rw [ek, hx]; rfl
      exact ⟨y, hy, by omega⟩
  have hl := QI_le hq
  refine fun t ht => ⟨fun x hx => ⟨?_, hs.1 t x ht hx, fun j hj => ?_⟩, fun hn j hj => ?_⟩
  · have := hq.2.1 t x hx
    omega
  · obtain ⟨y, hy, hle⟩ := key j t ht hj
    rw [hx] at hy; cases hy; exact hle
  · obtain ⟨y, hy, hle⟩ := key j t ht hj
    rw [hn] at hy; cases hy
theorem c_measure (hS : SOk S) (hc : c ≤ 6) (hg : g ≤ 12) {fa f sr s1 wi : Nat → Int32} {ws : Int32} (hF : FaL S c g fa (come S c).2) (hR : Sr S c f sr) {post : (Nat → Int32) → Int32 → (Nat → Int32) → Prop} (h : ∀ d s1 ws wi, LvR s1 d → Dd S c d → post s1 ws wi) : wp_Runs_measureToBad fa f sr s1 ws wi post := by
  have hb := bad_q (S := S) 4096 (Nat.le_refl _)
  have hq : QI (bad S 4096) := ⟨fun t ht => ⟨((hb.1 t).mp ht).1, 0, by rw [bad_2, if_pos ((hb.1 t).mp ht)]⟩, fun t x hx => Or.inr (by
    rw [bad_2] at hx
    by_cases z : t < 4096 ∧ val S t 1 = 0
    · rw [if_pos z] at hx; cases hx; rfl
    · rw [if_neg z] at hx; cases hx), hb.2⟩
  have l0 : ∀ j, lq (bad S 4096) j = 0 := fun j => by
    unfold lq
    rw [bad_2]
    split <;> rfl
  have hm : Mo (bad S 4096) 0 := ⟨fun t x ht hx => (hb.1 t).mpr (by
    rw [bad_2] at hx
    by_cases z : t < 4096 ∧ val S t 1 = 0
    · exact z
    · rw [if_neg z] at hx; cases hx), fun i j _ _ => by rw [l0, l0]; exact Nat.le_refl _, fun _ j _ => by rw [l0]; omega⟩
  have hs : Sd S c (bad S 4096) := ⟨fun t x ht hx => (by
    rw [bad_2] at hx
    by_cases z : t < 4096 ∧ val S t 1 = 0
    · rw [if_pos z] at hx; cases hx; exact z.2
    · rw [if_neg z] at hx; cases hx), fun t ht hv => by rw [bad_2, if_pos ⟨ht, hv⟩]⟩
  refine ⟨4097, mb9x hS hg hF (fun s1 wi h1 h2 => ⟨4097, ?_⟩) 4096 0 s1 wi rfl (fun t ht => absurd ht (Nat.not_lt_zero t)) (fun k hk => absurd hk (Nat.not_lt_zero k))⟩
  exact mb58x hS hc hR (fun q s1 wi hw hm hs hv => h q.2 s1 _ wi hw.2.1 (Dd_of hS hw.1 hs hv hm)) 4096 0 (bad S 4096) s1 wi rfl ⟨hq, h1, h2⟩ hm hs (fun j s hj => absurd hj (Nat.not_lt_zero j))
end DI
