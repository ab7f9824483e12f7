/-! the row of states come to: levels rise along it; it is closed under turns -/
section B2
variable {S : Nat → Option (List Nat)} {c : Nat}
/-- the level of the j-th state of the row -/
def lq (q : QLv) (j : Nat) : Nat := (q.2 (q.1.getD j 0)).getD 0
def Mo (q : QLv) (k : Nat) : Prop := (∀ t x, t < 4096 → q.2 t = some x → t ∈ q.1) ∧ (∀ i j, i ≤ j → j < q.1.length → lq q i ≤ lq q j) ∧ (k < q.1.length → ∀ j, j < q.1.length → lq q j ≤ lq q k + 1)
/-- what was visited has its turns in the row -/
def Vd (S : Nat → Option (List Nat)) (c : Nat) (q : QLv) (k : Nat) : Prop := ∀ j i t, j < k → j < q.1.length → i < 6 → nxc S c (q.1.getD j 0) i = some t → ∃ x, q.2 t = some x ∧ x ≤ lq q j + 1
theorem getD_app {Q : List Nat} {t j : Nat} : (Q ++ [t]).getD j 0 = if j < Q.length then Q.getD j 0 else if j = Q.length then t else 0 := by
  simp only [List.getD]
  by_cases h : j < Q.length
  · rw [if_pos h, List.getElem?_append_left h]
  · rw [if_neg h, List.getElem?_append_right (by omega)]
    by_cases e : j = Q.length
    · rw [if_pos e, e, Nat.sub_self]; rfl
    · rw [if_neg e]
      obtain ⟨d, hd⟩ : ∃ d, j - Q.length = d + 1 := ⟨j - Q.length - 1, by omega⟩
      rw [hd]; rfl
theorem lq_push {q : QLv} (hq : QI q) {t x : Nat} (hn : q.2 t = none) : (∀ j, j < q.1.length → lq (q.1 ++ [t], fun u => if u = t then some x else q.2 u) j = lq q j) ∧ lq (q.1 ++ [t], fun u => if u = t then some x else q.2 u) q.1.length = x := by
  refine ⟨fun j hj => ?_, ?_⟩
  · unfold lq
    have hm := getD_mem (Q := q.1) hj
    obtain ⟨_, y, hy⟩ := hq.1 _ hm
    have e : (q.1 ++ [t]).getD j 0 = q.1.getD j 0 := by rw [getD_app, if_pos hj]
    show ((if (q.1 ++ [t]).getD j 0 = t then some x else q.2 ((q.1 ++ [t]).getD j 0))).getD 0 = _
    rw [e, if_neg (fun z => by rw [z, hn] at hy; cases hy)]
  · unfold lq
    have e : (q.1 ++ [t]).getD q.1.length 0 = t := by rw [getD_app, if_neg (Nat.lt_irrefl _), if_pos rfl]
    show ((if (q.1 ++ [t]).getD q.1.length 0 = t then some x else q.2 ((q.1 ++ [t]).getD q.1.length 0))).getD 0 = _
    rw [e, if_pos rfl]; rfl
theorem Mo_stp (hS : SOk S) {s i k : Nat} {q : QLv} (hq : QI q) (hk : k < q.1.length) (hs : q.1.getD k 0 = s) (h : Mo q k) : Mo (stp S c s i q) k ∧ k < (stp S c s i q).1.length ∧ (∀ j, j < q.1.length → (stp S c s i q).1.getD j 0 = q.1.getD j 0) ∧ (∀ j, j < q.1.length → lq (stp S c s i q) j = lq q j) ∧ q.1.length ≤ (stp S c s i q).1.length ∧ (∀ t x, q.2 t = some x → (stp S c s i q).2 t = some x) ∧ (∀ t, nxc S c s i = some t → ∃ x, (stp S c s i q).2 t = some x ∧ x ≤ lq q k + 1) := by
  cases e : nxc S c s i with
  | none =>
    rw [stp_none e]
    exact ⟨h, hk, fun _ _ => rfl, fun _ _ => rfl, Nat.le_refl _, fun _ _ z => z, fun t z => by cases z⟩
  | some t =>
    have ht := nxc_lt hS e
    cases e2 : q.2 t with
    | some y =>
      rw [stp_some e e2]
      refine ⟨h, hk, fun _ _ => rfl, fun _ _ => rfl, Nat.le_refl _, fun _ _ z => z, fun t' z => ?_⟩
      cases z
      refine ⟨y, e2, ?_⟩
      obtain ⟨j, hj, ej⟩ := List.getElem_of_mem (h.1 t y ht e2)
      have := h.2.2 hk j hj
      have e3 : lq q j = y := by
        unfold lq
        simp only [List.getD]
        rw [List.getElem?_eq_getElem hj, ej]
        show (q.2 t).getD 0 = y
        rw [e2]; rfl
      omega
    | none =>
      rw [stp_new e e2]
      have P := lq_push (x := (q.2 s).getD 0 + 1) hq e2
      have hlk : lq q k = (q.2 s).getD 0 := by unfold lq; rw [hs]
      have len : (q.1 ++ [t]).length = q.1.length + 1 := by rw [List.length_append]; rfl
      refine ⟨⟨fun u x hu hx => ?_, fun i j hij hj => ?_, fun hk2 j hj => ?_⟩, ?_, fun j hj => ?_, fun j hj => P.1 j hj, ?_, fun u x hx => ?_, fun t' z => ?_⟩
      · show u ∈ q.1 ++ [t]
        have hx : (if u = t then some ((q.2 s).getD 0 + 1) else q.2 u) = some x := hx
        by_cases z : u = t
        · rw [z]; exact List.mem_append_right _ (List.mem_singleton.mpr rfl)
        · rw [if_neg z] at hx; exact List.mem_append_left _ (h.1 u x hu hx)
      · have hj : j < (q.1 ++ [t]).length := hj
        rw [len] at hj
        by_cases z : j = q.1.length
        · subst z
          by_cases y : i = q.1.length
          · subst y; exact Nat.le_refl _
          · rw [P.1 i (by omega), P.2]
            have := h.2.2 hk i (by omega)
            omega
        · rw [P.1 i (by omega), P.1 j (by omega)]
          exact h.2.1 i j hij (by omega)
      · have hj : j < (q.1 ++ [t]).length := hj
        rw [len] at hj
        rw [P.1 k hk]
        by_cases z : j = q.1.length
        · subst z; rw [P.2]; omega
        · rw [P.1 j (by omega)]; exact h.2.2 hk j (by omega)
      · show k < (q.1 ++ [t]).length
        omega
      · show (q.1 ++ [t]).getD j 0 = _
        rw [getD_app, if_pos hj]
      · show q.1.length ≤ (q.1 ++ [t]).length
        omega
      · show (if u = t then _ else q.2 u) = some x
        rw [if_neg (fun z => by rw [z, e2] at hx; cases hx)]
        exact hx
      · cases z
        exact ⟨(q.2 s).getD 0 + 1, if_pos rfl, by omega⟩
theorem Mo_vis (hS : SOk S) {s k : Nat} {q : QLv} (hq : QI q) (hk : k < q.1.length) (hs : q.1.getD k 0 = s) (h : Mo q k) : ∀ n, Mo (vis S c s n q) k ∧ k < (vis S c s n q).1.length ∧ (∀ j, j < q.1.length → (vis S c s n q).1.getD j 0 = q.1.getD j 0) ∧ (∀ j, j < q.1.length → lq (vis S c s n q) j = lq q j) ∧ q.1.length ≤ (vis S c s n q).1.length ∧ (∀ t x, q.2 t = some x → (vis S c s n q).2 t = some x) ∧ (∀ i t, i < n → nxc S c s i = some t → ∃ x, (vis S c s n q).2 t = some x ∧ x ≤ lq q k + 1)
  | 0 => ⟨h, hk, fun _ _ => rfl, fun _ _ => rfl, Nat.le_refl _, fun _ _ z => z, fun i t hi _ => absurd hi (Nat.not_lt_zero i)⟩
  | n + 1 => by
    obtain ⟨a1, a2, a3, a4, a5, a6, a7⟩ := Mo_vis hS hq hk hs h n
    have hq2 := (QI_vis (c := c) (s := s) hS hq (by rw [← hs]; exact getD_mem hk) n).1
    obtain ⟨b1, b2, b3, b4, b5, b6, b7⟩ := Mo_stp (c := c) (i := n) (s := s) hS hq2 a2 (by rw [a3 k hk]; exact hs) a1
    refine ⟨b1, b2, fun j hj => (b3 j (by omega)).trans (a3 j hj), fun j hj => (b4 j (by omega)).trans (a4 j hj), Nat.le_trans a5 b5, fun t x hx => b6 t x (a6 t x hx), fun i t hi hx => ?_⟩
    by_cases z : i = n
    · subst z
      obtain ⟨x, hx1, hx2⟩ := b7 t hx
      rw [a4 k hk] at hx2
      exact ⟨x, hx1, hx2⟩
    · obtain ⟨x, hx1, hx2⟩ := a7 i t (by omega) hx
      exact ⟨x, b6 t x hx1, hx2⟩
theorem Mo_next {q : QLv} {k : Nat} (h : Mo q k) (hk : k < q.1.length) : Mo q (k + 1) := ⟨h.1, h.2.1, fun hk1 j hj => by
  have a := h.2.2 hk j hj
  have b := h.2.1 k (k + 1) (by omega) hk1
  omega⟩
theorem Mo_bfs (hS : SOk S) : ∀ m k (q : QLv), QI q → k + m = 4096 → Mo q k → Vd S c q k → ∃ k', Mo (bfs S c m k q) k' ∧ Vd S c (bfs S c m k q) k' ∧ (bfs S c m k q).1.length ≤ k'
  | 0, k, q, hq, hk, h, hv => ⟨k, h, hv, by have := QI_le hq; show q.1.length ≤ k; omega⟩
  | m + 1, k, q, hq, hk, h, hv => by
    by_cases z : k < q.1.length
    · rw [bfs_s z]
      obtain ⟨a1, a2, a3, a4, a5, a6, a7⟩ := Mo_vis (c := c) hS hq z rfl h 6
      have hq2 := (QI_vis (c := c) hS hq (getD_mem z) 6).1
      refine Mo_bfs hS m (k + 1) _ hq2 (by omega) (Mo_next a1 a2) (fun j i t hj hl hi hx => ?_)
      rw [a3 j (by omega)] at hx
      rw [a4 j (by omega)]
      by_cases y : j = k
      · subst y
        exact a7 i t hi hx
      · obtain ⟨x, hx1, hx2⟩ := hv j i t (by omega) (by omega) hi hx
        exact ⟨x, a6 t x hx1, hx2⟩
    · rw [bfs_end (m + 1) k q (by omega)]
      exact ⟨k, h, hv, by omega⟩
theorem bl_mem : ∀ s t, t < s → val S t 0 ≠ 0 → t ∈ bl S s
  | 0, t, h, _ => absurd h (Nat.not_lt_zero t)
  | s + 1, t, h, hv => by
    show t ∈ (if val S s 0 = 0 then bl S s else bl S s ++ [s])
    by_cases e : t = s
    · subst e; rw [if_neg hv]; exact List.mem_append_right _ (List.mem_singleton.mpr rfl)
    · have := bl_mem s t (by omega) hv
      by_cases z : val S s 0 = 0
      · rw [if_pos z]; exact this
      · rw [if_neg z]; exact List.mem_append_left _ this
theorem lq_0 {j : Nat} : lq (bl S 4096, l0 S) j = 0 := by
  unfold lq
  show (l0 S _).getD 0 = 0
  unfold l0
  split <;> rfl
theorem come_mo (hS : SOk S) : ∃ k', Mo (come S c) k' ∧ Vd S c (come S c) k' ∧ (come S c).1.length ≤ k' := by
  refine Mo_bfs hS 4096 0 _ QI_0 rfl ⟨fun t x ht hx => ?_, fun i j _ _ => by rw [lq_0, lq_0]; exact Nat.le_refl _, fun _ j _ => by rw [lq_0]; omega⟩ (fun j i t hj => absurd hj (Nat.not_lt_zero j))
  have hx : l0 S t = some x := hx
  refine bl_mem 4096 t ht (fun z => ?_)
  unfold l0 at hx
  rw [if_pos z] at hx
  cases hx
/-- a turn from a state come to comes to a state, at most one level on -/
theorem come_turn (hS : SOk S) {s t i k : Nat} (hs : s < 4096) (hi : i < 6) (hk : (come S c).2 s = some k) (hn : nxc S c s i = some t) : ∃ x, (come S c).2 t = some x ∧ x ≤ k + 1 := by
  obtain ⟨k', h1, h2, h3⟩ := come_mo (c := c) hS
  obtain ⟨j, hj, ej⟩ := List.getElem_of_mem (h1.1 s k hs hk)
  have e : (come S c).1.getD j 0 = s := by
    simp only [List.getD]
    rw [List.getElem?_eq_getElem hj, ej]; rfl
  have e2 : lq (come S c) j = k := by unfold lq; rw [e, hk]; rfl
  have := h2 j i t (by omega) hj hi (by rw [e]; exact hn)
  rw [e2] at this
  exact this
/-- the last state of the row has the greatest level -/
theorem grl_max (hS : SOk S) : (grl S c = none → ∀ t, t < 4096 → (come S c).2 t = none) ∧ ∀ k, grl S c = some k → (∃ t, t < 4096 ∧ (come S c).2 t = some k) ∧ ∀ t x, t < 4096 → (come S c).2 t = some x → x ≤ k := by
  obtain ⟨k', h1, h2, h3⟩ := come_mo (c := c) hS
  have hq := QI_come (c := c) hS
  have mem : ∀ t x, t < 4096 → (come S c).2 t = some x → ∃ j, j < (come S c).1.length ∧ lq (come S c) j = x := fun t x ht hx => by
    obtain ⟨j, hj, ej⟩ := List.getElem_of_mem (h1.1 t x ht hx)
    refine ⟨j, hj, ?_⟩
    unfold lq
    simp only [List.getD]
    rw [List.getElem?_eq_getElem hj, ej]
    show ((come S c).2 t).getD 0 = x
    rw [hx]; rfl
  unfold grl
  by_cases e : (come S c).1.length = 0
  · rw [if_pos e]
    refine ⟨fun _ t ht => ?_, fun k hk => by cases hk⟩
    cases z : (come S c).2 t with
    | none => rfl
    | some x =>
      obtain ⟨j, hj, _⟩ := mem t x ht z
      omega
  · rw [if_neg e]
    have hm := getD_mem (Q := (come S c).1) (k := (come S c).1.length - 1) (by omega)
    obtain ⟨hl, y, hy⟩ := hq.1 _ hm
    refine ⟨fun z => (by rw [hy] at z; cases z), fun k hk => ⟨⟨_, hl, hk⟩, fun t x ht hx => ?_⟩⟩
    obtain ⟨j, hj, ej⟩ := mem t x ht hx
    have := h1.2.1 j ((come S c).1.length - 1) (by omega) (by omega)
    have e2 : lq (come S c) ((come S c).1.length - 1) = k := by unfold lq; rw [hk]; rfl
    omega
end B2
