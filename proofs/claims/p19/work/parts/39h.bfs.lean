/-! states that are come to: a row of states and their levels -/
abbrev QLv := List Nat × (Nat → Option Nat)
def stp (S : Nat → Option (List Nat)) (c s i : Nat) (q : QLv) : QLv := match nxc S c s i with
  | none => q
  | some t => match q.2 t with
    | some _ => q
    | none => (q.1 ++ [t], fun u => if u = t then some ((q.2 s).getD 0 + 1) else q.2 u)
def vis (S : Nat → Option (List Nat)) (c s : Nat) : Nat → QLv → QLv
  | 0, q => q
  | i + 1, q => stp S c s i (vis S c s i q)
def bfs (S : Nat → Option (List Nat)) (c : Nat) : Nat → Nat → QLv → QLv
  | 0, _, q => q
  | m + 1, k, q => if k < q.1.length then bfs S c m (k + 1) (vis S c (q.1.getD k 0) 6 q) else q
def bl (S : Nat → Option (List Nat)) : Nat → List Nat
  | 0 => []
  | s + 1 => if val S s 0 = 0 then bl S s else bl S s ++ [s]
def l0 (S : Nat → Option (List Nat)) (t : Nat) : Option Nat := if val S t 0 = 0 then none else some 0
/-- the states come to, in their order, and their levels -/
def come (S : Nat → Option (List Nat)) (c : Nat) : QLv := bfs S c 4096 0 (bl S 4096, l0 S)
def QL (qu : Nat → Int32) (Q : List Nat) : Prop := ∀ k, k < Q.length → qu k = nI (Q.getD k 0)
theorem QL_push {qu : Nat → Int32} {Q : List Nat} {t : Nat} (h : QL qu Q) : QL (upd qu Q.length (nI t)) (Q ++ [t]) := by
  intro k hk
  rw [List.length_append] at hk
  have hk : k < Q.length + 1 := hk
  by_cases e : k = Q.length
  · subst e
    rw [pk_us]
    simp only [List.getD]
    rw [List.getElem?_append_right (Nat.le_refl _), Nat.sub_self]
    rfl
  · rw [pk_un e, h k (by omega)]
    simp only [List.getD]
    rw [List.getElem?_append_left (by omega)]
def no1 (L : Nat → Option Nat) (t : Nat) : Nat := match L t with | none => 1 | some _ => 0
theorem no1_none {L : Nat → Option Nat} {t : Nat} (h : L t = none) : no1 L t = 1 := by unfold no1; rw [h]
theorem no1_some {L : Nat → Option Nat} {t x : Nat} (h : L t = some x) : no1 L t = 0 := by unfold no1; rw [h]
theorem sm_get {f : Nat → Nat} {t : Nat} : ∀ {n}, t < n → f t ≤ sm f n
  | 0, h => absurd h (Nat.not_lt_zero t)
  | n + 1, h => by
    show f t ≤ sm f n + f n
    by_cases e : t = n
    · subst e; omega
    · have := sm_get (f := f) (t := t) (n := n) (by omega); omega
theorem sm_ext {f g : Nat → Nat} : ∀ n, (∀ t, t < n → f t = g t) → sm f n = sm g n
  | 0, _ => rfl
  | n + 1, h => by
    show sm f n + f n = sm g n + g n
    rw [sm_ext n (fun t ht => h t (by omega)), h n (by omega)]
theorem sm_drop {f g : Nat → Nat} {t : Nat} (h1 : f t = g t + 1) (h2 : ∀ u, u ≠ t → f u = g u) : ∀ n, t < n → sm f n = sm g n + 1
  | 0, h => absurd h (Nat.not_lt_zero t)
  | n + 1, h => by
    show sm f n + f n = sm g n + g n + 1
    by_cases e : t = n
    · subst e
      rw [sm_ext t (fun u hu => h2 u (by omega)), h1]; omega
    · rw [sm_drop h1 h2 n (by omega), h2 n (fun q => e q.symm)]; omega
/-- what holds of the row and the levels at all times -/
def QI (q : QLv) : Prop := (∀ t, t ∈ q.1 → t < 4096 ∧ ∃ x, q.2 t = some x) ∧ (∀ t x, q.2 t = some x → x < q.1.length ∨ x = 0) ∧ sm (no1 q.2) 4096 + q.1.length = 4096
theorem QI_le {q : QLv} (h : QI q) : q.1.length ≤ 4096 := by have := h.2.2; omega
theorem QI_lt {q : QLv} (h : QI q) {t : Nat} (ht : t < 4096) (hn : q.2 t = none) : q.1.length < 4096 := by
  have h1 := h.2.2
  have h2 := sm_get (f := no1 q.2) ht
  rw [no1_none hn] at h2; omega
theorem QI_push {q : QLv} (h : QI q) {t x : Nat} (ht : t < 4096) (hn : q.2 t = none) (hx : x ≤ q.1.length) : QI (q.1 ++ [t], fun u => if u = t then some x else q.2 u) := by
  refine ⟨fun u hu => ?_, fun u y hy => ?_, ?_⟩
  · show u < 4096 ∧ ∃ z, (if u = t then some x else q.2 u) = some z
    rcases List.mem_append.mp hu with a | a
    · obtain ⟨a1, z, a2⟩ := h.1 u a
      refine ⟨a1, ?_⟩
      by_cases e : u = t
      · exact ⟨x, if_pos e⟩
      · exact ⟨z, by rw [if_neg e]; exact a2⟩
    · have : u = t := List.mem_singleton.mp a
      subst this
      exact ⟨ht, x, if_pos rfl⟩
  · have hy : (if u = t then some x else q.2 u) = some y := hy
    show y < (q.1 ++ [t]).length ∨ y = 0
    rw [List.length_append]
    show y < q.1.length + 1 ∨ y = 0
    by_cases e : u = t
    · rw [if_pos e] at hy; cases hy; omega
    · rw [if_neg e] at hy; have := h.2.1 u y hy; omega
  · show sm (no1 (fun u => if u = t then some x else q.2 u)) 4096 + (q.1 ++ [t]).length = 4096
    have e := sm_drop (f := no1 q.2) (g := no1 (fun u => if u = t then some x else q.2 u)) (t := t) (by rw [no1_none hn, no1_some (x := x) (if_pos rfl)]) (fun u hu => by
      have e : (fun u => if u = t then some x else q.2 u) u = q.2 u := if_neg hu
      unfold no1; rw [e]) 4096 ht
    rw [List.length_append]
    show _ + (q.1.length + 1) = 4096
    have := h.2.2
    omega
section BF
variable {S : Nat → Option (List Nat)} {c : Nat}
theorem stp_none {s i : Nat} {q : QLv} (h : nxc S c s i = none) : stp S c s i q = q := by unfold stp; rw [h]
theorem stp_some {s i t x : Nat} {q : QLv} (h : nxc S c s i = some t) (h2 : q.2 t = some x) : stp S c s i q = q := by unfold stp; rw [h]; show (match q.2 t with | some _ => q | none => _) = q; rw [h2]
theorem stp_new {s i t : Nat} {q : QLv} (h : nxc S c s i = some t) (h2 : q.2 t = none) : stp S c s i q = (q.1 ++ [t], fun u => if u = t then some ((q.2 s).getD 0 + 1) else q.2 u) := by unfold stp; rw [h]; show (match q.2 t with | some _ => q | none => _) = _; rw [h2]
theorem nxc_lt (hS : SOk S) {t i x : Nat} (h : nxc S c t i = some x) : x < 4096 := by
  unfold nxc at h
  split at h
  · exact nx_lt hS h
  · cases h
theorem QI_stp (hS : SOk S) {s i : Nat} {q : QLv} (h : QI q) (hs : s ∈ q.1) : QI (stp S c s i q) ∧ s ∈ (stp S c s i q).1 ∧ (stp S c s i q).2 s = q.2 s := by
  cases e : nxc S c s i with
  | none => rw [stp_none e]; exact ⟨h, hs, rfl⟩
  | some t =>
    cases e2 : q.2 t with
    | some x => rw [stp_some e e2]; exact ⟨h, hs, rfl⟩
    | none =>
      obtain ⟨_, x, hx⟩ := h.1 s hs
      have hl : 0 < q.1.length := List.length_pos_of_mem hs
      have h1 := h.2.1 s x hx
      rw [stp_new e e2, hx]
      refine ⟨QI_push h (nxc_lt hS e) e2 (show x + 1 ≤ q.1.length by omega), List.mem_append_left _ hs, ?_⟩
      show (if s = t then _ else q.2 s) = some x
      by_cases e3 : s = t
      · subst e3; rw [hx] at e2; cases e2
      · rw [if_neg e3, hx]
theorem QI_vis (hS : SOk S) {s : Nat} {q : QLv} (h : QI q) (hs : s ∈ q.1) : ∀ i, QI (vis S c s i q) ∧ s ∈ (vis S c s i q).1 ∧ (vis S c s i q).2 s = q.2 s
  | 0 => ⟨h, hs, rfl⟩
  | i + 1 => by
    obtain ⟨a, b, d⟩ := QI_vis hS h hs i
    obtain ⟨a2, b2, d2⟩ := QI_stp (c := c) hS (i := i) a b
    exact ⟨a2, b2, d2.trans d⟩
theorem vis_big {s : Nat} {q : QLv} : ∀ k, vis S c s (c + k) q = vis S c s c q
  | 0 => rfl
  | k + 1 => by
    show stp S c s (c + k) (vis S c s (c + k) q) = _
    rw [stp_none (if_neg (by omega)), vis_big k]
theorem vis_6 (hc : c ≤ 6) {s : Nat} {q : QLv} : vis S c s 6 q = vis S c s c q := by
  rw [show 6 = c + (6 - c) by omega]; exact vis_big (6 - c)
theorem bl_lt : ∀ s t, t ∈ bl S s → t < s ∧ val S t 0 ≠ 0
  | 0, t, h => by cases h
  | s + 1, t, h => by
    unfold bl at h
    split at h
    · have := bl_lt s t h; exact ⟨by omega, this.2⟩
    · rcases List.mem_append.mp h with a | a
      · have := bl_lt s t a; exact ⟨by omega, this.2⟩
      · have : t = s := List.mem_singleton.mp a
        subst this
        exact ⟨Nat.lt_succ_self t, by assumption⟩
theorem bl_len : ∀ s, sm (no1 (l0 S)) s + (bl S s).length = s
  | 0 => rfl
  | s + 1 => by
    have h := bl_len s
    show sm (no1 (l0 S)) s + no1 (l0 S) s + (bl S (s + 1)).length = s + 1
    unfold bl
    by_cases e : val S s 0 = 0
    · rw [if_pos e, no1_none (if_pos e)]; omega
    · rw [if_neg e, no1_some (x := 0) (if_neg e), List.length_append]
      show _ + 0 + ((bl S s).length + 1) = s + 1
      omega
theorem QI_0 : QI (bl S 4096, l0 S) := ⟨fun t ht => ⟨(bl_lt 4096 t ht).1, 0, if_neg (bl_lt 4096 t ht).2⟩, fun t x h => by
  have h : l0 S t = some x := h
  unfold l0 at h
  split at h
  · cases h
  · cases h; exact Or.inr rfl, bl_len 4096⟩
theorem bfs_end : ∀ m k (q : QLv), q.1.length ≤ k → bfs S c m k q = q
  | 0, _, _, _ => rfl
  | m + 1, k, q, h => if_neg (by omega)
theorem bfs_s {m k : Nat} {q : QLv} (h : k < q.1.length) : bfs S c (m + 1) k q = bfs S c m (k + 1) (vis S c (q.1.getD k 0) 6 q) := if_pos h
theorem getD_mem {Q : List Nat} {k : Nat} (h : k < Q.length) : Q.getD k 0 ∈ Q := by
  simp only [List.getD]
  rw [List.getElem?_eq_getElem h]
  exact List.getElem_mem h
theorem QI_bfs (hS : SOk S) : ∀ m k (q : QLv), QI q → QI (bfs S c m k q)
  | 0, _, q, h => h
  | m + 1, k, q, h => by
    by_cases e : k < q.1.length
    · rw [bfs_s e]; exact QI_bfs hS m (k + 1) _ (QI_vis hS h (getD_mem e) 6).1
    · rw [bfs_end _ _ _ (by omega)]; exact h
theorem QI_come (hS : SOk S) : QI (come S c) := QI_bfs hS 4096 0 _ QI_0
end BF
