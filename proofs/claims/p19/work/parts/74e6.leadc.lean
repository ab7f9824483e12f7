/-! from which states some turns, or all, lead to marked ones: the class -/
section LC
variable {S : Nat → Option (List Nat)} {c : Nat}
theorem sm_dropk {f g : Nat → Nat} {t d : Nat} (h1 : f t = g t + d) (h2 : ∀ u, u ≠ t → f u = g u) : ∀ n, t < n → sm f n = sm g n + d
  | 0, h => absurd h (Nat.not_lt_zero t)
  | n + 1, h => by
    show sm f n + f n = sm g n + g n + d
    by_cases e : t = n
    · subst e
      rw [sm_ext t (fun u hu => h2 u (by omega)), h1]; omega
    · rw [sm_dropk h1 h2 n (by omega), h2 n (fun q => e q.symm)]; omega
theorem sm_le {f g : Nat → Nat} : ∀ n, (∀ t, t < n → f t ≤ g t) → sm f n ≤ sm g n
  | 0, _ => Nat.le_refl 0
  | n + 1, h => by
    show sm f n + f n ≤ sm g n + g n
    have := sm_le n (fun t ht => h t (by omega))
    have := h n (by omega)
    omega
/-- u is one of the first n of the row -/
def pin (W : List Nat) : Nat → Nat → Bool
  | 0, _ => false
  | n + 1, u => pin W n u || decide (W.getD n 0 = u)
theorem pin_iff {W : List Nat} {u : Nat} : ∀ n, pin W n u = true ↔ ∃ j, j < n ∧ W.getD j 0 = u
  | 0 => ⟨fun h => (by cases h), fun ⟨j, hj, _⟩ => absurd hj (Nat.not_lt_zero j)⟩
  | n + 1 => by
    show (pin W n u || decide (W.getD n 0 = u)) = true ↔ _
    rw [Bool.or_eq_true, pin_iff n, decide_eq_true_iff]
    refine ⟨fun h => ?_, fun ⟨j, hj, e⟩ => ?_⟩
    · rcases h with ⟨j, hj, e⟩ | e
      · exact ⟨j, by omega, e⟩
      · exact ⟨n, by omega, e⟩
    · by_cases z : j = n
      · subst z; exact Or.inr e
      · exact Or.inl ⟨j, by omega, e⟩
theorem pin_app {W : List Nat} {x u : Nat} : ∀ n, n ≤ W.length → pin (W ++ [x]) n u = pin W n u
  | 0, _ => rfl
  | n + 1, h => by
    show (pin (W ++ [x]) n u || decide ((W ++ [x]).getD n 0 = u)) = (pin W n u || decide (W.getD n 0 = u))
    rw [pin_app n (by omega), getD_app, if_pos (by omega)]
/-- how many turns of s lead to states that aren't among the first n of the row -/
def unp (S : Nat → Option (List Nat)) (c : Nat) (W : List Nat) (n s : Nat) : Nat := sm (fun u => if pin W n u then 0 else rcn S s u c) 4096
theorem un_app {W : List Nat} {x n s : Nat} (h : n ≤ W.length) : unp S c (W ++ [x]) n s = unp S c W n s := sm_ext 4096 (fun u _ => by rw [pin_app n h])
theorem un_s {W : List Nat} {n s : Nat} (ht : W.getD n 0 < 4096) (hn : pin W n (W.getD n 0) = false) : unp S c W n s = unp S c W (n + 1) s + rcn S s (W.getD n 0) c := by
  unfold unp
  refine sm_dropk (t := W.getD n 0) ?_ (fun u hu => ?_) 4096 ht
  · show (if pin W n (W.getD n 0) then 0 else rcn S s (W.getD n 0) c) = (if (pin W n (W.getD n 0) || decide (W.getD n 0 = W.getD n 0)) then 0 else rcn S s (W.getD n 0) c) + rcn S s (W.getD n 0) c
    rw [hn, decide_eq_true rfl]
    exact (Nat.zero_add _).symm
  · show (if pin W n u then 0 else rcn S s u c) = (if (pin W n u || decide (W.getD n 0 = u)) then 0 else rcn S s u c)
    rw [decide_eq_false (fun e => hu e.symm), Bool.or_false]
theorem un_le {W : List Nat} {n s : Nat} : unp S c W n s ≤ unp S c W 0 s := sm_le 4096 (fun u _ => by
  show (if pin W n u then 0 else rcn S s u c) ≤ rcn S s u c
  split <;> omega)
theorem nt_sum (hS : SOk S) {s : Nat} : ∀ i, nt S s i = sm (fun u => rcn S s u i) 4096
  | 0 => (sm_0 4096).symm
  | i + 1 => by
    have e1 : sm (fun u => rcn S s u (i + 1)) 4096 = sm (fun u => rcn S s u i) 4096 + sm (fun u => if nx S s i = some u then 1 else 0) 4096 := sm_add 4096
    rw [e1, ← nt_sum hS i]
    cases e : nx S s i with
    | none =>
      rw [nt_none e]
      have : sm (fun u => if (none : Option Nat) = some u then 1 else 0) 4096 = 0 := by
        rw [sm_ext (g := fun _ => 0) 4096 (fun u _ => if_neg (by simp)), sm_0]
      omega
    | some t =>
      rw [nt_some e, sm_ind, if_pos (nx_lt hS e)]
def Dj (W : List Nat) : Prop := ∀ i j, i < j → j < W.length → W.getD i 0 ≠ W.getD j 0
/-- the worklist and the marks -/
def WM (W : List Nat) (s1 wi : Nat → Int32) : Prop := QL wi W ∧ Dj W ∧ Bz s1 ∧ (∀ t, t < 4096 → (s1 t = 1 ↔ t ∈ W)) ∧ (∀ t, t ∈ W → t < 4096) ∧ W.length = cw (fun t => decide (s1 t = 1)) 4096
theorem cw_lt {P : Nat → Bool} {t : Nat} (h : P t = false) : ∀ n, t < n → cw P n < n
  | 0, ht => absurd ht (Nat.not_lt_zero t)
  | n + 1, ht => by
    rw [cw_s]
    by_cases e : t = n
    · subst e; rw [h]; have := cw_le P t; show cw P t + 0 < t + 1; omega
    · have := cw_lt h n (by omega)
      split <;> omega
theorem WM_put {W : List Nat} {s1 wi : Nat → Int32} (h : WM W s1 wi) {s : Nat} (hs : s < 4096) (h0 : s1 s = 0) : W.length < 4096 ∧ WM (W ++ [s]) (upd s1 s 1) (upd wi W.length (nI s)) := by
  obtain ⟨a, b, d, e, f, g⟩ := h
  have hns : s ∉ W := fun q => by have := (e s hs).mpr q; rw [h0] at this; cases this
  have hlt : W.length < 4096 := by
    rw [g]
    exact cw_lt (t := s) (by rw [h0]; rfl) 4096 hs
  have len : (W ++ [s]).length = W.length + 1 := by rw [List.length_append]; rfl
  refine ⟨hlt, QL_push a, fun i j hij hj => ?_, Bz_upd d (Or.inr rfl), fun t ht => ?_, fun t ht => ?_, ?_⟩
  · rw [len] at hj
    rw [getD_app, getD_app, if_pos (by omega)]
    by_cases z : j = W.length
    · rw [if_neg (by omega), if_pos z]
      intro q
      exact hns (q ▸ getD_mem (show i < W.length by omega))
    · rw [if_pos (by omega)]; exact b i j hij (by omega)
  · by_cases z : t = s
    · subst z
      rw [pk_us]
      exact ⟨fun _ => List.mem_append_right _ (List.mem_singleton.mpr rfl), fun _ => rfl⟩
    · rw [pk_un z, e t ht, List.mem_append, List.mem_singleton]
      exact ⟨fun q => Or.inl q, fun q => q.resolve_right z⟩
  · rcases List.mem_append.mp ht with q | q
    · exact f t q
    · rw [List.mem_singleton.mp q]; exact hs
  · rw [len, g]
    have : cw (fun t => decide (upd s1 s 1 t = 1)) 4096 = cw (fun t => decide (s1 t = 1)) 4096 + 1 := by
      refine sm_drop (t := s) ?_ (fun u hu => ?_) 4096 hs
      · show (if decide (upd s1 s 1 s = 1) then 1 else 0) = (if decide (s1 s = 1) then 1 else 0) + 1
        rw [pk_us, h0]; rfl
      · show (if decide (upd s1 s 1 u = 1) then 1 else 0) = (if decide (s1 u = 1) then 1 else 0)
        rw [pk_un hu]
    exact this.symm
theorem q_put_x {W : List Nat} {x : Int32} {wi : Nat → Int32} (h : W.length < 4096) {post : Int32 → (Nat → Int32) → Prop} (hp : post (nI (W.length + 1)) (upd wi W.length x)) : wp_Work_put x (nI W.length) wi post := by
  refine br_f (show ¬ nI 4096 ≤ nI W.length from nI_ge h (by decide)) ⟨vp_in_nI h (by decide), ?_⟩
  rw [nI_1, nI_clamp (by omega)]
  exact hp
theorem cl20x {x1 : Int32} {s1 : Nat → Int32} (hb : Bz s1) {K : Int32 → (Nat → Int32) → Prop} (h : ∀ W wi, WM W s1 wi → K (nI W.length) wi) : ∀ m s W wi, s + m = 4096 → WM W (fun t => if t < s then s1 t else 0) wi → wp_Fut_countLeading_L20 x1 s1 K (m + 1) (nI s) (nI W.length) wi
  | 0, s, W, wi, hs, hw => by
    have : s = 4096 := by omega
    subst this
    refine br_t (show nI 4096 ≤ nI 4096 from nI_le (Nat.le_refl _) (by decide)) (h W wi ?_)
    obtain ⟨a, b, d, e, f, g⟩ := hw
    refine ⟨a, b, hb, fun t ht => ?_, f, ?_⟩
    · have := e t ht
      rw [show (fun t => if t < 4096 then s1 t else 0) t = s1 t from if_pos ht] at this
      exact this
    · rw [g]
      refine cw_ext 4096 (fun t ht => ?_)
      show decide ((if t < 4096 then s1 t else 0) = 1) = decide (s1 t = 1)
      rw [if_pos ht]
  | m + 1, s, W, wi, hs, hw => by
    have ih := cl20x (x1 := x1) hb h m (s + 1)
    have hn : (fun t => if t < s then s1 t else 0) s = 0 := if_neg (Nat.lt_irrefl s)
    have nxt : ∀ x, s1 s = x → upd (fun t => if t < s then s1 t else 0) s x = (fun t => if t < s + 1 then s1 t else 0) := fun x hx => by
      funext t
      by_cases z : t = s
      · subst z; rw [pk_us]; show x = if t < t + 1 then s1 t else 0; rw [if_pos (by omega), hx]
      · rw [pk_un z]
        show (if t < s then s1 t else 0) = if t < s + 1 then s1 t else 0
        by_cases y : t < s
        · rw [if_pos y, if_pos (by omega)]
        · rw [if_neg y, if_neg (by omega)]
    refine br_f (show ¬ nI 4096 ≤ nI s from nI_ge (by omega) (by decide)) ⟨vp_in_nI (by omega) (by decide), ?_⟩
    rw [nI_clamp (show s < 2 ^ 31 by omega), nI_1]
    refine bn_c (fun q => ih W wi (by omega) ?_) (fun q => ?_)
    · have h0 : s1 s = 0 := (hb s (by omega)).resolve_right q
      rw [← nxt 0 h0, upd_same hn]
      exact hw
    · obtain ⟨hl, hw2⟩ := WM_put hw (s := s) (by omega) hn
      refine q_put_x hl ?_
      rw [nxt 1 q] at hw2
      have := ih (W ++ [s]) _ (by omega) hw2
      rw [List.length_append] at this
      exact this
end LC
