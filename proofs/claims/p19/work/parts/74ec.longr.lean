/-! longest: how long runs get; the reference's heights -/
section LR
variable {S : Nat → Option (List Nat)} {c : Nat}
/-- a run of k turns begins in s -/
def Pk (S : Nat → Option (List Nat)) (c : Nat) : Nat → Nat → Prop
  | 0, _ => True
  | k + 1, s => ∃ i u, i < 6 ∧ nxc S c s i = some u ∧ Pk S c k u
def Rc1 (S : Nat → Option (List Nat)) (c s : Nat) : Prop := s < 4096 ∧ ∃ l, (come S c).2 s = some l
def Lpk (S : Nat → Option (List Nat)) (c k : Nat) : Prop := ∃ s, Rc1 S c s ∧ Pk S c k s
def LoR (S : Nat → Option (List Nat)) (c : Nat) (r : Int32) : Prop := ((∀ k, Lpk S c k) ∧ r = nI 5000) ∨ ∃ M, r = nI M ∧ Lpk S c M ∧ ∀ k, Lpk S c k → k ≤ M
theorem LoR_eq {r r' : Int32} (h : LoR S c r) (h' : LoR S c r') : r = r' := by
  rcases h with ⟨h1, h2⟩ | ⟨M, h2, h3, h4⟩ <;> rcases h' with ⟨h1', h2'⟩ | ⟨M', h2', h3', h4'⟩
  · rw [h2, h2']
  · have := h4' _ (h1 (M' + 1)); omega
  · have := h4 _ (h1' (M + 1)); omega
  · rw [h2, h2', Nat.le_antisymm (h4' M h3) (h4 M' h3')]
theorem Rc_next (hS : SOk S) {s i u : Nat} (h : Rc1 S c s) (hi : i < 6) (e : nxc S c s i = some u) : Rc1 S c u := by
  obtain ⟨hs, l, hl⟩ := h
  obtain ⟨x, hx, _⟩ := come_turn hS hs hi hl e
  exact ⟨nxc_lt hS e, x, hx⟩
/-- from a state that begins a run gets at least as long -/
theorem beg_long (hS : SOk S) : ∀ x u k, u < 4096 → (come S c).2 u = some x → Pk S c k u → ∃ b, b < 4096 ∧ val S b 0 ≠ 0 ∧ Pk S c (x + k) b
  | 0, u, k, hu, hx, hp => ⟨u, hu, come_0 hx, by rw [Nat.zero_add]; exact hp⟩
  | x + 1, u, k, hu, hx, hp => by
    obtain ⟨s, i, hs, hi, h1, h2⟩ := Bk_come (c := c) hS u x hx
    obtain ⟨b, hb, h3, h4⟩ := beg_long hS x s (k + 1) hs h1 ⟨i, u, hi, h2, hp⟩
    exact ⟨b, hb, h3, by rw [show x + 1 + k = x + (k + 1) by omega]; exact h4⟩
/-- h is the length of the longest run from s -/
def Ht (S : Nat → Option (List Nat)) (c h s : Nat) : Prop := Pk S c h s ∧ ∀ k, Pk S c k s → k ≤ h
variable {nr iB lv : Nat → Int32}
/-- the heights told so far -/
def Hv (S : Nat → Option (List Nat)) (c : Nat) (f : Nat → Int32) : Prop := ∀ t, t < 4096 → f t = -1 ∨ ∃ h, f t = nI h ∧ h + ngh f < 4096 ∧ Ht S c h t
/-- no state come to and looked at so far could get its height -/
def Qh (S : Nat → Option (List Nat)) (c : Nat) (f : Nat → Int32) (s : Nat) : Prop := ∀ t, t < s → Rc1 S c t → f t = -1 → ∃ j u, j < 6 ∧ nxc S c t j = some u ∧ f u = -1
theorem nI_nm1 {h : Nat} (hh : h < 2 ^ 31) : nI h ≠ -1 := fun e => by
  have := nI_pos hh
  rw [e] at this
  exact absurd (by decide) this
theorem m1_n0 : ¬ (0 : Int32) ≤ -1 := by decide
/-- the height of s, as far as its first i turns tell -/
def H8 (S : Nat → Option (List Nat)) (c : Nat) (f : Nat → Int32) (s i : Nat) (b : Option Nat) : Prop := (b = none → ∃ j u, j < 6 ∧ nxc S c s j = some u ∧ f u = -1) ∧ ∀ y, b = some y → (∀ j u, j < i → nxc S c s j = some u → ∃ h, f u = nI h ∧ h + ngh f < 4096 ∧ h + 1 ≤ y) ∧ (y = 0 ∨ ∃ j u h, j < i ∧ nxc S c s j = some u ∧ f u = nI h ∧ h + ngh f < 4096 ∧ y = h + 1)
theorem lo82x (hS : SOk S) (hN : NxR S c nr) {s : Nat} (hs : s < 4096) {x1 x2 : Int32} {f : Nat → Int32} (hf : Hv S c f) {K : Int32 → Prop} (h : ∀ b, H8 S c f s 6 b → K (tI b)) : ∀ m i b, i + m = 6 → H8 S c f s i b → wp_Md_longest_L82 x1 x2 (nI s) nr f K (m + 1) (tI b) (nI i) := by
  intro m
  induction m with
  | zero =>
    intro i b hi hb
    have : i = 6 := by omega
    subst this
    exact br_t (show nI 6 ≤ nI 6 from nI_le (Nat.le_refl _) (by decide)) (h b hb)
  | succ m ih0 =>
    intro i b hi hb
    have ih := fun b hb => ih0 (i + 1) b (by omega) hb
    refine br_f (show ¬ nI 6 ≤ nI i from nI_ge (by omega) (by decide)) ?_
    cases eb : b with
    | none =>
      subst eb
      exact br_t (show (-1 : Int32) < 0 by decide) (h none ⟨hb.1, fun y e => by cases e⟩)
    | some y =>
      subst eb
      obtain ⟨h1, h2⟩ := hb.2 y rfl
      have hy : y ≤ 4096 := by
        rcases h2 with e | ⟨j, u, h, _, _, _, e1, e2⟩ <;> omega
      refine br_f (nI_pos (show y < 2 ^ 31 by omega)) ⟨(nxi hs (by omega)).1, fun x ex => ?_⟩
      rw [(nxi hs (by omega)).2, hN s hs i (by omega)] at ex
      rw [nI_1]
      cases e : nxc S c s i with
      | none =>
        rw [e] at ex
        subst ex
        refine br_f m1_n0 (ih (some y) ⟨fun z => (by cases z), fun y' e' => ?_⟩)
        cases e'
        refine ⟨fun j u hj hu => ?_, ?_⟩
        · by_cases z : j = i
          · subst z; rw [e] at hu; cases hu
          · exact h1 j u (by omega) hu
        · rcases h2 with q | ⟨j, u, h, hj, q⟩
          · exact Or.inl q
          · exact Or.inr ⟨j, u, h, by omega, q⟩
      | some u =>
        have hu := nxc_lt hS e
        rw [e] at ex
        subst ex
        have hin : vp_in (nI u) 4096 := vp_in_nI hu (by decide)
        refine br_t (nI_pos' (show u < 2 ^ 31 by omega)) ⟨hin, ?_⟩
        rw [show tI (some u) = nI u from rfl, nI_clamp (show u < 2 ^ 31 by omega)]
        rcases hf u hu with e1 | ⟨hh, e1, e2, e3⟩
        · rw [e1]
          exact br_f m1_n0 (ih none ⟨fun _ => ⟨i, u, by omega, e, e1⟩, fun y e => by cases e⟩)
        · rw [e1]
          refine br_t (nI_pos' (by omega)) ⟨hin, ?_⟩
          rw [nI_1]
          refine br_c (fun q => ih (some y) ⟨fun z => (by cases z), fun y' e' => ?_⟩) (fun q => ⟨hin, fun z ez => ?_⟩)
          · cases e'
            have hle := (nI_leI (by omega) (by omega)).mp q
            refine ⟨fun j v hj hv => ?_, ?_⟩
            · by_cases z : j = i
              · subst z; rw [e] at hv; cases hv; exact ⟨hh, e1, e2, hle⟩
              · exact h1 j v (by omega) hv
            · rcases h2 with q | ⟨j, u, h, hj, q⟩
              · exact Or.inl q
              · exact Or.inr ⟨j, u, h, by omega, q⟩
          · have hlt : y < hh + 1 := Nat.lt_of_not_le (fun z => q (nI_le z (by omega)))
            rw [ez]
            refine ih (some (hh + 1)) ⟨fun z => (by cases z), fun y' e' => ?_⟩
            cases e'
            refine ⟨fun j v hj hv => ?_, Or.inr ⟨i, u, hh, by omega, e, e1, e2, rfl⟩⟩
            by_cases z : j = i
            · subst z; rw [e] at hv; cases hv; exact ⟨hh, e1, e2, Nat.le_refl _⟩
            · obtain ⟨h', a1, a2, a3⟩ := h1 j v (by omega) hv
              exact ⟨h', a1, a2, by omega⟩
theorem H8_Ht (hS : SOk S) {s y : Nat} {f : Nat → Int32} (hf : Hv S c f) (h : H8 S c f s 6 (some y)) : Ht S c y s ∧ (y = 0 ∨ ∃ h, y = h + 1 ∧ h + ngh f < 4096) := by
  obtain ⟨h1, h2⟩ := h.2 y rfl
  have ht : ∀ u hh, u < 4096 → f u = nI hh → hh + ngh f < 4096 → Ht S c hh u := fun u hh hu e e2 => by
    rcases hf u hu with q | ⟨h', q1, q2, q3⟩
    · rw [e] at q; exact absurd q (nI_nm1 (by omega))
    · rw [e] at q1
      rw [(nI_eq (by omega) (by omega)).mp q1]; exact q3
  refine ⟨⟨?_, fun k hk => ?_⟩, ?_⟩
  · rcases h2 with e | ⟨j, u, hh, hj, e, e1, e2, e3⟩
    · subst e; exact trivial
    · subst e3
      exact ⟨j, u, hj, e, (ht u hh (nxc_lt hS e) e1 e2).1⟩
  · cases k with
    | zero => exact Nat.zero_le _
    | succ k =>
      obtain ⟨i, u, hi, e, hp⟩ := hk
      obtain ⟨hh, e1, e2, e3⟩ := h1 i u hi e
      have := (ht u hh (nxc_lt hS e) e1 e2).2 k hp
      omega
  · rcases h2 with e | ⟨j, u, hh, hj, e, e1, e2, e3⟩
    · exact Or.inl e
    · exact Or.inr ⟨hh, e3, e2⟩
theorem lo49x (hS : SOk S) (hN : NxR S c nr) (hL : LvR lv (come S c).2) {N : Nat} {K : Int32 → (Nat → Int32) → Prop} (h : ∀ r f, Dh N r f → Hv S c f → (r = 0 → Qh S c f 4096) → K r f) : ∀ m s r f, s + m = 4096 → Dh N r f → Hv S c f → (r = 0 → Qh S c f s) → wp_Md_longest_L49 nr lv K (m + 1) r (nI s) f := by
  intro m
  induction m with
  | zero =>
    intro s r f hs hd hf hq
    have : s = 4096 := by omega
    subst this
    exact br_t (nI_le (Nat.le_refl 4096) (by decide)) (h _ _ hd hf hq)
  | succ m ih0 =>
    intro s r f hs hd hf hq
    have ih := fun r f hd hf hq => ih0 (s + 1) r f (by omega) hd hf hq
    have hs4 : s < 4096 := by omega
    have hv : vp_in (nI s) 4096 := vp_in_nI hs4 (by decide)
    have up : ∀ {f : Nat → Int32}, Qh S c f s → (Rc1 S c s → f s = -1 → ∃ j u, j < 6 ∧ nxc S c s j = some u ∧ f u = -1) → Qh S c f (s + 1) := fun hq hk t ht hr e => by
      by_cases z : t = s
      · subst z; exact hk hr e
      · exact hq t (by omega) hr e
    refine br_f (show ¬ nI 4096 ≤ nI s from nI_ge (by omega) (by decide)) ⟨hv, ?_⟩
    rw [nI_1, nI_clamp (show s < 2 ^ 31 by omega), hL s hs4]
    cases e : (come S c).2 s with
    | none => exact br_t (show (-1 : Int32) < 0 by decide) (ih _ _ hd hf (fun q => up (hq q) (fun ⟨_, l, hl⟩ => by rw [e] at hl; cases hl)))
    | some l =>
      have hl := lev_lt hS e
      refine br_f (nI_pos (show l < 2 ^ 31 by omega)) ⟨hv, ?_⟩
      rcases hf s hs4 with e1 | ⟨hh, e1, e2, e3⟩
      · rw [e1]
        refine br_f m1_n0 ⟨7, lo82x hS hN hs4 hf (fun b hb => ⟨hv, ?_⟩) 6 0 (some 0) rfl ⟨fun z => (by cases z), fun y ey => by cases ey; exact ⟨fun j u hj => absurd hj (Nat.not_lt_zero j), Or.inl rfl⟩⟩⟩
        cases eb : b with
        | none =>
          subst eb
          have hu : upd f s (tI none) = f := upd_same e1
          rw [hu]
          have hk := hb.1 rfl
          refine bn_c (fun q => ih _ _ ?_ hf (fun z => absurd z (by decide))) (fun q => br_t (show (-1 : Int32) < 0 by decide) (ih _ _ ?_ hf (fun _ => up (hq q) (fun _ _ => hk))))
          · rcases hd with hd | hd
            · exact Or.inl hd
            · exact absurd hd.2 q
          · subst q; exact hd
        | some y =>
          subst eb
          obtain ⟨a1, a2⟩ := H8_Ht hS hf hb
          have hng : ¬ (0 : Int32) ≤ f s := by rw [e1]; exact m1_n0
          have hy : y ≤ 4096 := by rcases a2 with q | ⟨h', q1, q2⟩ <;> omega
          have e4 := ngh_upd (f := f) (t := s) (x := tI (some y)) hs4 hng (nI_pos' (by omega))
          have e5 : Dh N 1 (upd f s (tI (some y))) := Or.inl (by rcases hd with hd | hd <;> omega)
          have e6 : Hv S c (upd f s (tI (some y))) := fun t ht => by
            by_cases z : t = s
            · subst z
              rw [pk_us]
              refine Or.inr ⟨y, rfl, ?_, a1⟩
              have := ngh_le f
              rcases a2 with q | ⟨h', q1, q2⟩ <;> omega
            · rw [pk_un z]
              rcases hf t ht with q | ⟨h', q1, q2, q3⟩
              · exact Or.inl q
              · exact Or.inr ⟨h', q1, by omega, q3⟩
          exact bn_c (fun _ => ih _ _ e5 e6 (fun z => absurd z (by decide))) (fun _ => br_f (nI_pos (show y < 2 ^ 31 by omega)) (ih _ _ e5 e6 (fun z => absurd z (by decide))))
      · rw [e1]
        exact br_t (nI_pos' (by omega)) (ih _ _ hd hf (fun q => up (hq q) (fun _ z => by rw [e1] at z; exact absurd z (nI_nm1 (by omega)))))
theorem lo41x (hS : SOk S) (hN : NxR S c nr) (hL : LvR lv (come S c).2) {K : (Nat → Int32) → Prop} (h : ∀ f, Hv S c f → Qh S c f 4096 → K f) : ∀ n r f, ngh f < n ∨ r = 0 → Hv S c f → (r = 0 → Qh S c f 4096) → wp_Md_longest_L41 nr lv K (n + 1) r f := by
  intro n
  induction n with
  | zero =>
    intro r f hd hf hq
    rcases hd with hd | hd
    · exact absurd hd (Nat.not_lt_zero _)
    · exact br_t hd (h _ hf (hq hd))
  | succ n ih0 =>
    intro r f hd hf hq
    refine br_c (fun z => h _ hf (hq z)) (fun q => ?_)
    rcases hd with hd | hd
    · refine ⟨4097, lo49x hS hN hL (N := ngh f) (fun r f2 h2 hf hq => ih0 r f2 ?_ hf hq) 4096 0 0 f rfl (Or.inr ⟨rfl, rfl⟩) hf (fun _ t ht => absurd ht (Nat.not_lt_zero t))⟩
      rcases h2 with h2 | h2
      · exact Or.inl (by omega)
      · exact Or.inr h2.2
    · exact absurd hd q
theorem lo19x {K : (Nat → Int32) → Prop} (h : ∀ f, (∀ t, t < 4096 → f t = -1) → K f) : ∀ m s f, s + m = 4096 → (∀ t, t < s → f t = -1) → wp_Md_longest_L19 K (m + 1) (nI s) f
  | 0, s, f, hs, h1 => by
    have : s = 4096 := by omega
    subst this
    exact br_t (nI_le (Nat.le_refl 4096) (by decide)) (h f h1)
  | m + 1, s, f, hs, h1 => by
    refine br_f (show ¬ nI 4096 ≤ nI s from nI_ge (by omega) (by decide)) ⟨vp_in_nI (by omega) (by decide), ?_⟩
    rw [nI_1, nI_clamp (show s < 2 ^ 31 by omega)]
    refine lo19x h m (s + 1) _ (by omega) (fun t ht => ?_)
    by_cases e : t = s
    · subst e; rw [pk_us]
    · rw [pk_un e]; exact h1 t (by omega)
theorem Qh_inf {f : Nat → Int32} (hS : SOk S) (hq : Qh S c f 4096) : ∀ k t, Rc1 S c t → f t = -1 → Pk S c k t
  | 0, t, _, _ => trivial
  | k + 1, t, hr, e => by
    obtain ⟨j, u, hj, h1, h2⟩ := hq t hr.1 hr e
    exact ⟨j, u, hj, h1, Qh_inf hS hq k u (Rc_next hS hr hj h1) h2⟩
/-- the greatest height of the states that begin, among the first s -/
def Bh (S : Nat → Option (List Nat)) (c : Nat) (f : Nat → Int32) (s m : Nat) : Prop := m ≤ 4096 ∧ (∀ t, t < s → Rc1 S c t → f t ≠ -1) ∧ (∀ t, t < s → val S t 0 ≠ 0 → ∃ h, f t = nI h ∧ h ≤ m ∧ h ≤ 4096) ∧ (m = 0 ∨ ∃ t, t < s ∧ val S t 0 ≠ 0 ∧ f t = nI m)
theorem lo204x (hS : SOk S) (hB : ∀ t, t < 4096 → iB t = nI (val S t 0)) (hL : LvR lv (come S c).2) {f : Nat → Int32} (hf : Hv S c f) {K : Int32 → Prop} {K2 : Prop} (h : ∀ m, Bh S c f 4096 m → K (nI m)) (h2 : (∃ t, Rc1 S c t ∧ f t = -1) → K2) : ∀ n s m, s + n = 4096 → Bh S c f s m → wp_Md_longest_L204 iB lv f K K2 (n + 1) (nI m) (nI s) := by
  intro n
  induction n with
  | zero =>
    intro s m hs hm
    have : s = 4096 := by omega
    subst this
    exact br_t (nI_le (Nat.le_refl 4096) (by decide)) (h m hm)
  | succ n ih0 =>
    intro s m hs hm
    have ih := fun m hm => ih0 (s + 1) m (by omega) hm
    have hs4 : s < 4096 := by omega
    have hv : vp_in (nI s) 4096 := vp_in_nI hs4 (by decide)
    have hv2 := val_lt2 hS s (s := 0) (by decide)
    obtain ⟨b1, b2, b3, b4⟩ := hm
    refine br_f (show ¬ nI 4096 ≤ nI s from nI_ge (by omega) (by decide)) ⟨hv, ?_⟩
    rw [nI_1, nI_clamp (show s < 2 ^ 31 by omega), hL s hs4, hB s hs4]
    cases e : (come S c).2 s with
    | none =>
      have hv0 : val S s 0 = 0 := by
        by_cases z : val S s 0 = 0
        · exact z
        · rw [come_beg z] at e; cases e
      refine br_t (show (-1 : Int32) < 0 by decide) ⟨hv, ?_⟩
      rw [hv0]
      refine br_t rfl (ih m ⟨b1, fun t ht hr => ?_, fun t ht hb => ?_, ?_⟩)
      · by_cases z : t = s
        · subst z; obtain ⟨_, l, hl⟩ := hr; rw [e] at hl; cases hl
        · exact b2 t (by omega) hr
      · by_cases z : t = s
        · subst z; exact absurd hv0 hb
        · exact b3 t (by omega) hb
      · rcases b4 with q | ⟨t, ht, q⟩
        · exact Or.inl q
        · exact Or.inr ⟨t, by omega, q⟩
    | some l =>
      have hl := lev_lt hS e
      refine br_f (nI_pos (show l < 2 ^ 31 by omega)) ⟨hv, ?_⟩
      rcases hf s hs4 with e1 | ⟨hh, e1, e2, e3⟩
      · rw [e1]
        exact br_f m1_n0 (h2 ⟨s, ⟨hs4, l, e⟩, e1⟩)
      · rw [e1]
        refine br_t (nI_pos' (by omega)) ⟨hv, ?_⟩
        have r2 : ∀ t, t < s + 1 → Rc1 S c t → f t ≠ -1 := fun t ht hr => by
          by_cases z : t = s
          · subst z; rw [e1]; exact nI_nm1 (by omega)
          · exact b2 t (by omega) hr
        rcases (show val S s 0 = 0 ∨ val S s 0 = 1 by omega) with e4 | e4
        · rw [e4]
          refine br_t rfl (ih m ⟨b1, r2, fun t ht hb => ?_, ?_⟩)
          · by_cases z : t = s
            · subst z; exact absurd e4 hb
            · exact b3 t (by omega) hb
          · rcases b4 with q | ⟨t, ht, q⟩
            · exact Or.inl q
            · exact Or.inr ⟨t, by omega, q⟩
        · rw [e4]
          refine br_f (by decide) ⟨hv, br_c (fun q => ih m ⟨b1, r2, fun t ht hb => ?_, ?_⟩) (fun q => ⟨hv, fun z ez => ?_⟩)⟩
          · by_cases z : t = s
            · subst z; exact ⟨hh, e1, (nI_leI (by omega) (by omega)).mp q, by omega⟩
            · exact b3 t (by omega) hb
          · rcases b4 with q | ⟨t, ht, q⟩
            · exact Or.inl q
            · exact Or.inr ⟨t, by omega, q⟩
          · have hlt : m < hh := Nat.lt_of_not_le (fun w => q (nI_le w (by omega)))
            rw [ez]
            refine ih hh ⟨by omega, r2, fun t ht hb => ?_, Or.inr ⟨s, by omega, by omega, e1⟩⟩
            by_cases w : t = s
            · subst w; exact ⟨hh, e1, Nat.le_refl _, by omega⟩
            · obtain ⟨h', q1, q2, q3⟩ := b3 t (by omega) hb
              exact ⟨h', q1, by omega, q3⟩
theorem Ht_of {f : Nat → Int32} (hf : Hv S c f) {t h : Nat} (ht : t < 4096) (hh : h ≤ 4096) (e : f t = nI h) : Ht S c h t := by
  rcases hf t ht with q | ⟨h', q1, q2, q3⟩
  · rw [e] at q; exact absurd q (nI_nm1 (by omega))
  · rw [e] at q1
    rw [(nI_eq (by omega) (by omega)).mp q1]; exact q3
/-- some state begins -/
def Sb (S : Nat → Option (List Nat)) : Prop := ∃ t, t < 4096 ∧ val S t 0 ≠ 0
theorem r_longest (hS : SOk S) (hc : c ≤ 6) {g a l : Nat} (hg12 : g ≤ 12) (ha : a < 4096) (hl : l < 2) {iG hgr : Nat → Int32} (hN : NxR S c nr) (hV : ∀ t, t < 4096 → iB t = nI (val S t 0) ∧ iG t = nI (val S t 1) ∧ hgr t = nI (Gb S t g)) (hL : LvR lv (come S c).2) {f : Nat → Int32} {post : Int32 → (Nat → Int32) → Prop} (h0 : ¬ Sb S → ∀ f, post (-1) f) (h1 : ∀ r f, Sb S → LoR S c r → post r f) : wp_Md_longest (nI l) (nI a) nr iB iG lv hgr f post := by
  refine br_f (nI_pos (by omega)) (r_many (w := 0) hS hc hg12 hN hV hL ha hl (by decide) (fun q => absurd q (by decide)) (fun _ => ?_))
  have hcw : sm (mF S c g a 0) 4096 = cw (mB S c g a 0) 4096 := sm_ext 4096 (fun t _ => by
    show (if 0 = 5 then prs S c t else if mB S c g a 0 t then 1 else 0) = _
    rw [if_neg (by decide)])
  rw [hcw]
  have hle := cw_le (mB S c g a 0) 4096
  have hsb : cw (mB S c g a 0) 4096 = 0 ↔ ¬ Sb S := by
    have key : ∀ n, cw (mB S c g a 0) n = 0 ↔ ∀ t, t < n → ¬ val S t 0 = 1 := by
      intro n
      induction n with
      | zero => exact ⟨fun _ t ht => absurd ht (Nat.not_lt_zero t), fun _ => rfl⟩
      | succ n ih =>
        rw [cw_s]
        have em : mB S c g a 0 n = decide (val S n 0 = 1) := rfl
        rw [em]
        by_cases z : val S n 0 = 1
        · rw [decide_eq_true z]
          exact ⟨fun q => absurd q (by simp), fun q => absurd z (q n (by omega))⟩
        · rw [decide_eq_false z]
          refine ⟨fun q t ht => ?_, fun q => ?_⟩
          · by_cases y : t = n
            · subst y; exact z
            · exact ih.mp q t (by omega)
          · exact ih.mpr (fun t ht => q t (by omega))
    rw [key]
    refine ⟨fun q ⟨t, ht, hv⟩ => ?_, fun q t ht hv => q ⟨t, ht, by omega⟩⟩
    have := val_lt2 hS t (s := 0) (by decide)
    exact q t ht (by omega)
  refine bn_c (fun q => ?_) (fun q => h0 (hsb.mp ((nI_eq (b := 0) (by omega) (by decide)).mp q)) _)
  have hSb : Sb S := Classical.byContradiction (fun z => q (congrArg nI (hsb.mpr z)))
  refine ⟨4097, lo19x (fun f h0 => ⟨4098, lo41x hS hN hL (fun f2 hf2 hq2 => ⟨4097, ?_⟩) 4097 1 f (Or.inl (by have := ngh_le f; omega)) (fun t ht => Or.inl (h0 t ht)) (fun z => absurd z (by decide))⟩) 4096 0 f rfl (fun t ht => absurd ht (Nat.not_lt_zero t))⟩
  refine lo204x hS (fun t ht => (hV t ht).1) hL hf2 (fun m hm => h1 _ _ hSb (Or.inr ⟨m, rfl, ?_, fun k hk => ?_⟩)) (fun ⟨t, hr, e⟩ => h1 _ _ hSb (Or.inl ⟨fun k => ⟨t, hr, Qh_inf hS hq2 k t hr e⟩, rfl⟩)) 4096 0 0 rfl ⟨Nat.zero_le _, fun t ht => absurd ht (Nat.not_lt_zero t), fun t ht => absurd ht (Nat.not_lt_zero t), Or.inl rfl⟩
  · obtain ⟨b1, b2, b3, b4⟩ := hm
    rcases b4 with e | ⟨t, ht, hv, e⟩
    · obtain ⟨t, ht, hv⟩ := hSb
      subst e
      exact ⟨t, ⟨ht, 0, come_beg hv⟩, trivial⟩
    · exact ⟨t, ⟨ht, 0, come_beg hv⟩, (Ht_of hf2 ht b1 e).1⟩
  · obtain ⟨b1, b2, b3, b4⟩ := hm
    obtain ⟨s, ⟨hs, x, hx⟩, hp⟩ := hk
    obtain ⟨b, hb, hv, hpb⟩ := beg_long hS x s k hs hx hp
    obtain ⟨hh, e1, e2, e3⟩ := b3 b hb hv
    have := (Ht_of hf2 hb e3 e1).2 _ hpb
    omega
end LR
