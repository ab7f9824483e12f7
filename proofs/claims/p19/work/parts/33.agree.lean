/-! both sides read the same: without capitals their tokens are the same, with one neither reads the text -/
theorem sk_congr {P Q : Nat → Bool} {g : Nat → Nat} (h : ∀ i, P (g i) = Q (g i)) : ∀ k i, sk P g k i = sk Q g k i
  | 0, i => rfl
  | k + 1, i => by
    show (if P (g i) then sk P g k (i + 1) else i) = (if Q (g i) then sk Q g k (i + 1) else i)
    rw [h i, sk_congr h k (i + 1)]
theorem fe_congr {P Q : Nat → Bool} {g : Nat → Nat} (h : ∀ i, P (g i) = Q (g i)) (i : Nat) : fe P g i = fe Q g i := sk_congr h _ _
theorem tk_congr {P Q : Nat → Bool} {g : Nat → Nat} (h : ∀ i, P (g i) = Q (g i)) (i : Nat) : tk P g i = tk Q g i := by
  unfold tk
  rw [h i, fe_congr h i]
theorem pl_congr {P Q : Nat → Bool} {g : Nat → Nat} (h : ∀ i, P (g i) = Q (g i)) (n : Nat) : ∀ j, pl P g n j = pl Q g n j
  | 0 => rfl
  | j + 1 => by
    show (if pl P g n j < n then fe blk g (tk P g (pl P g n j)).2.2 else pl P g n j) = (if pl Q g n j < n then fe blk g (tk Q g (pl Q g n j)).2.2 else pl Q g n j)
    rw [pl_congr h n j, tk_congr h]
theorem kd_congr {P Q : Nat → Bool} {g : Nat → Nat} (h : ∀ i, P (g i) = Q (g i)) (n : Nat) : kd P g n = kd Q g n ∧ vd P g n = vd Q g n := by
  refine ⟨funext (fun j => ?_), funext (fun j => ?_)⟩
  · unfold kd; rw [pl_congr h n j, tk_congr h]
  · unfold vd; rw [pl_congr h n j, tk_congr h]
theorem fe_min {P : Nat → Bool} {g : Nat → Nat} {q : Nat} (hq : q < 1300) (hp : P (g q) = false) : ∀ m i, i + m = q → fe P g i ≤ q
  | 0, i, h => by
    have : i = q := by omega
    subst this
    rw [fe_f hq hp]; exact Nat.le_refl _
  | m + 1, i, h => by
    cases hb : P (g i)
    · rw [fe_f (by omega) hb]; omega
    · rw [fe_t (by omega) hb]; exact fe_min hq hp m (i + 1) (by omega)
theorem fe_all {P : Nat → Bool} {g : Nat → Nat} {q : Nat} (hq : q < 1300) {i : Nat} (h1 : i ≤ q) (h2 : q < fe P g i) : P (g q) = true := by
  cases hb : P (g q)
  · have := fe_min hq hb (q - i) i (by omega); omega
  · rfl
theorem cover {P : Nat → Bool} (hP : P 300 = false) {f : Nat → Int32} {n q : Nat} (hn : n ≤ 1200) (hq : q < n) (hb : blk (bt f n q) = false) : ∃ j, pl P (bt f n) n j ≤ q ∧ pl P (bt f n) n j < n ∧ q < (tk P (bt f n) (pl P (bt f n) n j)).2.2 := by
  have hex : ∃ j, q < pl P (bt f n) n j := by
    refine ⟨q + 1, ?_⟩
    have hle := pl_le hP (f := f) hn (q + 1)
    rcases Nat.lt_or_ge (pl P (bt f n) n (q + 1)) n with c | c
    · have := pl_ge hP hn (q + 1) c; omega
    · omega
  obtain ⟨j, hj, hmin⟩ := pk_least (fun j => q < pl P (bt f n) n j) hex
  cases j with
  | zero =>
    have : pl P (bt f n) n 0 ≤ q := fe_min (by omega) hb q 0 (by omega)
    omega
  | succ j =>
    have hle : pl P (bt f n) n j ≤ q := Nat.le_of_not_lt (hmin j (Nat.lt_succ_self j))
    have hlt : pl P (bt f n) n j < n := by omega
    refine ⟨j, hle, hlt, ?_⟩
    rcases Nat.lt_or_ge q (tk P (bt f n) (pl P (bt f n) n j)).2.2 with c | c
    · exact c
    · rw [pl_s hlt] at hj
      have := fe_min (P := blk) (g := bt f n) (q := q) (by omega) hb (q - (tk P (bt f n) (pl P (bt f n) n j)).2.2) (tk P (bt f n) (pl P (bt f n) n j)).2.2 (by omega)
      omega
theorem wW_low : ∀ k, k < 9 → ∀ t, t < (wW k).length → 97 ≤ (wW k).getD t 0 := by decide +kernel
theorem cap_b {c : Nat} (h : let_ c ≠ sma c) : 65 ≤ c ∧ c ≤ 90 := by
  unfold let_ sma at h
  by_cases h1 : 97 ≤ c ∧ c ≤ 122
  · simp [h1.1, h1.2] at h
  · by_cases h2 : 65 ≤ c ∧ c ≤ 90
    · exact h2
    · exfalso
      apply h
      have e1 : (decide (97 ≤ c) && decide (c ≤ 122)) = false := by
        simp only [Bool.and_eq_false_iff, decide_eq_false_iff_not]; omega
      have e2 : (decide (65 ≤ c) && decide (c ≤ 90)) = false := by
        simp only [Bool.and_eq_false_iff, decide_eq_false_iff_not]; omega
      rw [e1, e2]; rfl
theorem cap_facts : ∀ c, c < 91 → 65 ≤ c → blk c = false ∧ sma c = false ∧ dig c = false ∧ sgn c = false ∧ let_ c = true := by decide +kernel
theorem strange_r {f : Nat → Int32} {n q : Nat} (hn : n ≤ 1200) (hq : q < n) (hc : 65 ≤ bt f n q ∧ bt f n q ≤ 90) : ∃ j, pl sma (bt f n) n j < n ∧ kd sma (bt f n) n j = 257 := by
  obtain ⟨c1, c2, c3, c4, c5⟩ := cap_facts _ (by omega) hc.1
  obtain ⟨j, h1, h2, h3⟩ := cover (P := sma) rfl hn hq c1
  refine ⟨j, h2, ?_⟩
  rw [(kd_in h2).1]
  generalize pl sma (bt f n) n j = i at h1 h2 h3
  unfold tk at h3 ⊢
  cases hs : sma (bt f n i)
  · cases hd : dig (bt f n i)
    · simp only [hs, hd, Bool.false_eq_true, if_false] at h3 ⊢
      have : i = q := by omega
      subst this
      rw [c4]; rfl
    · simp only [hs, hd, Bool.false_eq_true, if_false, if_true] at h3 ⊢
      have := fe_all (P := dig) (by omega) h1 h3
      rw [c3] at this; cases this
  · simp only [hs, if_true] at h3 ⊢
    have := fe_all (P := sma) (by omega) h1 h3
    rw [c2] at this; cases this
theorem strange_c {f : Nat → Int32} {n q : Nat} (hn : n ≤ 1200) (hq : q < n) (hc : 65 ≤ bt f n q ∧ bt f n q ≤ 90) : ∃ j, pl let_ (bt f n) n j < n ∧ kd let_ (bt f n) n j = 257 := by
  obtain ⟨c1, c2, c3, c4, c5⟩ := cap_facts _ (by omega) hc.1
  obtain ⟨j, h1, h2, h3⟩ := cover (P := let_) rfl hn hq c1
  refine ⟨j, h2, ?_⟩
  rw [(kd_in h2).1]
  generalize pl let_ (bt f n) n j = i at h1 h2 h3
  unfold tk at h3 ⊢
  cases hs : let_ (bt f n i)
  · cases hd : dig (bt f n i)
    · simp only [hs, hd, Bool.false_eq_true, if_false] at h3 ⊢
      have : i = q := by omega
      subst this
      rw [c5] at hs; cases hs
    · simp only [hs, hd, Bool.false_eq_true, if_false, if_true] at h3 ⊢
      have := fe_all (P := dig) (by omega) h1 h3
      rw [c3] at this; cases this
  · simp only [hs, if_true] at h3 ⊢
    unfold tkW
    split
    · next hv =>
      have : i = q := by omega
      subst this
      omega
    · show wkind _ = 257
      rcases wk_cases (wl (bt f n) i (fe let_ (bt f n) i)) with ⟨k, hk, hL, _⟩ | ⟨_, hw⟩
      · have hiff := wl_iff.mp hL
        have hlt : q - i < (wW k).length := by omega
        have e1 := hiff.2 (q - i) hlt
        rw [show i + (q - i) = q by omega] at e1
        have e2 := wW_low k hk (q - i) hlt
        omega
      · exact hw
theorem no_read {P : Nat → Bool} {f : Nat → Int32} {n : Nat} (h : ∃ j, pl P (bt f n) n j < n ∧ kd P (bt f n) n j = 257) (hP : P 300 = false) (hn : n ≤ 1200) : ¬ ∃ e, kd P (bt f n) n e = 256 ∧ ∀ j, j ≤ e → kd P (bt f n) n j ≠ 257 := by
  rintro ⟨e, h1, h2⟩
  obtain ⟨j, h3, h4⟩ := h
  have hej : e < j := by
    rcases Nat.lt_or_ge e j with c | c
    · exact c
    · exact absurd h4 (h2 j c)
  have hpe : pl P (bt f n) n e = n := by
    have hle := pl_le hP (f := f) hn e
    rcases Nat.lt_or_ge (pl P (bt f n) n e) n with c | c
    · rw [(kd_in c).1] at h1
      exact absurd h1 (tk_facts (P := P) (f := f) c).2.2.2.2
    · omega
  have := pl_n hpe (j - e)
  rw [show e + (j - e) = j by omega] at this
  omega
/-- both sides read the same loop, or neither reads one -/
theorem read_same {f f2 : Nat → Int32} {n : Nat} (hn : n ≤ 1200) (hf : ∀ i, i < n → byN f i = byN f2 i) : pL (kd let_ (bt f n) n) (vd let_ (bt f n) n) = pL (rK f2 n) (rV f2 n) ∧ pQ (kd let_ (bt f n) n) (vd let_ (bt f n) n) = pQ (rK f2 n) (rV f2 n) := by
  have hg : bt f n = bt f2 n := funext (fun i => by
    unfold bt
    split
    · next h => exact hf i h
    · rfl)
  by_cases hcap : ∃ q, let_ (bt f2 n q) ≠ sma (bt f2 n q)
  · obtain ⟨q, hq⟩ := hcap
    have hc := cap_b hq
    have hqn : q < n := by
      rcases Nat.lt_or_ge q n with c | c
      · exact c
      · rw [bt_out c] at hc; omega
    have n1 := no_read (strange_c hn hqn hc) rfl hn
    have n2 := no_read (strange_r hn hqn hc) rfl hn
    rw [hg]
    refine ⟨?_, ?_⟩
    · have a1 : pL (kd let_ (bt f2 n) n) (vd let_ (bt f2 n) n) = none := by
        cases h : pL (kd let_ (bt f2 n) n) (vd let_ (bt f2 n) n) with
        | none => rfl
        | some t => obtain ⟨c, g, σ⟩ := t; exact absurd (pL_end h) n1
      have a2 : pL (rK f2 n) (rV f2 n) = none := by
        cases h : pL (rK f2 n) (rV f2 n) with
        | none => rfl
        | some t => obtain ⟨c, g, σ⟩ := t; exact absurd (pL_end h) n2
      rw [a1, a2]
    · have a1 : pQ (kd let_ (bt f2 n) n) (vd let_ (bt f2 n) n) = none := by
        cases h : pQ (kd let_ (bt f2 n) n) (vd let_ (bt f2 n) n) with
        | none => rfl
        | some t => exact absurd (pQ_end h) n1
      have a2 : pQ (rK f2 n) (rV f2 n) = none := by
        cases h : pQ (rK f2 n) (rV f2 n) with
        | none => rfl
        | some t => exact absurd (pQ_end h) n2
      rw [a1, a2]
  · have h : ∀ i, let_ (bt f2 n i) = sma (bt f2 n i) := fun i => by
      by_cases hh : let_ (bt f2 n i) = sma (bt f2 n i)
      · exact hh
      · exact absurd ⟨i, hh⟩ hcap
    have hk := kd_congr h n
    rw [hg, hk.1, hk.2]
    exact ⟨rfl, rfl⟩
