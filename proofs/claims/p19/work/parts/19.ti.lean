/-! the tokens' kinds and values, for both sides; the reference's current token -/
theorem tk_facts {P : Nat → Bool} {f : Nat → Int32} {n i : Nat} (hi : i < n) : (tk P (bt f n) i).1 < 1000 ∧ ((tk P (bt f n) i).1 = 258 → (tk P (bt f n) i).2.1 < 16) ∧ ((tk P (bt f n) i).1 = 259 → (tk P (bt f n) i).2.1 < 3) ∧ (tk P (bt f n) i).2.1 < 1000 ∧ (tk P (bt f n) i).1 ≠ 256 := by
  have hc := bt_256 (f := f) hi
  unfold tk
  split
  · unfold tkW
    split
    · next h => exact ⟨by show 259 < 1000; decide, fun q => absurd (show (259 : Nat) = 258 from q) (by decide), fun _ => by show bt f n i - 97 < 3; omega, by show bt f n i - 97 < 1000; omega, by show (259 : Nat) ≠ 256; decide⟩
    · rcases wk_cases (wl (bt f n) i (fe P (bt f n) i)) with ⟨k, hk, _, hw⟩ | ⟨_, hw⟩
      · rw [hw]; exact ⟨by show 260 + k < 1000; omega, fun q => absurd (show 260 + k = 258 from q) (by omega), fun q => absurd (show 260 + k = 259 from q) (by omega), by show 0 < 1000; decide, by show 260 + k ≠ 256; omega⟩
      · rw [hw]; exact ⟨by show 257 < 1000; decide, fun q => absurd (show (257 : Nat) = 258 from q) (by decide), fun q => absurd (show (257 : Nat) = 259 from q) (by decide), by show 0 < 1000; decide, by show (257 : Nat) ≠ 256; decide⟩
  · split
    · unfold tkN
      generalize nva (bt f n) i 0 = v
      split
      · exact ⟨by show 257 < 1000; decide, fun q => absurd (show (257 : Nat) = 258 from q) (by decide), fun q => absurd (show (257 : Nat) = 259 from q) (by decide), by show min v 100 < 1000; omega, by show (257 : Nat) ≠ 256; decide⟩
      · next h => exact ⟨by show 258 < 1000; decide, fun _ => by show min v 100 < 16; omega, fun q => absurd (show (258 : Nat) = 259 from q) (by decide), by show min v 100 < 1000; omega, by show (258 : Nat) ≠ 256; decide⟩
    · split
      · exact ⟨by show bt f n i < 1000; omega, fun q => by have : bt f n i = 258 := q; omega, fun q => by have : bt f n i = 259 := q; omega, by show 0 < 1000; decide, by show bt f n i ≠ 256; omega⟩
      · exact ⟨by show 257 < 1000; decide, fun q => absurd (show (257 : Nat) = 258 from q) (by decide), fun q => absurd (show (257 : Nat) = 259 from q) (by decide), by show 0 < 1000; decide, by show (257 : Nat) ≠ 256; decide⟩
theorem kd_facts {P : Nat → Bool} {f : Nat → Int32} {n : Nat} (j : Nat) : kd P (bt f n) n j < 1000 ∧ (kd P (bt f n) n j = 258 → vd P (bt f n) n j < 16) ∧ (kd P (bt f n) n j = 259 → vd P (bt f n) n j < 3) ∧ vd P (bt f n) n j < 1000 := by
  by_cases h : pl P (bt f n) n j < n
  · rw [(kd_in h).1, (kd_in h).2]
    have := tk_facts (P := P) (f := f) h
    exact ⟨this.1, this.2.1, this.2.2.1, this.2.2.2.1⟩
  · unfold kd vd
    rw [if_neg h, if_neg h]
    exact ⟨by decide, fun q => absurd q (by decide), fun q => absurd q (by decide), by decide⟩
theorem TI_of {P : Nat → Bool} {f : Nat → Int32} {n m : Nat} {ks vs : Nat → Int32} (T : TokA P (bt f n) n m ks vs) : TI (kd P (bt f n) n) (vd P (bt f n) n) m ks vs :=
  ⟨T.1, fun j hj => (kd_end T.2.1 hj).1, fun j => (kd_facts j).1, fun j => (kd_facts j).2.1, fun j => (kd_facts j).2.2.1, T.2.2, fun j hj => (kd_end T.2.1 hj).2, fun j => (kd_facts j).2.2.2⟩
abbrev rK (f : Nat → Int32) (n : Nat) : Nat → Nat := kd sma (bt f n) n
abbrev rV (f : Nat → Int32) (n : Nat) : Nat → Nat := vd sma (bt f n) n
abbrev rP (f : Nat → Int32) (n : Nat) : Nat → Nat := pl sma (bt f n) n
theorem rk_facts (f : Nat → Int32) (n j : Nat) : rK f n j < 1000 ∧ (rK f n j = 258 → rV f n j < 16) ∧ (rK f n j = 259 → rV f n j < 3) ∧ rV f n j < 1000 := kd_facts j
theorem rp_le (f : Nat → Int32) {n : Nat} (hn : n ≤ 1200) (j : Nat) : rP f n j ≤ n := pl_le rfl hn j
/-- the reference stands at token j -/
def RT (f : Nat → Int32) (n j : Nat) (a t p nu sg : Int32) : Prop := ∃ e, e ≤ n ∧ a = nI e ∧ fe blk (bt f n) e = rP f n (j + 1) ∧ t = nI (tc (rK f n j) (rV f n j)) ∧ p = nI (rP f n j) ∧ (rK f n j = 258 → nu = nI (rV f n j)) ∧ (rK f n j < 256 → sg = nI (rK f n j))
theorem rt_new {f : Nat → Int32} {n a j : Nat} (hn : n ≤ 1200) (ha : a ≤ n) (hj : fe blk (bt f n) a = rP f n j) {tok tp num sg : Int32} {post : Int32 → Int32 → Int32 → Int32 → Int32 → Prop} (h : ∀ a' t' p' nu' sg', RT f n j a' t' p' nu' sg' → post a' t' p' nu' sg') : wp_Md_nextToken (nI n) (nI a) tok tp num sg f post := by
  refine q_nextToken hn ha (fun num' sg' h1 h2 => ?_)
  rw [hj] at h1 h2 ⊢
  have hple := rp_le f hn j
  by_cases hp : rP f n j < n
  · have e1 : tq sma (bt f n) n (rP f n j) = tk sma (bt f n) (rP f n j) := if_pos hp
    rw [e1] at h1 h2 ⊢
    have hk := kd_in (P := sma) (g := bt f n) hp
    rw [← hk.1] at h1 h2 ⊢
    rw [← hk.2] at h1 ⊢
    exact h _ _ _ _ _ ⟨_, (tk_end (P := sma) rfl (f := f) hn hp).2, rfl, (pl_s hp).symm, rfl, rfl, h1, h2⟩
  · have hpn : rP f n j = n := by omega
    have e1 : tq sma (bt f n) n (rP f n j) = (256, 0, rP f n j) := if_neg hp
    rw [e1]
    have hk := kd_end (P := sma) (g := bt f n) hpn (Nat.le_refl j)
    refine h _ _ _ _ _ ⟨rP f n j, by omega, rfl, ?_, ?_, rfl, fun q => ?_, fun q => ?_⟩
    · have h3 := pl_n (P := sma) (g := bt f n) hpn 1
      show fe blk (bt f n) (rP f n j) = pl sma (bt f n) n (j + 1)
      rw [h3, hpn, fe_f (by omega) (by rw [bt_out (Nat.le_refl n)]; rfl)]
    · show nI (tc 256 0) = nI (tc (kd sma (bt f n) n j) (vd sma (bt f n) n j))
      rw [hk.1, hk.2]
    · have : kd sma (bt f n) n j = 258 := q
      rw [hk.1] at this; exact absurd this (by decide)
    · have : kd sma (bt f n) n j < 256 := q
      rw [hk.1] at this; exact absurd this (by decide)
theorem rt_next {f : Nat → Int32} {n j : Nat} (hn : n ≤ 1200) {a t p nu sg : Int32} (hr : RT f n j a t p nu sg) {post : Int32 → Int32 → Int32 → Int32 → Int32 → Prop} (h : ∀ a' t' p' nu' sg', RT f n (j + 1) a' t' p' nu' sg' → post a' t' p' nu' sg') : wp_Md_nextToken (nI n) a t p nu sg f post := by
  obtain ⟨e, he, rfl, hf, _⟩ := hr
  exact rt_new hn he hf h
theorem tc_lt {k v : Nat} (hk : k < 1000) (hv : v < 1000) : tc k v < 2000 := by
  unfold tc
  repeat' split
  all_goals omega
theorem tc_3 {k v : Nat} : tc k v = 3 ↔ k < 256 := by
  unfold tc
  repeat' split
  all_goals omega
theorem rt_isSign {f : Nat → Int32} {n j : Nat} {a t p nu sg : Int32} (hr : RT f n j a t p nu sg) {x : Int32} (c : Nat) (hx : x = nI c) (hc : c < 256) {post : Int32 → Prop} (h1 : rK f n j = c → post 1) (h0 : rK f n j ≠ c → post 0) : wp_Md_isSign x t sg post := by
  subst hx
  obtain ⟨e, he, _, hf, rfl, _, _, hs⟩ := hr
  have hk := rk_facts f n j
  have ht := tc_lt hk.1 hk.2.2.2
  have e3 : nI (tc (rK f n j) (rV f n j)) = 3 ↔ rK f n j < 256 := by
    rw [show (3 : Int32) = nI 3 from rfl, nI_eq (by omega) (by decide), tc_3]
  refine bn_c (fun q => h0 (fun r => q (e3.mpr (by omega)))) (fun q => ?_)
  have hlt := e3.mp q
  rw [hs hlt]
  exact bn_c (fun r => h0 (fun r2 => r (by rw [r2]))) (fun r => h1 ((nI_eq (by omega) (by omega)).mp r))
theorem rt_is3 {f : Nat → Int32} {n j : Nat} {a t p nu sg : Int32} (hr : RT f n j a t p nu sg) : (t = 3 ↔ rK f n j < 256) ∧ (rK f n j < 256 → sg = nI (rK f n j)) ∧ (t = 2 ↔ rK f n j = 258) ∧ (rK f n j = 258 → nu = nI (rV f n j)) ∧ (t = 0 ↔ rK f n j = 256) ∧ t = nI (tc (rK f n j) (rV f n j)) := by
  obtain ⟨e, he, _, hf, rfl, _, h5, hs⟩ := hr
  have hk := rk_facts f n j
  have ht := tc_lt hk.1 hk.2.2.2
  refine ⟨?_, hs, ?_, h5, ?_, rfl⟩
  · rw [show (3 : Int32) = nI 3 from rfl, nI_eq (by omega) (by decide), tc_3]
  · rw [show (2 : Int32) = nI 2 from rfl, nI_eq (by omega) (by decide)]
    unfold tc
    repeat' split
    all_goals omega
  · rw [show (0 : Int32) = nI 0 from rfl, nI_eq (by omega) (by decide)]
    unfold tc
    repeat' split
    all_goals omega
theorem rt_isWord {f : Nat → Int32} {n j : Nat} {a t p nu sg : Int32} (hr : RT f n j a t p nu sg) {x : Int32} (w : Nat) (hx : x = nI w) (hw : w < 9) {post : Int32 → Prop} (h1 : rK f n j = 260 + w → post 1) (h0 : rK f n j ≠ 260 + w → post 0) : wp_Md_isWord x t post := by
  subst hx
  have hk := rk_facts f n j
  have ht := tc_lt hk.1 hk.2.2.2
  have e : t = 10 + nI w ↔ rK f n j = 260 + w := by
    rw [(rt_is3 hr).2.2.2.2.2, show (10 : Int32) = nI 10 from rfl, nI_add, nI_eq (by omega) (by omega)]
    have h3 := hk.2.2.1
    unfold tc
    split
    · omega
    split
    · omega
    split
    · omega
    split
    · omega
    split
    · next h => have := h3 h; omega
    · omega
  exact bn_c (fun q => h0 (fun r => q (e.mpr r))) (fun q => h1 (e.mp q))
theorem rt_isVar {f : Nat → Int32} {n j : Nat} {a t p nu sg : Int32} (hr : RT f n j a t p nu sg) {x : Int32} (v : Nat) (hx : x = nI (9 + v)) (hv : v < 3) {post : Int32 → Prop} (h1 : rK f n j = 259 → rV f n j = v → post 1) (h0 : ¬ (rK f n j = 259 ∧ rV f n j = v) → post 0) : wp_Md_isWord x t post := by
  subst hx
  have hk := rk_facts f n j
  have ht := tc_lt hk.1 hk.2.2.2
  have e : t = 10 + nI (9 + v) ↔ rK f n j = 259 ∧ rV f n j = v := by
    rw [(rt_is3 hr).2.2.2.2.2, show (10 : Int32) = nI 10 from rfl, nI_add, nI_eq (by omega) (by omega)]
    have h3 := hk.2.2.1
    have hK : rK f n j ≤ 268 ∨ True := Or.inr trivial
    unfold tc
    split
    · omega
    split
    · omega
    split
    · omega
    split
    · omega
    split
    · next h => omega
    · next h1 h2 h4 h5 h6 =>
      have : rK f n j ≤ 268 := by
        show kd sma (bt f n) n j ≤ 268
        by_cases hp : pl sma (bt f n) n j < n
        · rw [(kd_in hp).1]
          have hc := bt_256 (f := f) hp
          unfold tk
          split
          · unfold tkW
            split
            · show (259 : Nat) ≤ 268; decide
            · show wkind _ ≤ 268
              rcases wk_cases (wl (bt f n) (pl sma (bt f n) n j) (fe sma (bt f n) (pl sma (bt f n) n j))) with ⟨k, hk, _, hw⟩ | ⟨_, hw⟩
              · rw [hw]; omega
              · rw [hw]; decide
          · split
            · unfold tkN; split
              · show (257 : Nat) ≤ 268; decide
              · show (258 : Nat) ≤ 268; decide
            · split
              · show bt f n (pl sma (bt f n) n j) ≤ 268; omega
              · show (257 : Nat) ≤ 268; decide
        · unfold kd; rw [if_neg hp]; decide
      omega
  exact bn_c (fun q => h0 (fun r => q (e.mpr r))) (fun q => h1 (e.mp q).1 (e.mp q).2)
