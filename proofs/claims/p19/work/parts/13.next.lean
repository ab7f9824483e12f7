/-! the reference's next token, the same as the class's but for what a letter is -/
def tq (P : Nat → Bool) (g : Nat → Nat) (n i : Nat) : Nat × Nat × Nat := if i < n then tk P g i else (256, 0, i)
theorem wW_ne : ∀ j, j < 9 → ∀ k, k < 9 → j ≠ k → wW j ≠ wW k := by decide +kernel
theorem wk_cases (L : List Nat) : (∃ k, k < 9 ∧ L = wW k ∧ wkind L = 260 + k) ∨ ((∀ k, k < 9 → L ≠ wW k) ∧ wkind L = 257) := by
  unfold wkind
  by_cases h0 : L = wW 0
  · exact Or.inl ⟨0, by decide, h0, by rw [if_pos h0]⟩
  by_cases h1 : L = wW 1
  · exact Or.inl ⟨1, by decide, h1, by rw [if_neg h0, if_pos h1]⟩
  by_cases h2 : L = wW 2
  · exact Or.inl ⟨2, by decide, h2, by rw [if_neg h0, if_neg h1, if_pos h2]⟩
  by_cases h3 : L = wW 3
  · exact Or.inl ⟨3, by decide, h3, by rw [if_neg h0, if_neg h1, if_neg h2, if_pos h3]⟩
  by_cases h4 : L = wW 4
  · exact Or.inl ⟨4, by decide, h4, by rw [if_neg h0, if_neg h1, if_neg h2, if_neg h3, if_pos h4]⟩
  by_cases h5 : L = wW 5
  · exact Or.inl ⟨5, by decide, h5, by rw [if_neg h0, if_neg h1, if_neg h2, if_neg h3, if_neg h4, if_pos h5]⟩
  by_cases h6 : L = wW 6
  · exact Or.inl ⟨6, by decide, h6, by rw [if_neg h0, if_neg h1, if_neg h2, if_neg h3, if_neg h4, if_neg h5, if_pos h6]⟩
  by_cases h7 : L = wW 7
  · exact Or.inl ⟨7, by decide, h7, by rw [if_neg h0, if_neg h1, if_neg h2, if_neg h3, if_neg h4, if_neg h5, if_neg h6, if_pos h7]⟩
  by_cases h8 : L = wW 8
  · exact Or.inl ⟨8, by decide, h8, by rw [if_neg h0, if_neg h1, if_neg h2, if_neg h3, if_neg h4, if_neg h5, if_neg h6, if_neg h7, if_pos h8]⟩
  refine Or.inr ⟨fun k hk => ?_, by rw [if_neg h0, if_neg h1, if_neg h2, if_neg h3, if_neg h4, if_neg h5, if_neg h6, if_neg h7, if_neg h8]⟩
  rcases (show k = 0 ∨ k = 1 ∨ k = 2 ∨ k = 3 ∨ k = 4 ∨ k = 5 ∨ k = 6 ∨ k = 7 ∨ k = 8 by omega) with rfl | rfl | rfl | rfl | rfl | rfl | rfl | rfl | rfl
  · exact h0
  · exact h1
  · exact h2
  · exact h3
  · exact h4
  · exact h5
  · exact h6
  · exact h7
  · exact h8
theorem rw_word : ∀ k, k < 9 → rwL (wW k) = nI k := by decide +kernel
theorem rw_var : ∀ v, v < 3 → rwL [97 + v] = nI (9 + v) := by decide +kernel
theorem rw_none {L : List Nat} (h : ∀ k, k < 9 → L ≠ wW k) (h2 : ∀ v, v < 3 → L ≠ [97 + v]) : rwL L = -1 := by
  unfold rwL
  rw [if_neg (h 0 (by decide)), if_neg (h 1 (by decide)), if_neg (h 2 (by decide)), if_neg (h 3 (by decide)), if_neg (h 4 (by decide)), if_neg (h 5 (by decide)), if_neg (h 6 (by decide)), if_neg (h 7 (by decide)), if_neg (h 8 (by decide)), if_neg (h2 0 (by decide)), if_neg (h2 1 (by decide)), if_neg (h2 2 (by decide))]
theorem wl_one {g : Nat → Nat} {i e c : Nat} : wl g i e = [c] ↔ e - i = 1 ∧ g i = c := by
  rw [wl_iff]
  constructor
  · rintro ⟨h1, h2⟩; exact ⟨h1, by have := h2 0 (by simp); simpa using this⟩
  · rintro ⟨h1, h2⟩; exact ⟨h1, fun t ht => by have : t = 0 := by simp at ht; omega
                                               subst this; simpa using h2⟩
theorem word_tok {g : Nat → Nat} {i e : Nat} : (e - i ≤ 6 → ((0 ≤ rwL (wl g i e) → 10 + rwL (wl g i e) = nI (tc (tkW g i e).1 (tkW g i e).2)) ∧ (¬ 0 ≤ rwL (wl g i e) → (tkW g i e).1 = 257))) ∧ (6 < e - i → (tkW g i e).1 = 257) ∧ (tkW g i e).1 ≠ 258 ∧ 256 ≤ (tkW g i e).1 := by
  unfold tkW
  by_cases hv : e - i = 1 ∧ 97 ≤ g i ∧ g i < 100
  · rw [if_pos hv]
    obtain ⟨h1, h2, h3⟩ := hv
    refine ⟨fun _ => ?_, fun h => by omega, by show (259 : Nat) ≠ 258; decide, by show 256 ≤ (259 : Nat); decide⟩
    have e1 : wl g i e = [97 + (g i - 97)] := wl_one.mpr ⟨h1, by omega⟩
    rw [e1, rw_var _ (by omega)]
    refine ⟨fun _ => ?_, fun h => absurd (nI_pos' (by omega)) h⟩
    show nI 10 + nI (9 + (g i - 97)) = nI (tc 259 (g i - 97))
    rw [nI_add]
    exact congrArg nI (by simp only [tc]; simp; omega)
  · rw [if_neg hv]
    rcases wk_cases (wl g i e) with ⟨k, hk, hL, hw⟩ | ⟨hL, hw⟩
    · have hlen := congrArg List.length hL
      rw [wl_len] at hlen
      have hs := wW_small k hk
      refine ⟨fun _ => ?_, fun h => by omega, by rw [hw]; show 260 + k ≠ 258; omega, by rw [hw]; show 256 ≤ 260 + k; omega⟩
      rw [hw, hL, rw_word k hk]
      refine ⟨fun _ => ?_, fun h => absurd (nI_pos' (by omega)) h⟩
      show nI 10 + nI k = nI (tc (260 + k) 0)
      rw [nI_add]
      refine congrArg nI ?_
      unfold tc
      rw [if_neg (by omega), if_neg (by omega), if_neg (by omega), if_neg (by omega), if_neg (by omega)]; omega
    · rw [hw]
      refine ⟨fun _ => ?_, fun _ => rfl, by decide, by decide⟩
      rw [rw_none hL (fun v hv3 q => hv (by have := wl_one.mp q; omega))]
      exact ⟨fun h => absurd h (by decide), fun _ => rfl⟩
theorem q_Mnum_L {f : Nat → Int32} {n i : Nat} {x1 : Int32} (hn : n ≤ 1200) {K : Int32 → Int32 → Int32 → Prop} (hK : ∀ j num, j ≤ n → j = fe dig (bt f n) i → (j - i ≤ 4 → num = nI (nva (bt f n) i 0) ∧ nva (bt f n) i 0 < 10000) → (4 < j - i → num = 9999 ∧ (bt f n i ≠ 48 → 15 < nva (bt f n) i 0)) → K (nI (j - i)) (nI j) num) : ∀ m j v num, i ≤ j → j + m = n → fe dig (bt f n) j = fe dig (bt f n) i → nva (bt f n) j v = nva (bt f n) i 0 → (j - i = 0 → v = 0) → (j - i ≤ 1 → v < 10) → (j - i ≤ 2 → v < 100) → (j - i ≤ 3 → v < 1000) → (j - i ≤ 4 → num = nI v ∧ v < 10000) → (4 < j - i → num = 9999) → (bt f n i ≠ 48 → (1 ≤ j - i → 1 ≤ v) ∧ (2 ≤ j - i → 10 ≤ v) ∧ (3 ≤ j - i → 100 ≤ v)) → wp_Md_nextToken_L185 x1 (nI n) f K (m + 1) (nI (j - i)) (nI j) num
  | 0, j, v, num, hij, hj, hf, hv, h0, h1, h2, h3, h4, h5, h6 => by
    have hd : dig (bt f n j) = false := by rw [bt_out (by omega)]; rfl
    refine q_MbyteAt hn (by omega) (q_MisFigure (bt_lt f n j) ?_)
    rw [hd]
    rw [fe_f (by omega) hd] at hf
    rw [nva_f (by omega) hd] at hv
    refine br_t rfl (hK j num (by omega) hf (fun h => ?_) (fun h => ⟨h5 h, fun q => ?_⟩))
    · rw [← hv]; exact h4 h
    · rw [← hv]; have := (h6 q).2.2 (by omega); omega
  | m + 1, j, v, num, hij, hj, hf, hv, h0, h1, h2, h3, h4, h5, h6 => by
    refine q_MbyteAt hn (by omega) (q_MisFigure (bt_lt f n j) ?_)
    cases hd : dig (bt f n j)
    · rw [fe_f (by omega) hd] at hf
      rw [nva_f (by omega) hd] at hv
      refine br_t rfl (hK j num (by omega) hf (fun h => ?_) (fun h => ⟨h5 h, fun q => ?_⟩))
      · rw [← hv]; exact h4 h
      · rw [← hv]; have := (h6 q).2.2 (by omega); omega
    · have hcj := dig_b hd
      rw [fe_t (by omega) hd] at hf
      rw [nva_t (by omega) hd] at hv
      have e1 : nI (j - i) + 1 = nI (j + 1 - i) := by rw [nI_1]; exact congrArg nI (by omega)
      have h6' : bt f n i ≠ 48 → (1 ≤ j + 1 - i → 1 ≤ v * 10 + (bt f n j - 48)) ∧ (2 ≤ j + 1 - i → 10 ≤ v * 10 + (bt f n j - 48)) ∧ (3 ≤ j + 1 - i → 100 ≤ v * 10 + (bt f n j - 48)) := fun q => by
        have q6 := h6 q
        refine ⟨fun _ => ?_, fun h => ?_, fun h => ?_⟩
        · by_cases hz : j - i = 0
          · have : j = i := by omega
            subst this; omega
          · have := q6.1 (by omega); omega
        · have := q6.1 (by omega); omega
        · have := q6.2.1 (by omega); omega
      refine br_f (by decide) (pk_le 4 (j - i) (fun h7 => ?_) (fun h7 => ?_))
      · rw [e1, nI_1]
        exact q_Mnum_L hn hK m (j + 1) _ _ (by omega) (by omega) hf hv (fun h => absurd h (by omega)) (fun h => absurd h (by omega)) (fun h => absurd h (by omega)) (fun h => absurd h (by omega)) (fun h => absurd h (by omega)) (fun _ => rfl) h6'
      · refine q_MbyteAt hn (by omega) ?_
        have h4' := h4 (by omega)
        rw [h4'.1, ofB_in (by omega), show (10 : Int32) = nI 10 from rfl, show (48 : Int32) = nI 48 from rfl, pk_mul, nI_add, pk_sub (by omega), e1, nI_1, show 10 * v + bt f n j - 48 = v * 10 + (bt f n j - 48) by omega]
        refine q_Mnum_L hn hK m (j + 1) _ _ (by omega) (by omega) hf hv (fun h => absurd h (by omega)) (fun h => ?_) (fun h => ?_) (fun h => ?_) (fun h => ⟨rfl, ?_⟩) (fun h => absurd h (by omega)) h6'
        · have := h0 (by omega); omega
        · have := h1 (by omega); omega
        · have := h2 (by omega); omega
        · have := h3 (by omega); omega
theorem q_nextToken {f : Nat → Int32} {n a : Nat} (hn : n ≤ 1200) (ha : a ≤ n) {tok tp num sg : Int32} {post : Int32 → Int32 → Int32 → Int32 → Int32 → Prop} (h : ∀ num' sg', ((tq sma (bt f n) n (fe blk (bt f n) a)).1 = 258 → num' = nI (tq sma (bt f n) n (fe blk (bt f n) a)).2.1) → ((tq sma (bt f n) n (fe blk (bt f n) a)).1 < 256 → sg' = nI (tq sma (bt f n) n (fe blk (bt f n) a)).1) → post (nI (tq sma (bt f n) n (fe blk (bt f n) a)).2.2) (nI (tc (tq sma (bt f n) n (fe blk (bt f n) a)).1 (tq sma (bt f n) n (fe blk (bt f n) a)).2.1)) (nI (fe blk (bt f n) a)) num' sg') : wp_Md_nextToken (nI n) (nI a) tok tp num sg f post := by
  have hb := fe_bt (P := blk) rfl (f := f) hn ha
  refine ⟨n - a + 1, q_Mskip_L hn (n - a) a (by omega) ?_⟩
  generalize fe blk (bt f n) a = i at h hb
  refine q_MbyteAt hn (by omega) ?_
  unfold tq at h
  by_cases hi : i < n
  · rw [if_pos hi] at h
    have hc := bt_256 (f := f) hi
    refine br_t (by rw [ofB_in hc]; exact nI_pos' (by omega)) (q_MisSmall (bt_lt f n i) ?_)
    unfold tk at h
    cases hs : sma (bt f n i)
    · simp only [hs, Bool.false_eq_true, if_false] at h
      refine br_t rfl (q_MisFigure (bt_lt f n i) ?_)
      cases hd : dig (bt f n i)
      · simp only [hd, Bool.false_eq_true, if_false] at h
        refine br_t rfl (q_MisSignByte hc ?_)
        rw [nI_1]
        cases hg : sgn (bt f n i)
        · simp only [hg, Bool.false_eq_true, if_false] at h
          exact br_t rfl (h num _ (fun q => absurd q (by decide)) (fun q => absurd q (by decide)))
        · simp only [hg, if_true] at h
          have e3 : tc (bt f n i) 0 = 3 := if_pos hc
          rw [e3] at h
          exact br_f (by decide) (h num _ (fun q => absurd q (by omega)) (fun _ => ofB_in hc))
      · simp only [hd, if_true] at h
        refine br_f (by decide) ?_
        have hz : (0 : Int32) = nI (i - i) := by rw [Nat.sub_self]; rfl
        refine ⟨n - i + 1, ?_⟩
        rw [show wp_Md_nextToken_L185 (ofB (bt f n i)) (nI n) f _ (n - i + 1) 0 (nI i) 0 = wp_Md_nextToken_L185 (ofB (bt f n i)) (nI n) f _ (n - i + 1) (nI (i - i)) (nI i) (nI 0) by rw [← hz]; rfl]
        refine q_Mnum_L hn ?_ (n - i) i 0 (nI 0) (Nat.le_refl i) (by omega) rfl rfl (fun _ => rfl) (fun _ => by decide) (fun _ => by decide) (fun _ => by decide) (fun _ => ⟨rfl, by decide⟩) (fun q => absurd q (by omega)) (fun _ => ⟨fun q => absurd q (by omega), fun q => absurd q (by omega), fun q => absurd q (by omega)⟩)
        intro j num' hj hje h4 h5
        rw [← hje] at h
        unfold tkN at h
        generalize nva (bt f n) i 0 = v at h h4 h5
        have e48 := ofB_eq (k := 48) (bt_lt f n i) (by decide)
        by_cases h7 : j - i ≤ 4
        · obtain ⟨hnum, hv⟩ := h4 h7
          subst hnum
          refine pk_lt 15 v (fun h8 => ?_) (fun h8 => ?_)
          · rw [if_pos (Or.inr h8)] at h
            exact h _ _ (fun q => absurd (show (257 : Nat) = 258 from q) (by decide)) (fun q => absurd (show (257 : Nat) < 256 from q) (by decide))
          · refine pk_le (j - i) 1 (fun h9 => ?_) (fun h9 => ?_)
            · rw [if_neg (by omega)] at h
              exact h _ _ (fun _ => congrArg nI (by show v = min v 100; omega)) (fun q => absurd (show (258 : Nat) < 256 from q) (by decide))
            · refine bn_c (fun h10 => ?_) (fun h10 => ?_)
              · rw [if_neg (fun q => q.elim (fun q => h10 (e48.mpr q.2)) (fun q => by omega))] at h
                exact h _ _ (fun _ => congrArg nI (by show v = min v 100; omega)) (fun q => absurd (show (258 : Nat) < 256 from q) (by decide))
              · rw [if_pos (Or.inl ⟨h9, e48.mp h10⟩)] at h
                exact h _ _ (fun q => absurd (show (257 : Nat) = 258 from q) (by decide)) (fun q => absurd (show (257 : Nat) < 256 from q) (by decide))
        · obtain ⟨hnum, hv⟩ := h5 (by omega)
          subst hnum
          refine br_t (by decide) ?_
          have hor : (1 < j - i ∧ bt f n i = 48) ∨ 15 < v := by
            by_cases q : bt f n i = 48
            · exact Or.inl ⟨by omega, q⟩
            · exact Or.inr (hv q)
          rw [if_pos hor] at h
          exact h _ _ (fun q => absurd (show (257 : Nat) = 258 from q) (by decide)) (fun q => absurd (show (257 : Nat) < 256 from q) (by decide))
    · simp only [hs, if_true] at h
      refine br_f (by decide) ⟨n - i + 1, ?_⟩
      have hz : (0 : Int32) = nI (i - i) := by rw [Nat.sub_self]; rfl
      rw [hz]
      refine q_Mword_L hn ?_ (n - i) i 0 (Nat.le_refl i) (by omega) rfl (fun c hc => by rw [wl_nil] at hc; cases hc) (fun _ => by rw [wl_nil]; rfl)
      intro j x3 hj hje hcs hx
      rw [← hje] at h
      have hw := word_tok (g := bt f n) (i := i) (e := j)
      have v1 : (tkW (bt f n) i j).1 = 258 → num = nI (tkW (bt f n) i j).2 := fun q => absurd q hw.2.2.1
      have v2 : (tkW (bt f n) i j).1 < 256 → sg = nI (tkW (bt f n) i j).1 := fun q => absurd q (by have := hw.2.2.2; omega)
      have h := h num sg v1 v2
      refine pk_le 7 (j - i) (fun h7 => ?_) (fun h7 => ?_)
      · rw [hw.2.1 (by omega)] at h; exact h
      · rw [hx (by omega)]
        refine q_MwordOf hcs (by rw [wl_len]; omega) ?_
        have hw6 := hw.1 (by omega)
        refine br_c (fun h8 => ?_) (fun h8 => ?_)
        · rw [← hz] at h8
          rw [hw6.1 h8]; exact h
        · rw [← hz] at h8
          rw [hw6.2 h8] at h; exact h
  · rw [if_neg hi] at h
    rw [bt_out (by omega)]
    exact br_f (by decide) (h num sg (fun q => absurd (show (256 : Nat) = 258 from q) (by decide)) (fun q => absurd (show (256 : Nat) < 256 from q) (by decide)))
