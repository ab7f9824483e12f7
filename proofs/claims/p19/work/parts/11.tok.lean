/-! the class's tokens -/
def nvs (g : Nat → Nat) : Nat → Nat → Nat → Nat
  | 0, _, v => v
  | k + 1, i, v => if dig (g i) then nvs g k (i + 1) (v * 10 + (g i - 48)) else v
def nva (g : Nat → Nat) (i v : Nat) : Nat := nvs g (1300 - i) i v
theorem nva_step {g : Nat → Nat} {i v : Nat} (h : i < 1300) : nva g i v = if dig (g i) then nva g (i + 1) (v * 10 + (g i - 48)) else v := by
  unfold nva
  obtain ⟨k, hk⟩ : ∃ k, 1300 - i = k + 1 := ⟨1300 - i - 1, by omega⟩
  rw [hk, show 1300 - (i + 1) = k by omega]; rfl
theorem nva_t {g : Nat → Nat} {i v : Nat} (h : i < 1300) (hp : dig (g i) = true) : nva g i v = nva g (i + 1) (v * 10 + (g i - 48)) := by rw [nva_step h, hp]; rfl
theorem nva_f {g : Nat → Nat} {i v : Nat} (h : i < 1300) (hp : dig (g i) = false) : nva g i v = v := by rw [nva_step h, hp]; rfl
theorem dig_b {c : Nat} (h : dig c = true) : 48 ≤ c ∧ c ≤ 57 := by simpa [dig] using h
theorem min_dig (v d : Nat) : min (min v 100 * 10 + d) 100 = min (v * 10 + d) 100 := by omega
theorem q_num_L {f : Nat → Int32} {n : Nat} (hn : n ≤ 1200) {K : Int32 → Int32 → Prop} : ∀ m i v, i + m = n → K (nI (min (nva (bt f n) i v) 100)) (nI (fe dig (bt f n) i)) → wp_Tok_readNumber_L2 (nI n) f K (m + 1) (nI (min v 100)) (nI i)
  | 0, i, v, hi, h => by
    have hd : dig (bt f n i) = false := by rw [bt_out (by omega)]; rfl
    rw [fe_f (by omega) hd, nva_f (by omega) hd] at h
    exact br_t (nI_le (by omega) (by omega)) h
  | m + 1, i, v, hi, h => by
    refine br_f (nI_ge (by omega) (by omega)) (q_byteAt hn (by omega) (q_isDigit (bt_lt f n i) ?_))
    cases hb : dig (bt f n i)
    · rw [fe_f (by omega) hb, nva_f (by omega) hb] at h; exact br_t rfl h
    · rw [fe_t (by omega) hb, nva_t (by omega) hb] at h
      refine br_f (by decide) (q_byteAt hn (by omega) ?_)
      have hc := dig_b hb
      refine nm_r (e' := nI (min (v * 10 + (bt f n i - 48)) 100)) ?_ ?_
      · rw [ofB_in (by omega), show (10 : Int32) = nI 10 from rfl, show (48 : Int32) = nI 48 from rfl, pk_mul, nI_add, pk_sub (by omega), show (100 : Int32) = nI 100 from rfl]
        have e : min v 100 * 10 + bt f n i - 48 = min v 100 * 10 + (bt f n i - 48) := by omega
        rw [e, ← min_dig]
        by_cases hx : 100 < min v 100 * 10 + (bt f n i - 48)
        · rw [if_pos ((nI_ltI (by omega) (by omega)).mpr hx), Nat.min_eq_right (by omega)]
        · rw [if_neg (fun a => hx ((nI_ltI (by omega) (by omega)).mp a))]; exact congrArg nI (by omega)
      · rw [nI_1]
        exact q_num_L hn m (i + 1) (v * 10 + (bt f n i - 48)) (by omega) h
theorem q_put {x1 x2 st : Int32} {m : Nat} {ks vs ps : Nat → Int32} (hm : m < 1201) {post : Int32 → (Nat → Int32) → (Nat → Int32) → (Nat → Int32) → Prop} (h : post (nI (m + 1)) (upd ks m x1) (upd vs m x2) (upd ps m st)) : wp_Tok_put x1 x2 (nI m) st ks vs ps post := by
  have hi : vp_in (nI m) 1201 := vp_in_nI hm (by decide)
  refine br_f (show ¬ nI 1201 ≤ nI m from nI_ge hm (by decide)) ⟨hi, hi, hi, ?_⟩
  rw [nI_clamp (by omega), nI_1]; exact h
def wW (k : Nat) : List Nat := [[98, 101, 103, 105, 110], [119, 104, 101, 110], [100, 111], [103, 111, 97, 108], [103, 117, 101, 115, 115], [114, 97, 110, 107], [111, 114], [97, 110, 100], [110, 111, 116]].getD k []
def wl (g : Nat → Nat) (i e : Nat) : List Nat := (List.range (e - i)).map (fun j => g (i + j))
theorem wl_iff {g : Nat → Nat} {i e : Nat} {L : List Nat} : wl g i e = L ↔ (e - i = L.length ∧ ∀ t, t < L.length → g (i + t) = L.getD t 0) := by
  constructor
  · intro h
    subst h
    refine ⟨by simp [wl], fun t ht => ?_⟩
    have ht' : t < e - i := by simpa [wl] using ht
    simp [wl, List.getD, ht']
  · rintro ⟨h1, h2⟩
    apply List.ext_getElem
    · simp [wl, h1]
    · intro t a b
      have := h2 t b
      simp only [wl, List.getElem_map, List.getElem_range]
      rw [this]; simp [List.getD, b]
theorem wW_len : ∀ k, k < 9 → lenS.getD k 0 = (wW k).length := by decide +kernel
theorem wW_ch : ∀ k, k < 9 → ∀ t, t < (wW k).length → sS_ch k t = nI ((wW k).getD t 0) ∧ (wW k).getD t 0 < 256 := by decide +kernel
theorem wW_small : ∀ k, k < 9 → (wW k).length ≤ 5 ∧ 2 ≤ (wW k).length := by decide +kernel
theorem q_spells_L {f : Nat → Int32} {n i k : Nat} (hn : n ≤ 1200) (hk : k < 9) (hi : i ≤ n) {K1 K0 : Prop} (h1 : (∀ t, t < (wW k).length → bt f n (i + t) = (wW k).getD t 0) → K1) (h0 : (∃ t, t < (wW k).length ∧ bt f n (i + t) ≠ (wW k).getD t 0) → K0) : ∀ m j, j + m = (wW k).length → (∀ t, t < j → bt f n (i + t) = (wW k).getD t 0) → wp_Tok_spells_L20 k (nI n) f (nI i) K1 K0 (m + 1) (nI j)
  | 0, j, hj, ha => by
    have hl := wW_len k hk
    have hs := (wW_small k hk).1
    exact ⟨Nat.lt_trans hk (by decide), br_t (nI_le (by omega) (by omega)) (h1 (fun t ht => ha t (by omega)))⟩
  | m + 1, j, hj, ha => by
    have hl := wW_len k hk
    have hs := (wW_small k hk).1
    obtain ⟨hc, hw⟩ := wW_ch k hk j (by omega)
    refine ⟨Nat.lt_trans hk (by decide), br_f (nI_ge (by omega) (by omega)) ?_⟩
    rw [nI_add]
    refine q_byteAt hn (by omega) ⟨j, Nat.lt_trans hk (by decide), by omega, rfl, ?_⟩
    rw [hc]
    have e := ofB_eq (bt_lt f n (i + j)) hw
    refine br_c (fun a => ?_) (fun a => h0 ⟨j, by omega, fun x => a (e.mpr x)⟩)
    rw [nI_1]
    exact q_spells_L hn hk hi h1 h0 m (j + 1) (by omega) (fun t ht => by
      rcases Nat.lt_or_eq_of_le (Nat.le_of_lt_succ ht) with h | h
      · exact ha t h
      · rw [h]; exact e.mp a)
theorem q_spells {f : Nat → Int32} {n i e k : Nat} (hn : n ≤ 1200) (hk : k < 9) (hi : i ≤ e) (he : e ≤ n) {post : Int32 → Prop} (h : post (b01 (decide (wl (bt f n) i e = wW k)))) : wp_Tok_spells k (nI n) f (nI i) (nI e) post := by
  have hl := wW_len k hk
  have hs := (wW_small k hk).1
  refine ⟨Nat.lt_trans hk (by decide), ?_⟩
  rw [pk_sub hi]
  refine br_c (fun a => ?_) (fun a => ?_)
  · have a' : e - i = (wW k).length := by rw [nI_eq (by omega) (by omega)] at a; omega
    refine ⟨(wW k).length + 1, q_spells_L hn hk (by omega) (fun q => ?_) (fun q => ?_) (wW k).length 0 (by omega) (fun t ht => absurd ht (Nat.not_lt_zero t))⟩
    · rw [decide_eq_true (wl_iff.mpr ⟨a', q⟩)] at h; exact h
    · obtain ⟨t, ht, hq⟩ := q
      rw [decide_eq_false (fun x => hq ((wl_iff.mp x).2 t ht))] at h; exact h
  · rw [decide_eq_false (fun x => a (by rw [(wl_iff.mp x).1, hl]))] at h; exact h
def wkind (L : List Nat) : Nat := if L = wW 0 then 260 else if L = wW 1 then 261 else if L = wW 2 then 262 else if L = wW 3 then 263 else if L = wW 4 then 264 else if L = wW 5 then 265 else if L = wW 6 then 266 else if L = wW 7 then 267 else if L = wW 8 then 268 else 257
theorem wk_step {L M : List Nat} {k : Nat} {A B : Prop} {x : Int32} (hx : x = b01 (decide (L = M))) (a : L ≠ M → A) (b : L = M → B) : (x = 0 → A) ∧ (¬ x = 0 → B) := by
  subst hx
  by_cases h : L = M
  · rw [decide_eq_true h]; exact ⟨fun q => absurd q (by decide), fun _ => b h⟩
  · rw [decide_eq_false h]; exact ⟨fun _ => a h, fun q => absurd rfl q⟩
theorem q_wordKind {f : Nat → Int32} {n i e : Nat} (hn : n ≤ 1200) (hi : i ≤ e) (he : e ≤ n) {post : Int32 → Prop} (h : post (nI (wkind (wl (bt f n) i e)))) : wp_Tok_wordKind (nI n) f (nI i) (nI e) post := by
  refine q_spells hn (by decide) hi he (wk_step (k := 0) rfl (fun h0 => ?_) (fun h0 => ?_))
  rotate_left
  · rw [wkind, if_pos h0] at h; exact h
  refine q_spells hn (by decide) hi he (wk_step (k := 0) rfl (fun h1 => ?_) (fun h1 => ?_))
  rotate_left
  · rw [wkind, if_neg h0, if_pos h1] at h; exact h
  refine q_spells hn (by decide) hi he (wk_step (k := 0) rfl (fun h2 => ?_) (fun h2 => ?_))
  rotate_left
  · rw [wkind, if_neg h0, if_neg h1, if_pos h2] at h; exact h
  refine q_spells hn (by decide) hi he (wk_step (k := 0) rfl (fun h3 => ?_) (fun h3 => ?_))
  rotate_left
  · rw [wkind, if_neg h0, if_neg h1, if_neg h2, if_pos h3] at h; exact h
  refine q_spells hn (by decide) hi he (wk_step (k := 0) rfl (fun h4 => ?_) (fun h4 => ?_))
  rotate_left
  · rw [wkind, if_neg h0, if_neg h1, if_neg h2, if_neg h3, if_pos h4] at h; exact h
  refine q_spells hn (by decide) hi he (wk_step (k := 0) rfl (fun h5 => ?_) (fun h5 => ?_))
  rotate_left
  · rw [wkind, if_neg h0, if_neg h1, if_neg h2, if_neg h3, if_neg h4, if_pos h5] at h; exact h
  refine q_spells hn (by decide) hi he (wk_step (k := 0) rfl (fun h6 => ?_) (fun h6 => ?_))
  rotate_left
  · rw [wkind, if_neg h0, if_neg h1, if_neg h2, if_neg h3, if_neg h4, if_neg h5, if_pos h6] at h; exact h
  refine q_spells hn (by decide) hi he (wk_step (k := 0) rfl (fun h7 => ?_) (fun h7 => ?_))
  rotate_left
  · rw [wkind, if_neg h0, if_neg h1, if_neg h2, if_neg h3, if_neg h4, if_neg h5, if_neg h6, if_pos h7] at h; exact h
  refine q_spells hn (by decide) hi he (wk_step (k := 0) rfl (fun h8 => ?_) (fun h8 => ?_))
  · rw [wkind, if_neg h0, if_neg h1, if_neg h2, if_neg h3, if_neg h4, if_neg h5, if_neg h6, if_neg h7, if_neg h8] at h; exact h
  · rw [wkind, if_neg h0, if_neg h1, if_neg h2, if_neg h3, if_neg h4, if_neg h5, if_neg h6, if_neg h7, if_pos h8] at h; exact h
def tkW (g : Nat → Nat) (i e : Nat) : Nat × Nat := if e - i = 1 ∧ 97 ≤ g i ∧ g i < 100 then (259, g i - 97) else (wkind (wl g i e), 0)
def tkN (g : Nat → Nat) (i e : Nat) : Nat × Nat := (if (1 < e - i ∧ g i = 48) ∨ 15 < nva g i 0 then 257 else 258, min (nva g i 0) 100)
/-- the token at i: kind, value, end; P: which bytes are letters -/
def tk (P : Nat → Bool) (g : Nat → Nat) (i : Nat) : Nat × Nat × Nat :=
  if P (g i) then ((tkW g i (fe P g i)).1, (tkW g i (fe P g i)).2, fe P g i)
  else if dig (g i) then ((tkN g i (fe dig g i)).1, (tkN g i (fe dig g i)).2, fe dig g i)
  else (if sgn (g i) then g i else 257, 0, i + 1)
theorem q_readWord {f : Nat → Int32} {n i m : Nat} (hn : n ≤ 1200) (hi : i < n) (hl : let_ (bt f n i) = true) (hm : m < 1201) {ks vs ps : Nat → Int32} {post : Int32 → Int32 → (Nat → Int32) → (Nat → Int32) → (Nat → Int32) → Prop} (h : post (nI (m + 1)) (nI (fe let_ (bt f n) i)) (upd ks m (nI (tkW (bt f n) i (fe let_ (bt f n) i)).1)) (upd vs m (nI (tkW (bt f n) i (fe let_ (bt f n) i)).2)) (upd ps m (nI i))) : wp_Tok_readWord (nI n) f (nI m) (nI i) (nI i) ks vs ps post := by
  have hP : ∀ j, n ≤ j → let_ (bt f n j) = false := fun j hj => by rw [bt_out hj]; rfl
  have hb := fe_ge hn hP (n - i) i (by omega)
  refine ⟨n - i + 1, q_word_L hn (n - i) i (by omega) ?_⟩
  generalize fe let_ (bt f n) i = e at h hb
  refine q_byteAt hn (by omega) ?_
  rw [pk_sub hb.1]
  have hbt := bt_256 (f := f) hi
  rw [ofB_in hbt]
  unfold tkW at h
  by_cases h1 : e - i = 1
  · refine bn_t ((nI_eq (by omega) (by decide)).mpr h1) ?_
    refine pk_lt (bt f n i) 97 (fun h2 => ?_) (fun h2 => ?_)
    · rw [if_neg (by omega)] at h
      exact q_wordKind hn hb.1 hb.2 (q_put hm h)
    · refine pk_le 100 (bt f n i) (fun h3 => ?_) (fun h3 => ?_)
      · rw [if_neg (by omega)] at h
        exact q_wordKind hn hb.1 hb.2 (q_put hm h)
      · rw [if_pos ⟨h1, h2, h3⟩] at h
        rw [show (97 : Int32) = nI 97 from rfl, pk_sub h2]
        exact q_put hm h
  · rw [if_neg (fun q => h1 q.1)] at h
    exact bn_f (fun q => h1 ((nI_eq (by omega) (by decide)).mp q)) (q_wordKind hn hb.1 hb.2 (q_put hm h))
theorem q_readNumber {f : Nat → Int32} {n i m : Nat} (hn : n ≤ 1200) (hi : i < n) (hl : dig (bt f n i) = true) (hm : m < 1201) {ks vs ps : Nat → Int32} {post : Int32 → Int32 → (Nat → Int32) → (Nat → Int32) → (Nat → Int32) → Prop} (h : post (nI (m + 1)) (nI (fe dig (bt f n) i)) (upd ks m (nI (tkN (bt f n) i (fe dig (bt f n) i)).1)) (upd vs m (nI (tkN (bt f n) i (fe dig (bt f n) i)).2)) (upd ps m (nI i))) : wp_Tok_readNumber (nI n) f (nI m) (nI i) (nI i) ks vs ps post := by
  have hP : ∀ j, n ≤ j → dig (bt f n j) = false := fun j hj => by rw [bt_out hj]; rfl
  have hb := fe_ge hn hP (n - i) i (by omega)
  refine ⟨n - i + 1, q_num_L hn (n - i) i 0 (by omega) ?_⟩
  generalize fe dig (bt f n) i = e at h hb
  unfold tkN at h
  generalize nva (bt f n) i 0 = v at h
  unfold wp_Tok_readNumber_J71
  rw [pk_sub hb.1]
  refine pk_le (e - i) 1 (fun h1 => ?_) (fun h1 => ?_)
  · refine pk_le (min v 100) 15 (fun h2 => ?_) (fun h2 => ?_)
    · rw [if_neg (by omega)] at h; exact q_put hm h
    · rw [if_pos (by omega)] at h; exact q_put hm h
  · refine q_byteAt hn (by omega) ?_
    have e48 := ofB_eq (k := 48) (bt_lt f n i) (by decide)
    refine bn_c (fun h2 => ?_) (fun h2 => ?_)
    · have h2' : bt f n i ≠ 48 := fun q => h2 (e48.mpr q)
      refine pk_le (min v 100) 15 (fun h3 => ?_) (fun h3 => ?_)
      · rw [if_neg (by omega)] at h; exact q_put hm h
      · rw [if_pos (by omega)] at h; exact q_put hm h
    · rw [if_pos (Or.inl ⟨h1, e48.mp h2⟩)] at h; exact q_put hm h
theorem char_ok : ∀ c, c < 256 → ((nI c).toUInt32 % 65536).toInt32 = nI c := by decide +kernel
theorem sign_ok : ∀ c, c < 256 → decide (sS_ix 9 (nI c) < 0) = !sgn c := by decide +kernel
theorem q_readToken {f : Nat → Int32} {n i m : Nat} (hn : n ≤ 1200) (hi : i < n) (hm : m < 1201) {st : Int32} {ks vs ps : Nat → Int32} {post : Int32 → Int32 → Int32 → (Nat → Int32) → (Nat → Int32) → (Nat → Int32) → Prop} (h : post (nI (m + 1)) (nI i) (nI (tk let_ (bt f n) i).2.2) (upd ks m (nI (tk let_ (bt f n) i).1)) (upd vs m (nI (tk let_ (bt f n) i).2.1)) (upd ps m (nI i))) : wp_Tok_readToken (nI n) f (nI m) st (nI i) ks vs ps post := by
  refine q_byteAt hn (by omega) (q_isLetter (bt_lt f n i) ?_)
  unfold tk at h
  cases hb : let_ (bt f n i)
  · simp only [hb, Bool.false_eq_true, if_false] at h
    refine br_t rfl (q_isDigit (bt_lt f n i) ?_)
    cases hd : dig (bt f n i)
    · simp only [hd, Bool.false_eq_true, if_false] at h
      have hc := bt_256 (f := f) hi
      rw [ofB_in hc]
      refine br_t rfl ⟨bt f n i, by decide, hc, char_ok _ hc, ?_⟩
      have hs := sign_ok _ hc
      cases hg : sgn (bt f n i)
      · simp only [hg, Bool.false_eq_true, if_false] at h
        rw [hg] at hs
        refine br_t (of_decide_eq_true hs) (q_put hm ?_)
        rw [nI_1]; exact h
      · simp only [hg, if_true] at h
        rw [hg] at hs
        refine br_f (of_decide_eq_false hs) (q_put hm ?_)
        rw [nI_1]; exact h
    · simp only [hd, if_true] at h
      exact br_f (by decide) (q_readNumber hn hi hd hm h)
  · simp only [hb, if_true] at h
    exact br_f (by decide) (q_readWord hn hi hb hm h)
