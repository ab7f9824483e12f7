/-! bytes, and rows of bytes of one kind -/
theorem bn_t {c A B : Prop} (h : c) (b : B) : (¬ c → A) ∧ (c → B) := ⟨fun n => absurd h n, fun _ => b⟩
theorem bn_f {c A B : Prop} (h : ¬ c) (a : A) : (¬ c → A) ∧ (c → B) := ⟨fun _ => a, fun n => absurd n h⟩
theorem bn_c {c A B : Prop} (a : ¬ c → A) (b : c → B) : (¬ c → A) ∧ (c → B) := ⟨a, b⟩
def byN (f : Nat → Int32) (i : Nat) : Nat := (f i).toBitVec.toNat % 256
def bt (f : Nat → Int32) (n i : Nat) : Nat := if i < n then byN f i else 300
def ofB (c : Nat) : Int32 := if c = 300 then -1 else nI c
def b01 (b : Bool) : Int32 := if b then 1 else 0
def blk (c : Nat) : Bool := c == 32 || c == 10
def let_ (c : Nat) : Bool := (decide (97 ≤ c) && decide (c ≤ 122)) || (decide (65 ≤ c) && decide (c ≤ 90))
def sma (c : Nat) : Bool := decide (97 ≤ c) && decide (c ≤ 122)
def dig (c : Nat) : Bool := decide (48 ≤ c) && decide (c ≤ 57)
def sgn (c : Nat) : Bool := [35, 40, 41, 42, 43, 44, 45, 59, 60, 61, 91, 93].elem c
theorem byN_lt (f : Nat → Int32) (i : Nat) : byN f i < 256 := Nat.mod_lt _ (by decide)
theorem by_and (f : Nat → Int32) (i : Nat) : f i &&& 255 = nI (byN f i) := pk_and (f i) 8 rfl
theorem bt_in {f : Nat → Int32} {n i : Nat} (h : i < n) : bt f n i = byN f i := if_pos h
theorem bt_out {f : Nat → Int32} {n i : Nat} (h : n ≤ i) : bt f n i = 300 := if_neg (Nat.not_lt.mpr h)
theorem bt_lt (f : Nat → Int32) (n i : Nat) : bt f n i < 301 := by
  unfold bt
  split
  · have := byN_lt f i; omega
  · decide
theorem bt_256 {f : Nat → Int32} {n i : Nat} (h : i < n) : bt f n i < 256 := by rw [bt_in h]; exact byN_lt f i
theorem ofB_in {c : Nat} (h : c < 256) : ofB c = nI c := if_neg (by omega)
theorem q_byteAt {f : Nat → Int32} {n i : Nat} (hn : n ≤ 1200) (hi : i < 2 ^ 31) {post : Int32 → Prop} (h : post (ofB (bt f n i))) : wp_Tape_byteAt (nI i) (nI n) f post := by
  refine br_f (nI_pos hi) ?_
  refine pk_le n i (fun h1 => ?_) (fun h1 => ?_)
  · rw [bt_out h1] at h; exact h
  · refine pk_le 1200 i (fun h2 => absurd h2 (by omega)) (fun _ => ⟨vp_in_nI (by omega) (by decide), ?_⟩)
    rw [nI_clamp hi, by_and]
    rw [bt_in h1, ofB_in (byN_lt f i)] at h; exact h
theorem q_MbyteAt {f : Nat → Int32} {n i : Nat} (hn : n ≤ 1200) (hi : i < 2 ^ 31) {post : Int32 → Prop} (h : post (ofB (bt f n i))) : wp_Md_byteAt (nI i) (nI n) f post := by
  refine pk_le n i (fun h1 => ?_) (fun h1 => ?_)
  · rw [bt_out h1] at h; exact h
  · refine ⟨vp_in_nI (by omega) (by decide), ?_⟩
    rw [nI_clamp hi, by_and]
    rw [bt_in h1, ofB_in (byN_lt f i)] at h; exact h
def isBlankF (x : Int32) : Int32 := if x = 32 then 1 else if x = 10 then 1 else 0
def isLetterF (x : Int32) : Int32 := if x < 97 then (if x < 65 then 0 else if 90 < x then 0 else 1) else if x ≤ 122 then 1 else if x < 65 then 0 else if 90 < x then 0 else 1
def isDigitF (x : Int32) : Int32 := if x < 48 then 0 else if 57 < x then 0 else 1
def isSmallF (x : Int32) : Int32 := if x < 97 then 0 else if 122 < x then 0 else 1
theorem isBlankF_ok : ∀ c, c < 301 → isBlankF (ofB c) = b01 (blk c) := by decide +kernel
theorem isLetterF_ok : ∀ c, c < 301 → isLetterF (ofB c) = b01 (let_ c) := by decide +kernel
theorem isDigitF_ok : ∀ c, c < 301 → isDigitF (ofB c) = b01 (dig c) := by decide +kernel
theorem isSmallF_ok : ∀ c, c < 301 → isSmallF (ofB c) = b01 (sma c) := by decide +kernel
theorem q_isBlank {c : Nat} (hc : c < 301) {post : Int32 → Prop} (h : post (b01 (blk c))) : wp_Tok_isBlank (ofB c) post := by
  rw [← isBlankF_ok c hc] at h
  unfold isBlankF at h
  unfold wp_Tok_isBlank
  generalize ofB c = x at h ⊢
  refine ⟨fun a => ?_, fun a => ⟨fun b => ?_, fun b => ?_⟩⟩ <;> simp_all
theorem q_isLetter {c : Nat} (hc : c < 301) {post : Int32 → Prop} (h : post (b01 (let_ c))) : wp_Tok_isLetter (ofB c) post := by
  rw [← isLetterF_ok c hc] at h
  unfold isLetterF at h
  unfold wp_Tok_isLetter
  generalize ofB c = x at h ⊢
  refine ⟨fun a => ⟨fun b => ?_, fun b => ⟨fun d => ?_, fun d => ?_⟩⟩, fun a => ⟨fun b => ?_, fun b => ⟨fun d => ?_, fun d => ⟨fun e => ?_, fun e => ?_⟩⟩⟩⟩ <;> simp only [a, b, if_true, if_false] at h <;> first | exact h | (simp only [d, if_true, if_false] at h; first | exact h | (simp only [e, if_true, if_false] at h; exact h))
theorem q_isDigit {c : Nat} (hc : c < 301) {post : Int32 → Prop} (h : post (b01 (dig c))) : wp_Tok_isDigit (ofB c) post := by
  rw [← isDigitF_ok c hc] at h
  unfold isDigitF at h
  unfold wp_Tok_isDigit
  generalize ofB c = x at h ⊢
  refine ⟨fun a => ?_, fun a => ⟨fun b => ?_, fun b => ?_⟩⟩ <;> simp only [a, if_true, if_false] at h <;> first | exact h | (simp only [b, if_true, if_false] at h; exact h)
theorem q_MisFigure {c : Nat} (hc : c < 301) {post : Int32 → Prop} (h : post (b01 (dig c))) : wp_Md_isFigure (ofB c) post := q_isDigit hc h
theorem q_MisSmall {c : Nat} (hc : c < 301) {post : Int32 → Prop} (h : post (b01 (sma c))) : wp_Md_isSmall (ofB c) post := by
  rw [← isSmallF_ok c hc] at h
  unfold isSmallF at h
  unfold wp_Md_isSmall
  generalize ofB c = x at h ⊢
  refine ⟨fun a => ?_, fun a => ⟨fun b => ?_, fun b => ?_⟩⟩ <;> simp only [a, if_true, if_false] at h <;> first | exact h | (simp only [b, if_true, if_false] at h; exact h)
theorem ofB_eq {c k : Nat} (hc : c < 301) (hk : k < 256) : ofB c = nI k ↔ c = k := by
  unfold ofB
  split
  · next h => subst h; exact ⟨fun h => absurd h (by have := nI_pos' (n := k) (by omega); intro e; rw [← e] at this; exact absurd this (by decide)), fun h => by omega⟩
  · exact nI_eq (by omega) (by omega)
theorem q_MisSignByte {c : Nat} (hc : c < 256) {post : Int32 → Prop} (h : post (b01 (sgn c))) : wp_Md_isSignByte (ofB c) post := by
  have key : ∀ k, k < 256 → (ofB c = nI k ↔ c = k) := fun k hk => ofB_eq (by omega) hk
  have yes : ∀ k, k < 256 → sgn k = true → ofB c = nI k → post 1 := fun k hk hs e => by
    rw [(key k hk).mp e, hs] at h; exact h
  refine ⟨yes 35 (by decide) rfl, yes 40 (by decide) rfl, yes 41 (by decide) rfl, yes 42 (by decide) rfl, yes 43 (by decide) rfl, yes 44 (by decide) rfl, yes 45 (by decide) rfl, yes 59 (by decide) rfl, yes 60 (by decide) rfl, yes 61 (by decide) rfl, yes 91 (by decide) rfl, yes 93 (by decide) rfl, ?_⟩
  intro n1 n2 n3 n4 n5 n6 n7 n8 n9 n10 n11 n12
  have no : sgn c = false := by
    have := (not_congr (key 35 (by decide))).mp n1
    have := (not_congr (key 40 (by decide))).mp n2
    have := (not_congr (key 41 (by decide))).mp n3
    have := (not_congr (key 42 (by decide))).mp n4
    have := (not_congr (key 43 (by decide))).mp n5
    have := (not_congr (key 44 (by decide))).mp n6
    have := (not_congr (key 45 (by decide))).mp n7
    have := (not_congr (key 59 (by decide))).mp n8
    have := (not_congr (key 60 (by decide))).mp n9
    have := (not_congr (key 61 (by decide))).mp n10
    have := (not_congr (key 91 (by decide))).mp n11
    have := (not_congr (key 93 (by decide))).mp n12
    simp [sgn, *]
  rw [no] at h; exact h
/-- the end of the row of bytes with P that begins at i -/
def sk (P : Nat → Bool) (g : Nat → Nat) : Nat → Nat → Nat
  | 0, i => i
  | k + 1, i => if P (g i) then sk P g k (i + 1) else i
def fe (P : Nat → Bool) (g : Nat → Nat) (i : Nat) : Nat := sk P g (1300 - i) i
theorem fe_step {P : Nat → Bool} {g : Nat → Nat} {i : Nat} (h : i < 1300) : fe P g i = if P (g i) then fe P g (i + 1) else i := by
  unfold fe
  obtain ⟨k, hk⟩ : ∃ k, 1300 - i = k + 1 := ⟨1300 - i - 1, by omega⟩
  rw [hk, show 1300 - (i + 1) = k by omega]; rfl
theorem fe_t {P : Nat → Bool} {g : Nat → Nat} {i : Nat} (h : i < 1300) (hp : P (g i) = true) : fe P g i = fe P g (i + 1) := by rw [fe_step h, hp]; rfl
theorem fe_f {P : Nat → Bool} {g : Nat → Nat} {i : Nat} (h : i < 1300) (hp : P (g i) = false) : fe P g i = i := by rw [fe_step h, hp]; rfl
theorem fe_ge {P : Nat → Bool} {g : Nat → Nat} {n : Nat} (hn : n ≤ 1200) (hP : ∀ j, n ≤ j → P (g j) = false) : ∀ m i, i + m = n → i ≤ fe P g i ∧ fe P g i ≤ n
  | 0, i, h => by rw [fe_f (by omega) (hP i (by omega))]; omega
  | m + 1, i, h => by
    cases hb : P (g i)
    · rw [fe_f (by omega) hb]; omega
    · rw [fe_t (by omega) hb]; have := fe_ge hn hP m (i + 1) (by omega); omega
theorem q_skip_L {f : Nat → Int32} {n : Nat} (hn : n ≤ 1200) {K : Int32 → Prop} : ∀ m i, i + m = n → K (nI (fe blk (bt f n) i)) → wp_Tok_skipBlanks_L0 (nI n) f K (m + 1) (nI i)
  | 0, i, hi, h => by
    rw [fe_f (by omega) (by rw [bt_out (by omega)]; rfl)] at h
    exact br_t (nI_le (by omega) (by omega)) h
  | m + 1, i, hi, h => by
    refine br_f (nI_ge (by omega) (by omega)) (q_byteAt hn (by omega) (q_isBlank (bt_lt f n i) ?_))
    cases hb : blk (bt f n i)
    · rw [fe_f (by omega) hb] at h; exact br_t rfl h
    · rw [fe_t (by omega) hb] at h
      refine br_f (by decide) ?_
      rw [nI_1]
      exact q_skip_L hn m (i + 1) (by omega) h
theorem q_skipBlanks {f : Nat → Int32} {n i : Nat} (hn : n ≤ 1200) (hi : i ≤ n) {post : Int32 → Prop} (h : post (nI (fe blk (bt f n) i))) : wp_Tok_skipBlanks (nI n) f (nI i) post :=
  ⟨n - i + 1, q_skip_L hn (n - i) i (by omega) h⟩
theorem q_word_L {f : Nat → Int32} {n : Nat} (hn : n ≤ 1200) {K : Int32 → Prop} : ∀ m i, i + m = n → K (nI (fe let_ (bt f n) i)) → wp_Tok_readWord_L0 (nI n) f K (m + 1) (nI i)
  | 0, i, hi, h => by
    rw [fe_f (by omega) (by rw [bt_out (by omega)]; rfl)] at h
    exact br_t (nI_le (by omega) (by omega)) h
  | m + 1, i, hi, h => by
    refine br_f (nI_ge (by omega) (by omega)) (q_byteAt hn (by omega) (q_isLetter (bt_lt f n i) ?_))
    cases hb : let_ (bt f n i)
    · rw [fe_f (by omega) hb] at h; exact br_t rfl h
    · rw [fe_t (by omega) hb] at h
      refine br_f (by decide) ?_
      rw [nI_1]
      exact q_word_L hn m (i + 1) (by omega) h
theorem q_Mskip_L {f : Nat → Int32} {n : Nat} (hn : n ≤ 1200) {K : Int32 → Prop} : ∀ m i, i + m = n → K (nI (fe blk (bt f n) i)) → wp_Md_nextToken_L0 (nI n) f K (m + 1) (nI i)
  | 0, i, hi, h => by
    rw [fe_f (by omega) (by rw [bt_out (by omega)]; rfl)] at h
    refine q_MbyteAt hn (by omega) ?_
    rw [bt_out (by omega)]
    refine br_f (by decide) (q_MbyteAt hn (by omega) ?_)
    rw [bt_out (by omega)]
    exact bn_f (by decide) h
  | m + 1, i, hi, h => by
    refine q_MbyteAt hn (by omega) ?_
    have e32 := ofB_eq (k := 32) (bt_lt f n i) (by decide)
    have e10 := ofB_eq (k := 10) (bt_lt f n i) (by decide)
    cases hb : blk (bt f n i)
    · rw [fe_f (by omega) hb] at h
      have hb2 : bt f n i ≠ 32 ∧ bt f n i ≠ 10 := by simpa [blk] using hb
      exact br_f (fun e => hb2.1 (e32.mp e)) (q_MbyteAt hn (by omega) (bn_f (fun e => hb2.2 (e10.mp e)) h))
    · rw [fe_t (by omega) hb] at h
      have hr := q_Mskip_L hn m (i + 1) (by omega) h
      rw [← nI_1] at hr
      refine br_c (fun _ => hr) (fun ne => q_MbyteAt hn (by omega) ?_)
      have hb2 : bt f n i = 32 ∨ bt f n i = 10 := by simpa [blk] using hb
      have : bt f n i = 10 := hb2.resolve_left (fun e => ne (e32.mpr e))
      exact ⟨fun e => absurd (e10.mpr this) e, fun _ => hr⟩
