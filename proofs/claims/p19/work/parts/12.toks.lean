/-! the row of tokens -/
def pl (P : Nat → Bool) (g : Nat → Nat) (n : Nat) : Nat → Nat
  | 0 => fe blk g 0
  | j + 1 => if pl P g n j < n then fe blk g (tk P g (pl P g n j)).2.2 else pl P g n j
def kd (P : Nat → Bool) (g : Nat → Nat) (n j : Nat) : Nat := if pl P g n j < n then (tk P g (pl P g n j)).1 else 256
def vd (P : Nat → Bool) (g : Nat → Nat) (n j : Nat) : Nat := if pl P g n j < n then (tk P g (pl P g n j)).2.1 else 0
theorem fe_bt {P : Nat → Bool} (hP : P 300 = false) {f : Nat → Int32} {n i : Nat} (hn : n ≤ 1200) (hi : i ≤ n) : i ≤ fe P (bt f n) i ∧ fe P (bt f n) i ≤ n := fe_ge hn (fun j hj => by rw [bt_out hj]; exact hP) (n - i) i (by omega)
theorem tk_end {P : Nat → Bool} (hP : P 300 = false) {f : Nat → Int32} {n i : Nat} (hn : n ≤ 1200) (hi : i < n) : i < (tk P (bt f n) i).2.2 ∧ (tk P (bt f n) i).2.2 ≤ n := by
  unfold tk
  cases hb : P (bt f n i)
  · cases hd : dig (bt f n i)
    · simp only [Bool.false_eq_true, if_false]; omega
    · simp only [Bool.false_eq_true, if_false, if_true]
      rw [fe_t (by omega) hd]
      have := fe_bt (P := dig) rfl (f := f) hn (i := i + 1) (by omega)
      omega
  · simp only [if_true]
    rw [fe_t (by omega) hb]
    have := fe_bt hP (f := f) hn (i := i + 1) (by omega)
    omega
theorem pl_le {P : Nat → Bool} (hP : P 300 = false) {f : Nat → Int32} {n : Nat} (hn : n ≤ 1200) : ∀ j, pl P (bt f n) n j ≤ n
  | 0 => (fe_bt (P := blk) rfl hn (Nat.zero_le n)).2
  | j + 1 => by
    unfold pl
    split
    · next h => exact (fe_bt (P := blk) rfl hn (tk_end hP hn h).2).2
    · exact pl_le hP hn j
theorem pl_s {P : Nat → Bool} {g : Nat → Nat} {n j : Nat} (h : pl P g n j < n) : pl P g n (j + 1) = fe blk g (tk P g (pl P g n j)).2.2 := by
  show (if pl P g n j < n then _ else _) = _
  rw [if_pos h]
theorem pl_lt {P : Nat → Bool} (hP : P 300 = false) {f : Nat → Int32} {n j : Nat} (hn : n ≤ 1200) (h : pl P (bt f n) n j < n) : pl P (bt f n) n j < pl P (bt f n) n (j + 1) := by
  rw [pl_s h]
  have h1 := tk_end hP (f := f) hn h
  have h2 := fe_bt (P := blk) rfl (f := f) hn h1.2
  omega
theorem pl_n {P : Nat → Bool} {g : Nat → Nat} {n m : Nat} (h : pl P g n m = n) : ∀ d, pl P g n (m + d) = n
  | 0 => h
  | d + 1 => by
    have hd := pl_n h d
    show (if pl P g n (m + d) < n then fe blk g (tk P g (pl P g n (m + d))).2.2 else pl P g n (m + d)) = n
    rw [if_neg (by omega)]; exact hd
theorem kd_end {P : Nat → Bool} {g : Nat → Nat} {n m j : Nat} (h : pl P g n m = n) (hj : m ≤ j) : kd P g n j = 256 ∧ vd P g n j = 0 := by
  have := pl_n h (j - m)
  rw [show m + (j - m) = j by omega] at this
  unfold kd vd
  rw [this, if_neg (Nat.lt_irrefl n), if_neg (Nat.lt_irrefl n)]
  exact ⟨rfl, rfl⟩
theorem kd_in {P : Nat → Bool} {g : Nat → Nat} {n j : Nat} (h : pl P g n j < n) : kd P g n j = (tk P g (pl P g n j)).1 ∧ vd P g n j = (tk P g (pl P g n j)).2.1 := by
  unfold kd vd
  rw [if_pos h, if_pos h]
  exact ⟨rfl, rfl⟩
/-- the class's rows hold the tokens: m of them, and the end behind them -/
def TokA (P : Nat → Bool) (g : Nat → Nat) (n m : Nat) (ks vs : Nat → Int32) : Prop := m ≤ 1200 ∧ pl P g n m = n ∧ ∀ j, j ≤ m → ks j = nI (kd P g n j) ∧ vs j = nI (vd P g n j)
theorem q_readAll_L {f : Nat → Int32} {n : Nat} (hn : n ≤ 1200) {K : Int32 → Int32 → Int32 → (Nat → Int32) → (Nat → Int32) → (Nat → Int32) → Prop} (hK : ∀ m st ks vs ps, m ≤ 1200 → pl let_ (bt f n) n m = n → (∀ j, j < m → ks j = nI (kd let_ (bt f n) n j) ∧ vs j = nI (vd let_ (bt f n) n j)) → K (nI m) st (nI n) ks vs ps) : ∀ k m st ks vs ps, n - pl let_ (bt f n) n m ≤ k → m ≤ pl let_ (bt f n) n m → (∀ j, j < m → ks j = nI (kd let_ (bt f n) n j) ∧ vs j = nI (vd let_ (bt f n) n j)) → wp_Tok_readAll_L16 (nI n) f K (k + 1) (nI m) (nI m) st (nI (pl let_ (bt f n) n m)) ks vs ps := by
  intro k
  induction k with
  | zero =>
    intro m st ks vs ps h1 h2 h3
    have h4 := pl_le (P := let_) rfl (f := f) hn m
    have h5 : pl let_ (bt f n) n m = n := by omega
    refine pk_le 1200 m (fun a => ?_) (fun a => ?_)
    · rw [h5]; exact hK m st ks vs ps (by omega) h5 h3
    · refine br_t (nI_le (by omega) (by omega)) ?_
      rw [h5]; exact hK m st ks vs ps (by omega) h5 h3
  | succ k ih =>
    intro m st ks vs ps h1 h2 h3
    have h4 := pl_le (P := let_) rfl (f := f) hn m
    refine pk_le 1200 m (fun a => ?_) (fun a => ?_)
    · have h5 : pl let_ (bt f n) n m = n := by omega
      rw [h5]; exact hK m st ks vs ps (by omega) h5 h3
    · refine pk_le n (pl let_ (bt f n) n m) (fun b => ?_) (fun b => ?_)
      · have h5 : pl let_ (bt f n) n m = n := by omega
        rw [h5]; exact hK m st ks vs ps (by omega) h5 h3
      · have h6 := tk_end (P := let_) rfl (f := f) hn b
        have h7 := pl_lt (P := let_) rfl (f := f) hn b
        refine q_readToken hn b (by omega) (q_skipBlanks hn h6.2 ?_)
        rw [← pl_s b, nI_1]
        refine ih (m + 1) _ _ _ _ (by omega) (by omega) (fun j hj => ?_)
        rcases Nat.lt_or_eq_of_le (Nat.le_of_lt_succ hj) with h | h
        · rw [pk_un (by omega), pk_un (by omega)]; exact h3 j h
        · subst h
          rw [pk_us, pk_us, (kd_in b).1, (kd_in b).2]
          exact ⟨rfl, rfl⟩
theorem q_readAll {f : Nat → Int32} {n : Nat} (hn : n ≤ 1200) {c0 s0 t0 : Int32} {ks vs ps : Nat → Int32} {post : Int32 → Int32 → Int32 → (Nat → Int32) → (Nat → Int32) → (Nat → Int32) → Prop} (h : ∀ m ks vs ps, TokA let_ (bt f n) n m ks vs → post (nI (m + 1)) (nI n) (nI n) ks vs ps) : wp_Tok_readAll (nI n) f c0 s0 t0 ks vs ps post := by
  refine q_skipBlanks (i := 0) hn (Nat.zero_le n) ⟨n + 1, q_readAll_L hn ?_ n 0 s0 ks vs ps (Nat.sub_le _ _) (Nat.zero_le _) (fun j hj => absurd hj (Nat.not_lt_zero j))⟩
  intro m st ks vs ps hm he ha
  refine q_put (by omega) (h m _ _ _ ⟨hm, he, fun j hj => ?_⟩)
  rcases Nat.lt_or_eq_of_le hj with h | h
  · rw [pk_un (by omega), pk_un (by omega)]; exact ha j h
  · subst h
    rw [pk_us, pk_us, (kd_end he (Nat.le_refl _)).1, (kd_end he (Nat.le_refl _)).2]
    exact ⟨rfl, rfl⟩
theorem q_kindAt {P : Nat → Bool} {g : Nat → Nat} {n m j : Nat} {ks vs : Nat → Int32} (T : TokA P g n m ks vs) (hj : j < 2 ^ 31) {post : Int32 → Prop} (h : post (nI (kd P g n j))) : wp_Tok_kindAt (nI j) (nI (m + 1)) ks post := by
  obtain ⟨hm, he, ha⟩ := T
  refine br_f (nI_pos hj) (pk_le (m + 1) j (fun a => ?_) (fun a => ?_))
  · rw [(kd_end he (by omega)).1] at h; exact h
  · refine pk_le 1201 j (fun b => absurd b (by omega)) (fun b => ⟨vp_in_nI b (by decide), ?_⟩)
    rw [nI_clamp hj, (ha j (by omega)).1]; exact h
theorem q_valueAt {P : Nat → Bool} {g : Nat → Nat} {n m j : Nat} {ks vs : Nat → Int32} (T : TokA P g n m ks vs) (hj : j < 2 ^ 31) {post : Int32 → Prop} (h : post (nI (vd P g n j))) : wp_Tok_valueAt (nI j) (nI (m + 1)) vs post := by
  obtain ⟨hm, he, ha⟩ := T
  refine br_f (nI_pos hj) (pk_le (m + 1) j (fun a => ?_) (fun a => ?_))
  · rw [(kd_end he (by omega)).2] at h; exact h
  · refine pk_le 1201 j (fun b => absurd b (by omega)) (fun b => ⟨vp_in_nI b (by decide), ?_⟩)
    rw [nI_clamp hj, (ha j (by omega)).2]; exact h
theorem q_placeAt_any {x c : Int32} {ps : Nat → Int32} {post : Int32 → Prop} (h : ∀ r, post r) : wp_Tok_placeAt x c ps post := by
  refine br_c (fun _ => h _) (fun a => br_c (fun _ => h _) (fun _ => br_c (fun _ => h _) (fun b => ⟨?_, h _⟩)))
  rcases pk_ix x (n := 1201) (by decide) with h1 | h1 | ⟨j, hj, rfl⟩
  · exact absurd h1 a
  · exact absurd h1 b
  · exact vp_in_nI hj (by decide)
theorem q_valueAt_any {x c : Int32} {ps : Nat → Int32} {post : Int32 → Prop} (h : ∀ r, post r) : wp_Tok_valueAt x c ps post := q_placeAt_any h
/-! the reference's next token -/
theorem u_tn_ {a : Nat} (h : a < 2 ^ 64) : (UInt64.ofNat a).toNat = a := by rw [UInt64.toNat_ofNat']; exact Nat.mod_eq_of_lt h
theorem g_or_ {k p a b : Nat} (hp : 2 ^ k = p) (ha : a < p) (h : b * p + a < 2 ^ 64) : lN (b * p) ||| lN a = lN (b * p + a) := by
  subst hp
  have h1 : b * 2 ^ k ||| a = b * 2 ^ k + a := by rw [← Nat.shiftLeft_eq, Nat.shiftLeft_add_eq_or_of_lt ha]
  have h3 : UInt64.ofNat (b * 2 ^ k) ||| UInt64.ofNat a = UInt64.ofNat (b * 2 ^ k + a) := UInt64.toNat_inj.mp (by rw [UInt64.toNat_or, u_tn_ (by omega), u_tn_ (by omega), u_tn_ h, h1])
  have h2 := congrArg UInt64.toInt64 h3
  exact h2
theorem g_shl_ {a k p : Nat} {y : Int64} (hy : y.toBitVec.smod 64 = BitVec.ofNat 64 k) (hk : k < 64) (hp : 2 ^ k = p) (ha : a < 2 ^ 64) : lN a <<< y = lN (a * p) := by
  subst hp
  apply Int64.toBitVec_inj.mp
  rw [Int64.toBitVec_shiftLeft, hy]
  apply BitVec.eq_of_toNat_eq
  have hb : (lN a).toBitVec.toNat = a := Nat.mod_eq_of_lt ha
  have hk' : (BitVec.ofNat 64 k).toNat = k := Nat.mod_eq_of_lt (by omega)
  have h : ((lN a).toBitVec <<< BitVec.ofNat 64 k).toNat = (a * 2 ^ k) % 2 ^ 64 := by simp only [BitVec.shiftLeft_eq', BitVec.toNat_shiftLeft, hb, hk', Nat.shiftLeft_eq]
  exact h
/-- a word's number, the first byte the highest -/
def vr : List Nat → Nat
  | [] => 0
  | c :: l => vr l * 256 + c
def vw (L : List Nat) : Nat := vr L.reverse
theorem vr_inj : ∀ (L M : List Nat), (∀ c ∈ L, 0 < c ∧ c < 256) → (∀ c ∈ M, 0 < c ∧ c < 256) → vr L = vr M → L = M
  | [], [], _, _, _ => rfl
  | [], c :: M, _, hM, h => by have := hM c (List.mem_cons_self ..); simp only [vr] at h; omega
  | c :: L, [], hL, _, h => by have := hL c (List.mem_cons_self ..); simp only [vr] at h; omega
  | c :: L, d :: M, hL, hM, h => by
    have h1 := hL c (List.mem_cons_self ..)
    have h2 := hM d (List.mem_cons_self ..)
    simp only [vr] at h
    have e : c = d := by omega
    have e2 : vr L = vr M := by omega
    rw [e, vr_inj L M (fun x hx => hL x (List.mem_cons_of_mem _ hx)) (fun x hx => hM x (List.mem_cons_of_mem _ hx)) e2]
theorem vw_inj {L M : List Nat} (hL : ∀ c ∈ L, 0 < c ∧ c < 256) (hM : ∀ c ∈ M, 0 < c ∧ c < 256) : vw L = vw M ↔ L = M := by
  refine ⟨fun h => ?_, fun h => by rw [h]⟩
  have := vr_inj L.reverse M.reverse (fun c hc => hL c (List.mem_reverse.mp hc)) (fun c hc => hM c (List.mem_reverse.mp hc)) h
  exact List.reverse_inj.mp this
theorem vw_snoc (L : List Nat) (c : Nat) : vw (L ++ [c]) = vw L * 256 + c := by unfold vw; rw [List.reverse_append]; rfl
theorem vr_lt : ∀ (L : List Nat), (∀ c ∈ L, c < 256) → vr L < 256 ^ L.length
  | [], _ => by decide
  | c :: L, h => by
    have h1 := vr_lt L (fun x hx => h x (List.mem_cons_of_mem _ hx))
    have h2 := h c (List.mem_cons_self ..)
    simp only [vr, List.length_cons, Nat.pow_succ]
    omega
theorem vw_lt {L : List Nat} (h : ∀ c ∈ L, c < 256) : vw L < 256 ^ L.length := by
  have := vr_lt L.reverse (fun c hc => h c (List.mem_reverse.mp hc))
  rwa [List.length_reverse] at this
theorem vw_lt6 {L : List Nat} (h : ∀ c ∈ L, c < 256) (hl : L.length ≤ 6) : vw L < 2 ^ 48 := Nat.lt_of_lt_of_le (vw_lt h) (by
  have : 256 ^ L.length ≤ 256 ^ 6 := Nat.pow_le_pow_right (by decide) hl
  exact this)
theorem wl_snoc {g : Nat → Nat} {i j : Nat} (h : i ≤ j) : wl g i (j + 1) = wl g i j ++ [g j] := by
  unfold wl
  rw [show j + 1 - i = (j - i) + 1 by omega, List.range_succ, List.map_append]
  simp only [List.map_cons, List.map_nil]
  rw [show i + (j - i) = j by omega]
theorem wl_len (g : Nat → Nat) (i j : Nat) : (wl g i j).length = j - i := by simp [wl]
theorem wl_nil (g : Nat → Nat) (i : Nat) : wl g i i = [] := by simp [wl]
theorem sma_b {c : Nat} (h : sma c = true) : 97 ≤ c ∧ c ≤ 122 := by simpa [sma] using h
theorem q_Mword_L {f : Nat → Int32} {n i : Nat} (hn : n ≤ 1200) {K : Int32 → Int64 → Int32 → Prop} (hK : ∀ j x3, j ≤ n → j = fe sma (bt f n) i → (∀ c ∈ wl (bt f n) i j, 97 ≤ c ∧ c ≤ 122) → (j - i ≤ 7 → x3 = lN (vw (wl (bt f n) i j))) → K (nI (j - i)) x3 (nI j)) : ∀ m j x3, i ≤ j → j + m = n → fe sma (bt f n) j = fe sma (bt f n) i → (∀ c ∈ wl (bt f n) i j, 97 ≤ c ∧ c ≤ 122) → (j - i ≤ 7 → x3 = lN (vw (wl (bt f n) i j))) → wp_Md_nextToken_L79 (nI n) f K (m + 1) (nI (j - i)) x3 (nI j)
  | 0, j, x3, hij, hj, hf, hc, hx => by
    have hd : sma (bt f n j) = false := by rw [bt_out (by omega)]; rfl
    refine q_MbyteAt hn (by omega) (q_MisSmall (bt_lt f n j) ?_)
    rw [hd]
    rw [fe_f (by omega) hd] at hf
    exact br_t rfl (hK j x3 (by omega) hf hc hx)
  | m + 1, j, x3, hij, hj, hf, hc, hx => by
    refine q_MbyteAt hn (by omega) (q_MisSmall (bt_lt f n j) ?_)
    cases hd : sma (bt f n j)
    · rw [fe_f (by omega) hd] at hf
      exact br_t rfl (hK j x3 (by omega) hf hc hx)
    · have hcj := sma_b hd
      have hc' : ∀ c ∈ wl (bt f n) i (j + 1), 97 ≤ c ∧ c ≤ 122 := fun c h => by
        rw [wl_snoc hij] at h
        rcases List.mem_append.mp h with h | h
        · exact hc c h
        · rw [List.mem_singleton.mp h]; exact hcj
      rw [fe_t (by omega) hd] at hf
      have e1 : nI (j - i) + 1 = nI (j + 1 - i) := by rw [nI_1]; exact congrArg nI (by omega)
      refine br_f (by decide) (pk_le 7 (j - i) (fun h7 => ?_) (fun h7 => ?_))
      · rw [e1, nI_1]
        exact q_Mword_L hn hK m (j + 1) x3 (by omega) (by omega) hf hc' (fun h => absurd h (by omega))
      · refine q_MbyteAt hn (by omega) (nm_r (e' := lN (vw (wl (bt f n) i (j + 1)))) ?_ ?_)
        · have hlt := vw_lt6 (L := wl (bt f n) i j) (fun c h => by have := hc c h; omega) (by rw [wl_len]; omega)
          rw [hx (by omega), ofB_in (by omega), nI_l (by omega), g_shl_ (k := 8) (p := 256) rfl (by decide) rfl (by omega), g_or_ (k := 8) (p := 256) rfl (by omega) (by omega), wl_snoc hij, vw_snoc]
        · rw [e1, nI_1]
          exact q_Mword_L hn hK m (j + 1) _ (by omega) (by omega) hf hc' (fun _ => rfl)
def rwL (L : List Nat) : Int32 := if L = wW 0 then 0 else if L = wW 1 then 1 else if L = wW 2 then 2 else if L = wW 3 then 3 else if L = wW 4 then 4 else if L = wW 5 then 5 else if L = wW 6 then 6 else if L = wW 7 then 7 else if L = wW 8 then 8 else if L = [97] then 9 else if L = [98] then 10 else if L = [99] then 11 else -1
theorem cm_step {L M : List Nat} {N : Nat} {A B : Prop} (hL : ∀ c ∈ L, 97 ≤ c ∧ c ≤ 122) (hl : L.length ≤ 6) (hM : ∀ c ∈ M, 0 < c ∧ c < 256) (hN : vw M = N) (h64 : N < 2 ^ 63) (a : L ≠ M → A) (b : L = M → B) : (¬ lg_cmp (lN (vw L)) (lN N) = 0 → A) ∧ (lg_cmp (lN (vw L)) (lN N) = 0 → B) := by
  have hv := vw_lt6 (L := L) (fun c h => by have := hL c h; omega) hl
  have e : lg_cmp (lN (vw L)) (lN N) = 0 ↔ L = M := by
    rw [lg_cmp_eq, pk_lEQ (by omega) h64, ← hN]
    exact vw_inj (fun c h => by have := hL c h; omega) hM
  exact ⟨fun h => a (fun q => h (e.mpr q)), fun h => b (e.mp h)⟩
theorem q_MwordOf {L : List Nat} (hL : ∀ c ∈ L, 97 ≤ c ∧ c ≤ 122) (hl : L.length ≤ 6) {post : Int32 → Prop} (h : post (rwL L)) : wp_Md_wordOf (lN (vw L)) post := by
  refine cm_step (M := wW 0) (N := 422608071022) hL hl (by decide) (by decide +kernel) (by decide) (fun h0 => ?_) (fun h0 => ?_)
  rotate_left
  · rw [rwL, if_pos h0] at h; exact h
  refine cm_step (M := wW 1) (N := 2003330414) hL hl (by decide) (by decide +kernel) (by decide) (fun h1 => ?_) (fun h1 => ?_)
  rotate_left
  · rw [rwL, if_neg h0, if_pos h1] at h; exact h
  refine cm_step (M := wW 2) (N := 25711) hL hl (by decide) (by decide +kernel) (by decide) (fun h2 => ?_) (fun h2 => ?_)
  rotate_left
  · rw [rwL, if_neg h0, if_neg h1, if_pos h2] at h; exact h
  refine cm_step (M := wW 3) (N := 1735352684) hL hl (by decide) (by decide +kernel) (by decide) (fun h3 => ?_) (fun h3 => ?_)
  rotate_left
  · rw [rwL, if_neg h0, if_neg h1, if_neg h2, if_pos h3] at h; exact h
  refine cm_step (M := wW 4) (N := 444351214451) hL hl (by decide) (by decide +kernel) (by decide) (fun h4 => ?_) (fun h4 => ?_)
  rotate_left
  · rw [rwL, if_neg h0, if_neg h1, if_neg h2, if_neg h3, if_pos h4] at h; exact h
  refine cm_step (M := wW 5) (N := 1918987883) hL hl (by decide) (by decide +kernel) (by decide) (fun h5 => ?_) (fun h5 => ?_)
  rotate_left
  · rw [rwL, if_neg h0, if_neg h1, if_neg h2, if_neg h3, if_neg h4, if_pos h5] at h; exact h
  refine cm_step (M := wW 6) (N := 28530) hL hl (by decide) (by decide +kernel) (by decide) (fun h6 => ?_) (fun h6 => ?_)
  rotate_left
  · rw [rwL, if_neg h0, if_neg h1, if_neg h2, if_neg h3, if_neg h4, if_neg h5, if_pos h6] at h; exact h
  refine cm_step (M := wW 7) (N := 6385252) hL hl (by decide) (by decide +kernel) (by decide) (fun h7 => ?_) (fun h7 => ?_)
  rotate_left
  · rw [rwL, if_neg h0, if_neg h1, if_neg h2, if_neg h3, if_neg h4, if_neg h5, if_neg h6, if_pos h7] at h; exact h
  refine cm_step (M := wW 8) (N := 7237492) hL hl (by decide) (by decide +kernel) (by decide) (fun h8 => ?_) (fun h8 => ?_)
  rotate_left
  · rw [rwL, if_neg h0, if_neg h1, if_neg h2, if_neg h3, if_neg h4, if_neg h5, if_neg h6, if_neg h7, if_pos h8] at h; exact h
  refine cm_step (M := [97]) (N := 97) hL hl (by decide) (by decide +kernel) (by decide) (fun h9 => ?_) (fun h9 => ?_)
  rotate_left
  · rw [rwL, if_neg h0, if_neg h1, if_neg h2, if_neg h3, if_neg h4, if_neg h5, if_neg h6, if_neg h7, if_neg h8, if_pos h9] at h; exact h
  refine cm_step (M := [98]) (N := 98) hL hl (by decide) (by decide +kernel) (by decide) (fun h10 => ?_) (fun h10 => ?_)
  rotate_left
  · rw [rwL, if_neg h0, if_neg h1, if_neg h2, if_neg h3, if_neg h4, if_neg h5, if_neg h6, if_neg h7, if_neg h8, if_neg h9, if_pos h10] at h; exact h
  refine cm_step (M := [99]) (N := 99) hL hl (by decide) (by decide +kernel) (by decide) (fun h11 => ?_) (fun h11 => ?_)
  · rw [rwL, if_neg h0, if_neg h1, if_neg h2, if_neg h3, if_neg h4, if_neg h5, if_neg h6, if_neg h7, if_neg h8, if_neg h9, if_neg h10, if_neg h11] at h; exact h
  · rw [rwL, if_neg h0, if_neg h1, if_neg h2, if_neg h3, if_neg h4, if_neg h5, if_neg h6, if_neg h7, if_neg h8, if_neg h9, if_neg h10, if_pos h11] at h; exact h
/-- the reference's number for a kind and value -/
def tc (k v : Nat) : Nat := if k < 256 then 3 else if k = 256 then 0 else if k = 257 then 1 else if k = 258 then 2 else if k = 259 then 19 + v else k - 250
