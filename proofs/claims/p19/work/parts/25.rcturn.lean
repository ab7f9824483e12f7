/-! the reference's conds: one turn of its loop after the other -/
theorem pl_ge {P : Nat → Bool} (hP : P 300 = false) {f : Nat → Int32} {n : Nat} (hn : n ≤ 1200) : ∀ j, pl P (bt f n) n j < n → j ≤ pl P (bt f n) n j
  | 0, _ => Nat.zero_le _
  | j + 1, h => by
    rcases Nat.lt_or_ge (pl P (bt f n) n j) n with c | c
    · have := pl_ge hP hn j c
      have := pl_lt hP hn c
      omega
    · have hle := pl_le hP (f := f) hn j
      have := pl_n (P := P) (g := bt f n) (m := j) (n := n) (by omega) 1
      omega
theorem rk_end {f : Nat → Int32} {n : Nat} (hn : n ≤ 1200) : ∀ j, n ≤ j → rK f n j = 256 := fun j hj => if_neg (fun q => by have := pl_ge (P := sma) rfl hn j q; omega)
def BC (f : Nat → Int32) (n c0 s w j u op : Nat) (π o : List Nat) : Prop := π.length + (1 - w) ≤ op + 2 * u ∧ c0 + o.length + π.length + (1 - w) ≤ 2 * u + rP f n j / 3 + cnt 1002 π + s ∧ u ≤ 100 ∧ op ≤ 8 ∧ (∀ x ∈ π, 1001 ≤ x ∧ x ≤ 1004) ∧ cnt 1001 π + cnt 1002 π ≤ op
def Wk (c0 : Nat) (π o : List Nat) : Prop := π.length ≤ 250 ∧ c0 + o.length + π.length ≤ 992 ∧ ∀ x ∈ π, x < 2000
def YL (f : Nat → Int32) (n b c0 : Nat) (A0 N0 C0 : Nat → Int32) (X1 : Int32) (K9 : EP) (w j u op : Nat) (π o : List Nat) : Prop := ∃ N, ∀ a t p nu sg fp pile, RT f n j a t p nu sg → PO pile π → wp_Md_readCond_L33 X1 (nI n) (nI b) f K9 (N + 1) (nI w) 1 a t p nu sg 0 fp (nI u) (nI op) (nI π.length) (wA AK o A0 (1000 * b + c0)) (wA AV o N0 (1000 * b + c0)) (upd C0 b (nI (c0 + (o).length))) pile
def WY (f : Nat → Int32) (n b c0 s : Nat) (A0 N0 C0 : Nat → Int32) (K9 : EP) : Prop := (∀ j u op π o a t p nu sg fp pile, RT f n j a t p nu sg → PO pile π → Wk c0 π o → K9 a t p nu sg 1 fp (nI u) op (nI π.length) (wA AK o A0 (1000 * b + c0)) (wA AV o N0 (1000 * b + c0)) (upd C0 b (nI (c0 + (o).length))) pile) ∧ (∀ j u op π o a t p nu sg fp pile, RT f n j a t p nu sg → PO pile π → BC f n c0 s 0 j u op π o → 1002 ∈ π → K9 a t p nu sg 0 fp (nI u) (nI op) (nI π.length) (wA AK o A0 (1000 * b + c0)) (wA AV o N0 (1000 * b + c0)) (upd C0 b (nI (c0 + (o).length))) pile)
section RC2
variable {f : Nat → Int32} {n b c0 s : Nat} {A0 N0 C0 : Nat → Int32} {X1 : Int32} {K9 : EP}
theorem BC_wk (hn : n ≤ 1200) (hs : s ≤ 50) {w j u op : Nat} {π o : List Nat} (h : BC f n c0 s w j u op π o) : π.length ≤ 208 ∧ c0 + o.length + π.length ≤ 660 ∧ (∀ x ∈ π, x < 2000) := by
  obtain ⟨h1, h2, h3, h4, h5, h6⟩ := h
  have := rp_le f hn j
  exact ⟨by omega, by omega, fun x hx => by have := h5 x hx; omega⟩
theorem y_bad {N : Nat} {x1 x2 sz bk a t p nu sg fp u op q : Int32} {ac nm ct pile : Nat → Int32} (h : K9 a t p nu sg 1 fp u op q ac nm ct pile) : wp_Md_readCond_L33 x1 sz bk f K9 (N + 1) x2 1 a t p nu sg 1 fp u op q ac nm ct pile := br_f (by decide) (bn_f (by decide) h)
theorem y_end {N : Nat} {x1 x2 sz bk a t p nu sg bad fp u op q : Int32} {ac nm ct pile : Nat → Int32} (h : K9 a t p nu sg bad fp u op q ac nm ct pile) : wp_Md_readCond_L33 x1 sz bk f K9 (N + 1) x2 0 a t p nu sg bad fp u op q ac nm ct pile := br_t rfl h
theorem y_w0 {N j u op : Nat} {π o : List Nat} {a t p nu sg fp : Int32} {pile : Nat → Int32} (hr : RT f n j a t p nu sg) (hP : PO pile π) (hl : π.length ≤ 300) (hx : ∀ x ∈ π, x < 2000) (h : ¬ (rK f n j = 93 ∧ 1002 ∈ π)) (h1 : wp_Md_readCond_J232 X1 (nI 0) 1 (nI n) a t p nu sg 0 fp (nI b) (nI u) (nI op) (nI π.length) f (wA AK o A0 (1000 * b + c0)) (wA AV o N0 (1000 * b + c0)) (upd C0 b (nI (c0 + (o).length))) pile (wp_Md_readCond_L33 X1 (nI n) (nI b) f K9 N) K9) : wp_Md_readCond_L33 X1 (nI n) (nI b) f K9 (N + 1) (nI 0) 1 a t p nu sg 0 fp (nI u) (nI op) (nI π.length) (wA AK o A0 (1000 * b + c0)) (wA AV o N0 (1000 * b + c0)) (upd C0 b (nI (c0 + (o).length))) pile :=
  br_f (by decide) (bn_t rfl (br_t rfl (br_t rfl (rt_isSign hr 93 rfl (by decide) (fun k => br_f (by decide) (q_isOpenThere hP hl hx (fun q => absurd ⟨k, q⟩ h) (fun _ => br_t rfl h1))) (fun k => br_t rfl h1)))))
theorem c_end (hn : n ≤ 1200) (hs : s ≤ 50) {j u op : Nat} {π o : List Nat} (hB : BC f n c0 s 0 j u op π o) (hk : rK f n j ≠ 267 ∧ rK f n j ≠ 266) (h93 : ¬ (rK f n j = 93 ∧ 1002 ∈ π)) (h : ∀ a t p nu sg fp pile, RT f n j a t p nu sg → PO pile π → K9 a t p nu sg 0 fp (nI u) (nI op) (nI π.length) (wA AK o A0 (1000 * b + c0)) (wA AV o N0 (1000 * b + c0)) (upd C0 b (nI (c0 + (o).length))) pile) : YL f n b c0 A0 N0 C0 X1 K9 0 j u op π o := by
  have hw := BC_wk hn hs hB
  refine ⟨1, fun a t p nu sg fp pile hr hP => y_w0 hr hP (by omega) hw.2.2 h93 ?_⟩
  exact rt_isWord hr 7 rfl (by decide) (fun q => absurd q hk.1) (fun _ => bn_t rfl (rt_isWord hr 6 rfl (by decide) (fun q => absurd q hk.2) (fun _ => br_t rfl (y_end (h a t p nu sg fp pile hr hP)))))
theorem c_op (hn : n ≤ 1200) (hb : b < 3) (hs : s ≤ 50) {j u op : Nat} {π o : List Nat} (hB : BC f n c0 s 0 j u op π o) (h7 : rK f n j = 267 → YL f n b c0 A0 N0 C0 X1 K9 1 (j + 1) u op (1003 :: (rc false π o).1) (rc false π o).2) (h6 : rK f n j = 266 → YL f n b c0 A0 N0 C0 X1 K9 1 (j + 1) u op (1004 :: (rc true π o).1) (rc true π o).2) (hk : rK f n j = 267 ∨ rK f n j = 266) : YL f n b c0 A0 N0 C0 X1 K9 0 j u op π o := by
  have hw := BC_wk hn hs hB
  rcases hk with hk | hk
  · obtain ⟨N, h⟩ := h7 hk
    have hlen := rc_len (s := false) π o
    refine ⟨N + 1, fun a t p nu sg fp pile hr hP => y_w0 hr hP (by omega) hw.2.2 (fun q => by omega) ?_⟩
    refine rt_isWord hr 7 rfl (by decide) (fun _ => bn_f (by decide) (rt_isWord hr 6 rfl (by decide) (fun q => absurd q (by omega)) (fun _ => ?_))) (fun q => absurd hk q)
    refine q_ands false rfl hb hP (by omega) hw.2.2 (by omega) (rt_isWord hr 7 rfl (by decide) (fun _ => br_f (by decide) ?_) (fun q => absurd hk q))
    refine q_push (v := 1003) rfl (by omega) (rt_next hn hr (fun a' t' p' nu' sg' hr' => ?_))
    exact h a' t' p' nu' sg' fp _ hr' (PO_push (rc_PO _ _ _ _ hP) _)
  · obtain ⟨N, h⟩ := h6 hk
    have hlen := rc_len (s := true) π o
    refine ⟨N + 1, fun a t p nu sg fp pile hr hP => y_w0 hr hP (by omega) hw.2.2 (fun q => by omega) ?_⟩
    refine rt_isWord hr 7 rfl (by decide) (fun q => absurd q (by omega)) (fun _ => bn_t rfl (rt_isWord hr 6 rfl (by decide) (fun _ => br_f (by decide) (rt_isWord hr 6 rfl (by decide) (fun _ => ?_) (fun q => absurd hk q))) (fun q => absurd hk q)))
    refine q_ands true rfl hb hP (by omega) hw.2.2 (by omega) (rt_isWord hr 7 rfl (by decide) (fun q => absurd q (by omega)) (fun _ => br_t rfl ?_))
    refine q_push (v := 1004) rfl (by omega) (rt_next hn hr (fun a' t' p' nu' sg' hr' => ?_))
    exact h a' t' p' nu' sg' fp _ hr' (PO_push (rc_PO _ _ _ _ hP) _)
theorem c_close (hn : n ≤ 1200) (hb : b < 3) (hs : s ≤ 50) {j u op : Nat} {π o π2 o2 : List Nat} (hB : BC f n c0 s 0 j u op π o) (hk : rK f n j = 93) (ho : 0 < op) (hrc : rc true π o = (1002 :: π2, o2)) (hop : cnt 1001 π2 ≤ op - 1) (h : YL f n b c0 A0 N0 C0 X1 K9 0 (j + 1) u (pk (op - 1) π2 o2).1 (pk (op - 1) π2 o2).2.1 (pk (op - 1) π2 o2).2.2) : YL f n b c0 A0 N0 C0 X1 K9 0 j u op π o := by
  have hw := BC_wk hn hs hB
  obtain ⟨N, h⟩ := h
  have hlen := rc_len (s := true) π o
  rw [hrc] at hlen
  simp only [List.length_cons] at hlen
  have hmem : 1002 ∈ π := hlen.2.2.1 1002 (List.mem_cons_self ..)
  refine ⟨N + 1, fun a t p nu sg fp pile hr hP => ?_⟩
  have hpo := rc_PO true π o pile hP
  rw [hrc] at hpo
  refine br_f (by decide) (bn_t rfl (br_t rfl (br_t rfl (rt_isSign hr 93 rfl (by decide) (fun k => br_f (by decide) (q_isOpenThere hP (by omega) hw.2.2 (fun _ => br_f (by decide) ?_) (fun q => absurd hmem q))) (fun q => absurd hk q)))))
  refine q_ands true rfl hb hP (by omega) hw.2.2 (by omega) ?_
  rw [hrc]
  refine rt_next hn hr (fun a' t' p' nu' sg' hr' => ?_)
  have e1 : nI (1002 :: π2).length - 1 = nI π2.length := nI_pred _
  have e2 : nI op - 1 = nI (op - 1) := pk_sub (b := 1) (by omega)
  show wp_Md_primIsThere (nI b) (nI op - 1) (nI (1002 :: π2).length - 1) _ _ _ pile _
  rw [e1, e2]
  refine q_prim hb hpo.2 (by omega) (fun y hy => hw.2.2 y (hlen.2.2.1 y (List.mem_cons_of_mem _ hy))) (by show c0 + o2.length + π2.length < 1000; omega) hop ?_
  exact h a' t' p' nu' sg' fp pile hr' (pk_PO π2 o2 (op - 1) pile hpo.2)
theorem c_open (hn : n ≤ 1200) (hs : s ≤ 50) {j u op : Nat} {π o : List Nat} (hw : op = 8 → WY f n b c0 s A0 N0 C0 K9) (hB : BC f n c0 s 1 j u op π o) (h1 : rK f n j = 268 → op < 8 → YL f n b c0 A0 N0 C0 X1 K9 1 (j + 1) u (op + 1) (1001 :: π) o) (h2 : rK f n j = 91 → op < 8 → YL f n b c0 A0 N0 C0 X1 K9 1 (j + 1) u (op + 1) (1002 :: π) o) (hk : rK f n j = 268 ∨ rK f n j = 91) : YL f n b c0 A0 N0 C0 X1 K9 1 j u op π o := by
  have hwk := BC_wk hn hs hB
  have hop := hB.2.2.2.1
  have e8 : nI op = 8 ↔ op = 8 := nI_eq (b := 8) (by omega) (by decide)
  by_cases h8 : op = 8
  · refine ⟨1, fun a t p nu sg fp pile hr hP => ?_⟩
    have bad : wp_Md_readCond_L33 X1 (nI n) (nI b) f K9 1 (nI 1) 1 a t p nu sg 1 p (nI u) (nI op) (nI π.length) (wA AK o A0 (1000 * b + c0)) (wA AV o N0 (1000 * b + c0)) (upd C0 b (nI (c0 + (o).length))) pile := y_bad ((hw h8).1 j u (nI op) π o a t p nu sg p pile hr hP ⟨by omega, by omega, hwk.2.2⟩)
    refine br_f (by decide) (bn_t rfl (br_f (by decide) (rt_isWord hr 8 rfl (by decide) (fun _ => bn_f (by decide) (bn_t (e8.mpr h8) (q_misp (br_t rfl bad)))) (fun k => bn_t rfl (rt_isSign hr 91 rfl (by decide) (fun _ => br_f (by decide) (bn_t (e8.mpr h8) (q_misp (br_t rfl bad)))) (fun k2 => absurd hk (by omega)))))))
  · rcases hk with hk | hk
    · obtain ⟨N, h⟩ := h1 hk (by omega)
      refine ⟨N + 1, fun a t p nu sg fp pile hr hP => ?_⟩
      refine br_f (by decide) (bn_t rfl (br_f (by decide) (rt_isWord hr 8 rfl (by decide) (fun _ => bn_f (by decide) (bn_f (fun q => h8 (e8.mp q)) (br_f (by decide) (rt_isSign hr 91 rfl (by decide) (fun q => absurd q (by omega)) (fun _ => br_t rfl ?_))))) (fun k => absurd hk k))))
      refine q_push (v := 1001) rfl (by omega) (rt_next hn hr (fun a' t' p' nu' sg' hr' => ?_))
      rw [nI_1]
      exact h a' t' p' nu' sg' fp _ hr' (PO_push hP 1001)
    · obtain ⟨N, h⟩ := h2 hk (by omega)
      refine ⟨N + 1, fun a t p nu sg fp pile hr hP => ?_⟩
      refine br_f (by decide) (bn_t rfl (br_f (by decide) (rt_isWord hr 8 rfl (by decide) (fun q => absurd q (by omega)) (fun k => bn_t rfl (rt_isSign hr 91 rfl (by decide) (fun _ => br_f (by decide) (bn_f (fun q => h8 (e8.mp q)) (br_f (by decide) (rt_isSign hr 91 rfl (by decide) (fun _ => br_f (by decide) ?_) (fun q => absurd hk q))))) (fun k2 => absurd hk k2))))))
      refine q_push (v := 1002) rfl (by omega) (rt_next hn hr (fun a' t' p' nu' sg' hr' => ?_))
      rw [nI_1]
      exact h a' t' p' nu' sg' fp _ hr' (PO_push hP 1002)
theorem no1000 {π : List Nat} (h : ∀ x ∈ π, 1001 ≤ x ∧ x ≤ 1004) : (π.filter (· = 1000)).length = 0 := by
  rw [List.length_eq_zero_iff, List.filter_eq_nil_iff]
  intro x hx
  have := h x hx
  simp; omega
theorem c_prim (hn : n ≤ 1200) (hb : b < 3) (hs : s ≤ 50) (hs1 : 1 ≤ s) {r : Nat} (hr8 : r ≤ 8) {j u : Nat} {π o : List Nat} (hw : (∀ j1 u1 o1 j2 u2 o2, pE (rK f n) (rV f n) r j u = some (j1, u1, o1) → rel (rK f n j1) = true → pE (rK f n) (rV f n) r (j1 + 1) u1 = some (j2, u2, o2) → False) → WY f n b c0 s A0 N0 C0 K9) (hB : BC f n c0 s 1 j u (8 - r) π o) (hk : rK f n j ≠ 268 ∧ rK f n j ≠ 91) (h : ∀ j1 u1 o1 j2 u2 o2, pE (rK f n) (rV f n) r j u = some (j1, u1, o1) → rel (rK f n j1) = true → pE (rK f n) (rV f n) r (j1 + 1) u1 = some (j2, u2, o2) → u < u2 → c0 + (o ++ o1 ++ o2 ++ [rK f n j1]).length + π.length + 1 ≤ 2 * u2 + (rP f n j / 3 + cnt 1002 π + s) → π.length + 1 ≤ 8 - r + 2 * u2 → u2 ≤ 100 → YL f n b c0 A0 N0 C0 X1 K9 0 j2 u2 (pk (8 - r) π (o ++ o1 ++ o2 ++ [rK f n j1])).1 (pk (8 - r) π (o ++ o1 ++ o2 ++ [rK f n j1])).2.1 (pk (8 - r) π (o ++ o1 ++ o2 ++ [rK f n j1])).2.2) : YL f n b c0 A0 N0 C0 X1 K9 1 j u (8 - r) π o := by
  have hwk := BC_wk hn hs hB
  have hrp := rp_le f hn j
  obtain ⟨b1, b2, b3, b4, b5, b6⟩ := hB
  have hBd : rP f n j / 3 + cnt 1002 π + s ≤ 790 := by have := cnt_le 1002 π; omega
  have hBn : Bnd c0 π.length (rP f n j / 3 + cnt 1002 π + s) 1 u (8 - r) π o := ⟨b1, by omega, Nat.le_refl _, b3, b4, hwk.2.2, by rw [no1000 b5]; exact Nat.zero_le _⟩
  have main : ∀ N, (∀ j1 u1 o1 j2 u2 o2, pE (rK f n) (rV f n) r j u = some (j1, u1, o1) → rel (rK f n j1) = true → pE (rK f n) (rV f n) r (j1 + 1) u1 = some (j2, u2, o2) → u < u2 → c0 + (o ++ o1 ++ o2 ++ [rK f n j1]).length + π.length + 1 ≤ 2 * u2 + (rP f n j / 3 + cnt 1002 π + s) → π.length + 1 ≤ 8 - r + 2 * u2 → u2 ≤ 100 → ∀ a t p nu sg fp pile, RT f n j2 a t p nu sg → PO pile (pk (8 - r) π (o ++ o1 ++ o2 ++ [rK f n j1])).2.1 → wp_Md_readCond_L33 X1 (nI n) (nI b) f K9 (N + 1) (nI 0) 1 a t p nu sg 0 fp (nI u2) (nI (pk (8 - r) π (o ++ o1 ++ o2 ++ [rK f n j1])).1) (nI (pk (8 - r) π (o ++ o1 ++ o2 ++ [rK f n j1])).2.1.length) (wA AK (pk (8 - r) π (o ++ o1 ++ o2 ++ [rK f n j1])).2.2 A0 (1000 * b + c0)) (wA AV (pk (8 - r) π (o ++ o1 ++ o2 ++ [rK f n j1])).2.2 N0 (1000 * b + c0)) (upd C0 b (nI (c0 + ((pk (8 - r) π (o ++ o1 ++ o2 ++ [rK f n j1])).2.2).length))) pile) → YL f n b c0 A0 N0 C0 X1 K9 1 j u (8 - r) π o := by
    intro N hN
    refine ⟨N + 1, fun a t p nu sg fp pile hr hP => ?_⟩
    refine br_f (by decide) (bn_t rfl (br_f (by decide) (rt_isWord hr 8 rfl (by decide) (fun q => absurd q hk.1) (fun _ => bn_t rfl (rt_isSign hr 91 rfl (by decide) (fun q => absurd q hk.2) (fun _ => br_t rfl (br_f (by decide) ?_)))))))
    refine r_exp hn hb hBd hr8 hBn ?_ ?_ hr hP
    · intro e0 j1 u1 op1 π1 o1 a t p nu sg fp pile hr hP hB1
      have hw := hw (fun j1 u1 o1 j2 u2 o2 q => by rw [e0] at q; cases q)
      have c1 := hB1.1
      have c2 := hB1.2.1
      have c4 := hB1.2.2.2.1
      have c5 := hB1.2.2.2.2.1
      have bad : ∀ fp', wp_Md_readCond_L33 X1 (nI n) (nI b) f K9 (N + 1) (nI 1) 1 a t p nu sg 1 fp' (nI u1) (nI op1) (nI π1.length) (wA AK o1 A0 (1000 * b + c0)) (wA AV o1 N0 (1000 * b + c0)) (upd C0 b (nI (c0 + (o1).length))) pile := fun fp' => y_bad (hw.1 j1 u1 (nI op1) π1 o1 a t p nu sg fp' pile hr hP ⟨by omega, by omega, hB1.2.2.2.2.2.1⟩)
      exact bn_c (fun _ => q_misp1 (bn_f (by decide) (bad _))) (fun _ => br_c (fun _ => bn_f (by decide) (bad _)) (fun _ => br_c (fun _ => bn_f (by decide) (bad _)) (fun _ => br_c (fun _ => bn_f (by decide) (bad _)) (fun _ => q_misp1 (bn_f (by decide) (bad _))))))
    · intro j1 u1 o1 e1 hu1 hno hB1 a t p nu sg fp pile hr hP
      have c1 := hB1.1
      have c2 := hB1.2.1
      have c4 := hB1.2.2.2.1
      have c5 := hB1.2.2.2.2.1
      have htok := rt_is3 hr
      have hf := rk_facts f n j1
      have bad : rel (rK f n j1) ≠ true → ∀ fp', wp_Md_readCond_L33 X1 (nI n) (nI b) f K9 (N + 1) (nI 1) 1 a t p nu sg 1 fp' (nI u1) (nI (8 - r)) (nI π.length) (wA AK (o ++ o1) A0 (1000 * b + c0)) (wA AV (o ++ o1) N0 (1000 * b + c0)) (upd C0 b (nI (c0 + ((o ++ o1)).length))) pile := fun hnr fp' => y_bad ((hw (fun j1' u1' o1' j2 u2 o2 q q2 q3 => by rw [e1] at q; cases q; exact hnr q2)).1 j1 u1 (nI (8 - r)) π (o ++ o1) a t p nu sg fp' pile hr hP ⟨by omega, by omega, hwk.2.2⟩)
      have second : rel (rK f n j1) = true → sg = nI (rK f n j1) → (rK f n j1 = 60 ∨ rK f n j1 = 61 ∨ rK f n j1 = 35) → wp_Md_nextToken (nI n) a t p nu sg f (fun a' t' p' nu' sg' => wp_Md_readExp (nI n) a' t' p' nu' sg' 0 fp (nI b) (nI u1) (nI (8 - r)) (nI π.length) f (wA AK (o ++ o1) A0 (1000 * b + c0)) (wA AV (o ++ o1) N0 (1000 * b + c0)) (upd C0 b (nI (c0 + ((o ++ o1)).length))) pile (fun a2 t2 p2 nu2 sg2 bad2 fp2 un2 op2 pl2 ac2 nm2 ct2 pile2 => wp_Md_act sg 0 (nI b) ac2 nm2 ct2 (fun ac3 nm3 ct3 => wp_Md_primIsThere (nI b) op2 pl2 ac3 nm3 ct3 pile2 (fun op4 pl4 ac4 nm4 ct4 => wp_Md_readCond_L33 X1 (nI n) (nI b) f K9 (N + 1) 0 1 a2 t2 p2 nu2 sg2 bad2 fp2 un2 op4 pl4 ac4 nm4 ct4 pile2)))) := by
        intro hrel hsg hz
        have hAK : sg = nI (AK (rK f n j1)) := by rw [hsg]; exact congrArg nI (by rcases hz with q | q | q <;> rw [q] <;> rfl)
        have hAV : (0 : Int32) = nI (AV (rK f n j1)) := by rcases hz with q | q | q <;> rw [q] <;> rfl
        refine rt_next hn hr (fun a' t' p' nu' sg' hr' => ?_)
        have hB2 : Bnd c0 π.length (rP f n j / 3 + cnt 1002 π + s - 1) 1 u1 (8 - r) π (o ++ o1) := ⟨by omega, by omega, Nat.le_refl _, c4, c5, hwk.2.2, by rw [no1000 b5]; exact Nat.zero_le _⟩
        refine r_exp hn hb (by omega) hr8 hB2 ?_ ?_ hr' hP
        · intro e0 j2 u2 op2 π2 o2 a t p nu sg' fp pile hr hP hB3
          have hw := hw (fun j1' u1' o1' j2 u2 o2 q q2 q3 => by rw [e1] at q; cases q; rw [e0] at q3; cases q3)
          have d1 := hB3.1
          have d2 := hB3.2.1
          have d4 := hB3.2.2.2.1
          have d5 := hB3.2.2.2.2.1
          refine q_act (rK f n j1) hAK hAV hb (by omega) ⟨π2.length + 1, q_primW_L hb π2 (o2 ++ [rK f n j1]) _ hP (by omega) hB3.2.2.2.2.2.1 (by rw [List.length_append, List.length_cons, List.length_nil]; omega) (fun op' π' o' p1 p2 p3 p4 => y_bad (hw.1 j2 u2 op' π' o' a t p nu sg' fp pile hr p1 ⟨by omega, ?_, fun x hx => hB3.2.2.2.2.2.1 x (p4 x hx)⟩))⟩
          rw [List.length_append, List.length_cons, List.length_nil] at p2; omega
        · intro j2 u2 o2 e2 hu2 hno2 hB3 a t p nu sg' fp pile hr hP
          have d1 := hB3.1
          have d2 := hB3.2.1
          have d4 := hB3.2.2.2.1
          have d5 := hB3.2.2.2.2.1
          have hl4 : (o ++ o1 ++ o2 ++ [rK f n j1]).length = (o ++ o1 ++ o2).length + 1 := by rw [List.length_append, List.length_cons, List.length_nil]
          refine q_act (rK f n j1) hAK hAV hb (by omega) (q_prim hb hP (by omega) hwk.2.2 (by omega) (by omega) ?_)
          exact hN j1 u1 o1 j2 u2 o2 e1 hrel e2 (by omega) (by omega) (by omega) d4 a t p nu sg' fp pile hr (pk_PO _ _ _ _ hP)
      have rel_c : rel (rK f n j1) = true → rK f n j1 = 60 ∨ rK f n j1 = 61 ∨ rK f n j1 = 35 := fun q => by
        have q2 : rK f n j1 = 60 ∨ rK f n j1 = 35 ∨ rK f n j1 = 61 := by simpa [rel, or_assoc] using q
        omega
      refine bn_c (fun h3 => q_misp (bn_f (by decide) (bad (fun q => h3 (htok.1.mpr (by have := rel_c q; omega))) _))) (fun h3 => ?_)
      have hlt := htok.1.mp h3
      have hsg := htok.2.1 hlt
      have e60 : sg = 60 ↔ rK f n j1 = 60 := by rw [hsg]; exact nI_eq (b := 60) (by omega) (by decide)
      have e61 : sg = 61 ↔ rK f n j1 = 61 := by rw [hsg]; exact nI_eq (b := 61) (by omega) (by decide)
      have e35 : sg = 35 ↔ rK f n j1 = 35 := by rw [hsg]; exact nI_eq (b := 35) (by omega) (by decide)
      refine br_c (fun q => bn_t rfl (second (by rw [e60.mp q]; rfl) hsg (Or.inl (e60.mp q)))) (fun n60 => br_c (fun q => bn_t rfl (second (by rw [e61.mp q]; rfl) hsg (Or.inr (Or.inl (e61.mp q))))) (fun n61 => br_c (fun q => bn_t rfl (second (by rw [e35.mp q]; rfl) hsg (Or.inr (Or.inr (e35.mp q))))) (fun n35 => q_misp (bn_f (by decide) (bad (fun q => (rel_c q).elim (fun z => n60 (e60.mpr z)) (fun z => z.elim (fun z => n61 (e61.mpr z)) (fun z => n35 (e35.mpr z)))) _)))))
  cases e1 : pE (rK f n) (rV f n) r j u with
  | none => exact main 0 (fun j1 u1 o1 j2 u2 o2 q => by rw [e1] at q; cases q)
  | some t1 =>
    obtain ⟨j1, u1, o1⟩ := t1
    by_cases hrel : rel (rK f n j1) = true
    · cases e2 : pE (rK f n) (rV f n) r (j1 + 1) u1 with
      | none => exact main 0 (fun j1' u1' o1' j2 u2 o2 q q2 q3 => by rw [e1] at q; cases q; rw [e2] at q3; cases q3)
      | some t2 =>
        obtain ⟨j2, u2, o2⟩ := t2
        by_cases hc : u < u2 ∧ c0 + (o ++ o1 ++ o2 ++ [rK f n j1]).length + π.length + 1 ≤ 2 * u2 + (rP f n j / 3 + cnt 1002 π + s) ∧ π.length + 1 ≤ 8 - r + 2 * u2 ∧ u2 ≤ 100
        · obtain ⟨N, hN⟩ := h j1 u1 o1 j2 u2 o2 e1 hrel e2 hc.1 hc.2.1 hc.2.2.1 hc.2.2.2
          refine main N (fun j1' u1' o1' j2' u2' o2' q q2 q3 _ _ _ _ => ?_)
          rw [e1] at q; cases q; rw [e2] at q3; cases q3
          exact hN
        · refine main 0 (fun j1' u1' o1' j2' u2' o2' q q2 q3 c1 c2 c3 c4 => ?_)
          rw [e1] at q; cases q; rw [e2] at q3; cases q3
          exact absurd ⟨c1, c2, c3, c4⟩ hc
    · exact main 0 (fun j1' u1' o1' j2 u2 o2 q q2 => by rw [e1] at q; cases q; exact absurd q2 hrel)
end RC2
