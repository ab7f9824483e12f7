/-! the reference's exps: one turn of its loop after the other -/
theorem pn_PO (fl : Nat) : ∀ (π o : List Nat) (op : Nat) (pile : Nat → Int32), PO pile π → PO pile (pn fl op π o).2.1
  | [], o, op, pile, h => trivial
  | x :: π, o, op, pile, h => by
    unfold pn
    split
    · exact pn_PO fl π _ _ pile h.2
    · exact h
theorem rl_PO (fl lv : Nat) : ∀ (π o : List Nat) (pile : Nat → Int32), PO pile π → PO pile (rl fl lv π o).1
  | [], o, pile, h => trivial
  | x :: π, o, pile, h => by
    unfold rl
    split
    · exact rl_PO fl lv π _ pile h.2
    · exact h
abbrev KX := Int32 → Int32 → Int32 → Int32 → Int32 → Int32 → Int32 → Int32 → Int32 → Int32 → Int32 → (Nat → Int32) → (Nat → Int32) → (Nat → Int32) → (Nat → Int32) → Prop
def Bnd (c0 fl Bd w u op : Nat) (π o : List Nat) : Prop := π.length + (1 - w) ≤ op + 2 * u ∧ c0 + o.length + π.length + (1 - w) ≤ 2 * u + Bd ∧ fl ≤ π.length ∧ u ≤ 100 ∧ op ≤ 8 ∧ (∀ x ∈ π, x < 2000) ∧ (π.filter (· = 1000)).length ≤ op
def XL (f : Nat → Int32) (n b c0 : Nat) (A0 N0 C0 : Nat → Int32) (fl : Nat) (Kx : KX) (w lev j u op : Nat) (π o : List Nat) : Prop := ∃ N, ∀ a t p nu sg fp pile, RT f n j a t p nu sg → PO pile π → wp_Md_readExp_L12 (nI fl) (nI n) (nI b) f Kx N (nI lev) (nI w) 1 a t p nu sg 0 fp (nI u) (nI op) (nI π.length) (wA AK o A0 (1000 * b + c0)) (wA AV o N0 (1000 * b + c0)) (upd C0 b (nI (c0 + o.length))) pile
def WX (f : Nat → Int32) (n b c0 : Nat) (A0 N0 C0 : Nat → Int32) (fl Bd : Nat) (Kx : KX) : Prop := ∀ lev j u op π o a t p nu sg fp pile bad, RT f n j a t p nu sg → PO pile π → Bnd c0 fl Bd 1 u op π o → lev ≤ 100 → (bad = 1 ∨ (bad = 0 ∧ 0 < lev)) → Kx (nI lev) a t p nu sg bad fp (nI u) (nI op) (nI π.length) (wA AK o A0 (1000 * b + c0)) (wA AV o N0 (1000 * b + c0)) (upd C0 b (nI (c0 + o.length))) pile
theorem Bnd_1 {c0 fl Bd w u op : Nat} {π o : List Nat} (h : Bnd c0 fl Bd w u op π o) : Bnd c0 fl Bd 1 u op π o := ⟨by have := h.1; omega, by have := h.2.1; omega, h.2.2.1, h.2.2.2.1, h.2.2.2.2.1, h.2.2.2.2.2.1, h.2.2.2.2.2.2⟩
section RX
variable {f : Nat → Int32} {n b c0 fl Bd : Nat} {A0 N0 C0 : Nat → Int32} {Kx : KX}
theorem x_bad {N : Nat} {x1 x2 x3 sz bk a t p nu sg fp u op q : Int32} {ac nm ct pile : Nat → Int32} (h : Kx x2 a t p nu sg 1 fp u op q ac nm ct pile) : wp_Md_readExp_L12 x1 sz bk f Kx (N + 1) x2 x3 1 a t p nu sg 1 fp u op q ac nm ct pile := br_f (by decide) (bn_f (by decide) h)
theorem x_end {N : Nat} {x1 x2 x3 sz bk a t p nu sg bad fp u op q : Int32} {ac nm ct pile : Nat → Int32} (h : Kx x2 a t p nu sg bad fp u op q ac nm ct pile) : wp_Md_readExp_L12 x1 sz bk f Kx (N + 1) x2 x3 0 a t p nu sg bad fp u op q ac nm ct pile := br_t rfl h
theorem q_misp {p fp : Int32} {post : Int32 → Int32 → Prop} (h : post 1 p) : wp_Md_misplaced p 0 fp post := bn_t rfl h
theorem q_misp1 {p fp : Int32} {post : Int32 → Int32 → Prop} (h : post 1 fp) : wp_Md_misplaced p 1 fp post := bn_f (by decide) h
theorem x_start {N lev j u op : Nat} {π o : List Nat} {a t p nu sg fp : Int32} {pile : Nat → Int32} (hr : RT f n j a t p nu sg) (h1 : (rK f n j = 45 ∨ rK f n j = 40) → wp_Md_readExp_J51 (nI fl) (nI lev) (nI 1) 1 1 (nI n) a t p nu sg 0 fp (nI b) (nI u) (nI op) (nI π.length) f (wA AK o A0 (1000 * b + c0)) (wA AV o N0 (1000 * b + c0)) (upd C0 b (nI (c0 + o.length))) pile (wp_Md_readExp_L12 (nI fl) (nI n) (nI b) f Kx N) Kx) (h0 : ¬ (rK f n j = 45 ∨ rK f n j = 40) → wp_Md_readExp_J51 (nI fl) (nI lev) (nI 1) 1 0 (nI n) a t p nu sg 0 fp (nI b) (nI u) (nI op) (nI π.length) f (wA AK o A0 (1000 * b + c0)) (wA AV o N0 (1000 * b + c0)) (upd C0 b (nI (c0 + o.length))) pile (wp_Md_readExp_L12 (nI fl) (nI n) (nI b) f Kx N) Kx) : wp_Md_readExp_L12 (nI fl) (nI n) (nI b) f Kx (N + 1) (nI lev) (nI 1) 1 a t p nu sg 0 fp (nI u) (nI op) (nI π.length) (wA AK o A0 (1000 * b + c0)) (wA AV o N0 (1000 * b + c0)) (upd C0 b (nI (c0 + o.length))) pile := by
  refine br_f (by decide) (bn_t rfl (br_f (by decide) (rt_isSign hr 45 rfl (by decide) (fun k => bn_f (by decide) (h1 (Or.inl k))) (fun k => bn_t rfl (rt_isSign hr 40 rfl (by decide) (fun k2 => br_f (by decide) (h1 (Or.inr k2))) (fun k2 => br_t rfl (h0 (fun q => q.elim k k2))))))))
theorem x_51 {N lev j u op : Nat} {π o : List Nat} {s0 a t p nu sg fp : Int32} {pile : Nat → Int32} (hr : RT f n j a t p nu sg) (hv : rK f n j = 259 → wp_Md_readExp_J105 (nI fl) (nI lev) (nI 1) 1 s0 1 (nI n) a t p nu sg 0 fp (nI b) (nI u) (nI op) (nI π.length) f (wA AK o A0 (1000 * b + c0)) (wA AV o N0 (1000 * b + c0)) (upd C0 b (nI (c0 + o.length))) pile (wp_Md_readExp_L12 (nI fl) (nI n) (nI b) f Kx N) Kx) (h1 : rK f n j ≠ 259 → ¬ s0 = 0 → wp_Md_readExp_J105 (nI fl) (nI lev) (nI 1) 1 s0 0 (nI n) a t p nu sg 0 fp (nI b) (nI u) (nI op) (nI π.length) f (wA AK o A0 (1000 * b + c0)) (wA AV o N0 (1000 * b + c0)) (upd C0 b (nI (c0 + o.length))) pile (wp_Md_readExp_L12 (nI fl) (nI n) (nI b) f Kx N) Kx) (h0 : rK f n j ≠ 259 → s0 = 0 → rK f n j = 258 → wp_Md_readExp_J105 (nI fl) (nI lev) (nI 1) 1 s0 0 (nI n) a t p nu sg 0 fp (nI b) (nI u) (nI op) (nI π.length) f (wA AK o A0 (1000 * b + c0)) (wA AV o N0 (1000 * b + c0)) (upd C0 b (nI (c0 + o.length))) pile (wp_Md_readExp_L12 (nI fl) (nI n) (nI b) f Kx N) Kx) (hb : rK f n j ≠ 259 → s0 = 0 → rK f n j ≠ 258 → wp_Md_readExp_L12 (nI fl) (nI n) (nI b) f Kx N (nI lev) (nI 1) 1 a t p nu sg 1 p (nI u) (nI op) (nI π.length) (wA AK o A0 (1000 * b + c0)) (wA AV o N0 (1000 * b + c0)) (upd C0 b (nI (c0 + o.length))) pile) : wp_Md_readExp_J51 (nI fl) (nI lev) (nI 1) 1 s0 (nI n) a t p nu sg 0 fp (nI b) (nI u) (nI op) (nI π.length) f (wA AK o A0 (1000 * b + c0)) (wA AV o N0 (1000 * b + c0)) (upd C0 b (nI (c0 + o.length))) pile (wp_Md_readExp_L12 (nI fl) (nI n) (nI b) f Kx N) Kx := by
  have h3 := (rk_facts f n j).2.2.1
  have h2 := (rt_is3 hr).2.2.1
  refine rt_isVar hr 0 rfl (by decide) (fun k _ => bn_f (by decide) (bn_c (fun _ => hv k) (fun _ => hv k))) (fun k0 => bn_t rfl ?_)
  refine rt_isVar hr 1 rfl (by decide) (fun k _ => bn_f (by decide) (bn_c (fun _ => hv k) (fun _ => hv k))) (fun k1 => bn_t rfl ?_)
  refine rt_isVar hr 2 rfl (by decide) (fun k _ => br_f (by decide) (bn_c (fun _ => hv k) (fun _ => hv k))) (fun k2 => br_t rfl ?_)
  have hk : rK f n j ≠ 259 := fun q => by have := h3 q; omega
  exact bn_c (fun q => h1 hk q) (fun q => bn_c (fun q2 => q_misp (hb hk q (fun r => q2 (h2.mpr r)))) (fun q2 => h0 hk q (h2.mp q2)))
/-- an open token or a unary that can't stand there -/
theorem t_bad (hn : n ≤ 1200) (hw : WX f n b c0 A0 N0 C0 fl Bd Kx) {lev j u op : Nat} {π o : List Nat} (hB : Bnd c0 fl Bd 1 u op π o) (hl : lev ≤ 100) (h : u = 100 ∨ (op = 8 ∧ (rK f n j = 45 ∨ rK f n j = 40)) ∨ (rK f n j ≠ 45 ∧ rK f n j ≠ 40 ∧ rK f n j ≠ 259 ∧ rK f n j ≠ 258)) : XL f n b c0 A0 N0 C0 fl Kx 1 lev j u op π o := by
  refine ⟨2, fun a t p nu sg fp pile hr hP => ?_⟩
  have hu := hB.2.2.2.1
  have hop := hB.2.2.2.2.1
  have bad : ∀ fp', wp_Md_readExp_L12 (nI fl) (nI n) (nI b) f Kx 1 (nI lev) (nI 1) 1 a t p nu sg 1 fp' (nI u) (nI op) (nI π.length) (wA AK o A0 (1000 * b + c0)) (wA AV o N0 (1000 * b + c0)) (upd C0 b (nI (c0 + o.length))) pile := fun fp' => x_bad (hw lev j u op π o a t p nu sg fp' pile 1 hr hP hB hl (Or.inl rfl))
  have e100 : nI u = 100 ↔ u = 100 := nI_eq (b := 100) (by omega) (by decide)
  have e8 : nI op = 8 ↔ op = 8 := nI_eq (b := 8) (by omega) (by decide)
  have j100 : ∀ (s0 x6 : Int32), u = 100 → wp_Md_readExp_J105 (nI fl) (nI lev) (nI 1) 1 s0 x6 (nI n) a t p nu sg 0 fp (nI b) (nI u) (nI op) (nI π.length) f (wA AK o A0 (1000 * b + c0)) (wA AV o N0 (1000 * b + c0)) (upd C0 b (nI (c0 + o.length))) pile (wp_Md_readExp_L12 (nI fl) (nI n) (nI b) f Kx 1) Kx := fun s0 x6 q => bn_t (e100.mpr q) (q_misp (bad _))
  refine x_start hr (fun k => ?_) (fun k => ?_)
  · have hk9 : rK f n j ≠ 259 := by omega
    refine x_51 hr (fun q => absurd q hk9) (fun _ _ => ?_) (fun _ q => absurd q (by decide)) (fun _ q => absurd q (by decide))
    by_cases hu1 : u = 100
    · exact j100 1 0 hu1
    · have hop8 : op = 8 := by omega
      refine bn_f (fun q => hu1 (e100.mp q)) (br_f (by decide) (bn_t (e8.mpr hop8) (q_misp (br_t rfl (bad _)))))
  · refine x_51 hr (fun q => ?_) (fun _ q => absurd rfl q) (fun _ _ q => ?_) (fun _ _ _ => bad _)
    · exact j100 0 1 (by omega)
    · exact j100 0 0 (by omega)
theorem t_leaf (hn : n ≤ 1200) (hb : b < 3) (hBd : Bd ≤ 790) {lev j u op x : Nat} {π o : List Nat} (hB : Bnd c0 fl Bd 1 u op π o) (hu : u < 100) (hx : (rK f n j = 259 ∧ x = 16 + rV f n j) ∨ (rK f n j = 258 ∧ x = rV f n j)) (h : XL f n b c0 A0 N0 C0 fl Kx 0 lev (j + 1) (u + 1) (pn fl op π (o ++ [x])).1 (pn fl op π (o ++ [x])).2.1 (pn fl op π (o ++ [x])).2.2) : XL f n b c0 A0 N0 C0 fl Kx 1 lev j u op π o := by
  obtain ⟨N, h⟩ := h
  refine ⟨N + 1, fun a t p nu sg fp pile hr hP => ?_⟩
  obtain ⟨b1, b2, b3, b4, b5, b6, b7⟩ := hB
  have hpo : ∀ (π2 : List Nat), PO pile π → True := fun _ _ => trivial
  have e100 : ¬ nI u = 100 := fun q => by have := (nI_eq (a := u) (b := 100) (by omega) (by decide)).mp q; omega
  have hf := rk_facts f n j
  have htok := rt_is3 hr
  have fin : ∀ (x1 x2 : Int32), x1 = nI (AK x) → x2 = nI (AV x) → wp_Md_act x1 x2 (nI b) (wA AK o A0 (1000 * b + c0)) (wA AV o N0 (1000 * b + c0)) (upd C0 b (nI (c0 + o.length))) (fun ac1 nm1 ct1 => wp_Md_nextToken (nI n) a t p nu sg f (fun a' t' p' nu' sg' => wp_Md_negatives (nI fl) (nI b) (nI op) (nI π.length) ac1 nm1 ct1 pile (fun op' pl' ac' nm' ct' => wp_Md_readExp_L12 (nI fl) (nI n) (nI b) f Kx N (nI lev) 0 1 a' t' p' nu' sg' 0 fp (nI (u + 1)) op' pl' ac' nm' ct' pile))) := by
    intro x1 x2 h1 h2
    refine q_act x h1 h2 hb (by omega) (rt_next hn hr (fun a' t' p' nu' sg' hr' => ?_))
    refine q_negatives hb hP (by omega) b6 (by rw [List.length_append, List.length_cons, List.length_nil]; omega) (by omega) b7 ?_
    exact h a' t' p' nu' sg' fp pile hr' (pn_PO fl π (o ++ [x]) op pile hP)
  refine x_start hr (fun k => absurd k (by omega)) (fun k => ?_)
  refine x_51 hr (fun q => ?_) (fun _ q => absurd rfl q) (fun q9 _ q => ?_) (fun q9 _ q => absurd hx (by omega))
  · have hx16 : x = 16 + rV f n j := by omega
    have hv := hf.2.2.1 q
    refine bn_f e100 (br_t rfl (br_f (by decide) (br_f (by decide) ?_)))
    rw [nI_1]
    refine fin _ _ ?_ ?_
    · rw [hx16]; exact congrArg nI (by unfold AK; rw [if_neg (by omega), if_pos (by omega)])
    · rw [htok.2.2.2.2.2, q]
      have e1 : tc 259 (rV f n j) = 19 + rV f n j := rfl
      rw [e1, show (10 : Int32) = nI 10 from rfl, show (9 : Int32) = nI 9 from rfl, pk_sub (by omega), pk_sub (by omega)]
      exact congrArg nI (by rw [hx16]; unfold AV; rw [if_neg (by omega), if_pos (by omega)]; omega)
  · have hx0 : x = rV f n j := by omega
    have hv := hf.2.1 q
    refine bn_f e100 (br_t rfl (br_t rfl (br_t rfl ?_)))
    rw [nI_1]
    refine fin _ _ ?_ ?_
    · exact congrArg nI (by unfold AK; rw [if_pos (by omega)])
    · rw [htok.2.2.2.1 q]
      exact congrArg nI (by unfold AV; rw [if_pos (by omega)]; exact hx0.symm)
theorem t_open (hn : n ≤ 1200) {lev j u op : Nat} {π o : List Nat} (hB : Bnd c0 fl Bd 1 u op π o) (hu : u < 100) (ho : op < 8) (h1 : rK f n j = 45 → XL f n b c0 A0 N0 C0 fl Kx 1 lev (j + 1) (u + 1) (op + 1) (1000 :: π) o) (h2 : rK f n j = 40 → XL f n b c0 A0 N0 C0 fl Kx 1 (lev + 1) (j + 1) (u + 1) (op + 1) (40 :: π) o) (hk : rK f n j = 45 ∨ rK f n j = 40) : XL f n b c0 A0 N0 C0 fl Kx 1 lev j u op π o := by
  obtain ⟨b1, b2, b3, b4, b5, b6, b7⟩ := hB
  have e100 : ¬ nI u = 100 := fun q => by have := (nI_eq (a := u) (b := 100) (by omega) (by decide)).mp q; omega
  have e8 : ¬ nI op = 8 := fun q => by have := (nI_eq (a := op) (b := 8) (by omega) (by decide)).mp q; omega
  rcases hk with hk | hk
  · obtain ⟨N, h⟩ := h1 hk
    refine ⟨N + 1, fun a t p nu sg fp pile hr hP => ?_⟩
    refine x_start hr (fun _ => ?_) (fun k => absurd (Or.inl hk) k)
    refine x_51 hr (fun q => by omega) (fun _ _ => ?_) (fun _ q => absurd q (by decide)) (fun _ q => absurd q (by decide))
    refine bn_f e100 (br_f (by decide) (bn_f e8 (br_f (by decide) (rt_isSign hr 40 rfl (by decide) (fun k => by omega) (fun k => br_t rfl ?_)))))
    refine nm_r (e' := nI lev) (Int32.add_zero _) (rt_isSign hr 40 rfl (by decide) (fun k => by omega) (fun k => br_t rfl ?_))
    refine q_push (v := 1000) rfl (by omega) (rt_next hn hr (fun a' t' p' nu' sg' hr' => ?_))
    rw [nI_1, nI_1]
    exact h a' t' p' nu' sg' fp _ hr' (PO_push hP 1000)
  · obtain ⟨N, h⟩ := h2 hk
    refine ⟨N + 1, fun a t p nu sg fp pile hr hP => ?_⟩
    refine x_start hr (fun _ => ?_) (fun k => absurd (Or.inr hk) k)
    refine x_51 hr (fun q => by omega) (fun _ _ => ?_) (fun _ q => absurd q (by decide)) (fun _ q => absurd q (by decide))
    refine bn_f e100 (br_f (by decide) (bn_f e8 (br_f (by decide) (rt_isSign hr 40 rfl (by decide) (fun k => br_f (by decide) ?_) (fun k => absurd hk k)))))
    refine nm_r (e' := nI (lev + 1)) (nI_1 lev) (rt_isSign hr 40 rfl (by decide) (fun k => br_f (by decide) ?_) (fun k => absurd hk k))
    refine q_push (v := 40) rfl (by omega) (rt_next hn hr (fun a' t' p' nu' sg' hr' => ?_))
    rw [nI_1, nI_1]
    exact h a' t' p' nu' sg' fp _ hr' (PO_push hP 40)
theorem x_w0 {N lev j u op : Nat} {π o : List Nat} {a t p nu sg fp : Int32} {pile : Nat → Int32} (hl : lev ≤ 100) (hr : RT f n j a t p nu sg) (h : ¬ (rK f n j = 41 ∧ 0 < lev)) (h1 : wp_Md_readExp_J301 (nI fl) (nI lev) (nI 0) 1 (nI n) a t p nu sg 0 fp (nI b) (nI u) (nI op) (nI π.length) f (wA AK o A0 (1000 * b + c0)) (wA AV o N0 (1000 * b + c0)) (upd C0 b (nI (c0 + o.length))) pile (wp_Md_readExp_L12 (nI fl) (nI n) (nI b) f Kx N) Kx) : wp_Md_readExp_L12 (nI fl) (nI n) (nI b) f Kx (N + 1) (nI lev) (nI 0) 1 a t p nu sg 0 fp (nI u) (nI op) (nI π.length) (wA AK o A0 (1000 * b + c0)) (wA AV o N0 (1000 * b + c0)) (upd C0 b (nI (c0 + o.length))) pile := by
  refine br_f (by decide) (bn_t rfl (br_t rfl (rt_isSign hr 41 rfl (by decide) (fun k => br_f (by decide) (br_t ?_ h1)) (fun k => br_t rfl h1))))
  have : lev = 0 := by omega
  subst this; decide
theorem t_op (hn : n ≤ 1200) (hb : b < 3) (hBd : Bd ≤ 790) {lev j u op : Nat} {π o : List Nat} (hB : Bnd c0 fl Bd 0 u op π o) (hl : lev ≤ 100) (hk : rK f n j = 42 ∨ rK f n j = 43 ∨ rK f n j = 45) (h : XL f n b c0 A0 N0 C0 fl Kx 1 lev (j + 1) u op (rK f n j :: (rl fl (str (rK f n j)) π o).1) (rl fl (str (rK f n j)) π o).2) : XL f n b c0 A0 N0 C0 fl Kx 0 lev j u op π o := by
  obtain ⟨N, h⟩ := h
  obtain ⟨b1, b2, b3, b4, b5, b6, b7⟩ := hB
  refine ⟨N + 1, fun a t p nu sg fp pile hr hP => x_w0 hl hr (by omega) ?_⟩
  have htok := rt_is3 hr
  have hk6 : rK f n j < 256 := by omega
  have hs1 : 1 ≤ str (rK f n j) ∧ str (rK f n j) ≤ 2 := by rcases hk with q | q | q <;> rw [q] <;> decide
  refine bn_t (htok.1.mpr hk6) ?_
  obtain rfl := htok.2.1 hk6
  refine q_str (by omega) (br_f (nI_nle hs1.1 (by omega)) (q_str (by omega) ?_))
  have hlen := rl_len (fl := fl) (lv := str (rK f n j)) π o
  refine q_reduceLevel hb hs1.1 hs1.2 hP (by omega) b6 (by omega) (by omega) ?_
  refine q_push (v := rK f n j) rfl (by omega) ?_
  refine rt_next hn hr (fun a' t' p' nu' sg' hr' => ?_)
  exact h a' t' p' nu' sg' fp _ hr' (PO_push (rl_PO fl _ π o pile hP) _)
theorem t_end {lev j u op : Nat} {π o : List Nat} (hl : lev ≤ 100) (hk : rK f n j ≠ 42 ∧ rK f n j ≠ 43 ∧ rK f n j ≠ 45) (h41 : ¬ (rK f n j = 41 ∧ 0 < lev)) (h : ∀ a t p nu sg fp pile, RT f n j a t p nu sg → PO pile π → Kx (nI lev) a t p nu sg 0 fp (nI u) (nI op) (nI π.length) (wA AK o A0 (1000 * b + c0)) (wA AV o N0 (1000 * b + c0)) (upd C0 b (nI (c0 + o.length))) pile) : XL f n b c0 A0 N0 C0 fl Kx 0 lev j u op π o := by
  refine ⟨2, fun a t p nu sg fp pile hr hP => x_w0 hl hr h41 ?_⟩
  have htok := rt_is3 hr
  have hf := rk_facts f n j
  have fin := x_end (N := 0) (x1 := nI fl) (x3 := nI 0) (sz := nI n) (bk := nI b) (f := f) (h a t p nu sg fp pile hr hP)
  refine bn_c (fun _ => fin) (fun q => ?_)
  have hk6 := htok.1.mp q
  rw [htok.2.1 hk6]
  refine q_str (by omega) (br_t ?_ ?_)
  · have : str (rK f n j) = 0 := by unfold str; rw [if_neg hk.1, if_neg (by omega)]
    rw [this]; decide
  · rw [← htok.2.1 hk6]; exact fin
theorem t_close (hn : n ≤ 1200) (hb : b < 3) (hBd : Bd ≤ 790) {lev j u op : Nat} {π o π2 o2 : List Nat} (hB : Bnd c0 fl Bd 0 u op π o) (hl : lev ≤ 100) (hk : rK f n j = 41) (h0 : 0 < lev) (ho : 0 < op) (hrl : rl fl 1 π o = (40 :: π2, o2)) (hf7 : (π2.filter (· = 1000)).length ≤ op - 1) (h : XL f n b c0 A0 N0 C0 fl Kx 0 (lev - 1) (j + 1) u (pn fl (op - 1) π2 o2).1 (pn fl (op - 1) π2 o2).2.1 (pn fl (op - 1) π2 o2).2.2) : XL f n b c0 A0 N0 C0 fl Kx 0 lev j u op π o := by
  obtain ⟨N, h⟩ := h
  obtain ⟨b1, b2, b3, b4, b5, b6, b7⟩ := hB
  refine ⟨N + 1, fun a t p nu sg fp pile hr hP => ?_⟩
  refine br_f (by decide) (bn_t rfl (br_t rfl (rt_isSign hr 41 rfl (by decide) (fun k => br_f (by decide) (br_f (nI_nle h0 (by omega)) ?_)) (fun k => absurd hk k))))
  have hlen := rl_len (fl := fl) (lv := 1) π o
  have hpo := rl_PO fl 1 π o pile hP
  refine q_reduceTo hb hP (by omega) b6 (by omega) (by omega) ?_
  rw [hrl] at hlen hpo ⊢
  simp only [List.length_cons] at hlen
  refine rt_next hn hr (fun a' t' p' nu' sg' hr' => ?_)
  have e1 : nI (40 :: π2).length - 1 = nI π2.length := nI_pred _
  have e2 : nI op - 1 = nI (op - 1) := pk_sub (b := 1) (by omega)
  have e3 : nI lev + (-1) = nI (lev - 1) := by
    obtain ⟨l, rfl⟩ : ∃ l, lev = l + 1 := ⟨lev - 1, by omega⟩
    exact pk_m1 l
  show wp_Md_negatives (nI fl) (nI b) (nI op - 1) (nI (40 :: π2).length - 1) _ _ _ pile _
  rw [e1, e2, e3]
  refine q_negatives hb hpo.2 (by omega) (fun y hy => b6 y (hlen.2.2.2.1 y (List.mem_cons_of_mem _ hy))) (by show c0 + o2.length + π2.length < 1000; omega) (by omega) hf7 ?_
  exact h a' t' p' nu' sg' fp pile hr' (pn_PO fl π2 o2 (op - 1) pile hpo.2)
end RX
