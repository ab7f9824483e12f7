/-! the reference's conds: pile and acts -/
def cop (x : Nat) : Nat := if x = 1003 then 267 else 266
/-- the ands and ors that wait -/
def rc (ors : Bool) : List Nat → List Nat → List Nat × List Nat
  | [], o => ([], o)
  | x :: π, o => if x = 1003 ∨ (ors = true ∧ x = 1004) then rc ors π (o ++ [cop x]) else (x :: π, o)
/-- the nots that wait -/
def pk : Nat → List Nat → List Nat → Nat × List Nat × List Nat
  | op, [], o => (op, [], o)
  | op, x :: π, o => if x = 1001 then pk (op - 1) π (o ++ [268]) else (op, x :: π, o)
def cnt (v : Nat) (π : List Nat) : Nat := (π.filter (· = v)).length
theorem cnt_c {v x : Nat} {π : List Nat} : cnt v (x :: π) = (if x = v then 1 else 0) + cnt v π := by
  unfold cnt
  by_cases h : x = v
  · rw [if_pos h, List.filter_cons_of_pos (by simp [h]), List.length_cons, Nat.add_comm]
  · rw [if_neg h, List.filter_cons_of_neg (by simp [h]), Nat.zero_add]
theorem cnt_le (v : Nat) (π : List Nat) : cnt v π ≤ π.length := List.length_filter_le _ _
theorem rc_len {s : Bool} : ∀ (π o : List Nat), (rc s π o).1.length + (rc s π o).2.length = π.length + o.length ∧ (rc s π o).1.length ≤ π.length ∧ (∀ y ∈ (rc s π o).1, y ∈ π) ∧ cnt 1002 (rc s π o).1 = cnt 1002 π ∧ cnt 1001 (rc s π o).1 = cnt 1001 π
  | [], o => ⟨by simp [rc], by simp [rc], by simp [rc], by simp [rc], by simp [rc]⟩
  | x :: π, o => by
    unfold rc
    by_cases hc : x = 1003 ∨ (s = true ∧ x = 1004)
    · rw [if_pos hc]
      have ih := rc_len (s := s) π (o ++ [cop x])
      rw [List.length_append, List.length_cons, List.length_nil] at ih
      refine ⟨by rw [List.length_cons]; omega, by rw [List.length_cons]; omega, fun y hy => List.mem_cons_of_mem _ (ih.2.2.1 y hy), ?_, ?_⟩
      · rw [ih.2.2.2.1, cnt_c, if_neg (by omega), Nat.zero_add]
      · rw [ih.2.2.2.2, cnt_c, if_neg (by omega), Nat.zero_add]
    · rw [if_neg hc]
      exact ⟨rfl, Nat.le_refl _, fun _ hy => hy, rfl, rfl⟩
theorem rc_rc : ∀ (π o : List Nat), rc true (rc false π o).1 (rc false π o).2 = rc true π o
  | [], o => rfl
  | x :: π, o => by
    by_cases hc : x = 1003
    · have e2 : rc false (x :: π) o = rc false π (o ++ [cop x]) := if_pos (Or.inl hc)
      have e1 : rc true (x :: π) o = rc true π (o ++ [cop x]) := if_pos (Or.inl hc)
      rw [e2, e1]; exact rc_rc π (o ++ [cop x])
    · have e2 : rc false (x :: π) o = (x :: π, o) := if_neg (fun q => q.elim hc (fun r => by cases r.1))
      rw [e2]
theorem pk_len : ∀ (π o : List Nat) (op : Nat), cnt 1001 π ≤ op → (pk op π o).2.1.length + (pk op π o).2.2.length = π.length + o.length ∧ (pk op π o).1 + π.length = op + (pk op π o).2.1.length ∧ (pk op π o).2.1.length ≤ π.length ∧ (∀ y ∈ (pk op π o).2.1, y ∈ π) ∧ cnt 1002 (pk op π o).2.1 = cnt 1002 π ∧ cnt 1001 (pk op π o).2.1 + op = cnt 1001 π + (pk op π o).1
  | [], o, op, h => ⟨by simp [pk], by simp [pk], by simp [pk], by simp [pk], by simp [pk], by simp [pk]⟩
  | x :: π, o, op, h => by
    unfold pk
    by_cases hc : x = 1001
    · rw [if_pos hc]
      rw [cnt_c, if_pos hc] at h
      have ih := pk_len π (o ++ [268]) (op - 1) (by omega)
      rw [List.length_append, List.length_cons, List.length_nil] at ih
      refine ⟨by rw [List.length_cons]; omega, by rw [List.length_cons]; omega, by rw [List.length_cons]; omega, fun y hy => List.mem_cons_of_mem _ (ih.2.2.2.1 y hy), ?_, ?_⟩
      · rw [ih.2.2.2.2.1, cnt_c, if_neg (by omega), Nat.zero_add]
      · rw [cnt_c, if_pos hc]; omega
    · rw [if_neg hc]
      exact ⟨rfl, rfl, Nat.le_refl _, fun _ hy => hy, rfl, rfl⟩
theorem rc_PO (s : Bool) : ∀ (π o : List Nat) (pile : Nat → Int32), PO pile π → PO pile (rc s π o).1
  | [], o, pile, h => trivial
  | x :: π, o, pile, h => by
    unfold rc
    split
    · exact rc_PO s π _ pile h.2
    · exact h
theorem pk_PO : ∀ (π o : List Nat) (op : Nat) (pile : Nat → Int32), PO pile π → PO pile (pk op π o).2.1
  | [], o, op, pile, h => trivial
  | x :: π, o, op, pile, h => by
    unfold pk
    split
    · exact pk_PO π _ _ pile h.2
    · exact h
section RC
variable {b c0 : Nat} {A0 N0 C0 : Nat → Int32}
theorem q_prim_L {pile : Nat → Int32} (hb : b < 3) {K : Int32 → Int32 → (Nat → Int32) → (Nat → Int32) → (Nat → Int32) → Prop} : ∀ (π o : List Nat) (op : Nat), PO pile π → π.length ≤ 300 → (∀ x ∈ π, x < 2000) → c0 + o.length + π.length < 1000 → cnt 1001 π ≤ op → K (nI (pk op π o).1) (nI (pk op π o).2.1.length) (wA AK (pk op π o).2.2 A0 (1000 * b + c0)) (wA AV (pk op π o).2.2 N0 (1000 * b + c0)) (upd C0 b (nI (c0 + ((pk op π o).2.2).length))) → wp_Md_primIsThere_L0 (nI b) pile K (π.length + 1) (nI op) (nI π.length) (wA AK o A0 (1000 * b + c0)) (wA AV o N0 (1000 * b + c0)) (upd C0 b (nI (c0 + o.length)))
  | [], o, op, hP, hl, hx, hc, hop, h => br_t (by decide) h
  | x :: π, o, op, hP, hl, hx, hc, hop, h => by
    have hx1 := hx x (List.mem_cons_self ..)
    rw [List.length_cons] at hl hc
    rw [List.length_cons]
    unfold pk at h
    refine br_f (nI_nle (by omega) (by omega)) ?_
    rw [nI_pred]
    refine ⟨vp_in_nI (by omega) (by decide), ?_⟩
    rw [nI_clamp (by omega), hP.1]
    have e : nI x = 1001 ↔ x = 1001 := nI_eq (b := 1001) (by omega) (by decide)
    refine bn_c (fun q => ?_) (fun q => ?_)
    · rw [if_neg (fun r => q (e.mpr r))] at h; exact h
    · have hxx := e.mp q
      rw [if_pos hxx] at h
      rw [cnt_c, if_pos hxx] at hop
      refine q_act 268 rfl rfl hb (by omega) ?_
      rw [show nI op - 1 = nI (op - 1) from pk_sub (b := 1) (by omega)]
      exact q_prim_L hb π (o ++ [268]) (op - 1) hP.2 (by omega) (fun y hy => hx y (List.mem_cons_of_mem _ hy)) (by rw [List.length_append, List.length_cons, List.length_nil]; omega) (by omega) h
theorem q_prim {op : Nat} {π o : List Nat} {pile : Nat → Int32} (hb : b < 3) (hP : PO pile π) (hl : π.length ≤ 300) (hx : ∀ x ∈ π, x < 2000) (hc : c0 + o.length + π.length < 1000) (hop : cnt 1001 π ≤ op) {post : Int32 → Int32 → (Nat → Int32) → (Nat → Int32) → (Nat → Int32) → Prop} (h : post (nI (pk op π o).1) (nI (pk op π o).2.1.length) (wA AK (pk op π o).2.2 A0 (1000 * b + c0)) (wA AV (pk op π o).2.2 N0 (1000 * b + c0)) (upd C0 b (nI (c0 + ((pk op π o).2.2).length)))) : wp_Md_primIsThere (nI b) (nI op) (nI π.length) (wA AK o A0 (1000 * b + c0)) (wA AV o N0 (1000 * b + c0)) (upd C0 b (nI (c0 + o.length))) pile post :=
  ⟨π.length + 1, q_prim_L hb π o op hP hl hx hc hop h⟩
theorem q_primW_L {pile : Nat → Int32} (hb : b < 3) {K : Int32 → Int32 → (Nat → Int32) → (Nat → Int32) → (Nat → Int32) → Prop} : ∀ (π o : List Nat) (op : Int32), PO pile π → π.length ≤ 300 → (∀ x ∈ π, x < 2000) → c0 + o.length + π.length < 1000 → (∀ op' π' o', PO pile π' → π'.length + o'.length = π.length + o.length → π'.length ≤ π.length → (∀ y ∈ π', y ∈ π) → K op' (nI π'.length) (wA AK o' A0 (1000 * b + c0)) (wA AV o' N0 (1000 * b + c0)) (upd C0 b (nI (c0 + (o').length)))) → wp_Md_primIsThere_L0 (nI b) pile K (π.length + 1) op (nI π.length) (wA AK o A0 (1000 * b + c0)) (wA AV o N0 (1000 * b + c0)) (upd C0 b (nI (c0 + o.length)))
  | [], o, op, hP, hl, hx, hc, h => br_t (by decide) (h op [] o trivial rfl (Nat.le_refl _) (fun _ hy => hy))
  | x :: π, o, op, hP, hl, hx, hc, h => by
    have hx1 := hx x (List.mem_cons_self ..)
    rw [List.length_cons] at hl hc
    refine br_f (nI_nle (by rw [List.length_cons]; omega) (by rw [List.length_cons]; omega)) ?_
    have e1 : nI (x :: π).length - 1 = nI π.length := nI_pred _
    rw [e1]
    refine ⟨vp_in_nI (by omega) (by decide), ?_⟩
    rw [nI_clamp (by omega), hP.1]
    refine bn_c (fun q => h op (x :: π) o hP rfl (Nat.le_refl _) (fun _ hy => hy)) (fun q => q_act 268 rfl rfl hb (by omega) ?_)
    exact q_primW_L hb π (o ++ [268]) _ hP.2 (by omega) (fun y hy => hx y (List.mem_cons_of_mem _ hy)) (by rw [List.length_append, List.length_cons, List.length_nil]; omega) (fun op' π' o' p1 p2 p3 p4 => h op' π' o' p1 (by rw [p2, List.length_append, List.length_cons, List.length_cons, List.length_nil]; omega) (by rw [List.length_cons]; omega) (fun y hy => List.mem_cons_of_mem _ (p4 y hy)))
theorem q_ands_L {pile : Nat → Int32} (hb : b < 3) (s : Bool) {K : Int32 → (Nat → Int32) → (Nat → Int32) → (Nat → Int32) → Prop} : ∀ (π o : List Nat), PO pile π → π.length ≤ 300 → (∀ x ∈ π, x < 2000) → c0 + o.length + π.length < 1000 → K (nI (rc s π o).1.length) (wA AK (rc s π o).2 A0 (1000 * b + c0)) (wA AV (rc s π o).2 N0 (1000 * b + c0)) (upd C0 b (nI (c0 + ((rc s π o).2).length))) → wp_Md_andsAndOrs_L0 (b01 s) (nI b) pile K (π.length + 1) (nI π.length) (wA AK o A0 (1000 * b + c0)) (wA AV o N0 (1000 * b + c0)) (upd C0 b (nI (c0 + o.length)))
  | [], o, hP, hl, hx, hc, h => br_t (by decide) h
  | x :: π, o, hP, hl, hx, hc, h => by
    have hx1 := hx x (List.mem_cons_self ..)
    rw [List.length_cons] at hl hc
    rw [List.length_cons]
    unfold rc at h
    refine br_f (nI_nle (by omega) (by omega)) ?_
    rw [nI_pred]
    have hv : vp_in (nI π.length) 300 := vp_in_nI (by omega) (by decide)
    refine ⟨hv, ?_⟩
    rw [nI_clamp (by omega), hP.1]
    have e3 : nI x = 1003 ↔ x = 1003 := nI_eq (b := 1003) (by omega) (by decide)
    have e4 : nI x = 1004 ↔ x = 1004 := nI_eq (b := 1004) (by omega) (by decide)
    have goOn := fun (h : K (nI (rc s π (o ++ [cop x])).1.length) (wA AK (rc s π (o ++ [cop x])).2 A0 (1000 * b + c0)) (wA AV (rc s π (o ++ [cop x])).2 N0 (1000 * b + c0)) (upd C0 b (nI (c0 + ((rc s π (o ++ [cop x])).2).length)))) => q_ands_L hb s π (o ++ [cop x]) hP.2 (by omega) (fun y hy => hx y (List.mem_cons_of_mem _ hy)) (by rw [List.length_append, List.length_cons, List.length_nil]; omega) h
    refine br_c (fun q => ⟨hv, bn_t q ?_⟩) (fun q => ?_)
    · have hxx := e3.mp q
      rw [if_pos (Or.inl hxx)] at h
      exact q_act (cop x) (by rw [hxx]; rfl) (by rw [hxx]; rfl) hb (by omega) (goOn h)
    · cases s with
      | false =>
        rw [if_neg (fun r => r.elim (fun r => q (e3.mpr r)) (fun r => by cases r.1))] at h
        exact br_t rfl h
      | true =>
        refine br_f (by decide) ⟨hv, bn_c (fun r => ?_) (fun r => ⟨hv, bn_f q ?_⟩)⟩
        · rw [if_neg (fun z => z.elim (fun z => q (e3.mpr z)) (fun z => r (e4.mpr z.2)))] at h; exact h
        · have hxx := e4.mp r
          rw [if_pos (Or.inr ⟨rfl, hxx⟩)] at h
          exact q_act (cop x) (by rw [hxx]; rfl) (by rw [hxx]; rfl) hb (by omega) (goOn h)
theorem q_ands {x : Int32} (s : Bool) (hxs : x = b01 s) {π o : List Nat} {pile : Nat → Int32} (hb : b < 3) (hP : PO pile π) (hl : π.length ≤ 300) (hx : ∀ x ∈ π, x < 2000) (hc : c0 + o.length + π.length < 1000) {post : Int32 → (Nat → Int32) → (Nat → Int32) → (Nat → Int32) → Prop} (h : post (nI (rc s π o).1.length) (wA AK (rc s π o).2 A0 (1000 * b + c0)) (wA AV (rc s π o).2 N0 (1000 * b + c0)) (upd C0 b (nI (c0 + ((rc s π o).2).length)))) : wp_Md_andsAndOrs x (nI b) (nI π.length) (wA AK o A0 (1000 * b + c0)) (wA AV o N0 (1000 * b + c0)) (upd C0 b (nI (c0 + o.length))) pile post := by
  subst hxs
  exact ⟨π.length + 1, q_ands_L hb s π o hP hl hx hc h⟩
end RC
theorem PO_drop {pile : Nat → Int32} : ∀ (i : Nat) (π : List Nat), PO pile π → PO pile (π.drop i)
  | 0, π, h => h
  | i + 1, [], h => trivial
  | i + 1, x :: π, h => PO_drop i π h.2
theorem drop_s {π : List Nat} {k : Nat} (hk : k < π.length) : ∃ x, π.drop (π.length - (k + 1)) = x :: π.drop (π.length - k) := by
  refine ⟨π[π.length - (k + 1)]'(by omega), ?_⟩
  rw [List.drop_eq_getElem_cons (by omega)]
  congr 1
  rw [show π.length - (k + 1) + 1 = π.length - k by omega]
theorem q_open_L {π : List Nat} {pile : Nat → Int32} (hP : PO pile π) (hl : π.length ≤ 300) (hx : ∀ x ∈ π, x < 2000) {K : Int32 → Prop} (h : K (b01 (decide (1002 ∈ π)))) : ∀ m k, k + m = π.length → wp_Md_isOpenThere_L4 (nI π.length) pile K (m + 1) (b01 (decide (1002 ∈ π.drop (π.length - k)))) (nI k)
  | 0, k, hk => by
    have : k = π.length := by omega
    subst this
    rw [Nat.sub_self, List.drop_zero]
    exact br_t (nI_le (Nat.le_refl _) (by omega)) h
  | m + 1, k, hk => by
    obtain ⟨x, e⟩ := drop_s (π := π) (k := k) (by omega)
    have hPk := PO_drop (π.length - (k + 1)) π hP
    rw [e] at hPk
    have hlen : (π.drop (π.length - k)).length = k := by rw [List.length_drop]; omega
    have hxm : x ∈ π := List.mem_of_mem_drop (i := π.length - (k + 1)) (by rw [e]; exact List.mem_cons_self ..)
    have ih := q_open_L hP hl hx h m (k + 1) (by omega)
    rw [e] at ih
    refine br_f (nI_ge (by omega) (by omega)) ?_
    by_cases hm : 1002 ∈ π.drop (π.length - k)
    · rw [decide_eq_true hm]
      rw [decide_eq_true (List.mem_cons_of_mem _ hm)] at ih
      refine bn_f (by decide) ?_
      rw [nI_1]; exact ih
    · rw [decide_eq_false hm]
      refine bn_t rfl ⟨vp_in_nI (by omega) (by decide), ?_⟩
      have hp := hPk.1
      rw [hlen] at hp
      rw [nI_clamp (by omega), hp, nI_1]
      have hx2 := hx x hxm
      have e2 : nI x = 1002 ↔ x = 1002 := nI_eq (b := 1002) (by omega) (by decide)
      refine bn_c (fun q => ?_) (fun q => ?_)
      · rw [decide_eq_false (fun z => (List.mem_cons.mp z).elim (fun z => q (e2.mpr z.symm)) hm)] at ih; exact ih
      · rw [decide_eq_true (List.mem_cons.mpr (Or.inl (e2.mp q).symm))] at ih; exact ih
theorem q_isOpenThere {π : List Nat} {pile : Nat → Int32} (hP : PO pile π) (hl : π.length ≤ 300) (hx : ∀ x ∈ π, x < 2000) {post : Int32 → Prop} (h1 : 1002 ∈ π → post 1) (h0 : 1002 ∉ π → post 0) : wp_Md_isOpenThere (nI π.length) pile post := by
  refine ⟨π.length + 1, ?_⟩
  have := q_open_L (K := fun x1_1 => vp_z x1_1 ∧ post x1_1) hP hl hx (by
    by_cases hm : 1002 ∈ π
    · rw [decide_eq_true hm]; exact ⟨Or.inr rfl, h1 hm⟩
    · rw [decide_eq_false hm]; exact ⟨Or.inl rfl, h0 hm⟩) π.length 0 (by omega)
  rw [Nat.sub_zero, List.drop_length] at this
  exact this
/-- the nots cost three bytes each -/
theorem rp_mono {f : Nat → Int32} {n : Nat} (hn : n ≤ 1200) (j : Nat) : rP f n j ≤ rP f n (j + 1) := by
  by_cases h : rP f n j < n
  · exact Nat.le_of_lt (pl_lt (P := sma) rfl hn h)
  · have hle := rp_le f hn j
    have := pl_n (P := sma) (g := bt f n) (m := j) (n := n) (by show rP f n j = n; omega) 1
    show rP f n j ≤ pl sma (bt f n) n (j + 1)
    omega
theorem rp_mono2 {f : Nat → Int32} {n : Nat} (hn : n ≤ 1200) {i : Nat} : ∀ d, rP f n i ≤ rP f n (i + d)
  | 0 => Nat.le_refl _
  | d + 1 => Nat.le_trans (rp_mono2 hn d) (rp_mono hn (i + d))
theorem rp_not {f : Nat → Int32} {n j : Nat} (hn : n ≤ 1200) (h : rK f n j = 268) : rP f n j + 3 ≤ rP f n (j + 1) := by
  have hp : pl sma (bt f n) n j < n := by
    rcases Nat.lt_or_ge (pl sma (bt f n) n j) n with c | c
    · exact c
    · have : kd sma (bt f n) n j = 256 := if_neg (by omega)
      have h2 : kd sma (bt f n) n j = 268 := h
      omega
  have hk : (tk sma (bt f n) (pl sma (bt f n) n j)).1 = 268 := by rw [← (kd_in hp).1]; exact h
  have hs := pl_s (P := sma) (g := bt f n) hp
  have hc := bt_256 (f := f) hp
  have he : (tk sma (bt f n) (pl sma (bt f n) n j)).2.2 = pl sma (bt f n) n j + 3 := by
    have hfe := fe_bt (P := sma) rfl (f := f) hn (Nat.le_of_lt hp)
    revert hk hfe
    generalize pl sma (bt f n) n j = i at hc
    unfold tk
    split
    · intro hk hfe
      have hk : (tkW (bt f n) i (fe sma (bt f n) i)).1 = 268 := hk
      show fe sma (bt f n) i = i + 3
      unfold tkW at hk
      split at hk
      · exact absurd (show (259 : Nat) = 268 from hk) (by decide)
      · have hk : wkind (wl (bt f n) i (fe sma (bt f n) i)) = 268 := hk
        rcases wk_cases (wl (bt f n) i (fe sma (bt f n) i)) with ⟨k, hk9, hL, hw⟩ | ⟨_, hw⟩
        · have : k = 8 := by omega
          subst this
          have hlen := congrArg List.length hL
          rw [wl_len] at hlen
          have : (wW 8).length = 3 := rfl
          omega
        · omega
    · split
      · intro hk _
        have hk : (tkN (bt f n) i (fe dig (bt f n) i)).1 = 268 := hk
        unfold tkN at hk
        split at hk
        · exact absurd (show (257 : Nat) = 268 from hk) (by decide)
        · exact absurd (show (258 : Nat) = 268 from hk) (by decide)
      · split
        · intro hk _
          have hk : bt f n i = 268 := hk
          omega
        · intro hk _
          exact absurd (show (257 : Nat) = 268 from hk) (by decide)
  have h3 := (tk_end (P := sma) rfl (f := f) hn hp).2
  have h4 := fe_bt (P := blk) rfl (f := f) hn h3
  show pl sma (bt f n) n j + 3 ≤ pl sma (bt f n) n (j + 1)
  rw [hs]; omega
