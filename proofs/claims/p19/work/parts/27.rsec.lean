/-! the reference's readCond and readPlain as a whole: O is all that was acted since the text began -/
abbrev RPo := Int32 → Int32 → Int32 → Int32 → Int32 → Int32 → Int32 → Int32 → Int32 → Int32 → Int32 → (Nat → Int32) → (Nat → Int32) → (Nat → Int32) → (Nat → Int32) → Prop
section RT2
variable {f : Nat → Int32} {n b : Nat} {A0 N0 C0 : Nat → Int32}
theorem wA_at (φ : Nat → Nat) (O o : List Nat) (A : Nat → Int32) (B : Nat) : wA φ o (wA φ O A B) (B + O.length) = wA φ (O ++ o) A B := (wA_app φ O o A B).symm
def RWk (f : Nat → Int32) (n b : Nat) (A0 N0 C0 : Nat → Int32) (x : Int32) (post : RPo) : Prop := ∀ j u O op pl a t p nu sg fp pile, RT f n j a t p nu sg → O.length ≤ 995 → post x a t p nu sg 1 fp (nI u) op pl (wA AK O A0 (1000 * b)) (wA AV O N0 (1000 * b)) (upd C0 b (nI (O).length)) pile
theorem r_cond (hn : n ≤ 1200) (hb : b < 3) {j u : Nat} {O : List Nat} (hO : O.length ≤ 2 * u + rP f n j / 3 + 1) (hu : u ≤ 100) {post : RPo} (hw : pC (rK f n) (rV f n) 8 j u = none → RWk f n b A0 N0 C0 (nI (1000 * b + O.length)) post) (hok : ∀ j' u' o', pC (rK f n) (rV f n) 8 j u = some (j', u', o') → u < u' → j < j' → u' ≤ 100 → (O ++ o' ++ [301]).length ≤ 2 * u' + rP f n j' / 3 + 1 → ∀ op pl a t p nu sg fp pile, RT f n j' a t p nu sg → post (nI (1000 * b + O.length)) a t p nu sg 0 fp (nI u') op pl (wA AK (O ++ o' ++ [301]) A0 (1000 * b)) (wA AV (O ++ o' ++ [301]) N0 (1000 * b)) (upd C0 b (nI ((O ++ o' ++ [301])).length)) pile) {op pl a t p nu sg fp : Int32} {pile : Nat → Int32} (hr : RT f n j a t p nu sg) : wp_Md_readCond (nI n) a t p nu sg 0 fp (nI b) (nI u) op pl f (wA AK O A0 (1000 * b)) (wA AV O N0 (1000 * b)) (upd C0 b (nI (O).length)) pile post := by
  have hrp := rp_le f hn j
  refine ⟨vp_in_nI hb (by decide), ?_⟩
  rw [nI_clamp (by omega), pk_us, show (1000 : Int32) = nI 1000 from rfl, pk_mul, nI_add]
  refine nm_e ?_
  have eA : ∀ o : List Nat, wA AK o (wA AK O A0 (1000 * b)) (1000 * b + O.length) = wA AK (O ++ o) A0 (1000 * b) := fun o => wA_at AK O o A0 (1000 * b)
  have eN : ∀ o : List Nat, wA AV o (wA AV O N0 (1000 * b)) (1000 * b + O.length) = wA AV (O ++ o) N0 (1000 * b) := fun o => wA_at AV O o N0 (1000 * b)
  have eC : ∀ o : List Nat, upd (upd C0 b (nI O.length)) b (nI (O.length + o.length)) = upd C0 b (nI (O ++ o).length) := fun o => by rw [upd_upd, List.length_append]
  have fin : ∀ (bad fp : Int32) (j u : Nat) (op : Int32) (π o : List Nat) (a t p nu sg : Int32) (pile : Nat → Int32), PO pile π → π.length ≤ 250 → O.length + o.length + π.length ≤ 992 → (∀ x ∈ π, x < 2000) → (post (nI (1000 * b + O.length)) a t p nu sg bad fp (nI u) op (nI (rc true π o).1.length) (wA AK (O ++ ((rc true π o).2 ++ [301])) A0 (1000 * b)) (wA AV (O ++ ((rc true π o).2 ++ [301])) N0 (1000 * b)) (upd C0 b (nI ((O ++ ((rc true π o).2 ++ [301]))).length)) pile) → wp_Md_andsAndOrs 1 (nI b) (nI π.length) (wA AK o (wA AK O A0 (1000 * b)) (1000 * b + O.length)) (wA AV o (wA AV O N0 (1000 * b)) (1000 * b + O.length)) (upd (upd C0 b (nI O.length)) b (nI (O.length + o.length))) pile (fun q ac nm ct => wp_Md_act 7 0 (nI b) ac nm ct (fun ac' nm' ct' => post (nI (1000 * b + O.length)) a t p nu sg bad fp (nI u) op q ac' nm' ct' pile)) := by
    intro bad fp j u op π o a t p nu sg pile hP h1 h2 h3 h
    have hlen := rc_len (s := true) π o
    refine q_ands true rfl hb hP (by omega) h3 (by omega) (q_act 301 rfl rfl hb (by omega) ?_)
    rw [eA, eN, eC]; exact h
  have hw2 : pC (rK f n) (rV f n) 8 j u = none → WY f n b O.length 1 (wA AK O A0 (1000 * b)) (wA AV O N0 (1000 * b)) (upd C0 b (nI O.length)) (fun a t p nu sg bad fp un op q ac nm ct pile => wp_Md_isOpenThere q pile (fun r_265 => (((r_265 : Int32) = 0 → wp_Md_andsAndOrs 1 (nI b) q ac nm ct pile (fun q' ac1 nm1 ct1 => wp_Md_act 7 0 (nI b) ac1 nm1 ct1 (fun ac2 nm2 ct2 => post (nI (1000 * b + O.length)) a t p nu sg bad fp un op q' ac2 nm2 ct2 pile))) ∧ (¬ (r_265 : Int32) = 0 → wp_Md_misplaced p bad fp (fun bad' fp' => wp_Md_andsAndOrs 1 (nI b) q ac nm ct pile (fun q' ac1 nm1 ct1 => wp_Md_act 7 0 (nI b) ac1 nm1 ct1 (fun ac2 nm2 ct2 => post (nI (1000 * b + O.length)) a t p nu sg bad' fp' un op q' ac2 nm2 ct2 pile))))))) := by
    intro e0
    have hw := hw e0
    refine ⟨fun j u op π o a t p nu sg fp pile hr hP hW => ?_, fun j u op π o a t p nu sg fp pile hr hP hB hm => ?_⟩
    · have f1 : ∀ fp', _ := fun fp' => fin 1 fp' j u op π o a t p nu sg pile hP hW.1 hW.2.1 hW.2.2 (hw j u _ op _ a t p nu sg fp' pile hr (by
        have hlen := rc_len (s := true) π o
        have := hW.2.1
        rw [List.length_append, List.length_append, List.length_cons, List.length_nil]; omega))
      exact q_isOpenThere hP (by have := hW.1; omega) hW.2.2 (fun _ => br_f (by decide) (q_misp1 (f1 _))) (fun _ => br_t rfl (f1 _))
    · have hwk := BC_wk hn (by decide) hB
      exact q_isOpenThere hP (by omega) hwk.2.2 (fun _ => br_f (by decide) (q_misp (fin 1 p j u (nI op) π o a t p nu sg pile hP (by omega) (by omega) hwk.2.2 (hw j u _ (nI op) _ a t p nu sg p pile hr (by
        have hlen := rc_len (s := true) π o
        rw [List.length_append, List.length_append, List.length_cons, List.length_nil]; omega))))) (fun q => absurd hm q)
  obtain ⟨N, h⟩ := s_C (f := f) (c0 := O.length) (s := 1) (A0 := wA AK O A0 (1000 * b)) (N0 := wA AV O N0 (1000 * b)) (C0 := upd C0 b (nI O.length)) (X1 := nI (1000 * b + O.length)) hn hb (by decide) (s_J hn hb (by decide) (s_P hn hb (by decide) (by decide) 8 (Nat.le_refl 8))) j u [] [] ⟨by simp, by simp [cnt]; omega, hu, by decide, fun x hx => (by cases hx), by simp [cnt]⟩ (fun x π' q => by cases q) (fun x π' q => by cases q) (fun x π' q => by cases q) hw2 (fun j' u' o' π' o2 e hu' hj' hno hrl hB => by
    have hwk := BC_wk hn (by decide) hB
    obtain ⟨q1, q2, q3, q4⟩ := BC_rc hB hrl
    have hm : 1002 ∉ π' := fun hm => by
      have : 0 < cnt 1002 π' := List.length_pos_of_mem (List.mem_filter.mpr ⟨hm, by simp⟩)
      rw [← q4] at this
      exact absurd this (by simp [cnt])
    refine c_end hn (by decide) hB hno (fun q => hm q.2) (fun a t p nu sg fp pile hr hP => ?_)
    refine q_isOpenThere hP (by omega) hwk.2.2 (fun q => absurd q hm) (fun _ => br_t rfl (fin 0 fp j' u' _ π' o2 a t p nu sg pile hP (by omega) (by omega) hwk.2.2 ?_))
    rw [hrl]
    have hb2 := q1.2.1
    simp only [List.length_nil, List.nil_append, cnt, List.filter_nil] at hb2
    have := hok j' u' o' e hu' hj' q1.2.2.1 (by rw [List.length_append, List.length_append, List.length_cons, List.length_nil]; omega) (nI (8 - 8)) (nI 0) a t p nu sg fp pile hr
    rw [List.append_assoc] at this
    exact this)
  have := h a t p nu sg fp pile hr trivial
  rw [show upd (upd C0 b (nI O.length)) b (nI (O.length + ([] : List Nat).length)) = upd C0 b (nI O.length) from upd_upd _ _ _ _] at this
  exact ⟨N + 1, this⟩
theorem r_plain (hn : n ≤ 1200) (hb : b < 3) {j u : Nat} {O : List Nat} (hO : O.length ≤ 2 * u + rP f n j / 3 + 1) (hu : u ≤ 100) {post : RPo} (hw : pE (rK f n) (rV f n) 8 j u = none → RWk f n b A0 N0 C0 (nI (1000 * b + O.length)) post) (hok : ∀ j' u' o', pE (rK f n) (rV f n) 8 j u = some (j', u', o') → u < u' → j < j' → u' ≤ 100 → (O ++ o' ++ [301]).length ≤ 2 * u' + rP f n j' / 3 + 1 → ∀ op pl a t p nu sg fp pile, RT f n j' a t p nu sg → post (nI (1000 * b + O.length)) a t p nu sg 0 fp (nI u') op pl (wA AK (O ++ o' ++ [301]) A0 (1000 * b)) (wA AV (O ++ o' ++ [301]) N0 (1000 * b)) (upd C0 b (nI ((O ++ o' ++ [301])).length)) pile) {op pl a t p nu sg fp : Int32} {pile : Nat → Int32} (hr : RT f n j a t p nu sg) : wp_Md_readPlain (nI n) a t p nu sg 0 fp (nI b) (nI u) op pl f (wA AK O A0 (1000 * b)) (wA AV O N0 (1000 * b)) (upd C0 b (nI (O).length)) pile post := by
  have hrp := rp_le f hn j
  refine ⟨vp_in_nI hb (by decide), ?_⟩
  rw [nI_clamp (by omega), pk_us, show (1000 : Int32) = nI 1000 from rfl, pk_mul, nI_add]
  refine nm_e ?_
  have eA : ∀ o : List Nat, wA AK o (wA AK O A0 (1000 * b)) (1000 * b + O.length) = wA AK (O ++ o) A0 (1000 * b) := fun o => wA_at AK O o A0 (1000 * b)
  have eN : ∀ o : List Nat, wA AV o (wA AV O N0 (1000 * b)) (1000 * b + O.length) = wA AV (O ++ o) N0 (1000 * b) := fun o => wA_at AV O o N0 (1000 * b)
  have eC : ∀ o : List Nat, upd (upd C0 b (nI O.length)) b (nI (O.length + o.length)) = upd C0 b (nI (O ++ o).length) := fun o => by rw [upd_upd, List.length_append]
  have := r_exp (c0 := O.length) (Bd := rP f n j / 3 + 1) (A0 := wA AK O A0 (1000 * b)) (N0 := wA AV O N0 (1000 * b)) (C0 := upd C0 b (nI O.length)) (π := []) (o := []) (r := 8) (fp := fp) (pile := pile) (post := fun a t p nu sg bad fp un op q ac nm ct pile => wp_Md_act 7 0 (nI b) ac nm ct (fun ac' nm' ct' => post (nI (1000 * b + O.length)) a t p nu sg bad fp un op q ac' nm' ct' pile)) hn hb (by omega) (Nat.le_refl 8) ⟨by simp, by simp; omega, Nat.le_refl _, hu, by decide, fun x hx => (by cases hx), by simp⟩ ?_ ?_ hr trivial
  · rw [show upd (upd C0 b (nI O.length)) b (nI (O.length + ([] : List Nat).length)) = upd C0 b (nI O.length) from upd_upd _ _ _ _] at this
    exact this
  · intro e0 j u op π o a t p nu sg fp pile hr hP hB
    have b2 := hB.2.1
    have b4 := hB.2.2.2.1
    refine q_act 301 rfl rfl hb (by omega) ?_
    rw [eA, eN, eC]
    exact hw e0 j u _ (nI op) (nI π.length) a t p nu sg fp pile hr (by rw [List.length_append, List.length_append, List.length_cons, List.length_nil]; omega)
  · intro j' u' o' e hu' hno hB a t p nu sg fp pile hr hP
    have b2 := hB.2.1
    have b4 := hB.2.2.2.1
    have g := pE_gd (V := rV f n) (rk_end (f := f) hn) 8 _ _ _ _ _ e
    have hpm := rp_mono2 (f := f) hn (i := j) (j' - j)
    rw [show j + (j' - j) = j' by omega] at hpm
    simp only [List.length_nil, List.nil_append] at b2
    refine q_act 301 rfl rfl hb (by simp only [List.nil_append]; omega) ?_
    rw [eA, eN, eC, List.nil_append]
    have := hok j' u' o' e hu' g.1 b4 (by rw [List.length_append, List.length_append, List.length_cons, List.length_nil]; omega) (nI (8 - 8)) (nI ([] : List Nat).length) a t p nu sg fp pile hr
    rw [List.append_assoc] at this
    exact this
end RT2
