/-! the reference's readExp as a whole -/
abbrev EP := Int32 → Int32 → Int32 → Int32 → Int32 → Int32 → Int32 → Int32 → Int32 → Int32 → (Nat → Int32) → (Nat → Int32) → (Nat → Int32) → (Nat → Int32) → Prop
def WB (f : Nat → Int32) (n b c0 : Nat) (A0 N0 C0 : Nat → Int32) (fl Bd : Nat) (post : EP) : Prop := ∀ j u op π o a t p nu sg fp pile, RT f n j a t p nu sg → PO pile π → Bnd c0 fl Bd 1 u op π o → post a t p nu sg 1 fp (nI u) (nI op) (nI π.length) (wA AK o A0 (1000 * b + c0)) (wA AV o N0 (1000 * b + c0)) (upd C0 b (nI (c0 + o.length))) pile
section RE
variable {f : Nat → Int32} {n b c0 Bd : Nat} {A0 N0 C0 : Nat → Int32}
theorem r_exp (hn : n ≤ 1200) (hb : b < 3) (hBd : Bd ≤ 790) {r : Nat} (hr : r ≤ 8) {j u : Nat} {π o : List Nat} (hB : Bnd c0 π.length Bd 1 u (8 - r) π o) {post : EP} (hw : pE (rK f n) (rV f n) r j u = none → WB f n b c0 A0 N0 C0 π.length Bd post) (hok : ∀ j' u' o', pE (rK f n) (rV f n) r j u = some (j', u', o') → u < u' → (rK f n j' ≠ 42 ∧ rK f n j' ≠ 43 ∧ rK f n j' ≠ 45) → Bnd c0 π.length Bd 0 u' (8 - r) π (o ++ o') → ∀ a t p nu sg fp pile, RT f n j' a t p nu sg → PO pile π → post a t p nu sg 0 fp (nI u') (nI (8 - r)) (nI π.length) (wA AK (o ++ o') A0 (1000 * b + c0)) (wA AV (o ++ o') N0 (1000 * b + c0)) (upd C0 b (nI (c0 + (o ++ o').length))) pile) {a t p nu sg fp : Int32} {pile : Nat → Int32} (hrt : RT f n j a t p nu sg) (hP : PO pile π) : wp_Md_readExp (nI n) a t p nu sg 0 fp (nI b) (nI u) (nI (8 - r)) (nI π.length) f (wA AK o A0 (1000 * b + c0)) (wA AV o N0 (1000 * b + c0)) (upd C0 b (nI (c0 + o.length))) pile post := by
  have hlen : π.length ≤ 208 := by have := hB.1; have := hB.2.2.2.1; have := hB.2.2.2.2.1; omega
  have hw2 : pE (rK f n) (rV f n) r j u = none → WX f n b c0 A0 N0 C0 π.length Bd (fun x2 a t p nu sg bad fp u op q ac nm ct pile => (((x2 : Int32) ≤ 0 → wp_Md_reduceTo (nI π.length) (nI b) q ac nm ct pile (fun q' ac' nm' ct' => post a t p nu sg bad fp u op q' ac' nm' ct' pile)) ∧ (¬ (x2 : Int32) ≤ 0 → wp_Md_misplaced p bad fp (fun bad' fp' => wp_Md_reduceTo (nI π.length) (nI b) q ac nm ct pile (fun q' ac' nm' ct' => post a t p nu sg bad' fp' u op q' ac' nm' ct' pile))))) := by
    intro e0
    have hw := hw e0
    intro lev j u op π2 o2 a t p nu sg fp pile bad hrt hP hB hl hbad
    have b1 := hB.1
    have b2 := hB.2.1
    have b4 := hB.2.2.2.1
    have b5 := hB.2.2.2.2.1
    have red : ∀ fp', wp_Md_reduceTo (nI π.length) (nI b) (nI π2.length) (wA AK o2 A0 (1000 * b + c0)) (wA AV o2 N0 (1000 * b + c0)) (upd C0 b (nI (c0 + o2.length))) pile (fun q' ac' nm' ct' => post a t p nu sg 1 fp' (nI u) (nI op) q' ac' nm' ct' pile) := fun fp' =>
      q_reduceTo hb hP (by omega) hB.2.2.2.2.2.1 (by omega) (by omega) (hw j u op _ _ a t p nu sg fp' pile hrt (rl_PO _ _ _ _ _ hP) (Bnd_rl (lv := 1) hB rfl).1)
    rcases hbad with rfl | ⟨rfl, h0⟩
    · exact br_c (fun _ => red _) (fun _ => q_misp1 (red _))
    · exact br_f (nI_nle h0 (by omega)) (q_misp (red _))
  obtain ⟨N, h⟩ := s_E (f := f) (A0 := A0) (N0 := N0) (C0 := C0) hn hb hBd (s_T hn hb hBd (s_U hn hb hBd r hr)) 0 j u π o hB (Nat.zero_le _) (fun x π' q hq => by rw [q, List.length_cons] at hq; omega) (fun x π' q hq => by rw [q, List.length_cons] at hq; omega) hw2 (fun j' u' o' π' o2 e hu' hno hrl hB3 => by
    refine t_end (by decide) hno (fun q => absurd q.2 (by decide)) (fun a t p nu sg fp pile hrt hP => ?_)
    have b1 := hB3.1
    have b2 := hB3.2.1
    have b4 := hB3.2.2.2.1
    have b5 := hB3.2.2.2.2.1
    have hpo := rl_PO π.length 1 π' o2 pile hP
    refine br_t (by decide) (q_reduceTo hb hP (by omega) hB3.2.2.2.2.2.1 (by omega) (by omega) ?_)
    rw [hrl] at hpo ⊢
    exact hok j' u' o' e hu' hno (Bnd_rl hB3 hrl).1 a t p nu sg fp pile hrt hpo)
  exact ⟨N, h a t p nu sg fp pile hrt hP⟩
end RE
