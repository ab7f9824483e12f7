/-! has: the facts' bits -/
section HB
variable {S : Nat → Option (List Nat)} {c g : Nat}
theorem has_bit (a w : Nat) : decide (a &&& 2 ^ w = 2 ^ w) = a.testBit w := by
  have h := and_hi (x := a % 2 ^ w) (y := a / 2 ^ w) (a := 1) (k := w) (Nat.mod_lt _ (Nat.two_pow_pos w))
  rw [Nat.div_add_mod, Nat.mul_one] at h
  rw [h, Nat.testBit_eq_decide_div_mod_eq, Nat.and_one_is_mod]
  exact decide_eq_decide.mpr ⟨fun e => Nat.eq_of_mul_eq_mul_left (Nat.two_pow_pos w) (e.trans (Nat.mul_one _).symm), fun e => by rw [e, Nat.mul_one]⟩
theorem fb (hS : SOk S) (t k : Nat) (hk : k ≤ 1) : (fc S c g t + 4 * k).testBit 0 = decide (val S t 0 = 1) ∧ (fc S c g t + 4 * k).testBit 1 = decide (val S t 1 = 1) ∧ (fc S c g t + 4 * k).testBit 2 = decide (k = 1) ∧ (fc S c g t + 4 * k).testBit 3 = decide (en S c t = 1) := by
  have a := val_lt2 hS t (s := 0) (by decide)
  have b := val_lt2 hS t (s := 1) (by decide)
  have e := en_lt (S := S) (c := c) t
  simp only [Nat.testBit_eq_decide_div_mod_eq]
  unfold fc
  refine ⟨decide_eq_decide.mpr ?_, decide_eq_decide.mpr ?_, decide_eq_decide.mpr ?_, decide_eq_decide.mpr ?_⟩ <;> omega
theorem fb4 (hS : SOk S) (hg : g ≤ 12) (t k : Nat) (hk : k ≤ 1) {i : Nat} (hi : i < 12) : (fc S c g t + 4 * k).testBit (4 + i) = (Gb S t g).testBit i := by
  obtain ⟨y, hy, e⟩ := fc_low (c := c) (g := g) hS t k hk
  have hb := Gb_lt12 hS hg t
  rw [e, show 16 * (4096 * val S t 2 + Gb S t g) + y = 2 ^ 4 * (2 ^ 12 * val S t 2 + Gb S t g) + y from rfl, Nat.testBit_two_pow_mul_add _ hy, if_neg (by omega), show 4 + i - 4 = i by omega, Nat.testBit_two_pow_mul_add _ hb, if_pos hi]
theorem one_sh : ∀ w, w < 16 → (1 : Int32) <<< (nI w &&& 31) = nI (2 ^ w) := by decide +kernel
end HB
section PR
variable {lg lc lgu lu lr rr rg rp gl ml kb : Int32} {lf lt l1 ls rl rpa gr ac nm bg go rk cc wh be gc gs uc nr iB iG lv hg ro : Nat → Int32}
theorem p_has {x y : Int32} (G : Gn lg lc lgu lu lr lf lt l1 ls rr rg rp rl rpa gl gr ml kb ac nm bg go rk cc wh be gc gs uc nr iB iG lv hg ro) {Q1 Q2 : Prop} {post : Int32 → Int32 → Prop} (h1 : Q1) (h2 : Q2) (h : ∀ r, post r r) : wp_LI_has x y lg lgu lf (fun r => Q1 ∧ Q2 ∧ wp_Md_has x y ml gc nr iB iG lv hg (fun r' => post r r')) := by
  rcases G with ⟨rfl, rfl⟩ | ⟨rfl, l, S, c, g, u, rfl, hLO, hCI, hRI⟩
  · exact br_t rfl ⟨h1, h2, br_t (by decide) (br_t rfl (h _))⟩
  · obtain ⟨_, rfl, _, _, hF, hT, _⟩ := hCI
    obtain ⟨hl, _, hcc, hgc, huc, hSt⟩ := hRI
    obtain ⟨hN, hV, hL, _⟩ := hSt
    obtain ⟨hS, _, hc6, hg12, _⟩ := hLO
    have hv : vp_in (nI l) 2 := vp_in_nI hl (by decide)
    have hcl : (nI l).toNatClampNeg = l := nI_clamp (by omega)
    have e4 : (4 : Int32) + nI g = nI (4 + g) := by rw [show (4 : Int32) = nI 4 from rfl, nI_add]
    refine br_f (by decide) (q_isState_any x (fun t ht e => br_f (by decide) ?_) (fun q => br_t rfl ⟨h1, h2, q_MisState hl (fun t ht e => absurd e (q t ht)) (fun _ => br_t rfl (h _))⟩))
    subst e
    refine br_c (fun y0 => ⟨h1, h2, q_MisState hl (fun t' ht' e => br_f (by decide) (br_t y0 (h _))) (fun q => absurd rfl (q t ht))⟩) (fun y0 => ?_)
    obtain ⟨w, hw, e⟩ := nI_of y0
    subst e
    show (nI w < 4 + nI g → _) ∧ (¬ nI w < 4 + nI g → _)
    refine br_c (fun z => ?_) (fun z => ⟨h1, h2, q_MisState hl (fun t' ht' e => br_f (by decide) (br_f y0 ⟨hv, ?_⟩)) (fun q => absurd rfl (q t ht))⟩)
    · have z2 := z
      rw [e4] at z2
      have hwg : w < 4 + g := (nI_ltI hw (by omega)).mp z2
      rw [one_sh w (by omega)]
      have hfl := fc_lt (S := S) (c := c) (g := g) hS hg12 t
      have h2w : 2 ^ w ≤ 2 ^ 16 := Nat.pow_le_pow_right (by decide) (by omega)
      refine q_hasAll ht (hF t ht) (by omega) (by omega) ?_
      rw [has_bit]
      have key : ∀ (B : Bool) r, (fc S c g t + 4 * (1 - no1 (come S c).2 t)).testBit w = B → r = b01 B → wp_Md_has (nI t) (nI w) (nI l) gc nr iB iG lv hg (fun r' => post r r') := by
        intro B r hB hr
        refine q_MisState hl (fun t' ht' e => br_f (by decide) (br_f y0 ⟨hv, ?_⟩)) (fun q => absurd rfl (q t ht))
        rw [hcl, hgc]
        refine br_t z ?_
        have hk : 1 - no1 (come S c).2 t ≤ 1 := by omega
        have hin : vp_in (nI t) 4096 := vp_in_nI ht (by decide)
        have hct : (nI t).toNatClampNeg = t := nI_clamp (by omega)
        have fin : ∀ v : Nat, v < 2 → B = decide (v = 1) → (nI v = 0 → post r 0) ∧ (¬ nI v = 0 → post r 1) := by
          intro v hv hb
          rcases (show v = 0 ∨ v = 1 by omega) with e | e
          · subst e; subst hb; rw [hr]; exact br_t rfl (h _)
          · subst e; subst hb; rw [hr]; exact br_f (by decide) (h _)
        have F := fb (c := c) (g := g) hS t _ hk
        rcases (show w = 0 ∨ w = 1 ∨ w = 2 ∨ w = 3 ∨ 4 ≤ w by omega) with e | e | e | e | e
        · subst e
          refine bn_t rfl ⟨hin, fun x3 e3 => ?_⟩
          rw [hct, (hV t ht).1] at e3
          rw [e3]
          exact fin _ (val_lt2 hS t (s := 0) (by decide)) (hB.symm.trans F.1)
        · subst e
          refine bn_f (by decide) (bn_t rfl ⟨hin, fun x3 e3 => ?_⟩)
          rw [hct, (hV t ht).2.1] at e3
          rw [e3]
          exact fin _ (val_lt2 hS t (s := 1) (by decide)) (hB.symm.trans F.2.1)
        · subst e
          refine bn_f (by decide) (bn_f (by decide) (bn_t rfl ⟨hin, ?_⟩))
          rw [hct, hL t ht]
          have hb2 := hB.symm.trans F.2.2.1
          cases e : (come S c).2 t with
          | none =>
            rw [no1_none e] at hb2
            subst hb2
            rw [hr]
            exact br_t (show (-1 : Int32) < 0 by decide) (h _)
          | some k =>
            rw [no1_some e] at hb2
            subst hb2
            rw [hr]
            have := lev_lt hS e
            exact br_f (nI_pos (by omega)) (h _)
        · subst e
          refine bn_f (by decide) (bn_f (by decide) (bn_f (by decide) (bn_t rfl ?_)))
          exact q_isEnd hS hc6 hN ht (fin _ (en_lt t) (hB.symm.trans F.2.2.2))
        · obtain ⟨i, rfl⟩ : ∃ i, w = 4 + i := ⟨w - 4, by omega⟩
          have ne : ∀ a, a < 4 → ¬ nI (4 + i) = nI a := fun a ha e => by
            have := (nI_eq (by omega) (by omega)).mp e
            omega
          have hb2 := hB.symm.trans (fb4 (c := c) hS hg12 t _ hk (i := i) (by omega))
          refine bn_f (ne 0 (by decide)) (bn_f (ne 1 (by decide)) (bn_f (ne 2 (by decide)) (bn_f (ne 3 (by decide)) ⟨hin, ?_⟩)))
          rw [hct, (hV t ht).2.2, show nI (4 + i) - 4 = nI i by rw [show (4 : Int32) = nI 4 from rfl, pk_sub (by omega), show 4 + i - 4 = i by omega]]
          have hbs := bit_sh (b := Gb S t g) (i := i) (Gb_lt12 hS hg12 t) (by omega)
          cases hh : (Gb S t g).testBit i with
          | false =>
            rw [hh] at hb2; subst hb2; rw [hr]
            exact bn_f (fun q => by have := hbs.mp q; rw [hh] at this; cases this) (h _)
          | true =>
            rw [hh] at hb2; subst hb2; rw [hr]
            exact bn_t (hbs.mpr hh) (h _)
      cases hB : (fc S c g t + 4 * (1 - no1 (come S c).2 t)).testBit w with
      | false => exact br_t rfl ⟨h1, h2, key false 0 hB rfl⟩
      | true => exact br_f (by decide) ⟨h1, h2, key true 1 hB rfl⟩
    · rw [hcl, hgc]
      exact br_f z (h _)
end PR
