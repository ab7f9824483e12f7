/-! counting on the class's side, and follows -/
def cw (P : Nat → Bool) (n : Nat) : Nat := sm (fun t => if P t then 1 else 0) n
def ab (f : Nat → Bool) : Nat → Bool
  | 0 => true
  | n + 1 => ab f n && f n
theorem cw_s {P : Nat → Bool} {n : Nat} : cw P (n + 1) = cw P n + (if P n then 1 else 0) := rfl
theorem cw_le (P : Nat → Bool) : ∀ n, cw P n ≤ n
  | 0 => Nat.le_refl 0
  | n + 1 => by
    have := cw_le P n
    rw [cw_s]
    split <;> omega
theorem cw_ext {P Q : Nat → Bool} (n : Nat) (h : ∀ t, t < n → P t = Q t) : cw P n = cw Q n := sm_ext n (fun t ht => by rw [h t ht])
theorem cwL {P : Nat → Bool} {x : Int32} {fa : Nat → Int32} (hP : ∀ t, t < 4096 → ∀ post : Int32 → Prop, post (b01 (P t)) → wp_Loop_hasAll (nI t) x fa post) {K : Int32 → Prop} (hK : K (nI (cw P 4096))) : ∀ m s, s + m = 4096 → wp_Loop_countWith_L4 x fa K (m + 1) (nI (cw P s)) (nI s)
  | 0, s, hs => by
    have : s = 4096 := by omega
    subst this
    exact br_t (show nI 4096 ≤ nI 4096 from nI_le (Nat.le_refl _) (by decide)) hK
  | m + 1, s, hs => by
    have ih := cwL hP hK m (s + 1) (by omega)
    refine br_f (show ¬ nI 4096 ≤ nI s from nI_ge (by omega) (by decide)) (hP s (by omega) _ ?_)
    rw [nI_1, nI_1]
    rw [cw_s] at ih
    cases e : P s with
    | false => rw [e] at ih; exact br_t rfl ih
    | true => rw [e] at ih; exact br_f (by decide) ih
theorem c_countWith {P : Nat → Bool} {x : Int32} {fa : Nat → Int32} (hP : ∀ t, t < 4096 → ∀ post : Int32 → Prop, post (b01 (P t)) → wp_Loop_hasAll (nI t) x fa post) {post : Int32 → Prop} (h : post (nI (cw P 4096))) : wp_Loop_countWith x fa post := ⟨4097, cwL hP h 4096 0 rfl⟩
theorem sub_iff (x m : Nat) : x &&& m = m ↔ ∀ i, m.testBit i = true → x.testBit i = true := by
  constructor
  · intro h i hi
    have h2 : (x &&& m).testBit i = true := by rw [h]; exact hi
    rw [Nat.testBit_and, hi, Bool.and_true] at h2
    exact h2
  · intro h
    apply Nat.eq_of_testBit_eq
    intro i
    rw [Nat.testBit_and]
    cases e : m.testBit i with
    | false => rw [Bool.and_false]
    | true => rw [h i e]; rfl
theorem and_or (x p q : Nat) : (x &&& (p ||| q) = p ||| q) ↔ (x &&& p = p ∧ x &&& q = q) := by
  rw [sub_iff, sub_iff, sub_iff]
  constructor
  · intro h
    exact ⟨fun i hi => h i (by rw [Nat.testBit_or, hi, Bool.true_or]), fun i hi => h i (by rw [Nat.testBit_or, hi, Bool.or_true])⟩
  · intro h i hi
    rw [Nat.testBit_or] at hi
    cases e : p.testBit i with
    | true => exact h.1 i e
    | false => rw [e, Bool.false_or] at hi; exact h.2 i hi
theorem cw_ab (P Q : Nat → Bool) : ∀ n, cw (fun t => P t && Q t) n ≤ cw P n ∧ (cw P n = cw (fun t => P t && Q t) n ↔ ab (fun t => !P t || Q t) n = true)
  | 0 => ⟨Nat.le_refl 0, ⟨fun _ => rfl, fun _ => rfl⟩⟩
  | n + 1 => by
    have ih := cw_ab P Q n
    rw [cw_s, cw_s]
    show _ ∧ (_ ↔ (ab (fun t => !P t || Q t) n && (!P n || Q n)) = true)
    cases e : P n <;> cases e2 : Q n
    · refine ⟨by simpa using ih.1, ?_⟩
      simpa using ih.2
    · refine ⟨by simpa using ih.1, ?_⟩
      simpa using ih.2
    · refine ⟨by have := ih.1; simp; omega, ?_⟩
      have := ih.1
      simp
      omega
    · refine ⟨by simpa using ih.1, ?_⟩
      simpa using ih.2
section FO
variable {lg lc lgu lu lr rr rg rp gl ml kb : Int32} {lf lt l1 ls rl rpa gr ac nm bg go rk cc wh be gc gs uc nr iB iG lv hg ro : Nat → Int32}
theorem fo13x {F : Nat → Bool} {a : Nat} (hF : ∀ s, s < 4096 → ∃ b v : Nat, b < 4096 ∧ v < 2 ∧ hg s = nI b ∧ iG s = nI v ∧ F s = (!decide (b &&& a = a) || decide (v = 1))) (ha : a < 4096) {K : Int32 → Prop} (hK : K (b01 (ab F 4096))) : ∀ m s, s + m = 4096 → wp_Md_follows_L13 (nI a) iG hg K (m + 1) (b01 (ab F s)) (nI s)
  | 0, s, hs => by
    have : s = 4096 := by omega
    subst this
    exact br_t (show nI 4096 ≤ nI 4096 from nI_le (Nat.le_refl _) (by decide)) hK
  | m + 1, s, hs => by
    have ih := fo13x hF ha hK m (s + 1) (by omega)
    obtain ⟨b, v, hb, hv2, e1, e2, e3⟩ := hF s (by omega)
    have hv : vp_in (nI s) 4096 := vp_in_nI (by omega) (by decide)
    have eb : ab F (s + 1) = (ab F s && F s) := rfl
    rw [eb, e3] at ih
    refine br_f (show ¬ nI 4096 ≤ nI s from nI_ge (by omega) (by decide)) ?_
    rw [nI_1]
    cases e : ab F s with
    | false => rw [e] at ih; exact br_t rfl ih
    | true =>
      rw [e] at ih
      refine br_f (by decide) ⟨hv, ?_⟩
      rw [nI_clamp (by omega), e1, e2, nI_and]
      have hle : b &&& a ≤ a := Nat.and_le_right
      have ei : nI (b &&& a) = nI a ↔ b &&& a = a := nI_eq (by omega) (by omega)
      refine bn_c (fun q => ?_) (fun q => ⟨hv, ?_⟩)
      · rw [decide_eq_false (fun z => q (ei.mpr z))] at ih; exact ih
      · rw [decide_eq_true (ei.mp q)] at ih
        rcases (show v = 0 ∨ v = 1 by omega) with z | z
        · subst z; exact br_t rfl ih
        · subst z; exact br_f (by decide) ih
theorem x_follows (G : Gn lg lc lgu lu lr lf lt l1 ls rr rg rp rl rpa gl gr ml kb ac nm bg go rk cc wh be gc gs uc nr iB iG lv hg ro) {post : Int32 → Int32 → Prop} (h : ∀ r, post r r) : wp_LI_follows lg lf gl (fun r => wp_Md_follows ml kb iG hg (fun r' => post r r')) := by
  rcases G with ⟨rfl, rfl⟩ | ⟨rfl, l, S, c, g, u, rfl, hLO, hCI, hRI⟩
  · exact bn_t rfl (br_f (by decide) (h _))
  · obtain ⟨_, _, _, _, hF, _, _, _, _, _, _, rfl, _⟩ := hCI
    obtain ⟨hl, _, _, _, _, _, hV, _, rfl, _⟩ := hRI
    obtain ⟨hS, _, hc6, hg12, _⟩ := hLO
    have ha := kept_lt (S := S) (c := c) hg12
    generalize (kept S c g).1 = a at *
    let P : Nat → Bool := fun t => decide (Gb S t g &&& a = a)
    let Q : Nat → Bool := fun t => decide (val S t 1 = 1)
    have c1 : ∀ t, t < 4096 → ∀ post : Int32 → Prop, post (b01 (P t)) → wp_Loop_hasAll (nI t) (nI (16 * a)) lf post := fun t ht post hp => q_hasKept hS hg12 hF ht ha hp
    have c2 : ∀ t, t < 4096 → ∀ post : Int32 → Prop, post (b01 (P t && Q t)) → wp_Loop_hasAll (nI t) (nI (16 * a ||| 2)) lf post := fun t ht post hp => by
      have hfl := fc_lt (S := S) (c := c) (g := g) hS hg12 t
      have hor : 16 * a ||| 2 < 2 ^ 17 := Nat.or_lt_two_pow (by omega) (by decide)
      refine q_hasAll ht (hF t ht) (by omega) (by omega) ?_
      have e : decide (fc S c g t + 4 * (1 - no1 (come S c).2 t) &&& (16 * a ||| 2) = 16 * a ||| 2) = (P t && Q t) := by
        have e1 := and_or (fc S c g t + 4 * (1 - no1 (come S c).2 t)) (16 * a) 2
        have e2 := has_bit (fc S c g t + 4 * (1 - no1 (come S c).2 t)) 1
        rw [(fb (c := c) (g := g) hS t _ (show 1 - no1 (come S c).2 t ≤ 1 by omega)).2.1] at e2
        have e3 : (fc S c g t + 4 * (1 - no1 (come S c).2 t) &&& 16 * a = 16 * a) ↔ Gb S t g &&& a = a := by
          obtain ⟨x, hx, ex⟩ := fc_low (c := c) (g := g) hS t (1 - no1 (come S c).2 t) (by omega)
          have hb := Gb_lt12 hS hg12 t
          have h1 := and_hi (x := x) (y := 4096 * val S t 2 + Gb S t g) (a := a) (k := 4) hx
          have h2 := and_lo (y := Gb S t g) (r := val S t 2) (a := a) (k := 12) ha hb
          rw [show (2 : Nat) ^ 4 = 16 from rfl] at h1
          rw [show (2 : Nat) ^ 12 = 4096 from rfl] at h2
          rw [ex, h1, h2]
          omega
        show _ = (decide (Gb S t g &&& a = a) && decide (val S t 1 = 1))
        rw [← e2, ← Bool.decide_and]
        exact decide_eq_decide.mpr (by rw [e1, e3])
      rw [e]
      exact hp
    have hm : wp_Md_follows (nI l) (nI a) iG hg (fun r' => post (b01 (ab (fun t => !P t || Q t) 4096)) r') := by
      refine br_t (nI_pos' (by omega)) ⟨4097, fo13x (F := fun t => !P t || Q t) (fun s hs => ⟨Gb S s g, val S s 1, Gb_lt12 hS hg12 s, val_lt2 hS s (s := 1) (by decide), (hV s hs).2.2, (hV s hs).2.1, rfl⟩) ha ?_ 4096 0 rfl⟩
      cases ab (fun t => !P t || Q t) 4096
      · exact br_t rfl (h _)
      · exact br_f (by decide) (h _)
    have hcw := cw_ab P Q 4096
    refine bn_f (by decide) (q_keptFacts ha (c_countWith c1 (q_keptFacts ha ?_)))
    rw [show nI (16 * a) ||| (2 : Int32) = nI (16 * a ||| 2) from nI_or _ _]
    refine c_countWith c2 ?_
    have l1 := cw_le P 4096
    have l2 := cw_le (fun t => P t && Q t) 4096
    refine bn_c (fun q => ?_) (fun q => ?_)
    · have : ab (fun t => !P t || Q t) 4096 = false := by
        cases e : ab (fun t => !P t || Q t) 4096 with
        | false => rfl
        | true => exact absurd (congrArg nI (hcw.2.mpr e)) q
      rw [this] at hm
      exact br_t rfl hm
    · have : ab (fun t => !P t || Q t) 4096 = true := hcw.2.mp ((nI_eq (by omega) (by omega)).mp q)
      rw [this] at hm
      exact br_f (by decide) hm
end FO
