/-! the rounds of the guesses -/
def pcn (a : Nat) : Nat → Nat
  | 0 => 0
  | i + 1 => pcn a i + (if a.testBit i then 1 else 0)
theorem pcn_le {a b : Nat} (h : Sub b a) : ∀ n, pcn b n ≤ pcn a n
  | 0 => Nat.le_refl 0
  | n + 1 => by
    have ih := pcn_le h n
    show pcn b n + (if b.testBit n then 1 else 0) ≤ pcn a n + (if a.testBit n then 1 else 0)
    by_cases e : b.testBit n = true
    · rw [if_pos e, if_pos (Sub_bit h e)]; omega
    · rw [if_neg e]; split <;> omega
theorem pcn_eq {a b : Nat} (h : Sub b a) : ∀ n, pcn b n = pcn a n → ∀ i, i < n → b.testBit i = a.testBit i
  | 0, _, i, hi => absurd hi (Nat.not_lt_zero i)
  | n + 1, q, i, hi => by
    have ih := pcn_le h n
    have q : pcn b n + (if b.testBit n then 1 else 0) = pcn a n + (if a.testBit n then 1 else 0) := q
    cases eb : b.testBit n with
    | true =>
      have ea := Sub_bit h eb
      rw [eb, ea] at q
      by_cases e2 : i = n
      · subst e2; rw [eb, ea]
      · exact pcn_eq h n (by omega) i (by omega)
    | false =>
      cases ea : a.testBit n with
      | true => rw [eb, ea] at q; simp at q; omega
      | false =>
        rw [eb, ea] at q
        by_cases e2 : i = n
        · subst e2; rw [eb, ea]
        · exact pcn_eq h n (by omega) i (by omega)
theorem pcn_lt {a b : Nat} (h : Sub b a) (ha : a < 4096) (hne : b ≠ a) : pcn b 12 < pcn a 12 := by
  have h1 := pcn_le h 12
  have hb := Sub_le h
  rcases Nat.lt_or_ge (pcn b 12) (pcn a 12) with q | q
  · exact q
  · exfalso
    apply hne
    apply Nat.eq_of_testBit_eq
    intro i
    by_cases e : i < 12
    · exact pcn_eq h 12 (by omega) i e
    · have hp : (2 : Nat) ^ 12 ≤ 2 ^ i := Nat.pow_le_pow_right (by decide) (by omega)
      rw [Nat.testBit_lt_two_pow (show a < 2 ^ i by omega), Nat.testBit_lt_two_pow (show b < 2 ^ i by omega)]
theorem pcn_12 (a : Nat) : ∀ n, pcn a n ≤ n
  | 0 => Nat.le_refl 0
  | n + 1 => by
    have := pcn_12 a n
    show pcn a n + (if a.testBit n then 1 else 0) ≤ n + 1
    split <;> omega
def sf (S : Nat → Option (List Nat)) (c g : Nat) : Nat → Nat → Nat → (Nat → Nat) → Nat × (Nat → Nat)
  | 0, _, a, R => (a, R)
  | m + 1, r, a, R => if kr S c g a 4096 = a then (a, R) else sf S c g m (r + 1) (kr S c g a 4096) (mk (dif a (kr S c g a 4096)) r R)
/-- the guesses kept, and each one's round -/
def kept (S : Nat → Option (List Nat)) (c g : Nat) : Nat × (Nat → Nat) := sf S c g 12 1 (kb S g (2 ^ g - 1) 4096) (mk (dif (2 ^ g - 1) (kb S g (2 ^ g - 1) 4096)) 0 (fun _ => 100))
section SF
variable {S : Nat → Option (List Nat)} {c g : Nat} {nx iB hG : Nat → Int32}
theorem sf_end {m r a : Nat} {R : Nat → Nat} (h : kr S c g a 4096 = a) : sf S c g m r a R = (a, R) := by
  cases m with
  | zero => rfl
  | succ m => exact if_pos h
theorem sf_s {m r a : Nat} {R : Nat → Nat} (h : kr S c g a 4096 ≠ a) : sf S c g (m + 1) r a R = sf S c g m (r + 1) (kr S c g a 4096) (mk (dif a (kr S c g a 4096)) r R) := if_neg h
/-- what is out is marked alike -/
def Ro (g : Nat) (ro : Nat → Int32) (a : Nat) (R : Nat → Nat) : Prop := ∀ i, i < g → a.testBit i = false → ro i = nI (R i)
theorem Ro_mk (hg : g ≤ 12) {ro r0 : Nat → Int32} {a b r : Nat} {R : Nat → Nat} (h : Ro g r0 a R) (hr : ∀ i, i < 12 → ro i = if (dif a b).testBit i then nI r else r0 i) : Ro g ro b (mk (dif a b) r R) := by
  intro i hi hb
  rw [hr i (by omega)]
  unfold mk
  cases e : (dif a b).testBit i with
  | true => rfl
  | false =>
    show r0 i = nI (R i)
    refine h i hi ?_
    rw [dif_bit, hb] at e
    cases e2 : a.testBit i with
    | true => rw [e2] at e; cases e
    | false => rfl
theorem rk68 (hS : SOk S) (hg : g ≤ 12) (hN : NxR S c nx) (hGb : ∀ t, t < 4096 → hG t = nI (Gb S t g)) {K : Int32 → (Nat → Int32) → Prop} : ∀ m a r ro R, a < 4096 → pcn a 12 ≤ m → Ro g ro a R → (∀ ro, Ro g ro (sf S c g m r a R).1 (sf S c g m r a R).2 → K (nI (sf S c g m r a R).1) ro) → wp_Md_findKept_L68 nx hG K (m + 2) (nI a) (nI r) 1 ro := by
  intro m
  induction m with
  | zero =>
    intro a r ro R ha hp hR hK
    refine br_f (by decide) ⟨4097, rk79 hS hN hGb ha ?_ 4096 0 rfl⟩
    have e : kr S c g a 4096 = a := by
      by_cases q : kr S c g a 4096 = a
      · exact q
      · have := pcn_lt (kr_sub 4096) ha q; omega
    rw [nI_dif]
    refine q_mark (Nat.lt_of_le_of_lt (dif_le _ _) ha) (fun ro2 h2 => br_t (by rw [e]) (br_t rfl ?_))
    rw [e] at h2 ⊢
    rw [sf_end e] at hK
    refine hK ro2 (fun i hi hb => ?_)
    rw [h2 i (by omega), (dif_0 (Sub_refl a)).mpr rfl, Nat.zero_testBit]
    exact hR i hi hb
  | succ m ih =>
    intro a r ro R ha hp hR hK
    refine br_f (by decide) ⟨4097, rk79 hS hN hGb ha ?_ 4096 0 rfl⟩
    rw [nI_dif]
    have hsub : Sub (kr S c g a 4096) a := kr_sub 4096
    have hle := Sub_le hsub
    by_cases e : kr S c g a 4096 = a
    · refine q_mark (Nat.lt_of_le_of_lt (dif_le _ _) ha) (fun ro2 h2 => br_t (by rw [e]) (br_t rfl ?_))
      rw [e] at h2 ⊢
      rw [sf_end e] at hK
      refine hK ro2 (fun i hi hb => ?_)
      rw [h2 i (by omega), (dif_0 (Sub_refl a)).mpr rfl, Nat.zero_testBit]
      exact hR i hi hb
    · have hlt := pcn_lt hsub ha e
      rw [sf_s e] at hK
      refine q_mark (Nat.lt_of_le_of_lt (dif_le _ _) ha) (fun ro2 h2 => br_f (fun q => e ((nI_eq (by omega) (by omega)).mp q)) ?_)
      rw [nI_1]
      exact ih _ (r + 1) ro2 _ (by omega) (by omega) (Ro_mk hg hR h2) hK
theorem sf_lt : ∀ m r a R, a < 4096 → (sf S c g m r a R).1 < 4096 := by
  intro m
  induction m with
  | zero => intro r a R ha; exact ha
  | succ m ih =>
    intro r a R ha
    by_cases e : kr S c g a 4096 = a
    · rw [sf_end e]; exact ha
    · rw [sf_s e]; exact ih _ _ _ (Nat.lt_of_le_of_lt (Sub_le (kr_sub 4096)) ha)
theorem a_lt (hg : g ≤ 12) : 2 ^ g - 1 < 4096 := by
  have : (2 : Nat) ^ g ≤ 2 ^ 12 := Nat.pow_le_pow_right (by decide) hg
  omega
theorem kept_lt (hg : g ≤ 12) : (kept S c g).1 < 4096 := sf_lt _ _ _ _ (Nat.lt_of_le_of_lt (Sub_le (kb_sub 4096)) (a_lt hg))
/-- the reference: what is kept, and the rounds of what is out; 100 else -/
theorem r_findKept (hS : SOk S) (hg : g ≤ 12) {l : Nat} (hl : l < 2) {gc ro : Nat → Int32} {kb0 : Int32} (hgc : gc l = nI g) (hN : NxR S c nx) (hB : ∀ t, t < 4096 → iB t = nI (val S t 0)) (hGb : ∀ t, t < 4096 → hG t = nI (Gb S t g)) {post : Int32 → (Nat → Int32) → Prop} (h : ∀ ro, (∀ i, i < g → ro i = if (kept S c g).1.testBit i then nI 100 else nI ((kept S c g).2 i)) → post (nI (kept S c g).1) ro) : wp_Md_findKept (nI l) kb0 gc nx iB hG ro post := by
  refine ⟨vp_in_nI hl (by decide), fun x hx => ⟨4097, ?_⟩⟩
  rw [nI_clamp (by omega), hgc, all_g g (by omega)] at hx
  subst hx
  have ha := a_lt hg
  have hk : kb S g (2 ^ g - 1) 4096 < 4096 := Nat.lt_of_le_of_lt (Sub_le (kb_sub 4096)) ha
  refine rk18 hS hB hGb (a := 2 ^ g - 1) ?_ 4096 0 rfl
  rw [nI_dif]
  refine q_mark (r := 0) (Nat.lt_of_le_of_lt (dif_le _ _) ha) (fun ro1 h1 => ⟨14, ?_⟩)
  refine rk68 hS hg hN hGb 12 _ 1 ro1 (mk (dif (2 ^ g - 1) (kb S g (2 ^ g - 1) 4096)) 0 (fun _ => 100)) hk (pcn_12 _ 12) (Ro_mk hg (r0 := ro) (fun i hi hb => ?_) h1) (fun ro2 h2 => ?_)
  · rw [Nat.testBit_two_pow_sub_one, decide_eq_true hi] at hb; cases hb
  · refine q_mark (r := 100) (kept_lt hg) (fun ro3 h3 => h ro3 (fun i hi => ?_))
    rw [h3 i (by omega)]
    cases e : (kept S c g).1.testBit i with
    | true => rfl
    | false => exact h2 i hi e
end SF
