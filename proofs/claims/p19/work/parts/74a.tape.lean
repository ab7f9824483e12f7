/-! feed and end: the tape of both -/
theorem sx8 (x : BitVec 32) {k : Nat} (hk : k ≤ 24) : (x >>> k).signExtend 8 = (x.sshiftRight k).signExtend 8 := by
  apply BitVec.eq_of_getLsbD_eq
  intro i hi
  rw [BitVec.getLsbD_signExtend, BitVec.getLsbD_signExtend]
  have h32 : i < 32 := by omega
  rw [if_pos h32, if_pos h32, BitVec.getLsbD_ushiftRight, BitVec.getLsbD_sshiftRight]
  have : ¬ 32 ≤ i := by omega
  rw [if_pos (show k + i < 32 by omega)]
  simp [this]
/-- byte k of a number -/
def yb (v : Int32) (s : Int32) : Int32 := vp_nar .byte ((v >>> (s &&& 31) : Int32).toInt8.toInt32)
theorem yb_u (v : Int32) (s : Int32) (k : Nat) (hk : k ≤ 24) (h1 : ((s.toUInt32 &&& Int32.toUInt32 31).toBitVec % 32).toNat = k) (h2 : ((s &&& 31).toBitVec.smod 32).toNat = k) : vp_nar .byte ((((v : Int32).toUInt32 >>> ((s : Int32).toUInt32 &&& Int32.toUInt32 31)).toInt32 : Int32).toInt8.toInt32) = yb v s := by
  unfold yb
  congr 2
  apply Int8.toBitVec_inj.mp
  rw [Int32.toBitVec_toInt8, Int32.toBitVec_toInt8]
  show ((v.toUInt32 >>> (s.toUInt32 &&& Int32.toUInt32 31)).toBitVec).signExtend 8 = _
  rw [UInt32.toBitVec_shiftRight, Int32.toBitVec_shiftRight]
  show ((v.toBitVec >>> ((s.toUInt32 &&& Int32.toUInt32 31).toBitVec % 32).toNat)).signExtend 8 = (v.toBitVec.sshiftRight ((s &&& 31).toBitVec.smod 32).toNat).signExtend 8
  rw [h1, h2]
  exact sx8 _ hk
def shf (k : Nat) : Int32 := nI (24 - 8 * (k % 4))
/-- the tape behind k bytes of five numbers -/
def fd (xs : Nat → Int32) (f : Nat → Int32) (n : Nat) : Nat → (Nat → Int32)
  | 0 => f
  | k + 1 => upd (fd xs f n k) (n + k) (yb (xs (k / 4)) (shf k))
theorem c_add {v : Int32} {n : Nat} (hn : n + 4 ≤ 1200) {f : Nat → Int32} {post : Int32 → (Nat → Int32) → Prop} (h : post (nI (n + 4)) (upd (upd (upd (upd f n (yb v 24)) (n + 1) (yb v 16)) (n + 2) (yb v 8)) (n + 3) (yb v 0))) : wp_Tape_add v (nI n) f post := by
  refine ⟨5, ?_⟩
  refine br_f (by decide) (br_f (show ¬ nI 1200 ≤ nI n from nI_ge (by omega) (by decide)) ⟨vp_in_nI (by omega) (by decide), ?_⟩)
  rw [yb_u v 24 24 (by decide) (by decide) (by decide), nI_clamp (by omega), nI_1, show (24 : Int32) + (-8) = 16 by decide]
  refine br_f (by decide) (br_f (show ¬ nI 1200 ≤ nI (n + 1) from nI_ge (by omega) (by decide)) ⟨vp_in_nI (by omega) (by decide), ?_⟩)
  rw [yb_u v 16 16 (by decide) (by decide) (by decide), nI_clamp (by omega), nI_1, show (16 : Int32) + (-8) = 8 by decide]
  refine br_f (by decide) (br_f (show ¬ nI 1200 ≤ nI (n + 1 + 1) from nI_ge (by omega) (by decide)) ⟨vp_in_nI (by omega) (by decide), ?_⟩)
  rw [yb_u v 8 8 (by decide) (by decide) (by decide), nI_clamp (by omega), nI_1, show (8 : Int32) + (-8) = 0 by decide]
  refine br_f (by decide) (br_f (show ¬ nI 1200 ≤ nI (n + 1 + 1 + 1) from nI_ge (by omega) (by decide)) ⟨vp_in_nI (by omega) (by decide), ?_⟩)
  rw [yb_u v 0 0 (by decide) (by decide) (by decide), nI_clamp (by omega), nI_1]
  exact br_t (by decide) h
def x5 (x1 x2 x3 x4 x5 : Int32) : Nat → Int32 := fun k => if k = 0 then x1 else if k = 1 then x2 else if k = 2 then x3 else if k = 3 then x4 else x5
theorem room {n : Nat} (hn : n ≤ 1200) : ((1200 : Int32) < nI n + 20 ↔ 1200 < n + 20) ∧ (nI n + 20 ≤ (1200 : Int32) ↔ n + 20 ≤ 1200) := by
  rw [show (20 : Int32) = nI 20 from rfl, nI_add, show (1200 : Int32) = nI 1200 from rfl]
  exact ⟨nI_ltI (by decide) (by omega), nI_leI (by omega) (by decide)⟩
theorem c_feed {a b c d e : Int32} {n : Nat} (hn : n ≤ 1200) {f : Nat → Int32} {post : Int32 → Int32 → (Nat → Int32) → Prop} (h1 : n + 20 ≤ 1200 → post (nI (n + 20)) (nI (n + 20)) (fd (x5 a b c d e) f n 20)) (h0 : 1200 < n + 20 → post (-1) (nI n) f) : wp_LI_feed a b c d e (nI n) f post := by
  refine br_c (fun q => bn_t rfl (h0 ((room hn).1.mp q))) (fun q => bn_f (by decide) ?_)
  have hn2 : n + 20 ≤ 1200 := Nat.le_of_not_lt (fun z => q ((room hn).1.mpr z))
  refine c_add (by omega) (c_add (by omega) (c_add (by omega) (c_add (by omega) (c_add (by omega) ?_))))
  exact h1 hn2
theorem shf_eq (k : Nat) (hk : k < 20) : (24 - (8 * (nI k - nI k / 4 * 4)) : Int32) = shf k ∧ nI k / 4 = nI (k / 4) := by
  have h4 : (4 : Int32) = nI 4 := rfl
  rw [h4, pk_rem (by omega) (by decide) (by decide), pk_div (by omega) (by decide) (by decide), show (8 : Int32) = nI 8 from rfl, pk_mul, show (24 : Int32) = nI 24 from rfl, pk_sub (by omega)]
  exact ⟨rfl, rfl⟩
theorem r_feed_L {a b c d e : Int32} {n : Nat} (hn : n + 20 ≤ 1200) {f : Nat → Int32} {K : Int32 → (Nat → Int32) → Prop} (hK : K (nI (n + 20)) (fd (x5 a b c d e) f n 20)) : ∀ m k, k + m = 20 → wp_Md_feed_L18 a b c d e K (m + 1) (nI k) (nI (n + k)) (fd (x5 a b c d e) f n k)
  | 0, k, hk => by
    have : k = 20 := by omega
    subst this
    exact br_t (show nI 20 ≤ nI 20 from nI_le (Nat.le_refl _) (by decide)) hK
  | m + 1, k, hk => by
    have ih := r_feed_L (a := a) (b := b) (c := c) (d := d) (e := e) hn hK m (k + 1) (by omega)
    have hs := shf_eq k (by omega)
    have hv : vp_in (nI (n + k)) 1200 := vp_in_nI (by omega) (by decide)
    refine br_f (show ¬ nI 20 ≤ nI k from nI_ge (by omega) (by decide)) (fun x7 ex => ?_)
    rw [hs.2] at ex
    subst ex
    rw [hs.1, nI_1, nI_1, nI_clamp (show n + k < 2 ^ 31 by omega)]
    have st : ∀ j, k / 4 = j → ∀ v, x5 a b c d e j = v → upd (fd (x5 a b c d e) f n k) (n + k) (vp_nar .byte ((v >>> (shf k &&& 31) : Int32).toInt8.toInt32)) = fd (x5 a b c d e) f n (k + 1) := by
      intro j hj v hv
      show _ = upd (fd (x5 a b c d e) f n k) (n + k) (yb (x5 a b c d e (k / 4)) (shf k))
      rw [hj, hv]; rfl
    rcases (show k / 4 = 0 ∨ k / 4 = 1 ∨ k / 4 = 2 ∨ k / 4 = 3 ∨ k / 4 = 4 by omega) with hj | hj | hj | hj | hj <;> rw [hj]
    · refine bn_t rfl ⟨hv, ?_⟩
      rw [st 0 hj a rfl]; exact ih
    · refine bn_f (by decide) (bn_t rfl ⟨hv, ?_⟩)
      rw [st 1 hj b rfl]; exact ih
    · refine bn_f (by decide) (bn_f (by decide) (bn_t rfl ⟨hv, ?_⟩))
      rw [st 2 hj c rfl]; exact ih
    · refine bn_f (by decide) (bn_f (by decide) (bn_f (by decide) (bn_t rfl ⟨hv, ?_⟩)))
      rw [st 3 hj d rfl]; exact ih
    · refine bn_f (by decide) (bn_f (by decide) (bn_f (by decide) (bn_f (by decide) ⟨hv, ?_⟩)))
      rw [st 4 hj e rfl]; exact ih
theorem r_feed {a b c d e : Int32} {n : Nat} (hn : n ≤ 1200) {f : Nat → Int32} {post : Int32 → Int32 → (Nat → Int32) → Prop} (h1 : n + 20 ≤ 1200 → post (nI (n + 20)) (nI (n + 20)) (fd (x5 a b c d e) f n 20)) (h0 : 1200 < n + 20 → post (-1) (nI n) f) : wp_Md_feed a b c d e (nI n) f post := by
  refine br_c (fun q => ?_) (fun q => h0 (Nat.lt_of_not_le (fun z => q ((room hn).2.mpr z))))
  have hn2 := (room hn).2.mp q
  exact ⟨21, r_feed_L (K := fun a b => post a a b) hn2 (h1 hn2) 20 0 rfl⟩
theorem c_end_ {x : Int32} {n : Nat} (hn : n ≤ 1200) {post : Int32 → Int32 → Prop} (h1 : ∀ k, k ≤ 20 → 20 ≤ n → x = nI k → post (nI (n - 20 + k)) (nI (n - 20 + k))) (h0 : ((∀ k, k ≤ 20 → x ≠ nI k) ∨ n < 20) → post (-1) (nI n)) : wp_LI_end x (nI n) post := by
  refine br_c (fun q => br_t rfl (h0 (Or.inl (fun k hk e => ?_)))) (fun q => br_c (fun q2 => br_t rfl (h0 (Or.inl (fun k hk e => ?_)))) (fun q2 => br_c (fun q3 => br_f (by decide) ?_) (fun q3 => br_t rfl (h0 (Or.inr ?_)))))
  · rw [e] at q; exact absurd q (nI_pos (by omega))
  · rw [e] at q2; exact absurd q2 (show ¬ nI 20 < nI k from nI_nlt (by omega) (by decide))
  · obtain ⟨k, hk, e⟩ := nI_of q
    subst e
    have hk20 : k ≤ 20 := Nat.le_of_not_lt (fun z => q2 (nI_lt z (by omega)))
    have hn20 : 20 ≤ n := (nI_leI (by decide) (by omega)).mp q3
    have := h1 k hk20 hn20 rfl
    rw [show (20 : Int32) = nI 20 from rfl, pk_sub hn20, nI_add]
    exact this
  · exact Nat.lt_of_not_le (fun z => q3 (nI_le z (by omega)))
theorem r_end_ {x : Int32} {n : Nat} (hn : n ≤ 1200) {post : Int32 → Int32 → Prop} (h1 : ∀ k, k ≤ 20 → 20 ≤ n → x = nI k → post (nI (n - 20 + k)) (nI (n - 20 + k))) (h0 : ((∀ k, k ≤ 20 → x ≠ nI k) ∨ n < 20) → post (-1) (nI n)) : wp_Md_end x (nI n) post := by
  refine br_c (fun q => h0 (Or.inl (fun k hk e => ?_))) (fun q => br_c (fun q2 => h0 (Or.inl (fun k hk e => ?_))) (fun q2 => br_c (fun q3 => ?_) (fun q3 => h0 (Or.inr ?_))))
  · rw [e] at q; exact absurd q (nI_pos (by omega))
  · rw [e] at q2; exact absurd q2 (show ¬ nI 20 < nI k from nI_nlt (by omega) (by decide))
  · obtain ⟨k, hk, e⟩ := nI_of q
    subst e
    have hk20 : k ≤ 20 := Nat.le_of_not_lt (fun z => q2 (nI_lt z (by omega)))
    have hn20 : 20 ≤ n := (nI_leI (by decide) (by omega)).mp q3
    have := h1 k hk20 hn20 rfl
    rw [show (20 : Int32) = nI 20 from rfl, pk_sub hk20, pk_sub (by omega), show n - (20 - k) = n - 20 + k by omega]
    exact this
  · exact Nat.lt_of_not_le (fun z => q3 (nI_le z (by omega)))
