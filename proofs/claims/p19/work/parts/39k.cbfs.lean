/-! the class's levels -/
theorem or_4 : ∀ b, b < 4 → ∀ e, e < 2 → ∀ G, G < 2 ^ 16 → (b + 8 * e + 16 * G) ||| 4 = b + 8 * e + 16 * G + 4 := fun b hb e he G hG => by
  have h1 : b + 8 * e + 16 * G = 16 * G ||| (b + 8 * e) := by
    rw [Nat.mul_comm 16 G, show (16 : Nat) = 2 ^ 4 from rfl, ← Nat.shiftLeft_eq, ← Nat.shiftLeft_add_eq_or_of_lt (by omega), Nat.shiftLeft_eq]; omega
  have h2 : b + 8 * e + 16 * G + 4 = 16 * G ||| (b + 8 * e + 4) := by
    rw [Nat.mul_comm 16 G, show (16 : Nat) = 2 ^ 4 from rfl, ← Nat.shiftLeft_eq, ← Nat.shiftLeft_add_eq_or_of_lt (by omega), Nat.shiftLeft_eq]; omega
  rw [h2, h1, Nat.or_assoc]
  refine congrArg _ ?_
  rcases (show b = 0 ∨ b = 1 ∨ b = 2 ∨ b = 3 by omega) with q | q | q | q <;> rcases (show e = 0 ∨ e = 1 by omega) with z | z <;> subst q <;> subst z <;> rfl
/-- facts, with the bit of the states come to -/
def FaL (S : Nat → Option (List Nat)) (c g : Nat) (fa : Nat → Int32) (L : Nat → Option Nat) : Prop := ∀ t, t < 4096 → fa t = nI (fc S c g t + 4 * (1 - no1 L t))
section CB
variable {S : Nat → Option (List Nat)} {c g : Nat}
theorem fc_or (hS : SOk S) (hg : g ≤ 12) (t : Nat) : fc S c g t ||| 4 = fc S c g t + 4 := by
  have a := val_lt2 hS t (s := 0) (by decide)
  have b := val_lt2 hS t (s := 1) (by decide)
  have d := Gb_lt hS t g hg
  have d2 : (2 : Nat) ^ g ≤ 2 ^ 12 := Nat.pow_le_pow_right (by decide) hg
  have r := val_lt16 hS t
  unfold fc
  exact or_4 _ (by omega) _ (en_lt t) _ (by omega)
theorem fc_lt (hS : SOk S) (hg : g ≤ 12) (t : Nat) : fc S c g t < 2 ^ 20 := by
  have a := val_lt2 hS t (s := 0) (by decide)
  have b := val_lt2 hS t (s := 1) (by decide)
  have d := Gb_lt hS t g hg
  have d2 : (2 : Nat) ^ g ≤ 2 ^ 12 := Nat.pow_le_pow_right (by decide) hg
  have r := val_lt16 hS t
  have e := en_lt (S := S) (c := c) t
  unfold fc
  omega
theorem fc_1 (t : Nat) (hS : SOk S) (k : Nat) : (fc S c g t + 4 * k) % 2 = val S t 0 := by
  have a := val_lt2 hS t (s := 0) (by decide)
  unfold fc
  omega
theorem FaL_push (hS : SOk S) (hg : g ≤ 12) {fa : Nat → Int32} {L : Nat → Option Nat} {t x : Nat} (ht : t < 4096) (hn : L t = none) (h : FaL S c g fa L) : FaL S c g (upd fa t (fa t ||| 4)) (fun u => if u = t then some x else L u) := by
  intro u hu
  by_cases e : u = t
  · subst e
    rw [pk_us, h u hu, no1_none hn, no1_some (L := fun v => if v = u then some x else L v) (x := x) (if_pos rfl), show (4 : Int32) = nI 4 from rfl, nI_or, show fc S c g u + 4 * (1 - 1) = fc S c g u from rfl, fc_or hS hg]
  · have e2 : no1 (fun v => if v = t then some x else L v) u = no1 L u := by
      have e3 : (fun v => if v = t then some x else L v) u = L u := if_neg e
      unfold no1; rw [e3]
    rw [pk_un e, e2]; exact h u hu
/-- the class's worklist, levels and facts -/
def CQ (S : Nat → Option (List Nat)) (c g : Nat) (q : QLv) (fa wk lv : Nat → Int32) : Prop := QL wk q.1 ∧ LvR lv q.2 ∧ FaL S c g fa q.2
theorem q_reach_new (hS : SOk S) (hg : g ≤ 12) {q : QLv} {t x : Nat} {fa wk lv : Nat → Int32} (ht : t < 4096) (hn : q.2 t = none) (hl : q.1.length < 4096) (h : CQ S c g q fa wk lv) {post : (Nat → Int32) → Int32 → (Nat → Int32) → (Nat → Int32) → Prop} (hp : ∀ fa wk lv, CQ S c g (q.1 ++ [t], fun u => if u = t then some x else q.2 u) fa wk lv → post fa (nI (q.1.length + 1)) wk lv) : wp_Runs_reach (nI t) (nI x) fa (nI q.1.length) wk lv post := by
  obtain ⟨h1, h2, h3⟩ := h
  have hin : vp_in (nI t) 4096 := vp_in_nI ht (by decide)
  have hc : (nI t).toNatClampNeg = t := nI_clamp (by omega)
  refine q_isState ht (br_f (by decide) ⟨hin, bn_t (by rw [hc, h2 t ht, hn]; rfl) ⟨hin, q_isState ht (br_f (by decide) ⟨hin, hin, br_f (show ¬ nI 4096 ≤ _ from nI_ge hl (by decide)) ⟨vp_in_nI hl (by decide), ?_⟩⟩)⟩⟩)
  rw [hc, nI_clamp (show q.1.length < 2 ^ 31 by omega), nI_1]
  exact hp _ _ _ ⟨QL_push h1, LvR_push h2, FaL_push hS hg ht hn h3⟩
theorem q_reach_old {q : QLv} {t y : Nat} {x : Int32} {fa wk lv : Nat → Int32} (ht : t < 4096) (hn : q.2 t = some y) (hy : y < 2 ^ 31) (h : CQ S c g q fa wk lv) {post : (Nat → Int32) → Int32 → (Nat → Int32) → (Nat → Int32) → Prop} (hp : post fa (nI q.1.length) wk lv) : wp_Runs_reach (nI t) x fa (nI q.1.length) wk lv post := by
  have hc : (nI t).toNatClampNeg = t := nI_clamp (by omega)
  exact q_isState ht (br_f (by decide) ⟨vp_in_nI ht (by decide), bn_f (by rw [hc, h.2.1 t ht, hn]; exact nI_ne_m1 hy) hp⟩)
theorem q_reach_m1 {x n : Int32} {fa wk lv : Nat → Int32} {post : (Nat → Int32) → Int32 → (Nat → Int32) → (Nat → Int32) → Prop} (hp : post fa n wk lv) : wp_Runs_reach (-1) x fa n wk lv post := q_isState_m1 (br_t rfl hp)
theorem q_levelOf {t : Nat} {lv : Nat → Int32} {L : Nat → Option Nat} (ht : t < 4096) (h : LvR lv L) {post : Int32 → Prop} (hp : post (tI (L t))) : wp_Runs_levelOf (nI t) lv post := by
  refine q_isState ht (br_f (by decide) ⟨vp_in_nI ht (by decide), ?_⟩)
  rw [nI_clamp (by omega), h t ht]; exact hp
theorem q_item {Q : List Nat} {wk : Nat → Int32} {k : Nat} (h : QL wk Q) (hk : k < Q.length) (hl : Q.length ≤ 4096) {post : Int32 → Prop} (hp : post (nI (Q.getD k 0))) : wp_Work_item (nI k) (nI Q.length) wk post := by
  refine br_f (nI_pos (by omega)) (br_f (nI_ge hk (by omega)) (br_f (show ¬ nI 4096 ≤ nI k from nI_ge (by omega) (by decide)) ⟨vp_in_nI (by omega) (by decide), ?_⟩))
  rw [nI_clamp (by omega), h k hk]; exact hp
/-- the states before s that begin -/
def la (S : Nat → Option (List Nat)) (s t : Nat) : Option Nat := if t < s then l0 S t else none
theorem fl17 (hS : SOk S) (hg : g ≤ 12) {K : (Nat → Int32) → Int32 → (Nat → Int32) → (Nat → Int32) → Prop} (hK : ∀ fa wk lv, CQ S c g (bl S 4096, la S 4096) fa wk lv → K fa (nI (bl S 4096).length) wk lv) : ∀ m s fa wk lv, s + m = 4096 → CQ S c g (bl S s, la S s) fa wk lv → wp_Runs_findLevels_L17 K (m + 1) (nI s) fa (nI (bl S s).length) wk lv
  | 0, s, fa, wk, lv, hs, h => by
    have : s = 4096 := by omega
    subst this
    exact br_t (show nI 4096 ≤ nI 4096 from nI_le (Nat.le_refl _) (by decide)) (hK fa wk lv h)
  | m + 1, s, fa, wk, lv, hs, h => by
    have hs2 : s < 4096 := by omega
    have hf := h.2.2 s hs2
    have hlt := fc_lt (c := c) hS hg s
    have h1 := fc_1 (c := c) (g := g) s hS (1 - no1 (la S s) s)
    have hb := bl_len (S := S) s
    refine br_f (show ¬ nI 4096 ≤ nI s from nI_ge hs2 (by decide)) (q_hasAll (m := 1) hs2 hf (by show fc S c g s + 4 * (1 - no1 (la S s) s) < 2 ^ 31; omega) (by decide) ?_)
    rw [Nat.and_one_is_mod, nI_1]
    by_cases e : val S s 0 = 0
    · have eb : bl S (s + 1) = bl S s := if_pos e
      have el : la S (s + 1) = la S s := funext (fun t => by
        unfold la
        by_cases e2 : t = s
        · subst e2; rw [if_pos (Nat.lt_succ_self t), if_neg (Nat.lt_irrefl t)]; exact if_pos e
        · by_cases e3 : t < s
          · rw [if_pos e3, if_pos (by omega)]
          · rw [if_neg e3, if_neg (by omega)])
      have := fl17 hS hg hK m (s + 1) fa wk lv (by omega) (by rw [eb, el]; exact h)
      rw [eb] at this
      refine br_t ?_ this
      show b01 (decide ((fc S c g s + 4 * (1 - no1 (la S s) s)) % 2 = 1)) = 0
      rw [h1, e]; rfl
    · have v0 := val_lt2 hS s (s := 0) (by decide)
      have e1 : val S s 0 = 1 := by omega
      have eb : bl S (s + 1) = bl S s ++ [s] := if_neg e
      have el : la S (s + 1) = fun u => if u = s then some 0 else la S s u := funext (fun t => by
        unfold la
        by_cases e2 : t = s
        · subst e2; rw [if_pos (Nat.lt_succ_self t), if_pos rfl]; exact if_neg e
        · rw [if_neg e2]
          by_cases e3 : t < s
          · rw [if_pos e3, if_pos (by omega)]
          · rw [if_neg e3, if_neg (by omega)])
      refine br_f ?_ (q_reach_new (x := 0) (q := (bl S s, la S s)) hS hg hs2 (if_neg (Nat.lt_irrefl s)) (show (bl S s).length < 4096 by omega) h (fun fa2 wk2 lv2 h2 => ?_))
      · show ¬ b01 (decide ((fc S c g s + 4 * (1 - no1 (la S s) s)) % 2 = 1)) = 0
        rw [h1, e1]; decide
      · have := fl17 hS hg hK m (s + 1) fa2 wk2 lv2 (by omega) (by rw [eb, el]; exact h2)
        rw [eb, List.length_append] at this
        exact this
end CB
