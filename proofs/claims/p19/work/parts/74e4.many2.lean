/-! many, in a pair -/
section MB
variable {S : Nat → Option (List Nat)} {c g : Nat}
theorem sel {P : Bool} {v a : Nat} {y t : Int32} {kb : Int32 → Int32 → Int32 → Prop} (hv : v < 2) (hP : P = decide (v = 1)) (h : kb (nI (a + if P then 1 else 0)) y t) : (nI v = 0 → ∀ z, z = nI a + 0 → kb z y t) ∧ (¬ nI v = 0 → ∀ z, z = nI a + 1 → kb z y t) := by
  rcases (show v = 0 ∨ v = 1 by omega) with e | e
  · subst e; subst hP; exact br_t rfl (jk0 rfl h)
  · subst e; subst hP; exact br_f (by decide) (jk1 rfl h)
def mB (S : Nat → Option (List Nat)) (c g a w t : Nat) : Bool := if w = 0 then decide (val S t 0 = 1) else if w = 1 then decide (val S t 1 = 1) else if w = 2 then cmb S c t else if w = 3 then (cmb S c t && decide (en S c t = 1)) else decide (Gb S t g &&& a = a)
def mF (S : Nat → Option (List Nat)) (c g a w t : Nat) : Nat := if w = 5 then prs S c t else if mB S c g a w t then 1 else 0
variable {nr iB iG lv hg : Nat → Int32}
theorem mJ (hS : SOk S) (hc : c ≤ 6) (hg12 : g ≤ 12) (hN : NxR S c nr) (hV : ∀ t, t < 4096 → iB t = nI (val S t 0) ∧ iG t = nI (val S t 1) ∧ hg t = nI (Gb S t g)) {a : Nat} (ha : a < 4096) {w : Nat} (hw : w < 7) : ∀ s, s < 4096 → ∀ (x2 : Nat) (y : Int32) (kb' : Int32 → Int32 → Int32 → Prop) (k : Int32 → Int32 → Prop), kb' (nI (x2 + mF S c g a w s)) y (nI (s + 1)) → wp_Md_many_J73 (nI w) (nI x2) (nI s) (b01 (cmb S c s)) y (nI a) nr iB iG lv hg kb' k := by
  intro s hs x2 y kb' k h
  have hv : vp_in (nI s) 4096 := vp_in_nI hs (by decide)
  have hcl : (nI s).toNatClampNeg = s := nI_clamp (by omega)
  rw [← nI_1 s] at h
  have gk : kb' (nI (x2 + if decide (Gb S s g &&& a = a) then 1 else 0)) y (nI s + 1) → vp_in (nI s) 4096 ∧ ((¬ (hg (nI s).toNatClampNeg &&& nI a : Int32) = nI a → ∀ z, z = nI x2 + 0 → kb' z y (nI s + 1)) ∧ ((hg (nI s).toNatClampNeg &&& nI a : Int32) = nI a → ∀ z, z = nI x2 + 1 → kb' z y (nI s + 1))) := fun h => by
    refine ⟨hv, ?_⟩
    rw [hcl, (hV s hs).2.2, nI_and]
    have hle : Gb S s g &&& a ≤ a := Nat.and_le_right
    have ei : nI (Gb S s g &&& a) = nI a ↔ Gb S s g &&& a = a := nI_eq (by omega) (by omega)
    refine bn_c (fun q => ?_) (fun q => ?_)
    · rw [decide_eq_false (fun z => q (ei.mpr z))] at h; exact jk0 rfl h
    · rw [decide_eq_true (ei.mp q)] at h; exact jk1 rfl h
  rcases (show w = 0 ∨ w = 1 ∨ w = 2 ∨ w = 3 ∨ w = 4 ∨ w = 5 ∨ w = 6 by omega) with e | e | e | e | e | e | e <;> subst e
  · refine ⟨fun _ => ⟨hv, ?_⟩, fun q => absurd q (by decide), fun q => absurd q (by decide), fun q => absurd q (by decide), fun q => absurd q (by decide), fun q => absurd q (by decide), fun q _ _ _ _ _ => absurd rfl q⟩
    rw [hcl, (hV s hs).1]
    exact sel (val_lt2 hS s (s := 0) (by decide)) rfl h
  · refine ⟨fun q => absurd q (by decide), fun _ => ⟨hv, ?_⟩, fun q => absurd q (by decide), fun q => absurd q (by decide), fun q => absurd q (by decide), fun q => absurd q (by decide), fun _ q _ _ _ _ => absurd rfl q⟩
    rw [hcl, (hV s hs).2.1]
    exact sel (val_lt2 hS s (s := 1) (by decide)) rfl h
  · refine ⟨fun q => absurd q (by decide), fun q => absurd q (by decide), fun _ => ?_, fun q => absurd q (by decide), fun q => absurd q (by decide), fun q => absurd q (by decide), fun _ _ q _ _ _ => absurd rfl q⟩
    have h : kb' (nI (x2 + if cmb S c s then 1 else 0)) y (nI s + 1) := h
    cases e : cmb S c s with
    | false => rw [e] at h; exact br_t rfl (jk0 rfl h)
    | true => rw [e] at h; exact br_f (by decide) (jk1 rfl h)
  · refine ⟨fun q => absurd q (by decide), fun q => absurd q (by decide), fun q => absurd q (by decide), fun _ => ?_, fun q => absurd q (by decide), fun q => absurd q (by decide), fun _ _ _ q _ _ => absurd rfl q⟩
    have h : kb' (nI (x2 + if (cmb S c s && decide (en S c s = 1)) then 1 else 0)) y (nI s + 1) := h
    cases e : cmb S c s with
    | false => rw [e] at h; exact br_t rfl (jk0 rfl h)
    | true =>
      rw [e] at h
      exact br_f (by decide) (q_isEnd hS hc hN hs (sel (en_lt s) (Bool.true_and _) h))
  · refine ⟨fun q => absurd q (by decide), fun q => absurd q (by decide), fun q => absurd q (by decide), fun q => absurd q (by decide), fun _ => gk h, fun q => absurd q (by decide), fun _ _ _ _ q _ => absurd rfl q⟩
  · refine ⟨fun q => absurd q (by decide), fun q => absurd q (by decide), fun q => absurd q (by decide), fun q => absurd q (by decide), fun q => absurd q (by decide), fun _ => ?_, fun _ _ _ _ _ q => absurd rfl q⟩
    have h : kb' (nI (x2 + prs S c s)) y (nI s + 1) := h
    unfold prs at h
    cases e : cmb S c s with
    | false => rw [e] at h; exact br_t rfl (jk0 rfl h)
    | true =>
      rw [e] at h
      refine br_f (by decide) ⟨7, un4x hS hN hs (fun z ez => ?_) 6 0 rfl⟩
      rw [ez, nI_add, cw_6 hc]
      exact h
  · refine ⟨fun q => absurd q (by decide), fun q => absurd q (by decide), fun q => absurd q (by decide), fun q => absurd q (by decide), fun q => absurd q (by decide), fun q => absurd q (by decide), fun _ _ _ _ _ _ => gk h⟩
theorem r_many (hS : SOk S) (hc : c ≤ 6) (hg12 : g ≤ 12) (hN : NxR S c nr) (hV : ∀ t, t < 4096 → iB t = nI (val S t 0) ∧ iG t = nI (val S t 1) ∧ hg t = nI (Gb S t g)) (hL : LvR lv (come S c).2) {a : Nat} (ha : a < 4096) {l : Nat} (hl : l < 2) {w : Nat} (hw : w < 7) {post : Int32 → Prop} (h4 : w = 4 → post (tI (grl S c))) (h : w ≠ 4 → post (nI (sm (mF S c g a w) 4096))) : wp_Md_many (nI w) (nI l) (nI a) nr iB iG lv hg post := by
  refine br_f (nI_pos (by omega)) (br_f (nI_pos (by omega)) (br_t (show nI w ≤ nI 6 from nI_le (by omega) (by decide)) ⟨4097, mn26x hS hL (mJ hS hc hg12 hN hV ha hw) ?_ 4096 0 rfl⟩))
  have e4 : nI w = nI 4 ↔ w = 4 := nI_eq (by omega) (by decide)
  refine bn_c (fun q => h (fun z => q (e4.mpr z))) (fun q => ?_)
  rw [mx_grl hS]
  exact h4 (e4.mp q)
theorem c_mask (hS : SOk S) (hg12 : g ≤ 12) {lf : Nat → Int32} (hF : FaL S c g lf (come S c).2) {a t : Nat} (ht : t < 4096) (ha : a < 4096) {post : Int32 → Prop} : (post (b01 (mB S c g a 0 t)) → wp_Loop_hasAll (nI t) 1 lf post) ∧ (post (b01 (mB S c g a 1 t)) → wp_Loop_hasAll (nI t) 2 lf post) ∧ (post (b01 (mB S c g a 2 t)) → wp_Loop_hasAll (nI t) 4 lf post) ∧ (post (b01 (mB S c g a 3 t)) → wp_Loop_hasAll (nI t) 12 lf post) ∧ (post (b01 (mB S c g a 6 t)) → wp_Loop_hasAll (nI t) (nI (16 * a)) lf post) := by
  have hfl := fc_lt (S := S) (c := c) (g := g) hS hg12 t
  have F := fb (c := c) (g := g) hS t _ (show 1 - no1 (come S c).2 t ≤ 1 by omega)
  have ec : decide (1 - no1 (come S c).2 t = 1) = cmb S c t := by
    unfold cmb
    cases e : (come S c).2 t with
    | none => rw [no1_none e]; rfl
    | some x => rw [no1_some e]; rfl
  refine ⟨fun h => ?_, fun h => ?_, fun h => ?_, fun h => ?_, fun h => q_hasKept hS hg12 hF ht ha h⟩
  · refine q_hasAll (m := 2 ^ 0) ht (hF t ht) (by omega) (by decide) ?_
    rw [has_bit, F.1]; exact h
  · refine q_hasAll (m := 2 ^ 1) ht (hF t ht) (by omega) (by decide) ?_
    rw [has_bit, F.2.1]; exact h
  · refine q_hasAll (m := 2 ^ 2) ht (hF t ht) (by omega) (by decide) ?_
    rw [has_bit, F.2.2.1, ec]; exact h
  · refine q_hasAll (m := 2 ^ 2 ||| 2 ^ 3) ht (hF t ht) (by omega) (by decide) ?_
    rw [decide_eq_decide.mpr (and_or _ (2 ^ 2) (2 ^ 3)), Bool.decide_and, has_bit, has_bit, F.2.2.1, F.2.2.2, ec]
    exact h
end MB
section PM
variable {lg lc lgu lu lr rr rg rp gl ml kb : Int32} {lf lt l1 ls rl rpa gr ac nm bg go rk cc wh be gc gs uc nr iB iG lv hg ro : Nat → Int32}
theorem x_many {x : Int32} (G : Gn lg lc lgu lu lr lf lt l1 ls rr rg rp rl rpa gl gr ml kb ac nm bg go rk cc wh be gc gs uc nr iB iG lv hg ro) {Q1 : Prop} {post : Int32 → Int32 → Prop} (h1 : Q1) (h : ∀ r, post r r) : wp_LI_many x lg lc lf lt rg gl (fun r => Q1 ∧ wp_Md_many x ml kb nr iB iG lv hg (fun r' => post r r')) := by
  rcases G with ⟨rfl, rfl⟩ | ⟨rfl, l, S, c, g, u, rfl, hLO, hCI, hRI⟩
  · exact bn_t rfl ⟨h1, br_t (by decide) (h _)⟩
  · obtain ⟨rfl, _, _, _, hF, hT, _, _, _, rfl, _, rfl, _⟩ := hCI
    obtain ⟨hl, _, _, _, _, hN, hV, hL, rfl, _⟩ := hRI
    obtain ⟨hS, _, hc6, hg12, _⟩ := hLO
    have ha := kept_lt (S := S) (c := c) hg12
    generalize (kept S c g).1 = a at *
    have M := fun (w : Nat) (hw : w < 7) (post : Int32 → Prop) => r_many (post := post) hS hc6 hg12 hN hV hL ha hl hw
    have C : ∀ w, w < 4 ∨ w = 6 → sm (mF S c g a w) 4096 = cw (mB S c g a w) 4096 := fun w hw => sm_ext 4096 (fun t _ => by
      show (if w = 5 then prs S c t else if mB S c g a w t then 1 else 0) = _
      rw [if_neg (by omega)])
    refine bn_f (by decide) ⟨fun e => ?_, fun e => ?_, fun e => ?_, fun e => ?_, fun e => ⟨h1, ?_⟩, fun e => ?_, fun e => ?_, fun n0 n1 n2 n3 n4 n5 n6 => ⟨h1, ?_⟩⟩
    · subst e
      refine c_countWith (P := mB S c g a 0) (fun t ht post hp => (c_mask hS hg12 hF ht ha).1 hp) ⟨h1, M 0 (by decide) _ (fun q => absurd q (by decide)) (fun _ => ?_)⟩
      rw [C 0 (by decide)]; exact h _
    · subst e
      refine c_countWith (P := mB S c g a 1) (fun t ht post hp => (c_mask hS hg12 hF ht ha).2.1 hp) ⟨h1, M 1 (by decide) _ (fun q => absurd q (by decide)) (fun _ => ?_)⟩
      rw [C 1 (by decide)]; exact h _
    · subst e
      refine c_countWith (P := mB S c g a 2) (fun t ht post hp => (c_mask hS hg12 hF ht ha).2.2.1 hp) ⟨h1, M 2 (by decide) _ (fun q => absurd q (by decide)) (fun _ => ?_)⟩
      rw [C 2 (by decide)]; exact h _
    · subst e
      refine c_countWith (P := mB S c g a 3) (fun t ht post hp => (c_mask hS hg12 hF ht ha).2.2.2.1 hp) ⟨h1, M 3 (by decide) _ (fun q => absurd q (by decide)) (fun _ => ?_)⟩
      rw [C 3 (by decide)]; exact h _
    · subst e
      exact M 4 (by decide) _ (fun _ => h _) (fun q => absurd rfl q)
    · subst e
      refine ⟨4097, cp4x hS hc6 hg12 hF hT ⟨h1, M 5 (by decide) _ (fun q => absurd q (by decide)) (fun _ => ?_)⟩ 4096 0 rfl⟩
      rw [show sm (mF S c g a 5) 4096 = sm (prs S c) 4096 from sm_ext 4096 (fun t _ => if_pos rfl)]; exact h _
    · subst e
      refine q_keptFacts ha (c_countWith (P := mB S c g a 6) (fun t ht post hp => (c_mask hS hg12 hF ht ha).2.2.2.2 hp) ⟨h1, M 6 (by decide) _ (fun q => absurd q (by decide)) (fun _ => ?_)⟩)
      rw [C 6 (by decide)]; exact h _
    · refine br_f (nI_pos (by omega)) (br_c (fun _ => h _) (fun q => br_c (fun q6 => ?_) (fun _ => h _)))
      obtain ⟨w, hw, e⟩ := nI_of q
      subst e
      have hw6 : w ≤ 6 := (nI_leI hw (by decide)).mp q6
      rcases (show w = 0 ∨ w = 1 ∨ w = 2 ∨ w = 3 ∨ w = 4 ∨ w = 5 ∨ w = 6 by omega) with e | e | e | e | e | e | e <;> subst e
      · exact absurd rfl n0
      · exact absurd rfl n1
      · exact absurd rfl n2
      · exact absurd rfl n3
      · exact absurd rfl n4
      · exact absurd rfl n5
      · exact absurd rfl n6
end PM
