/-! the reference's values of steps -/
def Okx (x : Nat) : Prop := x < 19 ∨ x = 300 ∨ x = 268 ∨ x = 267 ∨ x = 266 ∨ x = 43 ∨ x = 45 ∨ x = 42 ∨ x = 60 ∨ x = 61 ∨ x = 35
def OkX (X : Nat → Nat → PR) : Prop := ∀ i u i' u' o, X i u = some (i', u', o) → ∀ x ∈ o, Okx x
theorem ok_app {o1 o2 : List Nat} (h1 : ∀ x ∈ o1, Okx x) (h2 : ∀ x ∈ o2, Okx x) : ∀ x ∈ o1 ++ o2, Okx x := fun x hx => (List.mem_append.mp hx).elim (h1 x) (h2 x)
theorem ok_one {y : Nat} (h : Okx y) : ∀ x ∈ [y], Okx x := fun x hx => by rw [List.mem_singleton.mp hx]; exact h
theorem lp_ok {K : Nat → Nat} {S : Nat → Bool} {X : Nat → Nat → PR} (hS : ∀ x, S x = true → Okx x) (hX : OkX X) : ∀ k i u o i' u' o', (∀ x ∈ o, Okx x) → lp K S X k i u o = some (i', u', o') → ∀ x ∈ o', Okx x
  | 0, i, u, o, i', u', o', ho, h => by
    simp only [lp, Option.some.injEq, Prod.mk.injEq] at h
    obtain ⟨_, _, rfl⟩ := h
    exact ho
  | k + 1, i, u, o, i', u', o', ho, h => by
    simp only [lp] at h
    split at h
    · next hs =>
      cases hx : X (i + 1) u with
      | none => rw [hx] at h; cases h
      | some t =>
        obtain ⟨i1, u1, o1⟩ := t
        rw [hx] at h
        exact lp_ok hS hX k _ _ _ _ _ _ (ok_app (ok_app ho (hX _ _ _ _ _ hx)) (ok_one (hS _ hs))) h
    · simp only [Option.some.injEq, Prod.mk.injEq] at h
      obtain ⟨_, _, rfl⟩ := h
      exact ho
theorem sq_ok {K : Nat → Nat} {S : Nat → Bool} {X : Nat → Nat → PR} (hS : ∀ x, S x = true → Okx x) (hX : OkX X) : OkX (sq K S X) := by
  intro i u i' u' o h
  unfold sq at h
  cases hx : X i u with
  | none => rw [hx] at h; cases h
  | some t =>
    obtain ⟨i1, u1, o1⟩ := t
    rw [hx] at h
    exact lp_ok hS hX _ _ _ _ _ _ _ (hX _ _ _ _ _ hx) h
theorem none_ok : OkX (fun _ _ => none) := fun i u i' u' o h => by cases h
theorem sT_k (x : Nat) (h : sT x = true) : Okx x := by
  have : x = 42 := by simpa [sT] using h
  unfold Okx; omega
theorem sE_k (x : Nat) (h : sE x = true) : Okx x := by
  have : x = 43 ∨ x = 45 := by simpa [sE] using h
  unfold Okx; omega
theorem sA_k (x : Nat) (h : sA x = true) : Okx x := by
  have : x = 267 := by simpa [sA] using h
  unfold Okx; omega
theorem sO_k (x : Nat) (h : sO x = true) : Okx x := by
  have : x = 266 := by simpa [sO] using h
  unfold Okx; omega
theorem pU1_ok {K V : Nat → Nat} {U E : Nat → Nat → PR} (hV8 : ∀ j, K j = 258 → V j < 16) (hV9 : ∀ j, K j = 259 → V j < 3) (hU : OkX U) (hE : OkX E) : OkX (pU1 K V U E) := by
  intro i u i' u' o h
  unfold pU1 at h
  split at h
  · cases h
  split at h
  · cases hx : U (i + 1) (u + 1) with
    | none => rw [hx] at h; cases h
    | some t =>
      obtain ⟨i1, u1, o1⟩ := t
      rw [hx] at h
      simp only [Option.some.injEq, Prod.mk.injEq] at h
      obtain ⟨_, _, rfl⟩ := h
      exact ok_app (hU _ _ _ _ _ hx) (ok_one (Or.inr (Or.inl rfl)))
  split at h
  · cases hx : E (i + 1) (u + 1) with
    | none => rw [hx] at h; cases h
    | some t =>
      obtain ⟨i1, u1, o1⟩ := t
      rw [hx] at h
      simp only at h
      split at h
      · simp only [Option.some.injEq, Prod.mk.injEq] at h
        obtain ⟨_, _, rfl⟩ := h
        exact hE _ _ _ _ _ hx
      · cases h
  split at h
  · next h9 =>
    simp only [Option.some.injEq, Prod.mk.injEq] at h
    obtain ⟨_, _, rfl⟩ := h
    have := hV9 i h9
    exact ok_one (Or.inl (by omega))
  split at h
  · next h8 =>
    simp only [Option.some.injEq, Prod.mk.injEq] at h
    obtain ⟨_, _, rfl⟩ := h
    have := hV8 i h8
    exact ok_one (Or.inl (by omega))
  · cases h
theorem pU_ok {K V : Nat → Nat} (hV8 : ∀ j, K j = 258 → V j < 16) (hV9 : ∀ j, K j = 259 → V j < 3) : ∀ r, OkX (pU K V r)
  | 0 => pU1_ok hV8 hV9 none_ok none_ok
  | r + 1 => pU1_ok hV8 hV9 (pU_ok hV8 hV9 r) (sq_ok sE_k (sq_ok sT_k (pU_ok hV8 hV9 r)))
theorem pE_ok {K V : Nat → Nat} (hV8 : ∀ j, K j = 258 → V j < 16) (hV9 : ∀ j, K j = 259 → V j < 3) (r : Nat) : OkX (pE K V r) := sq_ok sE_k (sq_ok sT_k (pU_ok hV8 hV9 r))
theorem pP1_ok {K : Nat → Nat} {P C E : Nat → Nat → PR} (hP : OkX P) (hC : OkX C) (hE : OkX E) : OkX (pP1 K P C E) := by
  intro i u i' u' o h
  unfold pP1 at h
  split at h
  · cases hx : P (i + 1) u with
    | none => rw [hx] at h; cases h
    | some t =>
      obtain ⟨i1, u1, o1⟩ := t
      rw [hx] at h
      simp only [Option.some.injEq, Prod.mk.injEq] at h
      obtain ⟨_, _, rfl⟩ := h
      exact ok_app (hP _ _ _ _ _ hx) (ok_one (Or.inr (Or.inr (Or.inl rfl))))
  split at h
  · cases hx : C (i + 1) u with
    | none => rw [hx] at h; cases h
    | some t =>
      obtain ⟨i1, u1, o1⟩ := t
      rw [hx] at h
      simp only at h
      split at h
      · simp only [Option.some.injEq, Prod.mk.injEq] at h
        obtain ⟨_, _, rfl⟩ := h
        exact hC _ _ _ _ _ hx
      · cases h
  · cases hx : E i u with
    | none => rw [hx] at h; cases h
    | some t =>
      obtain ⟨i1, u1, o1⟩ := t
      rw [hx] at h
      simp only at h
      split at h
      · next h4 =>
        cases hy : E (i1 + 1) u1 with
        | none => rw [hy] at h; cases h
        | some t2 =>
          obtain ⟨i2, u2, o2⟩ := t2
          rw [hy] at h
          simp only [Option.some.injEq, Prod.mk.injEq] at h
          obtain ⟨_, _, rfl⟩ := h
          have hr : (K i1 = 60 ∨ K i1 = 35) ∨ K i1 = 61 := by simpa [rel] using h4
          exact ok_app (ok_app (hE _ _ _ _ _ hx) (hE _ _ _ _ _ hy)) (ok_one (by unfold Okx; omega))
      · cases h
theorem pP_ok {K V : Nat → Nat} (hV8 : ∀ j, K j = 258 → V j < 16) (hV9 : ∀ j, K j = 259 → V j < 3) : ∀ r, OkX (pP K V r)
  | 0 => pP1_ok none_ok none_ok (pE_ok hV8 hV9 0)
  | r + 1 => pP1_ok (pP_ok hV8 hV9 r) (sq_ok sO_k (sq_ok sA_k (pP_ok hV8 hV9 r))) (pE_ok hV8 hV9 (r + 1))
theorem pC_ok {K V : Nat → Nat} (hV8 : ∀ j, K j = 258 → V j < 16) (hV9 : ∀ j, K j = 259 → V j < 3) (r : Nat) : OkX (pC K V r) := sq_ok sO_k (sq_ok sA_k (pP_ok hV8 hV9 r))
theorem q_two {x a b : Nat} (hx : x = 267 ∨ x = 266 ∨ x = 43 ∨ x = 45 ∨ x = 42 ∨ x = 60 ∨ x = 61 ∨ x = 35) (ha : a < 16) (hb : b < 16) {post : Int32 → Prop} (h : post (nI (bin x a b))) : wp_Md_two (nI (AK x)) (nI a) (nI b) post := by
  have eab : nI a = nI b ↔ a = b := nI_eq (by omega) (by omega)
  have i := i_add a ha b hb
  have t5 : nI (AK x) = 5 → post (nI a &&& nI b) := fun q => by
    rcases hx with rfl | rfl | rfl | rfl | rfl | rfl | rfl | rfl
    · rw [i.2.2.2.1]; exact h
    all_goals exact absurd q (by decide)
  have t6 : nI (AK x) = 6 → post (nI a ||| nI b) := fun q => by
    rcases hx with rfl | rfl | rfl | rfl | rfl | rfl | rfl | rfl
    · exact absurd q (by decide)
    · rw [i.2.2.2.2]; exact h
    all_goals exact absurd q (by decide)
  refine ⟨t5, t6, fun q => ?_, fun q => ?_, fun q => ?_, fun q => ?_, fun q => ?_, fun q1 q2 q3 q4 q5 q6 q7 => ?_⟩
  · have e : x = 35 := by rcases hx with rfl | rfl | rfl | rfl | rfl | rfl | rfl | rfl <;> first | rfl | exact absurd q (by decide)
    subst e
    have h : post (nI (if a = b then 0 else 1)) := h
    refine br_c (fun r => ?_) (fun r => ?_)
    · rw [if_pos (eab.mp r)] at h; exact h
    · rw [if_neg (fun z => r (eab.mpr z))] at h; exact h
  · have e : x = 43 := by rcases hx with rfl | rfl | rfl | rfl | rfl | rfl | rfl | rfl <;> first | rfl | exact absurd q (by decide)
    subst e
    rw [i.1]; exact h
  · have e : x = 45 := by rcases hx with rfl | rfl | rfl | rfl | rfl | rfl | rfl | rfl <;> first | rfl | exact absurd q (by decide)
    subst e
    rw [i.2.1]; exact h
  · have e : x = 60 := by rcases hx with rfl | rfl | rfl | rfl | rfl | rfl | rfl | rfl <;> first | rfl | exact absurd q (by decide)
    subst e
    have h : post (nI (if a < b then 1 else 0)) := h
    refine pk_le b a (fun r => ?_) (fun r => ?_)
    · rw [if_neg (by omega)] at h; exact h
    · rw [if_pos r] at h; exact h
  · have e : x = 61 := by rcases hx with rfl | rfl | rfl | rfl | rfl | rfl | rfl | rfl <;> first | rfl | exact absurd q (by decide)
    subst e
    have h : post (nI (if a = b then 1 else 0)) := h
    refine bn_c (fun r => ?_) (fun r => ?_)
    · rw [if_neg (fun z => r (eab.mpr z))] at h; exact h
    · rw [if_pos (eab.mp r)] at h; exact h
  · have e : x = 42 := by rcases hx with rfl | rfl | rfl | rfl | rfl | rfl | rfl | rfl <;> first | rfl | exact absurd rfl q1 | exact absurd rfl q2 | exact absurd rfl q3 | exact absurd rfl q4 | exact absurd rfl q5 | exact absurd rfl q6 | exact absurd rfl q7
    subst e
    rw [i.2.2.1]; exact h
theorem r_work_L {s : Nat} {acts nums : Nat → Int32} (hs : s < 4096) {K : (Nat → Int32) → Prop} : ∀ (o st stf : List Nat) (p : Nat) (stack : Nat → Int32), p + o.length < 3000 → (∀ k, k < o.length → acts (p + k) = nI (AK (o.getD k 0)) ∧ nums (p + k) = nI (AV (o.getD k 0))) → acts (p + o.length) = 7 → (∀ x ∈ o, Okx x) → (∀ y ∈ st, y < 16) → PO stack st → st.length ≤ 100 → rn 100 s o st = some stf → (∀ stack', PO stack' stf → K stack') → wp_Md_work_L5 (nI s) acts nums K (o.length + 1) (nI st.length) (nI p) stack
  | [], st, stf, p, stack, hp, _, h7, _, _, hP, _, hr, hK => by
    cases hr
    refine ⟨vp_in_nI (by simpa using hp) (by decide), ?_⟩
    rw [nI_clamp (by simp at hp; omega)]
    exact br_t h7 (hK stack hP)
  | x :: o, st, stf, p, stack, hp, ha, h7, hx, h16, hP, hl, hr, hK => by
    rw [List.length_cons] at hp
    have hx0 := hx x (List.mem_cons_self ..)
    have hr : (sp 100 s x st).bind (rn 100 s o) = some stf := hr
    obtain ⟨st', e1, hr⟩ := bnd hr
    have h16' := sp_16 e1 h16
    have hin : vp_in (nI p) 3000 := vp_in_nI (by omega) (by decide)
    have go : ∀ stack', PO stack' st' → st'.length ≤ 100 → wp_Md_work_L5 (nI s) acts nums K (o.length + 1) (nI st'.length) (nI (p + 1)) stack' := fun stack' hP' hl' =>
      r_work_L hs o st' stf (p + 1) stack' (by omega) (fun k hk => by
        have := ha (k + 1) (by rw [List.length_cons]; omega)
        rw [show p + (k + 1) = p + 1 + k by omega] at this
        exact this) (by rw [List.length_cons] at h7; rw [show p + 1 + o.length = p + (o.length + 1) by omega]; exact h7) (fun y hy => hx y (List.mem_cons_of_mem _ hy)) h16' hP' hl' hr hK
    have ha0 := ha 0 (by rw [List.length_cons]; omega)
    rw [Nat.add_zero] at ha0
    have ha1 : acts p = nI (AK x) := ha0.1
    have ha2 : nums p = nI (AV x) := ha0.2
    refine ⟨hin, ?_⟩
    rw [nI_clamp (by omega), ha1, ha2]
    have hAK7 : ¬ nI (AK x) = 7 := by
      rcases hx0 with q | q | q | q | q | q | q | q | q | q | q
      · by_cases h15 : x < 16
        · rw [show AK x = 1 from if_pos h15]; decide
        · rw [show AK x = 2 by unfold AK; rw [if_neg h15, if_pos q]]; decide
      all_goals rw [q]; decide
    refine br_f hAK7 ⟨hin, nm_e ?_⟩
    unfold sp at e1
    by_cases g1 : x < 16
    · rw [if_pos g1] at e1
      split at e1
      · next hlt =>
        cases e1
        have k1 : AK x = 1 := if_pos g1
        have k2 : AV x = x := if_pos g1
        rw [k1, k2]
        refine br_t (by decide) (bn_t (by decide) ⟨hin, vp_in_nI (by omega) (by decide), ?_⟩)
        rw [nI_clamp (by omega), nI_1, nI_1]
        exact go _ (PO_push hP x) (by rw [List.length_cons]; omega)
      · cases e1
    rw [if_neg g1] at e1
    by_cases g2 : x < 19
    · rw [if_pos g2] at e1
      split at e1
      · next hlt =>
        cases e1
        have k1 : AK x = 2 := by unfold AK; rw [if_neg g1, if_pos g2]
        have k2 : AV x = x - 16 := by unfold AV; rw [if_neg g1, if_pos g2]
        rw [k1, k2]
        refine br_f (by decide) (bn_t (by decide) (bn_f (by decide) ⟨hin, ?_⟩))
        unfold wp_Md_variableOf
        rw [nb_sh hs (by omega)]
        refine ⟨vp_in_nI (by omega) (by decide), ?_⟩
        rw [nI_clamp (by omega), nI_1, nI_1]
        exact go _ (PO_push hP _) (by rw [List.length_cons]; omega)
      · cases e1
    rw [if_neg g2] at e1
    cases st with
    | nil => cases e1
    | cons y st1 =>
      have hy := h16 y (List.mem_cons_self ..)
      rw [List.length_cons] at hl
      simp only at e1
      have eidx : nI (y :: st1).length - 1 = nI st1.length := nI_pred _
      have hin3 : vp_in (nI st1.length) 300 := vp_in_nI (by omega) (by decide)
      by_cases h300 : x = 300
      · subst h300
        rw [if_pos rfl] at e1
        cases e1
        refine br_f (by decide) (bn_f (by decide) (bn_t (by decide) ?_))
        rw [eidx]
        refine ⟨hin3, hin3, ?_⟩
        rw [nI_clamp (by omega), hP.1, i_neg y hy, nI_1]
        exact go _ (PO_push hP.2 _) (by rw [List.length_cons]; omega)
      rw [if_neg h300] at e1
      by_cases h268 : x = 268
      · subst h268
        rw [if_pos rfl] at e1
        split at e1
        · next h2 =>
          cases e1
          refine br_f (by decide) (bn_f (by decide) (bn_f (by decide) (bn_t (by decide) ?_)))
          rw [eidx]
          refine ⟨hin3, hin3, ?_⟩
          rw [nI_clamp (by omega), hP.1, i_not y h2, nI_1]
          exact go _ (PO_push hP.2 _) (by rw [List.length_cons]; omega)
        · cases e1
      rw [if_neg h268] at e1
      cases st1 with
      | nil => cases e1
      | cons y1 st2 =>
        have hy1 := h16 y1 (List.mem_cons_of_mem _ (List.mem_cons_self ..))
        simp only at e1
        cases e1
        rw [List.length_cons] at hl
        have hx8 : x = 267 ∨ x = 266 ∨ x = 43 ∨ x = 45 ∨ x = 42 ∨ x = 60 ∨ x = 61 ∨ x = 35 := by unfold Okx at hx0; omega
        have n1 : ¬ nI (AK x) = 1 ∧ ¬ nI (AK x) = 2 ∧ ¬ nI (AK x) = 3 ∧ ¬ nI (AK x) = 4 := by
          rcases hx8 with rfl | rfl | rfl | rfl | rfl | rfl | rfl | rfl <;> decide
        refine br_f n1.1 (bn_f n1.2.1 (bn_f n1.2.2.1 (bn_f n1.2.2.2 ?_)))
        have em1 : nI (y :: y1 :: st2).length + (-1) = nI (y1 :: st2).length := pk_m1 _
        have em2 : nI (y1 :: st2).length - 1 = nI st2.length := nI_pred _
        rw [em1, em2]
        refine ⟨vp_in_nI (by omega) (by decide), ?_⟩
        rw [nI_clamp (by omega)]
        refine nm_r (e' := nI y1) hP.2.1 ⟨vp_in_nI (by rw [List.length_cons]; omega) (by decide), ?_⟩
        rw [nI_clamp (by rw [List.length_cons]; omega)]
        refine nm_r (e' := nI y) hP.1 (q_two hx8 hy1 hy ⟨vp_in_nI (by omega) (by decide), ?_⟩)
        rw [nI_1]
        exact go _ (PO_push hP.2.2 _) (by rw [List.length_cons]; omega)
theorem r_work {s p v : Nat} {o : List Nat} {acts nums stack : Nat → Int32} (hs : s < 4096) (hp : p + o.length < 3000) (ha : ∀ k, k < o.length → acts (p + k) = nI (AK (o.getD k 0)) ∧ nums (p + k) = nI (AV (o.getD k 0))) (h7 : acts (p + o.length) = 7) (hx : ∀ x ∈ o, Okx x) (hr : rn 100 s o [] = some [v]) {post : Int32 → (Nat → Int32) → Prop} (h : ∀ stack', post (nI v) stack') : wp_Md_work (nI p) (nI s) acts nums stack post := by
  refine ⟨o.length + 1, r_work_L hs o [] [v] p stack hp ha h7 hx (fun y hy => (by cases hy)) trivial (by decide) hr (fun stack' hP => ⟨vp_in_nI (n := 0) (by decide) (by decide), ?_⟩)⟩
  have := h stack'
  rw [← show stack' 0 = nI v from hP.1] at this
  exact this
