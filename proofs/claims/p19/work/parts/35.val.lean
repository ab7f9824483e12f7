/-! the class's and the reference's values of steps -/
theorem or_16 : ∀ a, a < 16 → ∀ b, b < 16 → (a ||| b) < 16 ∧ (a &&& b) < 16 := by decide +kernel
theorem bin_lt {x a b : Nat} (ha : a < 16) (hb : b < 16) : bin x a b < 16 := by
  unfold bin
  split
  · omega
  split
  · omega
  split
  · omega
  split
  · split <;> decide
  split
  · split <;> decide
  split
  · split <;> decide
  split
  · exact (or_16 a ha b hb).2
  · exact (or_16 a ha b hb).1
theorem sp_16 {H s x : Nat} {st st' : List Nat} (h : sp H s x st = some st') (hs : ∀ y ∈ st, y < 16) : ∀ y ∈ st', y < 16 := by
  unfold sp at h
  split at h
  · next hx =>
    split at h
    · cases h; intro y hy; rcases List.mem_cons.mp hy with rfl | hy
      · exact hx
      · exact hs y hy
    · cases h
  split at h
  · split at h
    · cases h; intro y hy; rcases List.mem_cons.mp hy with rfl | hy
      · exact Nat.mod_lt _ (by decide)
      · exact hs y hy
    · cases h
  cases st with
  | nil => cases h
  | cons a st1 =>
    have ha := hs a (List.mem_cons_self ..)
    simp only at h
    split at h
    · cases h; intro y hy; rcases List.mem_cons.mp hy with rfl | hy
      · exact Nat.mod_lt _ (by decide)
      · exact hs y (List.mem_cons_of_mem _ hy)
    split at h
    · split at h
      · cases h; intro y hy; rcases List.mem_cons.mp hy with rfl | hy
        · omega
        · exact hs y (List.mem_cons_of_mem _ hy)
      · cases h
    cases st1 with
    | nil => cases h
    | cons a1 st2 =>
      simp only at h
      cases h; intro y hy; rcases List.mem_cons.mp hy with rfl | hy
      · exact bin_lt (hs a1 (List.mem_cons_of_mem _ (List.mem_cons_self ..))) ha
      · exact hs y (List.mem_cons_of_mem _ (List.mem_cons_of_mem _ hy))
theorem i_add : ∀ a, a < 16 → ∀ b, b < 16 → (nI a + nI b) &&& 15 = nI ((a + b) % 16) ∧ (nI a - nI b) &&& 15 = nI ((a + 16 - b) % 16) ∧ (nI a * nI b) &&& 15 = nI (a * b % 16) ∧ nI a &&& nI b = nI (a &&& b) ∧ nI a ||| nI b = nI (a ||| b) := by decide +kernel
theorem i_neg : ∀ a, a < 16 → (-nI a) &&& 15 = nI ((16 - a) % 16) := by decide +kernel
theorem i_not : ∀ a, a < 2 → 1 - nI a = nI (1 - a) := by decide +kernel
theorem nb_sh {s v : Nat} (hs : s < 4096) (hv : v < 3) : (nI s >>> ((4 * nI v) &&& 31)) &&& 15 = nI (nb s v) := by
  rcases (show v = 0 ∨ v = 1 ∨ v = 2 by omega) with rfl | rfl | rfl
  · rw [pk_shrN (by omega) _ 0 (by decide +kernel), pk_andN (by omega) 4 rfl]; rfl
  · rw [pk_shrN (by omega) _ 4 (by decide +kernel), pk_andN (by omega) 4 rfl]; rfl
  · rw [pk_shrN (by omega) _ 8 (by decide +kernel), pk_andN (by omega) 4 rfl]; rfl
theorem q_cpush {v : Int32} {h : Nat} {stack : Nat → Int32} (hh : h < 100) {post : Int32 → (Nat → Int32) → Prop} (hp : post (nI (h + 1)) (upd stack h v)) : wp_Code_push v (nI h) stack post := by
  refine br_f (show ¬ nI 100 ≤ nI h from nI_ge hh (by decide)) ⟨vp_in_nI hh (by decide), ?_⟩
  rw [nI_clamp (by omega), nI_1]; exact hp
theorem q_cpop {h : Nat} {stack : Nat → Int32} (hh : h < 100) {post : Int32 → Int32 → Prop} (hp : post (stack h) (nI h)) : wp_Code_pop (nI (h + 1)) stack post := by
  refine br_t (by rw [show (0 : Int32) = nI 0 from rfl]; exact nI_lt (by omega) (by omega)) ?_
  rw [nI_pred, nI_clamp (by omega)]
  exact ⟨vp_in_nI hh (by decide), hp⟩
theorem q_joined {x a b : Nat} (hx : x < 2000) (ha : a < 16) (hb : b < 16) {post : Int32 → Prop} (h : post (nI (bin x a b))) : wp_Code_joined (nI x) (nI a) (nI b) post := by
  have k : ∀ c, c < 2000 → (nI x = nI c ↔ x = c) := fun c hc => nI_eq (by omega) (by omega)
  have eab : nI a = nI b ↔ a = b := nI_eq (by omega) (by omega)
  have i := i_add a ha b hb
  refine ⟨fun q => ?_, fun q => ?_, fun q => ?_, fun q => ?_, fun q => ?_, fun q => ?_, fun q => ?_, fun q1 q2 q3 q4 q5 q6 q7 => ?_⟩
  · have e := (k 35 (by decide)).mp q
    subst e
    refine br_c (fun r => ?_) (fun r => ?_)
    · have h : post (nI (if a = b then 0 else 1)) := h
      rw [if_pos (eab.mp r)] at h; exact h
    · have h : post (nI (if a = b then 0 else 1)) := h
      rw [if_neg (fun z => r (eab.mpr z))] at h; exact h
  · have e := (k 42 (by decide)).mp q
    subst e
    rw [i.2.2.1]; exact h
  · have e := (k 43 (by decide)).mp q
    subst e
    rw [i.1]; exact h
  · have e := (k 45 (by decide)).mp q
    subst e
    rw [i.2.1]; exact h
  · have e := (k 60 (by decide)).mp q
    subst e
    have h : post (nI (if a < b then 1 else 0)) := h
    refine pk_le b a (fun r => ?_) (fun r => ?_)
    · rw [if_neg (by omega)] at h; exact h
    · rw [if_pos r] at h; exact h
  · have e := (k 61 (by decide)).mp q
    subst e
    have h : post (nI (if a = b then 1 else 0)) := h
    refine bn_c (fun r => ?_) (fun r => ?_)
    · rw [if_neg (fun z => r (eab.mpr z))] at h; exact h
    · rw [if_pos (eab.mp r)] at h; exact h
  · have e := (k 267 (by decide)).mp q
    subst e
    rw [i.2.2.2.1]; exact h
  · rw [i.2.2.2.2]
    unfold bin at h
    rw [if_neg (fun z => q3 ((k 43 (by decide)).mpr z)), if_neg (fun z => q4 ((k 45 (by decide)).mpr z)), if_neg (fun z => q2 ((k 42 (by decide)).mpr z)), if_neg (fun z => q5 ((k 60 (by decide)).mpr z)), if_neg (fun z => q6 ((k 61 (by decide)).mpr z)), if_neg (fun z => q1 ((k 35 (by decide)).mpr z)), if_neg (fun z => q7 ((k 267 (by decide)).mpr z))] at h
    exact h
theorem c_value_L {s e : Nat} {steps : Nat → Int32} (hs : s < 4096) (he : e ≤ 1200) {K : Int32 → (Nat → Int32) → Prop} : ∀ (o st stf : List Nat) (a : Nat) (stack : Nat → Int32), a + o.length = e → (∀ k, k < o.length → steps (a + k) = nI (o.getD k 0)) → (∀ x ∈ o, x < 2000) → (∀ y ∈ st, y < 16) → PO stack st → st.length ≤ 100 → rn 100 s o st = some stf → (∀ stack', PO stack' stf → K (nI stf.length) stack') → wp_Code_valueIn_L8 (nI s) (nI e) steps K (o.length + 1) (nI a) (nI st.length) stack
  | [], st, stf, a, stack, ha, _, _, _, hP, _, hr, hK => by
    cases hr
    exact br_f (nI_pos (by omega)) (br_t (nI_le (by rw [← ha]; exact Nat.le_refl _) (by omega)) (hK stack hP))
  | x :: o, st, stf, a, stack, ha, hst, hx, h16, hP, hl, hr, hK => by
    rw [List.length_cons] at ha
    have hx0 := hx x (List.mem_cons_self ..)
    have hr : (sp 100 s x st).bind (rn 100 s o) = some stf := hr
    obtain ⟨st', e1, hr⟩ := bnd hr
    have h16' := sp_16 e1 h16
    have go : ∀ stack', PO stack' st' → st'.length ≤ 100 → wp_Code_valueIn_L8 (nI s) (nI e) steps K (o.length + 1) (nI (a + 1)) (nI st'.length) stack' := fun stack' hP' hl' =>
      c_value_L hs he o st' stf (a + 1) stack' (by omega) (fun k hk => by
        have := hst (k + 1) (by rw [List.length_cons]; omega)
        rw [show a + (k + 1) = a + 1 + k by omega] at this
        exact this) (fun y hy => hx y (List.mem_cons_of_mem _ hy)) h16' hP' hl' hr hK
    refine br_f (nI_pos (by omega)) (br_f (nI_ge (by omega) (by omega)) (br_f (show ¬ nI 1200 ≤ nI a from nI_ge (by omega) (by decide)) ⟨vp_in_nI (by omega) (by decide), ?_⟩))
    rw [nI_clamp (by omega)]
    have hsa := hst 0 (by rw [List.length_cons]; omega)
    rw [Nat.add_zero] at hsa
    refine nm_r (e' := nI x) hsa ?_
    rw [nI_1]
    unfold sp at e1
    refine pk_le 16 x (fun g1 => ?_) (fun g1 => ?_)
    rotate_left
    · rw [if_pos g1] at e1
      split at e1
      · next hlt => cases e1; exact q_cpush hlt (go _ (PO_push hP x) (by rw [List.length_cons]; omega))
      · cases e1
    rw [if_neg (by omega)] at e1
    refine pk_le 19 x (fun g2 => ?_) (fun g2 => ?_)
    rotate_left
    · rw [if_pos g2] at e1
      split at e1
      · next hlt =>
        cases e1
        have ev : (nI s >>> ((4 * (nI x - 16)) &&& 31)) &&& 15 = nI (nb s (x - 16)) := by
          rw [show nI x - 16 = nI (x - 16) from pk_sub (b := 16) g1]
          exact nb_sh hs (by omega)
        rw [ev]
        exact q_cpush hlt (go _ (PO_push hP _) (by rw [List.length_cons]; omega))
      · cases e1
    rw [if_neg (by omega)] at e1
    have e300 : nI x = 300 ↔ x = 300 := nI_eq (b := 300) (by omega) (by decide)
    have e268 : nI x = 268 ↔ x = 268 := nI_eq (b := 268) (by omega) (by decide)
    cases st with
    | nil => cases e1
    | cons y st1 =>
      have hy := h16 y (List.mem_cons_self ..)
      rw [List.length_cons] at hl
      simp only at e1
      refine bn_c (fun n300 => bn_c (fun n268 => ?_) (fun n268 => ?_)) (fun n300 => ?_)
      · rw [if_neg (fun z => n300 (e300.mpr z)), if_neg (fun z => n268 (e268.mpr z))] at e1
        cases st1 with
        | nil => cases e1
        | cons y1 st2 =>
          have hy1 := h16 y1 (List.mem_cons_of_mem _ (List.mem_cons_self ..))
          simp only at e1
          cases e1
          rw [List.length_cons] at hl
          refine q_cpop (h := (y1 :: st2).length) (by rw [List.length_cons]; omega) (q_cpop (h := st2.length) (by omega) ?_)
          rw [hP.1, hP.2.1]
          refine q_joined hx0 hy1 hy (q_cpush (by omega) (go _ (PO_push hP.2.2 _) (by rw [List.length_cons]; omega)))
      · have hxx := e268.mp n268
        rw [if_neg (fun z => n300 (e300.mpr z)), if_pos hxx] at e1
        split at e1
        · next h2 =>
          cases e1
          refine q_cpop (h := st1.length) (by omega) ?_
          rw [hP.1, i_not y h2]
          exact q_cpush (by omega) (go _ (PO_push hP.2 _) (by rw [List.length_cons]; omega))
        · cases e1
      · have hxx := e300.mp n300
        rw [if_pos hxx] at e1
        cases e1
        refine q_cpop (h := st1.length) (by omega) ?_
        rw [hP.1, i_neg y hy]
        exact q_cpush (by omega) (go _ (PO_push hP.2 _) (by rw [List.length_cons]; omega))
theorem c_value {s a v : Nat} {o : List Nat} {steps stack : Nat → Int32} {h0 : Int32} (hs : s < 4096) (he : a + o.length ≤ 1200) (hst : ∀ k, k < o.length → steps (a + k) = nI (o.getD k 0)) (hx : ∀ x ∈ o, x < 2000) (hr : rn 100 s o [] = some [v]) {post : Int32 → Int32 → (Nat → Int32) → Prop} (h : ∀ stack', post (nI v) (nI 0) stack') : wp_Code_valueIn (nI s) (nI a) (nI (a + o.length)) h0 steps stack post := by
  refine ⟨o.length + 1, c_value_L hs he o [] [v] a stack rfl hst hx (fun y hy => (by cases hy)) trivial (by decide) hr (fun stack' hP => ?_)⟩
  refine q_cpop (h := 0) (by decide) ?_
  rw [show stack' 0 = nI v from hP.1]
  exact h stack'
