/-! p1: one call on fresh objects: every number is known, the walk goes through the meaning itself -/
theorem br_T {c P Q : Prop} (hc : c) (h : P) : (c → P) ∧ (¬ c → Q) := ⟨fun _ => h, fun n => absurd hc n⟩
theorem br_F {c P Q : Prop} (hc : ¬ c) (h : Q) : (c → P) ∧ (¬ c → Q) := ⟨fun n => absurd n hc, fun _ => h⟩
theorem br_T' {c P Q : Prop} (hc : c) (h : Q) : (¬ c → P) ∧ (c → Q) := ⟨fun n => absurd hc n, fun _ => h⟩
theorem br_F' {c P Q : Prop} (hc : ¬ c) (h : P) : (¬ c → P) ∧ (c → Q) := ⟨fun _ => h, fun n => absurd n hc⟩
theorem vi_ {i : Int32} {n : Nat} (h : (decide (i < 0) || decide (n ≤ i.toNatClampNeg)) = false) : vp_in i n := fun h2 => by
  rcases h2 with h2 | h2
  · rw [decide_eq_true h2] at h; cases h
  · rw [decide_eq_true h2, Bool.or_true] at h; cases h
set_option maxHeartbeats 40000000 in
set_option maxRecDepth 100000 in
theorem ev_LI_end (x1 : Int32) (post : Int32 → Int32 → Prop) (h : ∀ (u0 : Int32), post (-1) u0) : wp_LI_end x1 0 post := by
  repeat' first
    | exact h _
    | refine And.intro (vi_ (by decide +kernel)) ?_
    | refine br_T (by decide +kernel) ?_
    | refine br_F (by decide +kernel) ?_
    | refine br_T' (by decide +kernel) ?_
    | refine br_F' (by decide +kernel) ?_
    | refine Exists.intro 30 ?_
    | (intro x_ hx_; subst hx_)
    | refine And.intro (Or.inl rfl) ?_
    | refine And.intro (Or.inr rfl) ?_
    | refine And.intro (fun _ => ?_) (fun _ => ?_)
set_option maxHeartbeats 40000000 in
set_option maxRecDepth 100000 in
theorem ev_Md_end (x1 : Int32) (post : Int32 → Int32 → Prop) (h : ∀ (u0 : Int32), post (-1) u0) : wp_Md_end x1 0 post := by
  repeat' first
    | exact h _
    | refine And.intro (vi_ (by decide +kernel)) ?_
    | refine br_T (by decide +kernel) ?_
    | refine br_F (by decide +kernel) ?_
    | refine br_T' (by decide +kernel) ?_
    | refine br_F' (by decide +kernel) ?_
    | refine Exists.intro 30 ?_
    | (intro x_ hx_; subst hx_)
    | refine And.intro (Or.inl rfl) ?_
    | refine And.intro (Or.inr rfl) ?_
    | refine And.intro (fun _ => ?_) (fun _ => ?_)
set_option maxHeartbeats 40000000 in
set_option maxRecDepth 100000 in
theorem ev_LI_place (post : Int32 → Prop) (h : post (-1)) : wp_LI_place (-1) post := by
  repeat' first
    | exact h
    | refine And.intro (vi_ (by decide +kernel)) ?_
    | refine br_T (by decide +kernel) ?_
    | refine br_F (by decide +kernel) ?_
    | refine br_T' (by decide +kernel) ?_
    | refine br_F' (by decide +kernel) ?_
    | refine Exists.intro 30 ?_
    | (intro x_ hx_; subst hx_)
    | refine And.intro (Or.inl rfl) ?_
    | refine And.intro (Or.inr rfl) ?_
set_option maxHeartbeats 40000000 in
set_option maxRecDepth 100000 in
theorem ev_Md_place (post : Int32 → Prop) (h : post (-1)) : wp_Md_place (-1) post := by
  repeat' first
    | exact h
    | refine And.intro (vi_ (by decide +kernel)) ?_
    | refine br_T (by decide +kernel) ?_
    | refine br_F (by decide +kernel) ?_
    | refine br_T' (by decide +kernel) ?_
    | refine br_F' (by decide +kernel) ?_
    | refine Exists.intro 30 ?_
    | (intro x_ hx_; subst hx_)
    | refine And.intro (Or.inl rfl) ?_
    | refine And.intro (Or.inr rfl) ?_
set_option maxHeartbeats 40000000 in
set_option maxRecDepth 100000 in
theorem ev_LI_told (x1 : Int32) (post : Int32 → Prop) (h : post (-1)) : wp_LI_told x1 0 0 0 0 0 post := by
  repeat' first
    | exact h
    | refine And.intro (vi_ (by decide +kernel)) ?_
    | refine br_T (by decide +kernel) ?_
    | refine br_F (by decide +kernel) ?_
    | refine br_T' (by decide +kernel) ?_
    | refine br_F' (by decide +kernel) ?_
    | refine Exists.intro 30 ?_
    | (intro x_ hx_; subst hx_)
    | refine And.intro (Or.inl rfl) ?_
    | refine And.intro (Or.inr rfl) ?_
set_option maxHeartbeats 40000000 in
set_option maxRecDepth 100000 in
theorem ev_Md_told (x1 : Int32) (post : Int32 → Prop) (h : post (-1)) : wp_Md_told x1 (-1) (fun _ => 0) (fun _ => 0) (fun _ => 0) (fun _ => 0) post := by
  repeat' first
    | exact h
    | refine And.intro (vi_ (by decide +kernel)) ?_
    | refine br_T (by decide +kernel) ?_
    | refine br_F (by decide +kernel) ?_
    | refine br_T' (by decide +kernel) ?_
    | refine br_F' (by decide +kernel) ?_
    | refine Exists.intro 30 ?_
    | (intro x_ hx_; subst hx_)
    | refine And.intro (Or.inl rfl) ?_
    | refine And.intro (Or.inr rfl) ?_
set_option maxHeartbeats 40000000 in
set_option maxRecDepth 100000 in
theorem ev_LI_has (x1 : Int32) (x2 : Int32) (post : Int32 → Prop) (h : post (-1)) : wp_LI_has x1 x2 0 0 (fun _ => 0) post := by
  repeat' first
    | exact h
    | refine And.intro (vi_ (by decide +kernel)) ?_
    | refine br_T (by decide +kernel) ?_
    | refine br_F (by decide +kernel) ?_
    | refine br_T' (by decide +kernel) ?_
    | refine br_F' (by decide +kernel) ?_
    | refine Exists.intro 30 ?_
    | (intro x_ hx_; subst hx_)
    | refine And.intro (Or.inl rfl) ?_
    | refine And.intro (Or.inr rfl) ?_
set_option maxHeartbeats 40000000 in
set_option maxRecDepth 100000 in
theorem ev_Md_has (x1 : Int32) (x2 : Int32) (post : Int32 → Prop) (h : post (-1)) : wp_Md_has x1 x2 (-1) (fun _ => 0) (fun _ => 0) (fun _ => 0) (fun _ => 0) (fun _ => 0) (fun _ => 0) post := by
  repeat' first
    | exact h
    | refine And.intro (vi_ (by decide +kernel)) ?_
    | refine br_T (by decide +kernel) ?_
    | refine br_F (by decide +kernel) ?_
    | refine br_T' (by decide +kernel) ?_
    | refine br_F' (by decide +kernel) ?_
    | refine Exists.intro 30 ?_
    | (intro x_ hx_; subst hx_)
    | refine And.intro (Or.inl rfl) ?_
    | refine And.intro (Or.inr rfl) ?_
set_option maxHeartbeats 40000000 in
set_option maxRecDepth 100000 in
theorem ev_LI_next (x1 : Int32) (x2 : Int32) (post : Int32 → Prop) (h : post (-1)) : wp_LI_next x1 x2 0 0 (fun _ => 0) post := by
  repeat' first
    | exact h
    | refine And.intro (vi_ (by decide +kernel)) ?_
    | refine br_T (by decide +kernel) ?_
    | refine br_F (by decide +kernel) ?_
    | refine br_T' (by decide +kernel) ?_
    | refine br_F' (by decide +kernel) ?_
    | refine Exists.intro 30 ?_
    | (intro x_ hx_; subst hx_)
    | refine And.intro (Or.inl rfl) ?_
    | refine And.intro (Or.inr rfl) ?_
set_option maxHeartbeats 40000000 in
set_option maxRecDepth 100000 in
theorem ev_Md_next (x1 : Int32) (x2 : Int32) (post : Int32 → Prop) (h : post (-1)) : wp_Md_next x1 x2 (-1) (fun _ => 0) post := by
  repeat' first
    | exact h
    | refine And.intro (vi_ (by decide +kernel)) ?_
    | refine br_T (by decide +kernel) ?_
    | refine br_F (by decide +kernel) ?_
    | refine br_T' (by decide +kernel) ?_
    | refine br_F' (by decide +kernel) ?_
    | refine Exists.intro 30 ?_
    | (intro x_ hx_; subst hx_)
    | refine And.intro (Or.inl rfl) ?_
    | refine And.intro (Or.inr rfl) ?_
set_option maxHeartbeats 40000000 in
set_option maxRecDepth 100000 in
theorem ev_LI_rank (x1 : Int32) (post : Int32 → Prop) (h : post (-1)) : wp_LI_rank x1 0 0 (fun _ => 0) post := by
  repeat' first
    | exact h
    | refine And.intro (vi_ (by decide +kernel)) ?_
    | refine br_T (by decide +kernel) ?_
    | refine br_F (by decide +kernel) ?_
    | refine br_T' (by decide +kernel) ?_
    | refine br_F' (by decide +kernel) ?_
    | refine Exists.intro 30 ?_
    | (intro x_ hx_; subst hx_)
    | refine And.intro (Or.inl rfl) ?_
    | refine And.intro (Or.inr rfl) ?_
set_option maxHeartbeats 40000000 in
set_option maxRecDepth 100000 in
theorem ev_Md_rank (x1 : Int32) (post : Int32 → (Nat → Int32) → Prop) (h : ∀ (u0 : Nat → Int32), post (-1) u0) : wp_Md_rank x1 (-1) (fun _ => 0) (fun _ => 0) (fun _ => 0) (fun _ => 0) post := by
  repeat' first
    | exact h _
    | refine And.intro (vi_ (by decide +kernel)) ?_
    | refine br_T (by decide +kernel) ?_
    | refine br_F (by decide +kernel) ?_
    | refine br_T' (by decide +kernel) ?_
    | refine br_F' (by decide +kernel) ?_
    | refine Exists.intro 30 ?_
    | (intro x_ hx_; subst hx_)
    | refine And.intro (Or.inl rfl) ?_
    | refine And.intro (Or.inr rfl) ?_
set_option maxHeartbeats 40000000 in
set_option maxRecDepth 100000 in
theorem ev_LI_many (x1 : Int32) (post : Int32 → Prop) (h : post (-1)) : wp_LI_many x1 0 0 (fun _ => 0) (fun _ => 0) (-1) 0 post := by
  repeat' first
    | exact h
    | refine And.intro (vi_ (by decide +kernel)) ?_
    | refine br_T (by decide +kernel) ?_
    | refine br_F (by decide +kernel) ?_
    | refine br_T' (by decide +kernel) ?_
    | refine br_F' (by decide +kernel) ?_
    | refine Exists.intro 30 ?_
    | (intro x_ hx_; subst hx_)
    | refine And.intro (Or.inl rfl) ?_
    | refine And.intro (Or.inr rfl) ?_
set_option maxHeartbeats 40000000 in
set_option maxRecDepth 100000 in
theorem ev_Md_many (x1 : Int32) (post : Int32 → Prop) (h : post (-1)) : wp_Md_many x1 (-1) 0 (fun _ => 0) (fun _ => 0) (fun _ => 0) (fun _ => 0) (fun _ => 0) post := by
  repeat' first
    | exact h
    | refine And.intro (vi_ (by decide +kernel)) ?_
    | refine br_T (by decide +kernel) ?_
    | refine br_F (by decide +kernel) ?_
    | refine br_T' (by decide +kernel) ?_
    | refine br_F' (by decide +kernel) ?_
    | refine Exists.intro 30 ?_
    | (intro x_ hx_; subst hx_)
    | refine And.intro (Or.inl rfl) ?_
    | refine And.intro (Or.inr rfl) ?_
set_option maxHeartbeats 40000000 in
set_option maxRecDepth 100000 in
theorem ev_LI_level (x1 : Int32) (post : Int32 → Prop) (h : post (-1)) : wp_LI_level x1 0 (fun _ => 0) post := by
  repeat' first
    | exact h
    | refine And.intro (vi_ (by decide +kernel)) ?_
    | refine br_T (by decide +kernel) ?_
    | refine br_F (by decide +kernel) ?_
    | refine br_T' (by decide +kernel) ?_
    | refine br_F' (by decide +kernel) ?_
    | refine Exists.intro 30 ?_
    | (intro x_ hx_; subst hx_)
    | refine And.intro (Or.inl rfl) ?_
    | refine And.intro (Or.inr rfl) ?_
set_option maxHeartbeats 40000000 in
set_option maxRecDepth 100000 in
theorem ev_Md_level (x1 : Int32) (post : Int32 → Prop) (h : post (-1)) : wp_Md_level x1 (-1) (fun _ => 0) post := by
  repeat' first
    | exact h
    | refine And.intro (vi_ (by decide +kernel)) ?_
    | refine br_T (by decide +kernel) ?_
    | refine br_F (by decide +kernel) ?_
    | refine br_T' (by decide +kernel) ?_
    | refine br_F' (by decide +kernel) ?_
    | refine Exists.intro 30 ?_
    | (intro x_ hx_; subst hx_)
    | refine And.intro (Or.inl rfl) ?_
    | refine And.intro (Or.inr rfl) ?_
set_option maxHeartbeats 40000000 in
set_option maxRecDepth 100000 in
theorem ev_LI_counter (x1 : Int32) (post : Int32 → Prop) (h : post (-1)) : wp_LI_counter x1 0 0 (fun _ => 0) post := by
  repeat' first
    | exact h
    | refine And.intro (vi_ (by decide +kernel)) ?_
    | refine br_T (by decide +kernel) ?_
    | refine br_F (by decide +kernel) ?_
    | refine br_T' (by decide +kernel) ?_
    | refine br_F' (by decide +kernel) ?_
    | refine Exists.intro 30 ?_
    | (intro x_ hx_; subst hx_)
    | refine And.intro (Or.inl rfl) ?_
    | refine And.intro (Or.inr rfl) ?_
set_option maxHeartbeats 40000000 in
set_option maxRecDepth 100000 in
theorem ev_Md_counter (x1 : Int32) (post : Int32 → (Nat → Int32) → Prop) (h : ∀ (u0 : Nat → Int32), post (-1) u0) : wp_Md_counter x1 (-1) (fun _ => 0) (fun _ => 0) (fun _ => 0) (fun _ => 0) post := by
  repeat' first
    | exact h _
    | refine And.intro (vi_ (by decide +kernel)) ?_
    | refine br_T (by decide +kernel) ?_
    | refine br_F (by decide +kernel) ?_
    | refine br_T' (by decide +kernel) ?_
    | refine br_F' (by decide +kernel) ?_
    | refine Exists.intro 30 ?_
    | (intro x_ hx_; subst hx_)
    | refine And.intro (Or.inl rfl) ?_
    | refine And.intro (Or.inr rfl) ?_
set_option maxHeartbeats 40000000 in
set_option maxRecDepth 100000 in
theorem ev_LI_induction (x1 : Int32) (post : Int32 → (Nat → Int32) → (Nat → Int32) → Prop) (h : ∀ (u0 : Nat → Int32) (u1 : Nat → Int32), post (-1) u0 u1) : wp_LI_induction x1 0 0 (fun _ => 0) (fun _ => 0) (fun _ => 0) (fun _ => 0) 0 0 post := by
  repeat' first
    | exact h _ _
    | refine And.intro (vi_ (by decide +kernel)) ?_
    | refine br_T (by decide +kernel) ?_
    | refine br_F (by decide +kernel) ?_
    | refine br_T' (by decide +kernel) ?_
    | refine br_F' (by decide +kernel) ?_
    | refine Exists.intro 30 ?_
    | (intro x_ hx_; subst hx_)
    | refine And.intro (Or.inl rfl) ?_
    | refine And.intro (Or.inr rfl) ?_
set_option maxHeartbeats 40000000 in
set_option maxRecDepth 100000 in
theorem ev_Md_induction (x1 : Int32) (post : Int32 → (Nat → Int32) → (Nat → Int32) → Prop) (h : ∀ (u0 : Nat → Int32) (u1 : Nat → Int32), post (-1) u0 u1) : wp_Md_induction x1 (-1) 0 (fun _ => 0) (fun _ => 0) (fun _ => 0) (fun _ => 0) (fun _ => 0) (fun _ => 0) post := by
  repeat' first
    | exact h _ _
    | refine And.intro (vi_ (by decide +kernel)) ?_
    | refine br_T (by decide +kernel) ?_
    | refine br_F (by decide +kernel) ?_
    | refine br_T' (by decide +kernel) ?_
    | refine br_F' (by decide +kernel) ?_
    | refine Exists.intro 30 ?_
    | (intro x_ hx_; subst hx_)
    | refine And.intro (Or.inl rfl) ?_
    | refine And.intro (Or.inr rfl) ?_
set_option maxHeartbeats 40000000 in
set_option maxRecDepth 100000 in
theorem ev_LI_kept (post : Int32 → Prop) (h : post (-1)) : wp_LI_kept 0 0 post := by
  repeat' first
    | exact h
    | refine And.intro (vi_ (by decide +kernel)) ?_
    | refine br_T (by decide +kernel) ?_
    | refine br_F (by decide +kernel) ?_
    | refine br_T' (by decide +kernel) ?_
    | refine br_F' (by decide +kernel) ?_
    | refine Exists.intro 30 ?_
    | (intro x_ hx_; subst hx_)
    | refine And.intro (Or.inl rfl) ?_
    | refine And.intro (Or.inr rfl) ?_
set_option maxHeartbeats 40000000 in
set_option maxRecDepth 100000 in
theorem ev_Md_kept (post : Int32 → Prop) (h : post (-1)) : wp_Md_kept (-1) 0 post := by
  repeat' first
    | exact h
    | refine And.intro (vi_ (by decide +kernel)) ?_
    | refine br_T (by decide +kernel) ?_
    | refine br_F (by decide +kernel) ?_
    | refine br_T' (by decide +kernel) ?_
    | refine br_F' (by decide +kernel) ?_
    | refine Exists.intro 30 ?_
    | (intro x_ hx_; subst hx_)
    | refine And.intro (Or.inl rfl) ?_
    | refine And.intro (Or.inr rfl) ?_
set_option maxHeartbeats 40000000 in
set_option maxRecDepth 100000 in
theorem ev_LI_gone (x1 : Int32) (post : Int32 → Prop) (h : post (-1)) : wp_LI_gone x1 0 0 (fun _ => 0) post := by
  repeat' first
    | exact h
    | refine And.intro (vi_ (by decide +kernel)) ?_
    | refine br_T (by decide +kernel) ?_
    | refine br_F (by decide +kernel) ?_
    | refine br_T' (by decide +kernel) ?_
    | refine br_F' (by decide +kernel) ?_
    | refine Exists.intro 30 ?_
    | (intro x_ hx_; subst hx_)
    | refine And.intro (Or.inl rfl) ?_
    | refine And.intro (Or.inr rfl) ?_
set_option maxHeartbeats 40000000 in
set_option maxRecDepth 100000 in
theorem ev_Md_gone (x1 : Int32) (post : Int32 → Prop) (h : post (-1)) : wp_Md_gone x1 (-1) (fun _ => 0) (fun _ => 0) post := by
  repeat' first
    | exact h
    | refine And.intro (vi_ (by decide +kernel)) ?_
    | refine br_T (by decide +kernel) ?_
    | refine br_F (by decide +kernel) ?_
    | refine br_T' (by decide +kernel) ?_
    | refine br_F' (by decide +kernel) ?_
    | refine Exists.intro 30 ?_
    | (intro x_ hx_; subst hx_)
    | refine And.intro (Or.inl rfl) ?_
    | refine And.intro (Or.inr rfl) ?_
set_option maxHeartbeats 40000000 in
set_option maxRecDepth 100000 in
theorem ev_LI_follows (post : Int32 → Prop) (h : post (-1)) : wp_LI_follows 0 (fun _ => 0) 0 post := by
  repeat' first
    | exact h
    | refine And.intro (vi_ (by decide +kernel)) ?_
    | refine br_T (by decide +kernel) ?_
    | refine br_F (by decide +kernel) ?_
    | refine br_T' (by decide +kernel) ?_
    | refine br_F' (by decide +kernel) ?_
    | refine Exists.intro 30 ?_
    | (intro x_ hx_; subst hx_)
    | refine And.intro (Or.inl rfl) ?_
    | refine And.intro (Or.inr rfl) ?_
set_option maxHeartbeats 40000000 in
set_option maxRecDepth 100000 in
theorem ev_Md_follows (post : Int32 → Prop) (h : post (-1)) : wp_Md_follows (-1) 0 (fun _ => 0) (fun _ => 0) post := by
  repeat' first
    | exact h
    | refine And.intro (vi_ (by decide +kernel)) ?_
    | refine br_T (by decide +kernel) ?_
    | refine br_F (by decide +kernel) ?_
    | refine br_T' (by decide +kernel) ?_
    | refine br_F' (by decide +kernel) ?_
    | refine Exists.intro 30 ?_
    | (intro x_ hx_; subst hx_)
    | refine And.intro (Or.inl rfl) ?_
    | refine And.intro (Or.inr rfl) ?_
set_option maxHeartbeats 40000000 in
set_option maxRecDepth 100000 in
theorem ev_LI_falls (post : Int32 → Prop) (h : post (-1)) : wp_LI_falls 0 0 0 (fun _ => 0) (fun _ => 0) post := by
  repeat' first
    | exact h
    | refine And.intro (vi_ (by decide +kernel)) ?_
    | refine br_T (by decide +kernel) ?_
    | refine br_F (by decide +kernel) ?_
    | refine br_T' (by decide +kernel) ?_
    | refine br_F' (by decide +kernel) ?_
    | refine Exists.intro 30 ?_
    | (intro x_ hx_; subst hx_)
    | refine And.intro (Or.inl rfl) ?_
    | refine And.intro (Or.inr rfl) ?_
set_option maxHeartbeats 40000000 in
set_option maxRecDepth 100000 in
theorem ev_Md_falls (post : Int32 → (Nat → Int32) → Prop) (h : ∀ (u0 : Nat → Int32), post (-1) u0) : wp_Md_falls (-1) (fun _ => 0) (fun _ => 0) (fun _ => 0) (fun _ => 0) (fun _ => 0) (fun _ => 0) post := by
  repeat' first
    | exact h _
    | refine And.intro (vi_ (by decide +kernel)) ?_
    | refine br_T (by decide +kernel) ?_
    | refine br_F (by decide +kernel) ?_
    | refine br_T' (by decide +kernel) ?_
    | refine br_F' (by decide +kernel) ?_
    | refine Exists.intro 30 ?_
    | (intro x_ hx_; subst hx_)
    | refine And.intro (Or.inl rfl) ?_
    | refine And.intro (Or.inr rfl) ?_
set_option maxHeartbeats 40000000 in
set_option maxRecDepth 100000 in
theorem ev_LI_longest (post : Int32 → (Nat → Int32) → (Nat → Int32) → Int32 → (Nat → Int32) → Prop) (h : ∀ (u0 : Nat → Int32) (u1 : Nat → Int32) (u2 : Int32) (u3 : Nat → Int32), post (-1) u0 u1 u2 u3) : wp_LI_longest 0 0 (fun _ => 0) (fun _ => 0) (fun _ => 0) (fun _ => 0) 0 (fun _ => 0) 0 post := by
  repeat' first
    | exact h _ _ _ _
    | refine And.intro (vi_ (by decide +kernel)) ?_
    | refine br_T (by decide +kernel) ?_
    | refine br_F (by decide +kernel) ?_
    | refine br_T' (by decide +kernel) ?_
    | refine br_F' (by decide +kernel) ?_
    | refine Exists.intro 30 ?_
    | (intro x_ hx_; subst hx_)
    | refine And.intro (Or.inl rfl) ?_
    | refine And.intro (Or.inr rfl) ?_
set_option maxHeartbeats 40000000 in
set_option maxRecDepth 100000 in
theorem ev_Md_longest (post : Int32 → (Nat → Int32) → Prop) (h : ∀ (u0 : Nat → Int32), post (-1) u0) : wp_Md_longest (-1) 0 (fun _ => 0) (fun _ => 0) (fun _ => 0) (fun _ => 0) (fun _ => 0) (fun _ => 0) post := by
  repeat' first
    | exact h _
    | refine And.intro (vi_ (by decide +kernel)) ?_
    | refine br_T (by decide +kernel) ?_
    | refine br_F (by decide +kernel) ?_
    | refine br_T' (by decide +kernel) ?_
    | refine br_F' (by decide +kernel) ?_
    | refine Exists.intro 30 ?_
    | (intro x_ hx_; subst hx_)
    | refine And.intro (Or.inl rfl) ?_
    | refine And.intro (Or.inr rfl) ?_
set_option maxHeartbeats 40000000 in
set_option maxRecDepth 100000 in
theorem ev_LI_ask (x1 : Int32) (post : Int32 → Int32 → Int32 → Int32 → Int32 → (Nat → Int32) → (Nat → Int32) → (Nat → Int32) → Int32 → Int32 → Int32 → (Nat → Int32) → (Nat → Int32) → (Nat → Int32) → (Nat → Int32) → (Nat → Int32) → Int32 → Int32 → Int32 → (Nat → Int32) → (Nat → Int32) → Int32 → (Nat → Int32) → Prop) (h : ∀ (u0 : Int32) (u1 : Int32) (u2 : Int32) (u3 : Int32) (u4 : Nat → Int32) (u5 : Nat → Int32) (u6 : Nat → Int32) (u7 : Int32) (u8 : Int32) (u9 : Int32) (u10 : Nat → Int32) (u11 : Nat → Int32) (u12 : Nat → Int32) (u13 : Nat → Int32) (u14 : Nat → Int32) (u15 : Int32) (u16 : Int32) (u17 : Int32) (u18 : Nat → Int32) (u19 : Nat → Int32) (u20 : Int32) (u21 : Nat → Int32), post (-1) u0 u1 u2 u3 u4 u5 u6 u7 u8 u9 u10 u11 u12 u13 u14 u15 u16 u17 u18 u19 u20 u21) : wp_LI_ask x1 0 0 (fun _ => 0) 0 0 0 (fun _ => 0) (fun _ => 0) (fun _ => 0) 0 0 0 (fun _ => 0) (fun _ => 0) (fun _ => 0) (fun _ => 0) (fun _ => 0) 0 0 0 0 (fun _ => 0) (fun _ => 0) (fun _ => 0) (fun _ => 0) (fun _ => 0) (fun _ => 0) 0 (fun _ => 0) post := by
  repeat' first
    | exact h _ _ _ _ _ _ _ _ _ _ _ _ _ _ _ _ _ _ _ _ _ _
    | refine And.intro (vi_ (by decide +kernel)) ?_
    | refine br_T (by decide +kernel) ?_
    | refine br_F (by decide +kernel) ?_
    | refine br_T' (by decide +kernel) ?_
    | refine br_F' (by decide +kernel) ?_
    | refine Exists.intro 30 ?_
    | (intro x_ hx_; subst hx_)
    | refine And.intro (Or.inl rfl) ?_
    | refine And.intro (Or.inr rfl) ?_
set_option maxHeartbeats 40000000 in
set_option maxRecDepth 100000 in
theorem ev_Md_ask (x1 : Int32) (post : Int32 → Int32 → Int32 → Int32 → Int32 → Int32 → Int32 → Int32 → Int32 → Int32 → Int32 → Int32 → Int32 → (Nat → Int32) → (Nat → Int32) → (Nat → Int32) → (Nat → Int32) → (Nat → Int32) → (Nat → Int32) → Prop) (h : ∀ (u0 : Int32) (u1 : Int32) (u2 : Int32) (u3 : Int32) (u4 : Int32) (u5 : Int32) (u6 : Int32) (u7 : Int32) (u8 : Int32) (u9 : Int32) (u10 : Int32) (u11 : Int32) (u12 : Nat → Int32) (u13 : Nat → Int32) (u14 : Nat → Int32) (u15 : Nat → Int32) (u16 : Nat → Int32) (u17 : Nat → Int32), post (-1) u0 u1 u2 u3 u4 u5 u6 u7 u8 u9 u10 u11 u12 u13 u14 u15 u16 u17) : wp_Md_ask x1 0 0 0 0 0 0 0 0 0 0 0 0 (-1) (fun _ => 0) (fun _ => 0) (fun _ => 0) (fun _ => 0) (fun _ => 0) (fun _ => 0) (fun _ => 0) (fun _ => 0) (fun _ => 0) post := by
  repeat' first
    | exact h _ _ _ _ _ _ _ _ _ _ _ _ _ _ _ _ _ _
    | refine And.intro (vi_ (by decide +kernel)) ?_
    | refine br_T (by decide +kernel) ?_
    | refine br_F (by decide +kernel) ?_
    | refine br_T' (by decide +kernel) ?_
    | refine br_F' (by decide +kernel) ?_
    | refine Exists.intro 30 ?_
    | (intro x_ hx_; subst hx_)
    | refine And.intro (Or.inl rfl) ?_
    | refine And.intro (Or.inr rfl) ?_
