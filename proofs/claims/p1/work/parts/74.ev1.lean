set_option maxHeartbeats 40000000 in
set_option maxRecDepth 100000 in
theorem ev_LI_feed (x1 : Int32) (x2 : Int32) (x3 : Int32) (x4 : Int32) (x5 : Int32) (post : Int32 → Int32 → (Nat → Int32) → Prop) (h : ∀ (u0 : Int32) (u1 : Nat → Int32), post 20 u0 u1) : wp_LI_feed x1 x2 x3 x4 x5 0 (fun _ => 0) post := by
  repeat' first
    | exact h _ _
    | refine And.intro (vi_ (by decide +kernel)) ?_
    | refine br_T (by decide +kernel) ?_
    | refine br_F (by decide +kernel) ?_
    | refine br_T' (by decide +kernel) ?_
    | refine br_F' (by decide +kernel) ?_
    | refine Exists.intro 30 ?_
    | (intro x_ hx_; subst hx_)
    | refine And.intro (Or.inl rfl) ?_
    | refine And.intro (Or.inr rfl) ?_
set_option maxHeartbeats 40000000 in
set_option maxRecDepth 100000 in
theorem ev_Md_feed (x1 : Int32) (x2 : Int32) (x3 : Int32) (x4 : Int32) (x5 : Int32) (post : Int32 → Int32 → (Nat → Int32) → Prop) (h : ∀ (u0 : Int32) (u1 : Nat → Int32), post 20 u0 u1) : wp_Md_feed x1 x2 x3 x4 x5 0 (fun _ => 0) post := by
  repeat' first
    | exact h _ _
    | refine And.intro (vi_ (by decide +kernel)) ?_
    | refine br_T (by decide +kernel) ?_
    | refine br_F (by decide +kernel) ?_
    | refine br_T' (by decide +kernel) ?_
    | refine br_F' (by decide +kernel) ?_
    | refine Exists.intro 30 ?_
    | (intro x_ hx_; subst hx_)
    | refine And.intro (Or.inl rfl) ?_
    | refine And.intro (Or.inr rfl) ?_
