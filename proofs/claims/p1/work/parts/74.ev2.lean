set_option maxHeartbeats 40000000 in
set_option maxRecDepth 100000 in
theorem ev_LI_text (post : Int32 → Int32 → Int32 → Int32 → Int32 → Int32 → Int32 → (Nat → Int32) → (Nat → Int32) → (Nat → Int32) → Int32 → Int32 → Int32 → (Nat → Int32) → (Nat → Int32) → (Nat → Int32) → (Nat → Int32) → (Nat → Int32) → Int32 → Int32 → Int32 → Int32 → Int32 → Int32 → Int32 → Int32 → Int32 → (Nat → Int32) → (Nat → Int32) → (Nat → Int32) → (Nat → Int32) → (Nat → Int32) → Int32 → (Nat → Int32) → Int32 → Int32 → Int32 → (Nat → Int32) → (Nat → Int32) → Int32 → (Nat → Int32) → Prop) (h : ∀ (u0 : Int32) (u1 : Int32) (u2 : Int32) (u3 : Int32) (u4 : Int32) (u5 : Int32) (u6 : Nat → Int32) (u7 : Nat → Int32) (u8 : Nat → Int32) (u9 : Int32) (u10 : Int32) (u11 : Int32) (u12 : Nat → Int32) (u13 : Nat → Int32) (u14 : Nat → Int32) (u15 : Nat → Int32) (u16 : Nat → Int32) (u17 : Int32) (u18 : Int32) (u19 : Int32) (u20 : Int32) (u21 : Int32) (u22 : Int32) (u23 : Int32) (u24 : Int32) (u25 : Int32) (u26 : Nat → Int32) (u27 : Nat → Int32) (u28 : Nat → Int32) (u29 : Nat → Int32) (u30 : Nat → Int32) (u31 : Int32) (u32 : Nat → Int32) (u33 : Int32) (u34 : Int32) (u35 : Int32) (u36 : Nat → Int32) (u37 : Nat → Int32) (u38 : Int32) (u39 : Nat → Int32), post (-2) u0 u1 u2 u3 u4 u5 u6 u7 u8 u9 u10 u11 u12 u13 u14 u15 u16 u17 u18 u19 u20 u21 u22 u23 u24 u25 u26 u27 u28 u29 u30 u31 u32 u33 u34 u35 u36 u37 u38 u39) : wp_LI_text 0 (-1) 0 (fun _ => 0) 0 0 0 (fun _ => 0) (fun _ => 0) (fun _ => 0) 0 0 0 (fun _ => 0) (fun _ => 0) (fun _ => 0) (fun _ => 0) (fun _ => 0) 0 0 0 0 0 0 0 0 0 (fun _ => 0) (fun _ => 0) (fun _ => 0) (fun _ => 0) (fun _ => 0) 0 (fun _ => 0) 0 (-1) 0 (fun _ => 0) (fun _ => 0) 0 (fun _ => 0) post := by
  repeat' first
    | exact h _ _ _ _ _ _ _ _ _ _ _ _ _ _ _ _ _ _ _ _ _ _ _ _ _ _ _ _ _ _ _ _ _ _ _ _ _ _ _ _
    | refine And.intro (vi_ (by decide +kernel)) ?_
    | refine br_T (by decide +kernel) ?_
    | refine br_F (by decide +kernel) ?_
    | refine br_T' (by decide +kernel) ?_
    | refine br_F' (by decide +kernel) ?_
    | refine Exists.intro 30 ?_
    | (intro x_ hx_; subst hx_)
    | refine And.intro (Or.inl rfl) ?_
    | refine And.intro (Or.inr rfl) ?_
set_option maxHeartbeats 40000000 in
set_option maxRecDepth 100000 in
theorem ev_Md_text (post : Int32 → Int32 → Int32 → Int32 → Int32 → Int32 → Int32 → Int32 → Int32 → Int32 → Int32 → Int32 → Int32 → Int32 → Int32 → Int32 → (Nat → Int32) → (Nat → Int32) → (Nat → Int32) → (Nat → Int32) → (Nat → Int32) → (Nat → Int32) → (Nat → Int32) → (Nat → Int32) → (Nat → Int32) → (Nat → Int32) → (Nat → Int32) → (Nat → Int32) → (Nat → Int32) → (Nat → Int32) → (Nat → Int32) → (Nat → Int32) → (Nat → Int32) → (Nat → Int32) → (Nat → Int32) → (Nat → Int32) → (Nat → Int32) → Prop) (h : ∀ (u0 : Int32) (u1 : Int32) (u2 : Int32) (u3 : Int32) (u4 : Int32) (u5 : Int32) (u6 : Int32) (u7 : Int32) (u8 : Int32) (u9 : Int32) (u10 : Int32) (u11 : Int32) (u12 : Int32) (u13 : Int32) (u14 : Int32) (u15 : Nat → Int32) (u16 : Nat → Int32) (u17 : Nat → Int32) (u18 : Nat → Int32) (u19 : Nat → Int32) (u20 : Nat → Int32) (u21 : Nat → Int32) (u22 : Nat → Int32) (u23 : Nat → Int32) (u24 : Nat → Int32) (u25 : Nat → Int32) (u26 : Nat → Int32) (u27 : Nat → Int32) (u28 : Nat → Int32) (u29 : Nat → Int32) (u30 : Nat → Int32) (u31 : Nat → Int32) (u32 : Nat → Int32) (u33 : Nat → Int32) (u34 : Nat → Int32) (u35 : Nat → Int32), post (-2) u0 u1 u2 u3 u4 u5 u6 u7 u8 u9 u10 u11 u12 u13 u14 u15 u16 u17 u18 u19 u20 u21 u22 u23 u24 u25 u26 u27 u28 u29 u30 u31 u32 u33 u34 u35) : wp_Md_text 0 0 0 0 0 0 0 0 (-1) 0 0 0 0 (-1) 0 (fun _ => 0) (fun _ => 0) (fun _ => 0) (fun _ => 0) (fun _ => 0) (fun _ => 0) (fun _ => 0) (fun _ => 0) (fun _ => 0) (fun _ => 0) (fun _ => 0) (fun _ => 0) (fun _ => 0) (fun _ => 0) (fun _ => 0) (fun _ => 0) (fun _ => 0) (fun _ => 0) (fun _ => 0) (fun _ => 0) (fun _ => 0) (fun _ => 0) post := by
  repeat' first
    | exact h _ _ _ _ _ _ _ _ _ _ _ _ _ _ _ _ _ _ _ _ _ _ _ _ _ _ _ _ _ _ _ _ _ _ _ _
    | refine And.intro (vi_ (by decide +kernel)) ?_
    | refine br_T (by decide +kernel) ?_
    | refine br_F (by decide +kernel) ?_
    | refine br_T' (by decide +kernel) ?_
    | refine br_F' (by decide +kernel) ?_
    | refine Exists.intro 30 ?_
    | (intro x_ hx_; subst hx_)
    | refine And.intro (Or.inl rfl) ?_
    | refine And.intro (Or.inr rfl) ?_
