def wp_Work_clear (wk_size : Int32) (post : Int32 → Prop) : Prop :=
  post 0
def wp_Work_put (x1 : Int32) (wk_size : Int32) (wk_items : Nat → Int32) (post : Int32 → (Nat → Int32) → Prop) : Prop :=
  (((4096 : Int32) ≤ (wk_size : Int32) → post wk_size wk_items) ∧ (¬ (4096 : Int32) ≤ (wk_size : Int32) → (vp_in wk_size 4096 ∧ post (wk_size + 1) (upd wk_items (wk_size : Int32).toNatClampNeg x1))))
def wp_Work_size (wk_size : Int32) (post : Int32 → Prop) : Prop :=
  post wk_size
def wp_Work_item (x1 : Int32) (wk_size : Int32) (wk_items : Nat → Int32) (post : Int32 → Prop) : Prop :=
  (((x1 : Int32) < 0 → post 0) ∧ (¬ (x1 : Int32) < 0 → (((wk_size : Int32) ≤ (x1 : Int32) → post 0) ∧ (¬ (wk_size : Int32) ≤ (x1 : Int32) → (((4096 : Int32) ≤ (x1 : Int32) → post 0) ∧ (¬ (4096 : Int32) ≤ (x1 : Int32) → (vp_in x1 4096 ∧ post (wk_items (x1 : Int32).toNatClampNeg))))))))
