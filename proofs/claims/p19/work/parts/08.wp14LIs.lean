def wp_LI_isState (x0 : Int32) (post : Int32 → Prop) : Prop :=
  (((x0 : Int32) < 0 → post 0) ∧ (¬ (x0 : Int32) < 0 → (((4096 : Int32) ≤ (x0 : Int32) → post 0) ∧ (¬ (4096 : Int32) ≤ (x0 : Int32) → post 1))))
