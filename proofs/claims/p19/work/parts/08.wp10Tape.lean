def wp_Tape_hasRoom (tp_size : Int32) (post : Int32 → Prop) : Prop :=
  (((1200 : Int32) < (tp_size + 20 : Int32) → post 0) ∧ (¬ (1200 : Int32) < (tp_size + 20 : Int32) → post 1))
def wp_Tape_add_L3 (x1 : Int32) (k48 : (Int32) → (Nat → Int32) → Prop) : Nat → Int32 → (Int32) → (Nat → Int32) → Prop
  | 0, _, _, _ => False
  | n + 1, x2, tp_size, tp_bytes =>
    (((x2 : Int32) < 0 → k48 tp_size tp_bytes) ∧ (¬ (x2 : Int32) < 0 → (((1200 : Int32) ≤ (tp_size : Int32) → wp_Tape_add_L3 x1 k48 n (x2 + (-8)) tp_size tp_bytes) ∧ (¬ (1200 : Int32) ≤ (tp_size : Int32) → (vp_in tp_size 1200 ∧ wp_Tape_add_L3 x1 k48 n (x2 + (-8)) (tp_size + 1) (upd tp_bytes (tp_size : Int32).toNatClampNeg (vp_nar .byte ((((x1 : Int32).toUInt32 >>> ((x2 : Int32).toUInt32 &&& Int32.toUInt32 31)).toInt32 : Int32).toInt8.toInt32))))))))
def wp_Tape_add (x1 : Int32) (tp_size : Int32) (tp_bytes : Nat → Int32) (post : Int32 → (Nat → Int32) → Prop) : Prop :=
  ∃ n_3, wp_Tape_add_L3 x1 (fun tp_size_1 tp_bytes_2 => post tp_size_1 tp_bytes_2) n_3 24 tp_size tp_bytes
def wp_Tape_cut (x1 : Int32) (tp_size : Int32) (post : Int32 → Int32 → Prop) : Prop :=
  (((x1 : Int32) < 0 → post 0 tp_size) ∧ (¬ (x1 : Int32) < 0 → (((20 : Int32) < (x1 : Int32) → post 0 tp_size) ∧ (¬ (20 : Int32) < (x1 : Int32) → (((20 : Int32) ≤ (tp_size : Int32) → post 1 ((tp_size - 20) + x1)) ∧ (¬ (20 : Int32) ≤ (tp_size : Int32) → post 0 tp_size))))))
def wp_Tape_clear (tp_size : Int32) (post : Int32 → Prop) : Prop :=
  post 0
def wp_Tape_size (tp_size : Int32) (post : Int32 → Prop) : Prop :=
  post tp_size
def wp_Tape_byteAt (x1 : Int32) (tp_size : Int32) (tp_bytes : Nat → Int32) (post : Int32 → Prop) : Prop :=
  (((x1 : Int32) < 0 → post (-1)) ∧ (¬ (x1 : Int32) < 0 → (((tp_size : Int32) ≤ (x1 : Int32) → post (-1)) ∧ (¬ (tp_size : Int32) ≤ (x1 : Int32) → (((1200 : Int32) ≤ (x1 : Int32) → post (-1)) ∧ (¬ (1200 : Int32) ≤ (x1 : Int32) → (vp_in x1 1200 ∧ post ((tp_bytes (x1 : Int32).toNatClampNeg) &&& 255))))))))
