def wp_Loop_choices (lp_choices : Int32) (post : Int32 → Prop) : Prop :=
  post lp_choices
def wp_Loop_guesses (lp_guesses : Int32) (post : Int32 → Prop) : Prop :=
  post lp_guesses
def wp_Loop_unaries (lp_unaries : Int32) (post : Int32 → Prop) : Prop :=
  post lp_unaries
def wp_Loop_isRanked (lp_ranked : Int32) (post : Int32 → Prop) : Prop :=
  vp_z lp_ranked ∧ post lp_ranked
def wp_Loop_hasAll (x1 : Int32) (x2 : Int32) (lp_facts : Nat → Int32) (post : Int32 → Prop) : Prop :=
  wp_LI_isState x1 (fun r_1 => (((r_1 : Int32) = 0 → post 0) ∧ (¬ (r_1 : Int32) = 0 → (vp_in x1 4096 ∧ ((¬ ((lp_facts (x1 : Int32).toNatClampNeg) &&& x2 : Int32) = (x2 : Int32) → post 0) ∧ (((lp_facts (x1 : Int32).toNatClampNeg) &&& x2 : Int32) = (x2 : Int32) → post 1))))))
def wp_Loop_markReached (x1 : Int32) (lp_facts : Nat → Int32) (post : (Nat → Int32) → Prop) : Prop :=
  wp_LI_isState x1 (fun r_1 => (((r_1 : Int32) = 0 → post lp_facts) ∧ (¬ (r_1 : Int32) = 0 → (vp_in x1 4096 ∧ (vp_in x1 4096 ∧ post (upd lp_facts (x1 : Int32).toNatClampNeg ((lp_facts (x1 : Int32).toNatClampNeg) ||| 4)))))))
def wp_Loop_guessesOf (x1 : Int32) (lp_facts : Nat → Int32) (post : Int32 → Prop) : Prop :=
  wp_LI_isState x1 (fun r_1 => (((r_1 : Int32) = 0 → post 0) ∧ (¬ (r_1 : Int32) = 0 → (vp_in x1 4096 ∧ post (((lp_facts (x1 : Int32).toNatClampNeg) >>> (4 &&& 31)) &&& 4095)))))
def wp_Loop_rankOf (x1 : Int32) (lp_facts : Nat → Int32) (post : Int32 → Prop) : Prop :=
  wp_LI_isState x1 (fun r_1 => (((r_1 : Int32) = 0 → post 0) ∧ (¬ (r_1 : Int32) = 0 → (vp_in x1 4096 ∧ post (((lp_facts (x1 : Int32).toNatClampNeg) >>> (16 &&& 31)) &&& 15)))))
def wp_Loop_turn (x1 : Int32) (x2 : Int32) (lp_choices : Int32) (lp_turns : Nat → Int32) (post : Int32 → Prop) : Prop :=
  wp_LI_isState x1 (fun r_1 => (((r_1 : Int32) = 0 → post (-1)) ∧ (¬ (r_1 : Int32) = 0 → (((x2 : Int32) < 0 → post (-1)) ∧ (¬ (x2 : Int32) < 0 → (((lp_choices : Int32) ≤ (x2 : Int32) → post (-1)) ∧ (¬ (lp_choices : Int32) ≤ (x2 : Int32) → (((x2 : Int32) < (6 : Int32) → (vp_in ((x2 * 4096) + x1) 24576 ∧ post (lp_turns ((x2 * 4096) + x1 : Int32).toNatClampNeg))) ∧ (¬ (x2 : Int32) < (6 : Int32) → post (-1))))))))))
def wp_Loop_firstSource (x1 : Int32) (lp_first : Nat → Int32) (post : Int32 → Prop) : Prop :=
  wp_LI_isState x1 (fun r_1 => (((r_1 : Int32) = 0 → post 0) ∧ (¬ (r_1 : Int32) = 0 → (vp_in x1 4097 ∧ post (lp_first (x1 : Int32).toNatClampNeg)))))
def wp_Loop_lastSource (x1 : Int32) (lp_first : Nat → Int32) (post : Int32 → Prop) : Prop :=
  wp_LI_isState x1 (fun r_1 => (((r_1 : Int32) = 0 → post (-1)) ∧ (¬ (r_1 : Int32) = 0 → (vp_in (x1 + 1) 4097 ∧ post ((lp_first (x1 + 1 : Int32).toNatClampNeg) - 1)))))
def wp_Loop_sourceAt (x1 : Int32) (lp_src : Nat → Int32) (post : Int32 → Prop) : Prop :=
  (((x1 : Int32) < 0 → post 0) ∧ (¬ (x1 : Int32) < 0 → (((24576 : Int32) ≤ (x1 : Int32) → post 0) ∧ (¬ (24576 : Int32) ≤ (x1 : Int32) → (vp_in x1 24576 ∧ post (lp_src (x1 : Int32).toNatClampNeg))))))
def wp_Loop_countWith_L4 (x1 : Int32) (lp_facts : Nat → Int32) (k29 : Int32 → Prop) : Nat → Int32 → Int32 → Prop
  | 0, _, _ => False
  | n + 1, x2, x3 =>
    (((4096 : Int32) ≤ (x3 : Int32) → k29 x2) ∧ (¬ (4096 : Int32) ≤ (x3 : Int32) → wp_Loop_hasAll x3 x1 lp_facts (fun r_1 => (((r_1 : Int32) = 0 → wp_Loop_countWith_L4 x1 lp_facts k29 n x2 (x3 + 1)) ∧ (¬ (r_1 : Int32) = 0 → wp_Loop_countWith_L4 x1 lp_facts k29 n (x2 + 1) (x3 + 1))))))
def wp_Loop_countWith (x1 : Int32) (lp_facts : Nat → Int32) (post : Int32 → Prop) : Prop :=
  ∃ n_3, wp_Loop_countWith_L4 x1 lp_facts (fun x2_2 => post x2_2) n_3 0 0
def wp_Loop_countTurns_L21 (x2 : Int32) (lp_choices : Int32) (lp_turns : Nat → Int32) (k52 : (Nat → Int32) → Prop) : Nat → Int32 → (Nat → Int32) → Prop
  | 0, _, _ => False
  | n + 1, x3, X0 =>
    (((lp_choices : Int32) ≤ (x3 : Int32) → k52 X0) ∧ (¬ (lp_choices : Int32) ≤ (x3 : Int32) → wp_Loop_turn x2 x3 lp_choices lp_turns (fun r_1 => (((r_1 : Int32) = ((-1) : Int32) → wp_Loop_countTurns_L21 x2 lp_choices lp_turns k52 n (x3 + 1) X0) ∧ (¬ (r_1 : Int32) = ((-1) : Int32) → (vp_in x2 4096 ∧ (vp_in x2 4096 ∧ wp_Loop_countTurns_L21 x2 lp_choices lp_turns k52 n (x3 + 1) (upd X0 (x2 : Int32).toNatClampNeg ((X0 (x2 : Int32).toNatClampNeg) + 1)))))))))
def wp_Loop_countTurns_L2 (lp_choices : Int32) (lp_turns : Nat → Int32) (k58 : (Nat → Int32) → Prop) : Nat → Int32 → (Nat → Int32) → Prop
  | 0, _, _ => False
  | n + 1, x2, X0 =>
    (((4096 : Int32) ≤ (x2 : Int32) → k58 X0) ∧ (¬ (4096 : Int32) ≤ (x2 : Int32) → (((4096 : Int32) ≤ (x2 : Int32) → k58 X0) ∧ (¬ (4096 : Int32) ≤ (x2 : Int32) → (vp_in x2 4096 ∧ ∃ n_3, wp_Loop_countTurns_L21 x2 lp_choices lp_turns (fun X0_2 => wp_Loop_countTurns_L2 lp_choices lp_turns k58 n (x2 + 1) X0_2) n_3 0 (upd X0 (x2 : Int32).toNatClampNeg 0))))))
def wp_Loop_countTurns (lp_choices : Int32) (lp_turns : Nat → Int32) (X0 : Nat → Int32) (post : (Nat → Int32) → Prop) : Prop :=
  ∃ n_5, wp_Loop_countTurns_L2 lp_choices lp_turns (fun X0_4 => post X0_4) n_5 0 X0
def wp_Loop_loadFact_L21 (x3 : Int32) (s1 : Nat → Int32) (k54 : (Nat → Int32) → Prop) : Nat → Int32 → (Nat → Int32) → Prop
  | 0, _, _ => False
  | n + 1, x4, lp_facts =>
    (((4096 : Int32) ≤ (x4 : Int32) → k54 lp_facts) ∧ (¬ (4096 : Int32) ≤ (x4 : Int32) → (vp_in x4 4096 ∧ (vp_in x4 4096 ∧ (vp_in x4 4096 ∧ wp_Loop_loadFact_L21 x3 s1 k54 n (x4 + 1) (upd lp_facts (x4 : Int32).toNatClampNeg ((lp_facts (x4 : Int32).toNatClampNeg) ||| ((s1 (x4 : Int32).toNatClampNeg) <<< (x3 &&& 31)))))))))
def wp_Loop_loadFact (x2 : Int32) (x3 : Int32) (cd_height : Int32) (cd_steps : Nat → Int32) (cd_starts : Nat → Int32) (cd_stops : Nat → Int32) (cd_used : Nat → Int32) (cd_stack : Nat → Int32) (lp_facts : Nat → Int32) (s1 : Nat → Int32) (post : Int32 → (Nat → Int32) → (Nat → Int32) → (Nat → Int32) → Prop) : Prop :=
  wp_Code_isTold x2 cd_starts (fun r_1 => ((¬ (r_1 : Int32) = 0 → wp_Code_tabulate x2 cd_height cd_steps cd_starts cd_stops cd_used cd_stack s1 (fun cd_height_2 cd_stack_3 s1_4 => ∃ n_6, wp_Loop_loadFact_L21 x3 s1_4 (fun lp_facts_5 => post cd_height_2 cd_stack_3 lp_facts_5 s1_4) n_6 0 lp_facts)) ∧ ((r_1 : Int32) = 0 → post cd_height cd_stack lp_facts s1)))
def wp_Loop_loadAssignment_L45 (x5 : Int32) (x6 : Int32) (s1 : Nat → Int32) (k98 : (Nat → Int32) → Prop) : Nat → Int32 → (Nat → Int32) → Prop
  | 0, _, _ => False
  | n + 1, x7, lp_turns =>
    (((4096 : Int32) ≤ (x7 : Int32) → k98 lp_turns) ∧ (¬ (4096 : Int32) ≤ (x7 : Int32) → (vp_in (x5 + x7) 24576 ∧ (vp_in x7 4096 ∧ (vp_in (x5 + x7) 24576 ∧ wp_Loop_loadAssignment_L45 x5 x6 s1 k98 n (x7 + 1) (upd lp_turns (x5 + x7 : Int32).toNatClampNeg (((lp_turns (x5 + x7 : Int32).toNatClampNeg) &&& ((15 <<< (x6 &&& 31)) ^^^ (-1))) ||| ((s1 (x7 : Int32).toNatClampNeg) <<< (x6 &&& 31)))))))))
def wp_Loop_loadAssignment (x2 : Int32) (x3 : Int32) (cd_height : Int32) (cd_steps : Nat → Int32) (cd_starts : Nat → Int32) (cd_stops : Nat → Int32) (cd_used : Nat → Int32) (cd_stack : Nat → Int32) (lp_turns : Nat → Int32) (s1 : Nat → Int32) (post : Int32 → (Nat → Int32) → (Nat → Int32) → (Nat → Int32) → Prop) : Prop :=
  (∀ x4_1 : Int32, x4_1 = ((21 + (x2 * 3)) + x3) → wp_Code_isTold x4_1 cd_starts (fun r_2 => ((¬ (r_2 : Int32) = 0 → wp_Code_tabulate x4_1 cd_height cd_steps cd_starts cd_stops cd_used cd_stack s1 (fun cd_height_3 cd_stack_4 s1_5 => (∀ x5_6 : Int32, x5_6 = (x2 * 4096) → (∀ x6_7 : Int32, x6_7 = (4 * x3) → ∃ n_9, wp_Loop_loadAssignment_L45 x5_6 x6_7 s1_5 (fun lp_turns_8 => post cd_height_3 cd_stack_4 lp_turns_8 s1_5) n_9 0 lp_turns)))) ∧ ((r_2 : Int32) = 0 → post cd_height cd_stack lp_turns s1))))
def wp_Loop_loadChoice_L20 (x2 : Int32) (x3 : Int32) (k45 : (Nat → Int32) → Prop) : Nat → Int32 → (Nat → Int32) → Prop
  | 0, _, _ => False
  | n + 1, x4, lp_turns =>
    (((4096 : Int32) ≤ (x4 : Int32) → k45 lp_turns) ∧ (¬ (4096 : Int32) ≤ (x4 : Int32) → (vp_in (x3 + x4) 24576 ∧ wp_Loop_loadChoice_L20 x2 x3 k45 n (x4 + 1) (upd lp_turns (x3 + x4 : Int32).toNatClampNeg x4))))
def wp_Loop_loadChoice_L48 (x2 : Int32) (x3 : Int32) (cd_steps : Nat → Int32) (cd_starts : Nat → Int32) (cd_stops : Nat → Int32) (cd_used : Nat → Int32) (k68 : (Int32) → (Nat → Int32) → (Nat → Int32) → (Nat → Int32) → Prop) : Nat → Int32 → (Int32) → (Nat → Int32) → (Nat → Int32) → (Nat → Int32) → Prop
  | 0, _, _, _, _, _ => False
  | n + 1, x4, cd_height, cd_stack, lp_turns, s1 =>
    (((3 : Int32) ≤ (x4 : Int32) → k68 cd_height cd_stack lp_turns s1) ∧ (¬ (3 : Int32) ≤ (x4 : Int32) → wp_Loop_loadAssignment x2 x4 cd_height cd_steps cd_starts cd_stops cd_used cd_stack lp_turns s1 (fun cd_height_1 cd_stack_2 lp_turns_3 s1_4 => wp_Loop_loadChoice_L48 x2 x3 cd_steps cd_starts cd_stops cd_used k68 n (x4 + 1) cd_height_1 cd_stack_2 lp_turns_3 s1_4)))
def wp_Loop_loadChoice_L83 (x3 : Int32) (s1 : Nat → Int32) (k117 : (Nat → Int32) → Prop) : Nat → Int32 → (Nat → Int32) → Prop
  | 0, _, _ => False
  | n + 1, x4, lp_turns =>
    (((4096 : Int32) ≤ (x4 : Int32) → k117 lp_turns) ∧ (¬ (4096 : Int32) ≤ (x4 : Int32) → (vp_in x4 4096 ∧ ((¬ (s1 (x4 : Int32).toNatClampNeg : Int32) = 0 → wp_Loop_loadChoice_L83 x3 s1 k117 n (x4 + 1) lp_turns) ∧ ((s1 (x4 : Int32).toNatClampNeg : Int32) = 0 → (vp_in (x3 + x4) 24576 ∧ wp_Loop_loadChoice_L83 x3 s1 k117 n (x4 + 1) (upd lp_turns (x3 + x4 : Int32).toNatClampNeg (-1))))))))
def wp_Loop_loadChoice (x2 : Int32) (cd_height : Int32) (cd_steps : Nat → Int32) (cd_starts : Nat → Int32) (cd_stops : Nat → Int32) (cd_used : Nat → Int32) (cd_stack : Nat → Int32) (lp_turns : Nat → Int32) (s1 : Nat → Int32) (post : Int32 → (Nat → Int32) → (Nat → Int32) → (Nat → Int32) → Prop) : Prop :=
  (((x2 : Int32) < 0 → post cd_height cd_stack lp_turns s1) ∧ (¬ (x2 : Int32) < 0 → (((x2 : Int32) < (6 : Int32) → (∀ x3_1 : Int32, x3_1 = (x2 * 4096) → ∃ n_15, wp_Loop_loadChoice_L20 x2 x3_1 (fun lp_turns_2 => ∃ n_14, wp_Loop_loadChoice_L48 x2 x3_1 cd_steps cd_starts cd_stops cd_used (fun cd_height_5 cd_stack_6 lp_turns_7 s1_8 => wp_Code_tabulate (15 + x2) cd_height_5 cd_steps cd_starts cd_stops cd_used cd_stack_6 s1_8 (fun cd_height_9 cd_stack_10 s1_11 => ∃ n_13, wp_Loop_loadChoice_L83 x3_1 s1_11 (fun lp_turns_12 => post cd_height_9 cd_stack_10 lp_turns_12 s1_11) n_13 0 lp_turns_7)) n_14 0 cd_height cd_stack lp_turns_2 s1) n_15 0 lp_turns)) ∧ (¬ (x2 : Int32) < (6 : Int32) → post cd_height cd_stack lp_turns s1))))
def wp_Loop_markEnds_L10 (s1 : Nat → Int32) (k43 : (Nat → Int32) → Prop) : Nat → Int32 → (Nat → Int32) → Prop
  | 0, _, _ => False
  | n + 1, x1, lp_facts =>
    (((4096 : Int32) ≤ (x1 : Int32) → k43 lp_facts) ∧ (¬ (4096 : Int32) ≤ (x1 : Int32) → (vp_in x1 4096 ∧ ((¬ (s1 (x1 : Int32).toNatClampNeg : Int32) = 0 → wp_Loop_markEnds_L10 s1 k43 n (x1 + 1) lp_facts) ∧ ((s1 (x1 : Int32).toNatClampNeg : Int32) = 0 → (vp_in x1 4096 ∧ (vp_in x1 4096 ∧ wp_Loop_markEnds_L10 s1 k43 n (x1 + 1) (upd lp_facts (x1 : Int32).toNatClampNeg ((lp_facts (x1 : Int32).toNatClampNeg) ||| 8)))))))))
def wp_Loop_markEnds (lp_choices : Int32) (lp_facts : Nat → Int32) (lp_turns : Nat → Int32) (s1 : Nat → Int32) (post : (Nat → Int32) → (Nat → Int32) → Prop) : Prop :=
  wp_Loop_countTurns lp_choices lp_turns s1 (fun s1_1 => ∃ n_3, wp_Loop_markEnds_L10 s1_1 (fun lp_facts_2 => post lp_facts_2 s1_1) n_3 0 lp_facts)
def wp_Loop_putSource (x1 : Int32) (x2 : Int32) (lp_first : Nat → Int32) (lp_src : Nat → Int32) (post : (Nat → Int32) → (Nat → Int32) → Prop) : Prop :=
  wp_LI_isState x2 (fun r_1 => ((¬ (r_1 : Int32) = 0 → (vp_in x2 4097 ∧ (∀ x3_2 : Int32, x3_2 = ((lp_first (x2 : Int32).toNatClampNeg) - 1) → (((x3_2 : Int32) < 0 → post lp_first lp_src) ∧ (¬ (x3_2 : Int32) < 0 → (((24576 : Int32) ≤ (x3_2 : Int32) → post lp_first lp_src) ∧ (¬ (24576 : Int32) ≤ (x3_2 : Int32) → (vp_in x2 4097 ∧ (vp_in x3_2 24576 ∧ post (upd lp_first (x2 : Int32).toNatClampNeg x3_2) (upd lp_src (x3_2 : Int32).toNatClampNeg x1)))))))))) ∧ ((r_1 : Int32) = 0 → post lp_first lp_src)))
def wp_Loop_linkSources_L19 (x1 : Int32) (lp_choices : Int32) (lp_turns : Nat → Int32) (k57 : (Nat → Int32) → Prop) : Nat → Int32 → (Nat → Int32) → Prop
  | 0, _, _ => False
  | n + 1, x2, lp_first =>
    (((lp_choices : Int32) ≤ (x2 : Int32) → k57 lp_first) ∧ (¬ (lp_choices : Int32) ≤ (x2 : Int32) → wp_Loop_turn x1 x2 lp_choices lp_turns (fun r_1 => wp_LI_isState r_1 (fun r_2 => (((r_2 : Int32) = 0 → wp_Loop_linkSources_L19 x1 lp_choices lp_turns k57 n (x2 + 1) lp_first) ∧ (¬ (r_2 : Int32) = 0 → (vp_in r_1 4097 ∧ (vp_in r_1 4097 ∧ wp_Loop_linkSources_L19 x1 lp_choices lp_turns k57 n (x2 + 1) (upd lp_first (r_1 : Int32).toNatClampNeg ((lp_first (r_1 : Int32).toNatClampNeg) + 1))))))))))
def wp_Loop_linkSources_L10 (lp_choices : Int32) (lp_turns : Nat → Int32) (k63 : (Nat → Int32) → Prop) : Nat → Int32 → (Nat → Int32) → Prop
  | 0, _, _ => False
  | n + 1, x1, lp_first =>
    (((4096 : Int32) ≤ (x1 : Int32) → k63 lp_first) ∧ (¬ (4096 : Int32) ≤ (x1 : Int32) → ∃ n_4, wp_Loop_linkSources_L19 x1 lp_choices lp_turns (fun lp_first_3 => wp_Loop_linkSources_L10 lp_choices lp_turns k63 n (x1 + 1) lp_first_3) n_4 0 lp_first))
def wp_Loop_linkSources_L65 (k95 : (Nat → Int32) → Prop) : Nat → Int32 → (Nat → Int32) → Prop
  | 0, _, _ => False
  | n + 1, x1, lp_first =>
    (((4096 : Int32) ≤ (x1 : Int32) → k95 lp_first) ∧ (¬ (4096 : Int32) ≤ (x1 : Int32) → (vp_in (x1 + 1) 4097 ∧ (vp_in x1 4097 ∧ (vp_in (x1 + 1) 4097 ∧ wp_Loop_linkSources_L65 k95 n (x1 + 1) (upd lp_first (x1 + 1 : Int32).toNatClampNeg ((lp_first (x1 + 1 : Int32).toNatClampNeg) + (lp_first (x1 : Int32).toNatClampNeg))))))))
def wp_Loop_linkSources_L105 (x1 : Int32) (lp_choices : Int32) (lp_turns : Nat → Int32) (k130 : (Nat → Int32) → (Nat → Int32) → Prop) : Nat → Int32 → (Nat → Int32) → (Nat → Int32) → Prop
  | 0, _, _, _ => False
  | n + 1, x2, lp_first, lp_src =>
    (((lp_choices : Int32) ≤ (x2 : Int32) → k130 lp_first lp_src) ∧ (¬ (lp_choices : Int32) ≤ (x2 : Int32) → wp_Loop_turn x1 x2 lp_choices lp_turns (fun r_1 => wp_Loop_putSource x1 r_1 lp_first lp_src (fun lp_first_2 lp_src_3 => wp_Loop_linkSources_L105 x1 lp_choices lp_turns k130 n (x2 + 1) lp_first_2 lp_src_3))))
def wp_Loop_linkSources_L99 (lp_choices : Int32) (lp_turns : Nat → Int32) (k136 : (Nat → Int32) → (Nat → Int32) → Prop) : Nat → Int32 → (Nat → Int32) → (Nat → Int32) → Prop
  | 0, _, _, _ => False
  | n + 1, x1, lp_first, lp_src =>
    (((x1 : Int32) < 0 → k136 lp_first lp_src) ∧ (¬ (x1 : Int32) < 0 → ∃ n_6, wp_Loop_linkSources_L105 x1 lp_choices lp_turns (fun lp_first_4 lp_src_5 => wp_Loop_linkSources_L99 lp_choices lp_turns k136 n (x1 + (-1)) lp_first_4 lp_src_5) n_6 0 lp_first lp_src))
def wp_Loop_linkSources (lp_choices : Int32) (lp_turns : Nat → Int32) (lp_first : Nat → Int32) (lp_src : Nat → Int32) (post : (Nat → Int32) → (Nat → Int32) → Prop) : Prop :=
  ∃ n_11, wp_Loop_linkSources_L10 lp_choices lp_turns (fun lp_first_5 => ∃ n_10, wp_Loop_linkSources_L65 (fun lp_first_6 => ∃ n_9, wp_Loop_linkSources_L99 lp_choices lp_turns (fun lp_first_7 lp_src_8 => post lp_first_7 lp_src_8) n_9 4095 lp_first_6 lp_src) n_10 0 lp_first_5) n_11 0 (vp_fill lp_first 4097 0)
def wp_Loop_load_L57 (cd_steps : Nat → Int32) (cd_starts : Nat → Int32) (cd_stops : Nat → Int32) (cd_used : Nat → Int32) (lp_guesses : Int32) (k82 : (Int32) → (Nat → Int32) → (Nat → Int32) → (Nat → Int32) → Prop) : Nat → Int32 → (Int32) → (Nat → Int32) → (Nat → Int32) → (Nat → Int32) → Prop
  | 0, _, _, _, _, _ => False
  | n + 1, x3, cd_height, cd_stack, lp_facts, s1 =>
    (((lp_guesses : Int32) ≤ (x3 : Int32) → k82 cd_height cd_stack lp_facts s1) ∧ (¬ (lp_guesses : Int32) ≤ (x3 : Int32) → wp_Loop_loadFact (3 + x3) (4 + x3) cd_height cd_steps cd_starts cd_stops cd_used cd_stack lp_facts s1 (fun cd_height_1 cd_stack_2 lp_facts_3 s1_4 => wp_Loop_load_L57 cd_steps cd_starts cd_stops cd_used lp_guesses k82 n (x3 + 1) cd_height_1 cd_stack_2 lp_facts_3 s1_4)))
def wp_Loop_load_L92 (cd_steps : Nat → Int32) (cd_starts : Nat → Int32) (cd_stops : Nat → Int32) (cd_used : Nat → Int32) (lp_choices : Int32) (k112 : (Int32) → (Nat → Int32) → (Nat → Int32) → (Nat → Int32) → Prop) : Nat → Int32 → (Int32) → (Nat → Int32) → (Nat → Int32) → (Nat → Int32) → Prop
  | 0, _, _, _, _, _ => False
  | n + 1, x3, cd_height, cd_stack, lp_turns, s1 =>
    (((lp_choices : Int32) ≤ (x3 : Int32) → k112 cd_height cd_stack lp_turns s1) ∧ (¬ (lp_choices : Int32) ≤ (x3 : Int32) → wp_Loop_loadChoice x3 cd_height cd_steps cd_starts cd_stops cd_used cd_stack lp_turns s1 (fun cd_height_1 cd_stack_2 lp_turns_3 s1_4 => wp_Loop_load_L92 cd_steps cd_starts cd_stops cd_used lp_choices k112 n (x3 + 1) cd_height_1 cd_stack_2 lp_turns_3 s1_4)))
def wp_Loop_load (cd_height : Int32) (cd_steps : Nat → Int32) (cd_starts : Nat → Int32) (cd_stops : Nat → Int32) (cd_used : Nat → Int32) (cd_stack : Nat → Int32) (ps_unaries : Int32) (ps_choices : Int32) (ps_guesses : Int32) (lp_choices : Int32) (lp_guesses : Int32) (lp_unaries : Int32) (lp_ranked : Int32) (lp_facts : Nat → Int32) (lp_turns : Nat → Int32) (lp_first : Nat → Int32) (lp_src : Nat → Int32) (s1 : Nat → Int32) (post : Int32 → (Nat → Int32) → Int32 → Int32 → Int32 → Int32 → (Nat → Int32) → (Nat → Int32) → (Nat → Int32) → (Nat → Int32) → (Nat → Int32) → Prop) : Prop :=
  wp_Pars_choices ps_choices (fun r_1 => wp_Pars_guesses ps_guesses (fun r_2 => wp_Pars_unaries ps_unaries (fun r_3 => wp_Code_isTold 2 cd_starts (fun r_4 => (vp_z r_4 ∧ wp_Loop_loadFact 0 0 cd_height cd_steps cd_starts cd_stops cd_used cd_stack (vp_fill lp_facts 4096 0) s1 (fun cd_height_5 cd_stack_6 lp_facts_7 s1_8 => wp_Loop_loadFact 1 1 cd_height_5 cd_steps cd_starts cd_stops cd_used cd_stack_6 lp_facts_7 s1_8 (fun cd_height_9 cd_stack_10 lp_facts_11 s1_12 => ∃ n_30, wp_Loop_load_L57 cd_steps cd_starts cd_stops cd_used r_2 (fun cd_height_13 cd_stack_14 lp_facts_15 s1_16 => wp_Loop_loadFact 2 16 cd_height_13 cd_steps cd_starts cd_stops cd_used cd_stack_14 lp_facts_15 s1_16 (fun cd_height_17 cd_stack_18 lp_facts_19 s1_20 => ∃ n_29, wp_Loop_load_L92 cd_steps cd_starts cd_stops cd_used r_1 (fun cd_height_21 cd_stack_22 lp_turns_23 s1_24 => wp_Loop_markEnds r_1 lp_facts_19 lp_turns_23 s1_24 (fun lp_facts_25 s1_26 => wp_Loop_linkSources r_1 lp_turns_23 lp_first lp_src (fun lp_first_27 lp_src_28 => post cd_height_21 cd_stack_22 r_1 r_2 r_3 r_4 lp_facts_25 lp_turns_23 lp_first_27 lp_src_28 s1_26))) n_29 0 cd_height_17 cd_stack_18 lp_turns s1_20)) n_30 0 cd_height_9 cd_stack_10 lp_facts_11 s1_12)))))))
