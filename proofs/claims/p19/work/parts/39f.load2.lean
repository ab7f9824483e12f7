/-! the class's loop as a whole -/
def fc (S : Nat → Option (List Nat)) (c g t : Nat) : Nat := val S t 0 + 2 * val S t 1 + 8 * en S c t + 16 * (Gb S t g + 4096 * val S t 2)
section LD
variable {S : Nat → Option (List Nat)} {sz c g : Nat} {steps sa so ud : Nat → Int32}
theorem val_lt2 (hS : SOk S) (t : Nat) {s : Nat} (h : s ≠ 2 ∧ s < 21) : val S t s < 2 := by
  have := val_lt hS t s
  rw [show Bs s = 2 from if_neg (by omega)] at this
  exact this
theorem val_lt16 (hS : SOk S) (t : Nat) : val S t 2 < 16 := val_lt hS t 2
theorem en_lt (t : Nat) : en S c t < 2 := by unfold en; split <;> decide
theorem c_load (hc : CodeOK S sz steps sa so ud) (hsz : sz ≤ 1200) (hS : SOk S) (h0 : ∃ o, S 0 = some o) (h1 : ∃ o, S 1 = some o) (hw : ∀ i, i < c → ∃ o, S (15 + i) = some o) (hgd : ∀ i, i < g → ∃ o, S (3 + i) = some o) (hc6 : c ≤ 6) (hg : g ≤ 12) {hh u lc lg lu lr : Int32} {st facts tu f sr row : Nat → Int32} {post : Int32 → (Nat → Int32) → Int32 → Int32 → Int32 → Int32 → (Nat → Int32) → (Nat → Int32) → (Nat → Int32) → (Nat → Int32) → (Nat → Int32) → Prop} (h : ∀ h2 st facts tu f sr row, (∀ t, t < 4096 → facts t = nI (fc S c g t)) → Tu S c tu → Sr S c f sr → post h2 st (nI c) (nI g) u (b01 (S 2).isSome) facts tu f sr row) : wp_Loop_load hh steps sa so ud st u (nI c) (nI g) lc lg lu lr facts tu f sr row post := by
  obtain ⟨o0, e0⟩ := h0
  obtain ⟨o1, e1⟩ := h1
  have fin : ∀ (rk : Int32), vp_z rk → rk = b01 (S 2).isSome → (vp_z rk ∧ wp_Loop_loadFact 0 0 hh steps sa so ud st (vp_fill facts 4096 0) row (fun cd_height_5 cd_stack_6 lp_facts_7 s1_8 => wp_Loop_loadFact 1 1 cd_height_5 steps sa so ud cd_stack_6 lp_facts_7 s1_8 (fun cd_height_9 cd_stack_10 lp_facts_11 s1_12 => ∃ n_30, wp_Loop_load_L57 steps sa so ud (nI g) (fun cd_height_13 cd_stack_14 lp_facts_15 s1_16 => wp_Loop_loadFact 2 16 cd_height_13 steps sa so ud cd_stack_14 lp_facts_15 s1_16 (fun cd_height_17 cd_stack_18 lp_facts_19 s1_20 => ∃ n_29, wp_Loop_load_L92 steps sa so ud (nI c) (fun cd_height_21 cd_stack_22 lp_turns_23 s1_24 => wp_Loop_markEnds (nI c) lp_facts_19 lp_turns_23 s1_24 (fun lp_facts_25 s1_26 => wp_Loop_linkSources (nI c) lp_turns_23 f sr (fun lp_first_27 lp_src_28 => post cd_height_21 cd_stack_22 (nI c) (nI g) u rk lp_facts_25 lp_turns_23 lp_first_27 lp_src_28 s1_26))) n_29 0 cd_height_17 cd_stack_18 tu s1_20)) n_30 0 cd_height_9 cd_stack_10 lp_facts_11 s1_12))) := by
    intro rk hz hr
    refine ⟨hz, c_loadFact (sec := 0) (k := 0) (F := fun _ => 0) hc hsz hS (by decide) (by decide) e0 (fun t ht => ⟨by show (if t < 4096 then (0 : Int32) else facts t) = nI 0; rw [if_pos ht]; rfl, by decide⟩) (fun h2 st2 fa2 row2 hf2 => ?_)⟩
    refine c_loadFact (sec := 1) (k := 1) (F := fun t => val S t 0) hc hsz hS (by decide) (by decide) e1 (fun t ht => ⟨by rw [hf2 t ht, val_some e0, Nat.zero_add, Nat.pow_zero, Nat.mul_one], val_lt2 hS t (by decide)⟩) (fun h3 st3 fa3 row3 hf3 => ⟨g + 1, ?_⟩)
    have hB : ∀ t, val S t 0 + 2 * val S t 1 < 4 := fun t => by
      have a := val_lt2 hS t (s := 0) (by decide)
      have b := val_lt2 hS t (s := 1) (by decide)
      omega
    refine c_l57 (B := fun t => val S t 0 + 2 * val S t 1) hc hsz hS hg hgd hB (fun h4 st4 fa4 row4 hf4 => ?_) g 0 h3 st3 fa3 row3 (by omega) (fun t ht => by rw [hf3 t ht, ← val_some e1, Nat.pow_one, Nat.mul_comm]; rfl)
    have hgb : ∀ t, Gb S t g < 4096 := fun t => Nat.lt_of_lt_of_le (Gb_lt hS t g hg) (Nat.pow_le_pow_right (n := 2) (j := 12) (by decide) hg)
    have rest : ∀ h5 st5 fa5 row5, (∀ t, t < 4096 → fa5 t = nI (val S t 0 + 2 * val S t 1 + 16 * (Gb S t g + 4096 * val S t 2))) → ∃ n_29, wp_Loop_load_L92 steps sa so ud (nI c) (fun cd_height_21 cd_stack_22 lp_turns_23 s1_24 => wp_Loop_markEnds (nI c) fa5 lp_turns_23 s1_24 (fun lp_facts_25 s1_26 => wp_Loop_linkSources (nI c) lp_turns_23 f sr (fun lp_first_27 lp_src_28 => post cd_height_21 cd_stack_22 (nI c) (nI g) u rk lp_facts_25 lp_turns_23 lp_first_27 lp_src_28 s1_26))) n_29 0 h5 st5 tu row5 := by
      intro h5 st5 fa5 row5 hf5
      refine ⟨c + 1, c_l92 hc hsz hS hc6 hw (fun h6 st6 tu6 row6 ht6 => ?_) c 0 h5 st5 tu row5 (by omega) (fun k hk => absurd hk (Nat.not_lt_zero k))⟩
      refine q_markEnds hS hc6 ht6 (B := fun t => val S t 0 + 2 * val S t 1) (G := fun t => Gb S t g + 4096 * val S t 2) hB (fun t => ?_) hf5 (fun fa7 row7 hf7 => q_link hS hc6 ht6 (fun f8 sr8 h8 => ?_))
      · have a := hgb t
        have b := val_lt16 hS t
        show Gb S t g + 4096 * val S t 2 < 2 ^ 16
        omega
      · rw [hr]; exact h h6 st6 fa7 tu6 f8 sr8 row7 hf7 ht6 h8
    cases e2 : S 2 with
    | none => exact c_loadFact_none (sec := 2) hc (by decide) e2 (rest _ _ _ _ (fun t ht => by rw [hf4 t ht, val_none e2]; rfl))
    | some o2 =>
      refine c_loadFact (sec := 2) (k := 16) (F := fun t => val S t 0 + 2 * val S t 1 + 16 * Gb S t g) hc hsz hS (by decide) (by decide) e2 (fun t ht => ⟨hf4 t ht, ?_⟩) (fun h5 st5 fa5 row5 hf5 => rest h5 st5 fa5 row5 (fun t ht => ?_))
      · have a := hgb t
        have b := hB t
        show val S t 0 + 2 * val S t 1 + 16 * Gb S t g < 2 ^ 16
        omega
      · rw [hf5 t ht, ← val_some e2]
        refine congrArg nI ?_
        show val S t 0 + 2 * val S t 1 + 16 * Gb S t g + val S t 2 * 65536 = _
        omega
  unfold wp_Loop_load wp_Pars_choices wp_Pars_guesses wp_Pars_unaries
  refine q_isTold (x := 2) 2 rfl (by decide) (fun _ q => ?_) (fun q => ?_)
  · refine fin 1 (Or.inr rfl) ?_
    cases e2 : S 2 with
    | none => exact absurd ((hc 2 (by decide)).1 e2).1 q
    | some o => rfl
  · refine fin 0 (Or.inl rfl) ?_
    cases e2 : S 2 with
    | none => rfl
    | some o =>
      obtain ⟨a, q1, q2, _⟩ := (hc 2 (by decide)).2 o e2
      rcases q with q | q
      · omega
      · rw [q2] at q; exact absurd q (nI_ne_m1 (by omega))
end LD
