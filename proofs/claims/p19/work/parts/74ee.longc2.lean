/-! longest, in a pair -/
section LH
variable {S : Nat → Option (List Nat)} {c g : Nat}
def KD (S : Nat → Option (List Nat)) (c : Nat) (W : List Nat) (n : Nat) (w : Nat → Nat) (m : Nat) : Prop := (∀ j i t, j < n → i < 6 → nxc S c (W.getD j 0) i = some t → w (W.getD j 0) + 1 ≤ w t) ∧ (∀ j, j < n → w (W.getD j 0) ≤ m) ∧ (m = 0 ∨ ∃ j, j < n ∧ m = w (W.getD j 0)) ∧ m ≤ 4096
theorem lt76x (hS : SOk S) (hc : c ≤ 6) {tu : Nat → Int32} (hT : Tu S c tu) {K : Int32 → (Nat → Int32) → (Nat → Int32) → Int32 → (Nat → Int32) → Prop} (h : ∀ W s1 s2 wi w m, KB S c W (un2 S c W W.length) s1 wi → KW S c W.length s2 w → KD S c W W.length w m → K (nI m) s1 s2 (nI W.length) wi) : ∀ k n W s1 s2 wi w m, n + k = 4096 → n ≤ W.length → KB S c W (un2 S c W n) s1 wi → KW S c n s2 w → KD S c W n w m → wp_Runs_longestTurns_L76 (nI c) tu K (k + 1) (nI m) (nI n) s1 s2 (nI W.length) wi := by
  intro k
  induction k with
  | zero =>
    intro n W s1 s2 wi w m hn hl hB hW hD
    have hlen : W.length ≤ 4096 := by rw [hB.2.2.2.2.2]; exact cw_le _ _
    have hn : n = W.length := by omega
    rw [hn] at hB hW hD
    exact br_t (nI_le (show 4096 ≤ n by omega) (by omega)) (h W s1 s2 wi w m hB hW hD)
  | succ k ih =>
    intro n W s1 s2 wi w m hn hl hB hW hD
    have hlen : W.length ≤ 4096 := by rw [hB.2.2.2.2.2]; exact cw_le _ _
    refine br_f (show ¬ nI 4096 ≤ nI n from nI_ge (by omega) (by decide)) (br_c (fun q => ?_) (fun q => ?_))
    · have : W.length ≤ n := (nI_leI (by omega) (by omega)).mp q
      have e : n = W.length := by omega
      rw [e] at hB hW hD
      exact h W s1 s2 wi w m hB hW hD
    · have hlt : n < W.length := Nat.lt_of_not_le (fun z => q (nI_le z (by omega)))
      have hmem := getD_mem hlt
      have hx4 := hB.2.2.2.2.1 _ hmem
      have hcx := ((hB.2.2.2.1 _ hx4).mp hmem).1
      have hpin : pin W n (W.getD n 0) = false := by
        cases e : pin W n (W.getD n 0) with
        | false => rfl
        | true =>
          obtain ⟨j, hj, ej⟩ := (pin_iff n).mp e
          exact absurd ej (hB.2.1 j n hj hlt)
      have eo : (fun t => un2 S c W (n + 1) t + (rcn S (W.getD n 0) t c - rcn S (W.getD n 0) t 0)) = un2 S c W n := by
        funext t
        rw [un2_s (t := t) hx4 hcx hpin]; rfl
      refine q_item hB.1 hlt hlen (q_isState hx4 (bn_f (by decide) ⟨c + 1, lv11x hS hc hT (n := n) (x := W.getD n 0) (by omega) (w0 := w) (W0 := W) (fun W' s1' s2' wi' w' hn' ex' hB' hW' h0' hj' hp' hc' => ⟨vp_in_nI hx4 (by decide), fun y ey => ?_⟩) (hW _ hx4).2.1 c 0 W s1 s2 wi w (by omega) hlt rfl (by rw [eo]; exact hB) (fun t ht => ⟨(hW t ht).1, Nat.le_succ_of_le (hW t ht).2.1, (hW t ht).2.2⟩) (fun _ => Nat.le_refl _) (fun _ _ => rfl) (fun _ _ => rfl) (fun j t hj => absurd hj (Nat.not_lt_zero j))⟩))
      have hwx : w' (W.getD n 0) = w (W.getD n 0) := by
        have := hj' n (Nat.le_refl _)
        rw [ex'] at this
        exact this
      have hwn := (hW _ hx4).2.1
      obtain ⟨d1, d2, d3, d4⟩ := hD
      rw [nI_clamp (show W.getD n 0 < 2 ^ 31 by omega), (hW' _ hx4).1, hwx] at ey
      have ewj : ∀ j, j ≤ n → w' (W'.getD j 0) = w (W.getD j 0) := fun j hj => by rw [hj' j hj, hp' j hj]
      have fin : ∀ m', m ≤ m' → w (W.getD n 0) ≤ m' → (m' = m ∨ m' = w (W.getD n 0)) → wp_Runs_longestTurns_L76 (nI c) tu K (k + 1) (nI m') (nI n + 1) s1' s2' (nI W'.length) wi' := fun m' h1 h2 h3 => by
        rw [nI_1]
        refine ih (n + 1) W' s1' s2' wi' w' m' (by omega) (by omega) hB' hW' ⟨fun j i t hj hi e => ?_, fun j hj => ?_, ?_, by omega⟩
        · by_cases z : j = n
          · subst z
            rw [ex'] at e ⊢
            exact hc' i t hi e
          · have := d1 j i t (by omega) hi (by rw [← hp' j (by omega)]; exact e)
            rw [ewj j (by omega)]
            exact Nat.le_trans this (h0' t)
        · rw [ewj j (by omega)]
          by_cases z : j = n
          · subst z; exact h2
          · exact Nat.le_trans (d2 j (by omega)) h1
        · rcases h3 with h3 | h3
          · rcases d3 with z | ⟨j, hj, ej⟩
            · exact Or.inl (by omega)
            · exact Or.inr ⟨j, by omega, by rw [ewj j (by omega), h3, ej]⟩
          · exact Or.inr ⟨n, by omega, by rw [ewj n (Nat.le_refl _), h3]⟩
      rw [ey]
      by_cases z : m < w (W.getD n 0)
      · rw [if_pos (nI_lt z (by omega))]
        exact fin _ (by omega) (Nat.le_refl _) (Or.inr rfl)
      · rw [if_neg (fun y => z ((nI_ltI (by omega) (by omega)).mp y))]
        exact fin m (Nat.le_refl _) (by omega) (Or.inl rfl)
theorem come_len (hS : SOk S) : (come S c).1.length = cw (cmb S c) 4096 := by
  have hq := (QI_come (c := c) hS).2.2
  have key : ∀ n, sm (no1 (come S c).2) n + cw (cmb S c) n = n := by
    intro n
    induction n with
    | zero => rfl
    | succ n ih =>
      rw [cw_s]
      show sm (no1 (come S c).2) n + no1 (come S c).2 n + _ = n + 1
      have ec : cmb S c n = ((come S c).2 n).isSome := rfl
      rw [ec]
      cases e : (come S c).2 n with
      | none => rw [no1_none e]; show _ + 1 + (cw (cmb S c) n + 0) = n + 1; omega
      | some x => rw [no1_some e]; show _ + 0 + (cw (cmb S c) n + 1) = n + 1; omega
  have := key 4096
  omega
theorem len_Sb (hS : SOk S) : (come S c).1.length = 0 ↔ ¬ Sb S := by
  obtain ⟨k', h1, _, _⟩ := come_mo (c := c) hS
  refine ⟨fun h ⟨t, ht, hv⟩ => ?_, fun h => ?_⟩
  · have := h1.1 t 0 ht (come_beg hv)
    rw [List.eq_nil_of_length_eq_zero h] at this
    cases this
  · refine Nat.eq_zero_of_not_pos (fun z => ?_)
    obtain ⟨ht, x, hx⟩ := (QI_come (c := c) hS).1 _ (getD_mem z)
    obtain ⟨b, hb, hv, _⟩ := beg_long hS x _ 0 ht hx trivial
    exact h ⟨b, hb, hv⟩
theorem KB_LoR (hS : SOk S) (hc : c ≤ 6) (hSb : Sb S) {W : List Nat} {s1 s2 wi : Nat → Int32} {w : Nat → Nat} {m : Nat} (hB : KB S c W (un2 S c W W.length) s1 wi) (hW : KW S c W.length s2 w) (hD : KD S c W W.length w m) : (cw (cmb S c) 4096 ≤ W.length → LoR S c (nI m)) ∧ (¬ cw (cmb S c) 4096 ≤ W.length → LoR S c (nI 5000)) := by
  obtain ⟨a1, a2, a3, a4, a5, a6⟩ := hB
  obtain ⟨d1, d2, d3, d4⟩ := hD
  have hab := cw_ab (cmb S c) (fun t => decide (un2 S c W W.length t = 0)) 4096
  have a6 : W.length = cw (fun t => cmb S c t && (fun t => decide (un2 S c W W.length t = 0)) t) 4096 := a6
  have hWr : ∀ x, x ∈ W → Rc1 S c x := fun x hx => (cmb_Rc (a5 x hx)).mp ((a4 x (a5 x hx)).mp hx).1
  refine ⟨fun q => Or.inr ⟨m, rfl, ?_, fun k hk => ?_⟩, fun q => Or.inl ⟨fun k => ?_, rfl⟩⟩
  · rcases d3 with e | ⟨j, hj, e⟩
    · obtain ⟨t, ht, hv⟩ := hSb
      rw [e]
      exact ⟨t, ⟨ht, 0, come_beg hv⟩, trivial⟩
    · have hm := getD_mem hj
      have := En_Lp (w (W.getD j 0)) 0 _ (hWr _ hm) ((hW _ (a5 _ hm)).2.2 (hWr _ hm)) trivial
      rw [e]; exact this
  · have hall : ∀ t, Rc1 S c t → ∃ j, j < W.length ∧ W.getD j 0 = t := fun t hr => by
      have h1 : cw (cmb S c) 4096 = cw (fun t => cmb S c t && (fun t => decide (un2 S c W W.length t = 0)) t) 4096 := Nat.le_antisymm (by rw [← a6]; exact q) hab.1
      have h2 := (ab_all 4096).mp (hab.2.mp h1) t hr.1
      have hct := (cmb_Rc hr.1).mpr hr
      have h2 : (!cmb S c t || decide (un2 S c W W.length t = 0)) = true := h2
      rw [hct] at h2
      exact mem_getD.mp ((a4 t hr.1).mpr ⟨hct, of_decide_eq_true (by simpa using h2)⟩)
    have up : ∀ k s, Rc1 S c s → Pk S c k s → ∃ t, Rc1 S c t ∧ w s + k ≤ w t := by
      intro k
      induction k with
      | zero => intro s hr _; exact ⟨s, hr, Nat.le_refl _⟩
      | succ k ih =>
        intro s hr ⟨i, u, hi, e, hp⟩
        obtain ⟨t, ht, hle⟩ := ih u (Rc_next hS hr hi e) hp
        obtain ⟨j, hj, ej⟩ := hall s hr
        have := d1 j i u hj hi (by rw [ej]; exact e)
        rw [ej] at this
        exact ⟨t, ht, by omega⟩
    obtain ⟨s, hr, hp⟩ := hk
    obtain ⟨t, ht, hle⟩ := up k s hr hp
    obtain ⟨j, hj, ej⟩ := hall t ht
    have := d2 j hj
    rw [ej] at this
    omega
  · have hex : ∃ t, Rc1 S c t ∧ t ∉ W := by
      have hne : ¬ ab (fun t => !cmb S c t || (fun t => decide (un2 S c W W.length t = 0)) t) 4096 = true := fun z => by
        have := hab.2.mpr z
        omega
      refine Classical.byContradiction (fun z => hne ((ab_all 4096).mpr (fun t ht => ?_)))
      show (!cmb S c t || decide (un2 S c W W.length t = 0)) = true
      cases e : cmb S c t with
      | false => rfl
      | true =>
        have hr := (cmb_Rc ht).mp e
        have hin : t ∈ W := Classical.byContradiction (fun y => z ⟨t, hr, y⟩)
        rw [decide_eq_true ((a4 t ht).mp hin).2]; rfl
    have back : ∀ k t, Rc1 S c t → t ∉ W → En S c k t := by
      intro k
      induction k with
      | zero => intro t hr _; exact hr
      | succ k ih =>
        intro t hr hn
        have hct := (cmb_Rc hr.1).mpr hr
        have hpos : 0 < un2 S c W W.length t := Nat.pos_of_ne_zero (fun z => hn ((a4 t hr.1).mpr ⟨hct, z⟩))
        obtain ⟨s, hs, hf⟩ := sm_pos 4096 hpos
        have hf : 0 < if (cmb S c s && !pin W W.length s) then rcn S s t c else 0 := hf
        by_cases y : (cmb S c s && !pin W W.length s) = true
        · rw [if_pos y] at hf
          rw [Bool.and_eq_true] at y
          obtain ⟨i, hi, e⟩ := (rcn_nxc hc).mp hf
          have hrs := (cmb_Rc hs).mp y.1
          refine ⟨s, i, hrs, hi, ih s hrs (fun z => ?_), e⟩
          have := (pin_iff W.length).mpr (mem_getD.mp z)
          rw [this] at y
          cases y.2
        · rw [if_neg y] at hf
          exact absurd hf (Nat.lt_irrefl 0)
    obtain ⟨t, hr, hn⟩ := hex
    exact En_Lp k 0 t hr (back k t hr hn) trivial
theorem c_longest (hS : SOk S) (hc : c ≤ 6) (hg : g ≤ 12) {fa tu s1 s2 wi : Nat → Int32} {ws : Int32} (hF : FaL S c g fa (come S c).2) (hT : Tu S c tu) {post : Int32 → (Nat → Int32) → (Nat → Int32) → Int32 → (Nat → Int32) → Prop} (h0 : ¬ Sb S → post (-1) s1 s2 ws wi) (h1 : ∀ r s1 s2 ws wi, Sb S → LoR S c r → post r s1 s2 ws wi) : wp_Runs_longestTurns (nI c) fa tu s1 s2 ws wi (nI (come S c).1.length) post := by
  have hl := QI_le (QI_come (c := c) hS)
  have hlen := come_len (c := c) hS
  have hsb := len_Sb (c := c) hS
  refine bn_c (fun q => ?_) (fun q => h0 (hsb.mp ((nI_eq (b := 0) (by omega) (by decide)).mp q)))
  have hSb : Sb S := Classical.byContradiction (fun z => q (congrArg nI (hsb.mpr z)))
  have harr : ∀ t, arr S c 4096 t < 2 ^ 30 := fun t => by
    have := sm_bnd (f := fun s => if cmb S c s then rcn S s t c else 0) (b := 6) (fun s => by
      show (if cmb S c s then rcn S s t c else 0) ≤ 6
      have := rcn_le (S := S) (s := s) (t := t) c
      split <;> omega) 4096
    show sm _ 4096 < 2 ^ 30
    omega
  refine ⟨4097, ca10x hS hc hg hF hT (fun f hf => ?_) 4096 0 (vp_fill s1 4096 0) rfl (fun t ht => fill_at ht)⟩
  have ho : ∀ t, t < 4096 → f t = nI (arr S c 4096 t) ∧ arr S c 4096 t < 2 ^ 30 := fun t ht => ⟨hf t ht, harr t⟩
  refine ⟨4097, lt30x hS hg hF ho (fun W wi hB => ⟨4097, ?_⟩) 4096 0 [] wi rfl ⟨fun k hk => absurd hk (Nat.not_lt_zero k), fun i j hij hj => absurd hj (Nat.not_lt_zero j), fun t => ⟨fun z => (by cases z), fun z => absurd z.1 (Nat.not_lt_zero t)⟩, rfl⟩⟩
  have eo : un2 S c W 0 = arr S c 4096 := by
    funext t
    refine sm_ext 4096 (fun s _ => ?_)
    show (if (cmb S c s && !false) then rcn S s t c else 0) = (if cmb S c s then rcn S s t c else 0)
    rw [Bool.not_false, Bool.and_true]
  refine lt76x hS hc hT (fun W s1 s2 wi w m hB hW hD => ?_) 4096 0 W f (vp_fill s2 4096 0) wi (fun _ => 0) 0 rfl (Nat.zero_le _) (by rw [eo]; exact hB) (fun t ht => ⟨fill_at ht, Nat.le_refl _, fun hr => hr⟩) ⟨fun j i t hj => absurd hj (Nat.not_lt_zero j), fun j hj => absurd hj (Nat.not_lt_zero j), Or.inl rfl, by decide⟩
  have L := KB_LoR hS hc hSb hB hW hD
  have hwl : W.length ≤ 4096 := by rw [hB.2.2.2.2.2]; exact cw_le _ _
  rw [hlen]
  have hcl := cw_le (cmb S c) 4096
  exact br_c (fun z => h1 _ _ _ _ _ hSb (L.1 ((nI_leI (by omega) (by omega)).mp z))) (fun z => h1 _ _ _ _ _ hSb (L.2 (fun y => z (nI_le y (by omega)))))
end LH
section PL
variable {lg lc lgu lu lr rr rg rp gl ml kb : Int32} {lf lt l1 ls rl rpa gr ac nm bg go rk cc wh be gc gs uc nr iB iG lv hg ro : Nat → Int32}
theorem x_longest (G : Gn lg lc lgu lu lr lf lt l1 ls rr rg rp rl rpa gl gr ml kb ac nm bg go rk cc wh be gc gs uc nr iB iG lv hg ro) {s1 s2 wi hh : Nat → Int32} {ws : Int32} {post : Int32 → (Nat → Int32) → (Nat → Int32) → Int32 → (Nat → Int32) → Int32 → (Nat → Int32) → Prop} (h : ∀ r s1 s2 ws wi hh, post r s1 s2 ws wi r hh) : wp_LI_longest lg lc lf lt s1 s2 ws wi rr (fun r s1 s2 ws wi => wp_Md_longest ml kb nr iB iG lv hg hh (fun r' hh => post r s1 s2 ws wi r' hh)) := by
  rcases G with ⟨rfl, rfl⟩ | ⟨rfl, l, S, c, g, u, rfl, hLO, hCI, hRI⟩
  · exact br_t rfl (br_t (by decide) (h _ _ _ _ _ _))
  · obtain ⟨rfl, _, _, _, hF, hT, _, _, rfl, _⟩ := hCI
    obtain ⟨hl, _, _, _, _, hN, hV, hL, rfl, _⟩ := hRI
    obtain ⟨hS, _, hc6, hg12, _⟩ := hLO
    have ha := kept_lt (S := S) (c := c) hg12
    refine br_f (by decide) (c_longest hS hc6 hg12 hF hT (fun q => r_longest hS hc6 hg12 ha hl hN hV hL (fun _ _ => h _ _ _ _ _ _) (fun r f q2 _ => absurd q2 q)) (fun r s1 s2 ws wi q hr => r_longest hS hc6 hg12 ha hl hN hV hL (fun q2 => absurd q q2) (fun r' f _ hr' => ?_)))
    rw [LoR_eq hr' hr]
    exact h _ _ _ _ _ _
end PL
