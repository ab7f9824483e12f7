/-! the class's rows of values: a state that differs in variables not used has the same value -/
def vl (s : Nat) (o : List Nat) : Nat := match rn 100 s o [] with | some (v :: _) => v | _ => 0
def wm (m : Nat) : Nat := [0, 15, 240, 255, 3840, 3855, 4080, 4095].getD m 0
def mo : List Nat → Nat → Nat
  | [], m => m
  | x :: l, m => mo l (if 16 ≤ x ∧ x < 19 then m ||| 2 ^ (x - 16) else m)
theorem wm_or : ∀ m, m < 8 → ∀ v, v < 3 → nI (wm m) ||| (15 <<< ((4 * nI v) &&& 31)) = nI (wm (m ||| 2 ^ v)) ∧ (m ||| 2 ^ v) < 8 := by decide +kernel
theorem ubf_mo : ∀ (o : List Nat) (m : Nat), m < 8 → ubf o (nI (wm m)) = nI (wm (mo o m)) ∧ mo o m < 8
  | [], m, h => ⟨rfl, h⟩
  | x :: l, m, h => by
    show ubf l (if 16 ≤ x ∧ x < 19 then nI (wm m) ||| (15 <<< ((4 * nI (x - 16)) &&& 31)) else nI (wm m)) = nI (wm (mo l (if 16 ≤ x ∧ x < 19 then m ||| 2 ^ (x - 16) else m))) ∧ mo l (if 16 ≤ x ∧ x < 19 then m ||| 2 ^ (x - 16) else m) < 8
    by_cases hx : 16 ≤ x ∧ x < 19
    · rw [if_pos hx, if_pos hx, (wm_or m h (x - 16) (by omega)).1]
      exact ubf_mo l _ (wm_or m h (x - 16) (by omega)).2
    · rw [if_neg hx, if_neg hx]; exact ubf_mo l m h
theorem nI_and (a b : Nat) : nI a &&& nI b = nI (a &&& b) := by
  apply Int32.toBitVec_inj.mp
  rw [Int32.toBitVec_and]
  exact BitVec.ofNat_and.symm
theorem nb_and (s v : Nat) : nb s v = (s >>> (4 * v)) &&& 15 := by
  unfold nb
  rw [show (15 : Nat) = 2 ^ 4 - 1 from rfl, Nat.and_two_pow_sub_one_eq_mod, Nat.shiftRight_eq_div_pow, Nat.pow_mul]
theorem wm_nib : ∀ m, m < 8 → ∀ v, v < 3 → m.testBit v = true → (wm m >>> (4 * v)) &&& 15 = 15 := by decide +kernel
theorem nb_keep {s m v : Nat} (hm : m < 8) (hv : v < 3) (h : m.testBit v = true) : nb (s &&& wm m) v = nb s v := by
  rw [nb_and, nb_and, Nat.shiftRight_and_distrib, Nat.and_assoc, wm_nib m hm v hv h]
theorem tb_or : ∀ m, m < 8 → ∀ v, v < 3 → ∀ w, w < 3 → (m.testBit w = true → (m ||| 2 ^ v).testBit w = true) ∧ (m ||| 2 ^ v).testBit v = true := by decide +kernel
theorem mo_bit : ∀ (o : List Nat) (m : Nat), m < 8 → (∀ w, w < 3 → m.testBit w = true → (mo o m).testBit w = true) ∧ (∀ x ∈ o, 16 ≤ x → x < 19 → (mo o m).testBit (x - 16) = true)
  | [], m, h => ⟨fun _ _ q => q, fun x hx => (by cases hx)⟩
  | x :: l, m, h => by
    by_cases hx : 16 ≤ x ∧ x < 19
    · have e : mo (x :: l) m = mo l (m ||| 2 ^ (x - 16)) := by show mo l _ = _; rw [if_pos hx]
      rw [e]
      have ih := mo_bit l (m ||| 2 ^ (x - 16)) (wm_or m h (x - 16) (by omega)).2
      refine ⟨fun w hw q => ih.1 w hw ((tb_or m h (x - 16) (by omega) w hw).1 q), fun y hy h1 h2 => ?_⟩
      rcases List.mem_cons.mp hy with rfl | hy
      · exact ih.1 _ (by omega) (tb_or m h (y - 16) (by omega) 0 (by decide)).2
      · exact ih.2 y hy h1 h2
    · have e : mo (x :: l) m = mo l m := by show mo l _ = _; rw [if_neg hx]
      rw [e]
      have ih := mo_bit l m h
      refine ⟨ih.1, fun y hy h1 h2 => ?_⟩
      rcases List.mem_cons.mp hy with rfl | hy
      · exact absurd ⟨h1, h2⟩ hx
      · exact ih.2 y hy h1 h2
theorem rn_same {H s s' : Nat} : ∀ (o st : List Nat), (∀ x ∈ o, 16 ≤ x → x < 19 → nb s (x - 16) = nb s' (x - 16)) → rn H s o st = rn H s' o st
  | [], st, _ => rfl
  | x :: o, st, h => by
    show (sp H s x st).bind (rn H s o) = (sp H s' x st).bind (rn H s' o)
    have e : sp H s x st = sp H s' x st := by
      unfold sp
      by_cases h1 : x < 16
      · rw [if_pos h1, if_pos h1]
      · rw [if_neg h1, if_neg h1]
        by_cases h2 : x < 19
        · rw [if_pos h2, if_pos h2, h x (List.mem_cons_self ..) (by omega) h2]
        · rw [if_neg h2, if_neg h2]
    rw [e]
    cases sp H s' x st with
    | none => rfl
    | some st' => exact rn_same o st' (fun y hy => h y (List.mem_cons_of_mem _ hy))
theorem vl_keep (s : Nat) (o : List Nat) : vl (s &&& wm (mo o 0)) o = vl s o := by
  unfold vl
  rw [rn_same o [] (s := s &&& wm (mo o 0)) (s' := s) (fun x hx h1 h2 => nb_keep (ubf_mo o 0 (by decide)).2 (by omega) ((mo_bit o 0 (by decide)).2 x hx h1 h2))]
theorem c_tab_L {sec a : Nat} {o : List Nat} {steps sa so : Nat → Int32} (hsec : sec < 39) (hsa : sa sec = nI a) (hso : so sec = nI (a + o.length)) (he : a + o.length ≤ 1200) (hst : ∀ k, k < o.length → steps (a + k) = nI (o.getD k 0)) (hx : ∀ x ∈ o, x < 2000) (hv : ∀ s, s < 4096 → rn 100 s o [] = some [vl s o]) {K : Int32 → (Nat → Int32) → (Nat → Int32) → Prop} (hK : ∀ h st row, (∀ t, t < 4096 → row t = nI (vl t o)) → K h st row) : ∀ m s h st row, s + m = 4096 → (∀ t, t < s → row t = nI (vl t o)) → wp_Code_tabulate_L19 (nI sec) (nI (wm (mo o 0))) steps sa so K (m + 1) (nI s) h st row
  | 0, s, h, st, row, hm, hr => br_t (show nI 4096 ≤ nI s from nI_le (by omega) (by omega)) (hK h st row (fun t ht => hr t (by omega)))
  | m + 1, s, h, st, row, hm, hr => by
    have n1 : ¬ nI 4096 ≤ nI s := nI_ge (by omega) (by decide)
    refine br_f n1 (br_f n1 ?_)
    have hle : s &&& wm (mo o 0) ≤ s := Nat.and_le_left
    refine nm_r (e' := nI (s &&& wm (mo o 0))) (nI_and _ _) (pk_le s (s &&& wm (mo o 0)) (fun q => ?_) (fun q => ?_))
    · have hin : vp_in (nI sec) 39 := vp_in_nI hsec (by decide)
      refine ⟨hin, hin, ?_⟩
      rw [nI_clamp (by omega), hsa, hso]
      refine c_value (by omega) he hst hx (hv s (by omega)) (fun stack' => ⟨vp_in_nI (by omega) (by decide), ?_⟩)
      rw [nI_clamp (by omega), nI_1]
      refine c_tab_L hsec hsa hso he hst hx hv hK m (s + 1) _ _ _ (by omega) (fun t ht => ?_)
      by_cases e : t = s
      · subst e; rw [pk_us]
      · rw [pk_un e]; exact hr t (by omega)
    · refine ⟨vp_in_nI (by omega) (by decide), vp_in_nI (by omega) (by decide), ?_⟩
      rw [nI_clamp (by omega), nI_clamp (by omega), nI_1, hr _ q, vl_keep]
      refine c_tab_L hsec hsa hso he hst hx hv hK m (s + 1) _ _ _ (by omega) (fun t ht => ?_)
      by_cases e : t = s
      · subst e; rw [pk_us]
      · rw [pk_un e]; exact hr t (by omega)
theorem c_tab {S : Nat → Option (List Nat)} {sz sec : Nat} {o : List Nat} {steps sa so ud st row : Nat → Int32} {h0 : Int32} (hc : CodeOK S sz steps sa so ud) (hsz : sz ≤ 1200) (hsec : sec < 39) (hS : S sec = some o) (hx : ∀ x ∈ o, x < 2000) (hv : ∀ s, s < 4096 → rn 100 s o [] = some [vl s o]) {post : Int32 → (Nat → Int32) → (Nat → Int32) → Prop} (h : ∀ h st row, (∀ t, t < 4096 → row t = nI (vl t o)) → post h st row) : wp_Code_tabulate (nI sec) h0 steps sa so ud st row post := by
  obtain ⟨a, h1, h2, h3, h4, h5⟩ := (hc sec hsec).2 o hS
  refine q_isTold sec rfl (by omega) (fun _ _ => bn_f (by decide) ⟨vp_in_nI hsec (by decide), ?_⟩) (fun q => ?_)
  · rw [nI_clamp (by omega)]
    refine nm_r (e' := nI (wm (mo o 0))) (by rw [h5]; exact (ubf_mo o 0 (by decide)).1) ⟨4097, c_tab_L hsec h2 h3 (by omega) h4 hx hv h 4096 0 _ _ _ (by decide) (fun t ht => absurd ht (Nat.not_lt_zero t))⟩
  · rcases q with q | q
    · omega
    · rw [h2] at q; exact absurd q (nI_ne_m1 (by omega))
theorem c_tab_none {S : Nat → Option (List Nat)} {sz sec : Nat} {steps sa so ud st row : Nat → Int32} {h0 : Int32} (hc : CodeOK S sz steps sa so ud) (hsec : sec < 39) (hS : S sec = none) {post : Int32 → (Nat → Int32) → (Nat → Int32) → Prop} (h : post h0 st row) : wp_Code_tabulate (nI sec) h0 steps sa so ud st row post :=
  q_isTold sec rfl (by omega) (fun _ q => absurd ((hc sec hsec).1 hS).1 q) (fun _ => bn_t rfl h)
/-- a section that was read has a value in every state -/
theorem Ev_vl {s B d : Nat} {o : List Nat} (h : Ev s B d o) (hd : d ≤ 100) : rn 100 s o [] = some [vl s o] ∧ vl s o < B := by
  obtain ⟨v, hv, e⟩ := h
  have e1 := e 100 [] (by simpa using hd)
  have e2 : vl s o = v := by unfold vl; rw [e1]
  rw [e2]
  exact ⟨e1, hv⟩
