/-! the class's choices -/
section LC
variable {S : Nat → Option (List Nat)} {sz : Nat} {steps sa so ud : Nat → Int32}
def sumN (n : Nat → Nat → Nat) (t : Nat) : Nat := n 0 t + 16 * n 1 t + 256 * n 2 t
def putN (S : Nat → Option (List Nat)) (i v : Nat) (n : Nat → Nat → Nat) : Nat → Nat → Nat := fun w t => if w = v then (match S (21 + i * 3 + v) with | some o => vl t o | none => n v t) else n w t
theorem c_asgn (hc : CodeOK S sz steps sa so ud) (hsz : sz ≤ 1200) (hS : SOk S) {i v : Nat} (hi : i < 6) (hv : v < 3) {n : Nat → Nat → Nat} (hn : ∀ w t, n w t < 16) {t0 tu st row : Nat → Int32} {h0 : Int32} (hF : Fro i t0 tu) (ht : ∀ t, t < 4096 → tu (i * 4096 + t) = nI (sumN n t)) {post : Int32 → (Nat → Int32) → (Nat → Int32) → (Nat → Int32) → Prop} (h : ∀ h st tu row, Fro i t0 tu → (∀ t, t < 4096 → tu (i * 4096 + t) = nI (sumN (putN S i v n) t)) → post h st tu row) : wp_Loop_loadAssignment (nI i) (nI v) h0 steps sa so ud st tu row post := by
  intro x4 hx4
  have hx4 : x4 = nI (21 + i * 3 + v) := by
    rw [hx4, show (21 : Int32) = nI 21 from rfl, show (3 : Int32) = nI 3 from rfl, pk_mul, nI_add, nI_add]
  subst hx4
  have hsec : 21 + i * 3 + v < 39 := by omega
  cases ho : S (21 + i * 3 + v) with
  | none =>
    refine q_isTold _ rfl (by omega) (fun _ q => absurd ((hc _ hsec).1 ho).1 q) (fun _ => bn_t rfl (h _ _ _ _ hF (fun t ht2 => ?_)))
    rw [ht t ht2]
    refine congrArg nI ?_
    unfold sumN putN
    rw [ho]
    rcases (show v = 0 ∨ v = 1 ∨ v = 2 by omega) with rfl | rfl | rfl <;> rfl
  | some o =>
    obtain ⟨a, q1, q2, _⟩ := (hc _ hsec).2 o ho
    have hlt : ∀ t, vl t o < 16 := fun t => by
      have := ((hS _ o ho).2 t).2
      rw [show Bs (21 + i * 3 + v) = 16 from if_pos (Or.inr (by omega))] at this
      exact this
    refine q_isTold _ rfl (by omega) (fun _ _ => bn_f (by decide) ?_) (fun q => ?_)
    · refine c_tab hc hsz hsec ho (fun x hx => Okx_lt ((hS _ o ho).1 x hx)) (fun s _ => ((hS _ o ho).2 s).1) (fun h2 st2 row2 hr => ?_)
      refine nm_r (e' := nI (i * 4096)) (by rw [show (4096 : Int32) = nI 4096 from rfl, pk_mul]) (nm_r (e' := nI (4 * v)) (sh_4 v hv) ⟨4097, ?_⟩)
      refine lc45 hi (v := fun t => vl t o) (T := sumN n) (T2 := sumN (putN S i v n)) hr (fun t _ => ?_) (fun tu2 hF2 h22 => h h2 st2 tu2 row2 hF2 h22) 4096 0 tu (by decide) hF (fun t ht2 => absurd ht2 (Nat.not_lt_zero t)) (fun t _ ht2 => ht t ht2)
      have hp := put_nib (hn 0 t) (hn 1 t) (hn 2 t) (hlt t)
      unfold sumN putN
      rw [ho]
      rcases (show v = 0 ∨ v = 1 ∨ v = 2 by omega) with rfl | rfl | rfl
      · exact hp.1
      · exact hp.2.1
      · exact hp.2.2
    · rcases q with q | q
      · omega
      · rw [q2] at q; exact absurd q (nI_ne_m1 (by omega))
theorem putN_lt (hS : SOk S) {i v : Nat} {n : Nat → Nat → Nat} (hn : ∀ w t, n w t < 16) : ∀ w t, putN S i v n w t < 16 := fun w t => by
  unfold putN
  split
  · cases ho : S (21 + i * 3 + v) with
    | none => exact hn v t
    | some o =>
      have := ((hS _ o ho).2 t).2
      rw [show Bs (21 + i * 3 + v) = 16 from if_pos (Or.inr (by omega))] at this
      exact this
  · exact hn w t
theorem put3 (i t : Nat) : sumN (putN S i 2 (putN S i 1 (putN S i 0 (fun v t => nb t v)))) t = ex S t i 0 + 16 * ex S t i 1 + 256 * ex S t i 2 := rfl
theorem c_choice (hc : CodeOK S sz steps sa so ud) (hsz : sz ≤ 1200) (hS : SOk S) {i : Nat} (hi : i < 6) (hw : ∃ o, S (15 + i) = some o) {tu st row : Nat → Int32} {h0 : Int32} {post : Int32 → (Nat → Int32) → (Nat → Int32) → (Nat → Int32) → Prop} (h : ∀ h st tu2 row, Fro i tu tu2 → (∀ t, t < 4096 → tu2 (i * 4096 + t) = tI (nx S t i)) → post h st tu2 row) : wp_Loop_loadChoice (nI i) h0 steps sa so ud st tu row post := by
  refine br_f (nI_pos (by omega)) (br_t (show nI i < nI 6 from nI_lt hi (by decide)) (nm_r (e' := nI (i * 4096)) (by rw [show (4096 : Int32) = nI 4096 from rfl, pk_mul]) ⟨4097, ?_⟩))
  refine lc20 hi (t0 := tu) (fun tu1 hF1 h1 => ?_) 4096 0 tu (by decide) (fun _ _ => rfl) (fun t ht => absurd ht (Nat.not_lt_zero t))
  have hn0 : ∀ w t, nb t w < 16 := fun w t => Nat.mod_lt _ (by decide)
  have fin : ∀ h st tu3 row, Fro i tu tu3 → (∀ t, t < 4096 → tu3 (i * 4096 + t) = nI (ex S t i 0 + 16 * ex S t i 1 + 256 * ex S t i 2)) → wp_Code_tabulate (15 + nI i) h steps sa so ud st row (fun h2 st2 row2 => ∃ n_13, wp_Loop_loadChoice_L83 (nI (i * 4096)) row2 (fun tu4 => post h2 st2 tu4 row2) n_13 0 tu3) := by
    intro h3 st3 tu3 row3 hF3 ht3
    rw [show (15 : Int32) = nI 15 from rfl, nI_add]
    obtain ⟨o, ho⟩ := hw
    refine c_tab hc hsz (by omega) ho (fun x hx => Okx_lt ((hS _ o ho).1 x hx)) (fun s _ => ((hS _ o ho).2 s).1) (fun h2 st2 row2 hr => ⟨4097, ?_⟩)
    refine lc83 hi (t0 := tu) (v := fun t => vl t o) (T := fun t => ex S t i 0 + 16 * ex S t i 1 + 256 * ex S t i 2) (fun t ht => ⟨hr t ht, ?_⟩) (fun tu4 hF4 h4 => h h2 st2 tu4 row2 hF4 (fun t ht => ?_)) 4096 0 tu3 (by decide) hF3 (fun t ht => absurd ht (Nat.not_lt_zero t)) (fun t _ ht => ht3 t ht)
    · have := ((hS _ o ho).2 t).2
      rw [show Bs (15 + i) = 2 from if_neg (by omega)] at this
      omega
    · rw [h4 t ht]
      unfold nx
      rw [val_some ho]
  refine ⟨4, br_f (by decide) ?_⟩
  refine c_asgn hc hsz hS hi (v := 0) (by decide) (n := fun v t => nb t v) hn0 hF1 (fun t ht => by rw [h1 t ht]; exact congrArg nI (nb_sum ht).symm) (fun ha sa1 ta ra hFa hta => br_f (by decide) ?_)
  refine c_asgn hc hsz hS hi (v := 1) (by decide) (putN_lt hS hn0) hFa hta (fun hb sb tb rb hFb htb => br_f (by decide) ?_)
  refine c_asgn hc hsz hS hi (v := 2) (by decide) (putN_lt hS (putN_lt hS hn0)) hFb htb (fun hc' sc tc' rc' hFc htc => br_t (by decide) ?_)
  exact fin _ _ _ _ hFc (fun t ht => by rw [htc t ht, put3])
theorem c_l92 (hc : CodeOK S sz steps sa so ud) (hsz : sz ≤ 1200) (hS : SOk S) {c : Nat} (hc6 : c ≤ 6) (hw : ∀ i, i < c → ∃ o, S (15 + i) = some o) {K : Int32 → (Nat → Int32) → (Nat → Int32) → (Nat → Int32) → Prop} (hK : ∀ h st tu row, (∀ i, i < c → ∀ t, t < 4096 → tu (i * 4096 + t) = tI (nx S t i)) → K h st tu row) : ∀ m i h st tu row, i + m = c → (∀ k, k < i → ∀ t, t < 4096 → tu (k * 4096 + t) = tI (nx S t k)) → wp_Loop_load_L92 steps sa so ud (nI c) K (m + 1) (nI i) h st tu row
  | 0, i, h, st, tu, row, hi, ht => by
    have : i = c := by omega
    subst this
    exact br_t (nI_le (Nat.le_refl _) (by omega)) (hK h st tu row ht)
  | m + 1, i, h, st, tu, row, hi, ht => by
    refine br_f (nI_ge (by omega) (by omega)) (c_choice hc hsz hS (by omega) (hw i (by omega)) (fun h2 st2 tu2 row2 hF h22 => ?_))
    rw [nI_1]
    refine c_l92 hc hsz hS hc6 hw hK m (i + 1) h2 st2 tu2 row2 (by omega) (fun k hk t htt => ?_)
    by_cases e : k = i
    · subst e; exact h22 t htt
    · rw [hF _ (by omega)]; exact ht k (by omega) t htt
end LC
