/-! the class's facts of each state -/
theorem nI_or (a b : Nat) : nI a ||| nI b = nI (a ||| b) := by
  apply Int32.toBitVec_inj.mp
  rw [Int32.toBitVec_or]
  exact BitVec.ofNat_or.symm
theorem sh_k : ∀ k, k < 17 → ((nI k &&& 31).toBitVec.smod 32).toNat = k := by decide +kernel
theorem or_shl {a v k : Nat} (ha : a < 2 ^ k) (hv : v < 16) (hk : k ≤ 16) : nI a ||| (nI v <<< (nI k &&& 31)) = nI (a + v * 2 ^ k) := by
  have h2 : (2 : Nat) ^ k ≤ 2 ^ 16 := Nat.pow_le_pow_right (by decide) hk
  have h3 : v * 2 ^ k < 2 ^ 32 := Nat.lt_of_le_of_lt (Nat.mul_le_mul (Nat.le_of_lt hv) h2) (by decide)
  rw [pk_shlN _ k (sh_k k (by omega)) h3, nI_or]
  refine congrArg nI ?_
  rw [Nat.or_comm, ← Nat.shiftLeft_eq, ← Nat.shiftLeft_add_eq_or_of_lt ha, Nat.add_comm]
theorem lf_L {k : Nat} (hk : k ≤ 16) {s1 : Nat → Int32} {v F : Nat → Nat} (hv : ∀ t, t < 4096 → s1 t = nI (v t) ∧ v t < 16) (hF : ∀ t, t < 4096 → F t < 2 ^ k) {K : (Nat → Int32) → Prop} (hK : ∀ facts, (∀ t, t < 4096 → facts t = nI (F t + v t * 2 ^ k)) → K facts) : ∀ m s facts, s + m = 4096 → (∀ t, t < s → facts t = nI (F t + v t * 2 ^ k)) → (∀ t, s ≤ t → t < 4096 → facts t = nI (F t)) → wp_Loop_loadFact_L21 (nI k) s1 K (m + 1) (nI s) facts
  | 0, s, facts, hs, h1, h2 => br_t (show nI 4096 ≤ nI s from nI_le (by omega) (by omega)) (hK facts (fun t ht => h1 t (by omega)))
  | m + 1, s, facts, hs, h1, h2 => by
    have hin : vp_in (nI s) 4096 := vp_in_nI (by omega) (by decide)
    refine br_f (show ¬ nI 4096 ≤ nI s from nI_ge (by omega) (by decide)) ⟨hin, hin, hin, ?_⟩
    rw [nI_clamp (by omega), h2 s (Nat.le_refl s) (by omega), (hv s (by omega)).1, or_shl (hF s (by omega)) (hv s (by omega)).2 hk, nI_1]
    refine lf_L hk hv hF hK m (s + 1) _ (by omega) (fun t ht => ?_) (fun t ht ht2 => ?_)
    · by_cases e : t = s
      · subst e; rw [pk_us]
      · rw [pk_un e]; exact h1 t (by omega)
    · rw [pk_un (by omega)]; exact h2 t (by omega) ht2
theorem c_loadFact {S : Nat → Option (List Nat)} {sz sec k : Nat} {o : List Nat} {steps sa so ud st row facts : Nat → Int32} {h0 : Int32} {F : Nat → Nat} (hc : CodeOK S sz steps sa so ud) (hsz : sz ≤ 1200) (hS : SOk S) (hsec : sec < 39) (hk : k ≤ 16) (ho : S sec = some o) (hf : ∀ t, t < 4096 → facts t = nI (F t) ∧ F t < 2 ^ k) {post : Int32 → (Nat → Int32) → (Nat → Int32) → (Nat → Int32) → Prop} (h : ∀ h st facts row, (∀ t, t < 4096 → facts t = nI (F t + vl t o * 2 ^ k)) → post h st facts row) : wp_Loop_loadFact (nI sec) (nI k) h0 steps sa so ud st facts row post := by
  have hB : Bs sec ≤ 16 := by unfold Bs; split <;> decide
  obtain ⟨a, q1, q2, _⟩ := (hc sec hsec).2 o ho
  refine q_isTold sec rfl (by omega) (fun _ _ => bn_f (by decide) ?_) (fun q => ?_)
  · exact c_tab hc hsz hsec ho (fun x hx => Okx_lt ((hS sec o ho).1 x hx)) (fun s _ => ((hS sec o ho).2 s).1) (fun h2 st2 row2 hr => ⟨4097, lf_L hk (v := fun t => vl t o) (F := F) (fun t ht => ⟨hr t ht, Nat.lt_of_lt_of_le ((hS sec o ho).2 t).2 hB⟩) (fun t ht => (hf t ht).2) (fun facts2 hfa => h h2 st2 facts2 row2 hfa) 4096 0 facts (by decide) (fun t ht => absurd ht (Nat.not_lt_zero t)) (fun t _ ht => (hf t ht).1)⟩)
  · rcases q with q | q
    · omega
    · rw [q2] at q; exact absurd q (nI_ne_m1 (by omega))
theorem c_loadFact_none {S : Nat → Option (List Nat)} {sz sec : Nat} {x : Int32} {steps sa so ud st row facts : Nat → Int32} {h0 : Int32} (hc : CodeOK S sz steps sa so ud) (hsec : sec < 39) (ho : S sec = none) {post : Int32 → (Nat → Int32) → (Nat → Int32) → (Nat → Int32) → Prop} (h : post h0 st facts row) : wp_Loop_loadFact (nI sec) x h0 steps sa so ud st facts row post :=
  q_isTold sec rfl (by omega) (fun _ q => absurd ((hc sec hsec).1 ho).1 q) (fun _ => bn_t rfl h)
/-- a section's value in a state; what isn't told is 0 -/
def val (S : Nat → Option (List Nat)) (t s : Nat) : Nat := match S s with | some o => vl t o | none => 0
theorem val_some {S : Nat → Option (List Nat)} {t s : Nat} {o : List Nat} (h : S s = some o) : val S t s = vl t o := by unfold val; rw [h]
theorem val_none {S : Nat → Option (List Nat)} {t s : Nat} (h : S s = none) : val S t s = 0 := by unfold val; rw [h]
theorem val_lt {S : Nat → Option (List Nat)} (hS : SOk S) (t s : Nat) : val S t s < Bs s := by
  unfold val
  cases h : S s with
  | some o => exact ((hS s o h).2 t).2
  | none => show 0 < Bs s; unfold Bs; split <;> decide
def Gb (S : Nat → Option (List Nat)) (t : Nat) : Nat → Nat
  | 0 => 0
  | i + 1 => Gb S t i + val S t (3 + i) * 2 ^ i
theorem Gb_lt {S : Nat → Option (List Nat)} (hS : SOk S) (t : Nat) : ∀ i, i ≤ 12 → Gb S t i < 2 ^ i
  | 0, _ => show (0 : Nat) < 1 by decide
  | i + 1, h => by
    have h1 := Gb_lt hS t i (by omega)
    have h2 := val_lt hS t (3 + i)
    rw [show Bs (3 + i) = 2 from if_neg (by omega)] at h2
    show Gb S t i + val S t (3 + i) * 2 ^ i < 2 ^ (i + 1)
    rw [Nat.pow_succ]
    rcases (show val S t (3 + i) = 0 ∨ val S t (3 + i) = 1 by omega) with e | e <;> rw [e] <;> omega
theorem c_l57 {S : Nat → Option (List Nat)} {sz g : Nat} {steps sa so ud : Nat → Int32} {B : Nat → Nat} (hc : CodeOK S sz steps sa so ud) (hsz : sz ≤ 1200) (hS : SOk S) (hg : g ≤ 12) (ht : ∀ i, i < g → ∃ o, S (3 + i) = some o) (hB : ∀ t, B t < 4) {K : Int32 → (Nat → Int32) → (Nat → Int32) → (Nat → Int32) → Prop} (hK : ∀ h st facts row, (∀ t, t < 4096 → facts t = nI (B t + 16 * Gb S t g)) → K h st facts row) : ∀ m i h st facts row, i + m = g → (∀ t, t < 4096 → facts t = nI (B t + 16 * Gb S t i)) → wp_Loop_load_L57 steps sa so ud (nI g) K (m + 1) (nI i) h st facts row
  | 0, i, h, st, facts, row, hi, hf => by
    have : i = g := by omega
    subst this
    exact br_t (nI_le (Nat.le_refl _) (by omega)) (hK h st facts row hf)
  | m + 1, i, h, st, facts, row, hi, hf => by
    obtain ⟨o, ho⟩ := ht i (by omega)
    refine br_f (nI_ge (by omega) (by omega)) ?_
    rw [show (3 : Int32) = nI 3 from rfl, show (4 : Int32) = nI 4 from rfl, nI_add, nI_add, nI_1]
    have h16 : (2 : Nat) ^ (4 + i) = 16 * 2 ^ i := by rw [Nat.pow_add]
    refine c_loadFact (F := fun t => B t + 16 * Gb S t i) hc hsz hS (by omega) (by omega) ho (fun t ht => ⟨hf t ht, ?_⟩) (fun h2 st2 facts2 row2 hf2 => ?_)
    · have h1 := Gb_lt hS t i (by omega)
      have h2 := hB t
      show B t + 16 * Gb S t i < 2 ^ (4 + i)
      rw [h16]; omega
    · refine c_l57 hc hsz hS hg ht hB hK m (i + 1) h2 st2 facts2 row2 (by omega) (fun t ht2 => ?_)
      rw [hf2 t ht2]
      refine congrArg nI ?_
      show B t + 16 * Gb S t i + vl t o * 2 ^ (4 + i) = B t + 16 * (Gb S t i + val S t (3 + i) * 2 ^ i)
      rw [val_some ho, h16, Nat.mul_add, Nat.mul_left_comm, Nat.add_assoc]
