/-! the class's turns -/
def ex (S : Nat → Option (List Nat)) (t i v : Nat) : Nat := match S (21 + i * 3 + v) with | some o => vl t o | none => nb t v
/-- the state behind choice i, if its cond holds -/
def nx (S : Nat → Option (List Nat)) (t i : Nat) : Option Nat := if val S t (15 + i) = 0 then none else some (ex S t i 0 + 16 * ex S t i 1 + 256 * ex S t i 2)
def tI (x : Option Nat) : Int32 := match x with | some t => nI t | none => -1
theorem ex_lt {S : Nat → Option (List Nat)} (hS : SOk S) (t i v : Nat) : ex S t i v < 16 := by
  unfold ex
  cases h : S (21 + i * 3 + v) with
  | some o =>
    have := ((hS _ o h).2 t).2
    rw [show Bs (21 + i * 3 + v) = 16 from if_pos (Or.inr (by omega))] at this
    exact this
  | none => exact Nat.mod_lt _ (by decide)
theorem nx_lt {S : Nat → Option (List Nat)} (hS : SOk S) {t i x : Nat} (h : nx S t i = some x) : x < 4096 := by
  unfold nx at h
  split at h
  · cases h
  · cases h
    have h0 := ex_lt hS t i 0
    have h1 := ex_lt hS t i 1
    have h2 := ex_lt hS t i 2
    omega
theorem nb_sum {t : Nat} (h : t < 4096) : nb t 0 + 16 * nb t 1 + 256 * nb t 2 = t := by
  unfold nb
  simp only [Nat.pow_zero, Nat.pow_one, Nat.div_one, show (16 : Nat) ^ 2 = 256 from rfl]
  omega
theorem m_and : ∀ a, a < 16 → ∀ b, b < 16 → ∀ c, c < 16 → (nI (a + 16 * b + 256 * c) &&& ((15 <<< (nI 0 &&& 31)) ^^^ (-1)) = nI (16 * b + 256 * c)) ∧ (nI (a + 16 * b + 256 * c) &&& ((15 <<< (nI 4 &&& 31)) ^^^ (-1)) = nI (a + 256 * c)) ∧ (nI (a + 16 * b + 256 * c) &&& ((15 <<< (nI 8 &&& 31)) ^^^ (-1)) = nI (a + 16 * b)) := by decide +kernel
theorem or_sh2 {a v k : Nat} (ha : a < 2 ^ k) (hv : v < 256) (hk : k ≤ 16) : nI a ||| (nI v <<< (nI k &&& 31)) = nI (a + v * 2 ^ k) := by
  have h2 : (2 : Nat) ^ k ≤ 2 ^ 16 := Nat.pow_le_pow_right (by decide) hk
  have h3 : v * 2 ^ k < 2 ^ 32 := Nat.lt_of_le_of_lt (Nat.mul_le_mul (Nat.le_of_lt hv) h2) (by decide)
  rw [pk_shlN _ k (sh_k k (by omega)) h3, nI_or]
  refine congrArg nI ?_
  rw [Nat.or_comm, ← Nat.shiftLeft_eq, ← Nat.shiftLeft_add_eq_or_of_lt ha, Nat.add_comm]
theorem or_mid {a c r : Nat} (ha : a < 16) (hr : r < 16) : (a + 256 * c) ||| (r * 2 ^ 4) = a + 16 * r + 256 * c := by
  have e1 : a + 256 * c = c <<< 8 ||| a := by
    rw [← Nat.shiftLeft_add_eq_or_of_lt (show a < 2 ^ 8 by omega), Nat.shiftLeft_eq]; omega
  have e2 : a ||| (r * 2 ^ 4) = a + 16 * r := by
    rw [Nat.or_comm, ← Nat.shiftLeft_eq, ← Nat.shiftLeft_add_eq_or_of_lt (show a < 2 ^ 4 by omega), Nat.shiftLeft_eq]; omega
  rw [e1, Nat.or_assoc, e2, ← Nat.shiftLeft_add_eq_or_of_lt (show a + 16 * r < 2 ^ 8 by omega), Nat.shiftLeft_eq]
  omega
theorem sh_4 : ∀ v, v < 3 → 4 * nI v = nI (4 * v) := by decide +kernel
/-- an assignment puts its value into its own four bits -/
theorem put_nib {a b c r : Nat} (ha : a < 16) (hb : b < 16) (hc : c < 16) (hr : r < 16) : ((nI (a + 16 * b + 256 * c) &&& ((15 <<< (nI 0 &&& 31)) ^^^ (-1))) ||| (nI r <<< (nI 0 &&& 31)) = nI (r + 16 * b + 256 * c)) ∧ ((nI (a + 16 * b + 256 * c) &&& ((15 <<< (nI 4 &&& 31)) ^^^ (-1))) ||| (nI r <<< (nI 4 &&& 31)) = nI (a + 16 * r + 256 * c)) ∧ ((nI (a + 16 * b + 256 * c) &&& ((15 <<< (nI 8 &&& 31)) ^^^ (-1))) ||| (nI r <<< (nI 8 &&& 31)) = nI (a + 16 * b + 256 * r)) := by
  obtain ⟨h0, h1, h2⟩ := m_and a ha b hb c hc
  refine ⟨?_, ?_, ?_⟩
  · rw [h0, pk_shlN _ 0 (sh_k 0 (by decide)) (by omega), nI_or]
    refine congrArg nI ?_
    rw [Nat.pow_zero, Nat.mul_one, show 16 * b + 256 * c = (b + 16 * c) <<< 4 by rw [Nat.shiftLeft_eq]; omega, ← Nat.shiftLeft_add_eq_or_of_lt (show r < 2 ^ 4 by omega), Nat.shiftLeft_eq]
    omega
  · rw [h1, pk_shlN _ 4 (sh_k 4 (by decide)) (by omega), nI_or, or_mid ha hr]
  · rw [h2, or_sh2 (show a + 16 * b < 2 ^ 8 by omega) (by omega) (by decide)]
    exact congrArg nI (by omega)
def Fro (i : Nat) (t0 t : Nat → Int32) : Prop := ∀ j, ¬ (i * 4096 ≤ j ∧ j < i * 4096 + 4096) → t j = t0 j
section TU
variable {i : Nat} {t0 : Nat → Int32}
theorem lc20 (hi : i < 6) {x2 : Int32} {K : (Nat → Int32) → Prop} (hK : ∀ tu, Fro i t0 tu → (∀ t, t < 4096 → tu (i * 4096 + t) = nI t) → K tu) : ∀ m s tu, s + m = 4096 → Fro i t0 tu → (∀ t, t < s → tu (i * 4096 + t) = nI t) → wp_Loop_loadChoice_L20 x2 (nI (i * 4096)) K (m + 1) (nI s) tu
  | 0, s, tu, hs, hF, h => br_t (show nI 4096 ≤ nI s from nI_le (by omega) (by omega)) (hK tu hF (fun t ht => h t (by omega)))
  | m + 1, s, tu, hs, hF, h => by
    refine br_f (show ¬ nI 4096 ≤ nI s from nI_ge (by omega) (by decide)) ?_
    rw [nI_add]
    refine ⟨vp_in_nI (by omega) (by decide), ?_⟩
    rw [nI_clamp (by omega), nI_1]
    refine lc20 hi hK m (s + 1) _ (by omega) (fun j hj => by rw [pk_un (by omega)]; exact hF j hj) (fun t ht => ?_)
    by_cases e : t = s
    · subst e; rw [pk_us]
    · rw [pk_un (by omega)]; exact h t (by omega)
theorem lc83 (hi : i < 6) {s1 : Nat → Int32} {v : Nat → Nat} {T : Nat → Nat} (hv : ∀ t, t < 4096 → s1 t = nI (v t) ∧ v t < 16) {K : (Nat → Int32) → Prop} (hK : ∀ tu, Fro i t0 tu → (∀ t, t < 4096 → tu (i * 4096 + t) = tI (if v t = 0 then none else some (T t))) → K tu) : ∀ m s tu, s + m = 4096 → Fro i t0 tu → (∀ t, t < s → tu (i * 4096 + t) = tI (if v t = 0 then none else some (T t))) → (∀ t, s ≤ t → t < 4096 → tu (i * 4096 + t) = nI (T t)) → wp_Loop_loadChoice_L83 (nI (i * 4096)) s1 K (m + 1) (nI s) tu
  | 0, s, tu, hs, hF, h, _ => br_t (show nI 4096 ≤ nI s from nI_le (by omega) (by omega)) (hK tu hF (fun t ht => h t (by omega)))
  | m + 1, s, tu, hs, hF, h, h2 => by
    refine br_f (show ¬ nI 4096 ≤ nI s from nI_ge (by omega) (by decide)) ⟨vp_in_nI (by omega) (by decide), ?_⟩
    rw [nI_clamp (by omega), (hv s (by omega)).1]
    have hvs := (hv s (by omega)).2
    have e0 : nI (v s) = 0 ↔ v s = 0 := nI_eq (b := 0) (by omega) (by decide)
    refine bn_c (fun q => ?_) (fun q => ?_)
    · rw [nI_1]
      refine lc83 hi hv hK m (s + 1) tu (by omega) hF (fun t ht => ?_) (fun t ht ht2 => h2 t (by omega) ht2)
      by_cases e : t = s
      · subst e; rw [if_neg (fun z => q (e0.mpr z))]; exact h2 t (Nat.le_refl t) (by omega)
      · exact h t (by omega)
    · rw [nI_add]
      refine ⟨vp_in_nI (by omega) (by decide), ?_⟩
      rw [nI_clamp (by omega), nI_1]
      refine lc83 hi hv hK m (s + 1) _ (by omega) (fun j hj => by rw [pk_un (by omega)]; exact hF j hj) (fun t ht => ?_) (fun t ht ht2 => by rw [pk_un (by omega)]; exact h2 t (by omega) ht2)
      by_cases e : t = s
      · subst e; rw [pk_us, if_pos (e0.mp q)]; rfl
      · rw [pk_un (by omega)]; exact h t (by omega)
theorem lc45 (hi : i < 6) {k : Nat} {s1 : Nat → Int32} {v T T2 : Nat → Nat} (hv : ∀ t, t < 4096 → s1 t = nI (v t)) (hT : ∀ t, t < 4096 → (nI (T t) &&& ((15 <<< (nI k &&& 31)) ^^^ (-1))) ||| (nI (v t) <<< (nI k &&& 31)) = nI (T2 t)) {K : (Nat → Int32) → Prop} (hK : ∀ tu, Fro i t0 tu → (∀ t, t < 4096 → tu (i * 4096 + t) = nI (T2 t)) → K tu) : ∀ m s tu, s + m = 4096 → Fro i t0 tu → (∀ t, t < s → tu (i * 4096 + t) = nI (T2 t)) → (∀ t, s ≤ t → t < 4096 → tu (i * 4096 + t) = nI (T t)) → wp_Loop_loadAssignment_L45 (nI (i * 4096)) (nI k) s1 K (m + 1) (nI s) tu
  | 0, s, tu, hs, hF, h, _ => br_t (show nI 4096 ≤ nI s from nI_le (by omega) (by omega)) (hK tu hF (fun t ht => h t (by omega)))
  | m + 1, s, tu, hs, hF, h, h2 => by
    refine br_f (show ¬ nI 4096 ≤ nI s from nI_ge (by omega) (by decide)) ?_
    rw [nI_add]
    have hin : vp_in (nI (i * 4096 + s)) 24576 := vp_in_nI (by omega) (by decide)
    refine ⟨hin, vp_in_nI (by omega) (by decide), hin, ?_⟩
    rw [nI_clamp (show i * 4096 + s < 2 ^ 31 by omega), nI_clamp (show s < 2 ^ 31 by omega), h2 s (Nat.le_refl s) (by omega), hv s (by omega), hT s (by omega), nI_1]
    refine lc45 hi hv hT hK m (s + 1) _ (by omega) (fun j hj => by rw [pk_un (by omega)]; exact hF j hj) (fun t ht => ?_) (fun t ht ht2 => by rw [pk_un (by omega)]; exact h2 t (by omega) ht2)
    by_cases e : t = s
    · subst e; rw [pk_us]
    · rw [pk_un (by omega)]; exact h t (by omega)
end TU
