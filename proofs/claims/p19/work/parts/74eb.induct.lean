/-! induction: chains backwards on the class's side, forwards on the reference's -/
section IN
variable {S : Nat → Option (List Nat)} {c g a : Nat}
/-- the state has the goal and the guesses a -/
def Wd (S : Nat → Option (List Nat)) (g a s : Nat) : Prop := val S s 1 = 1 ∧ Gb S s g &&& a = a
def Bw (S : Nat → Option (List Nat)) (c g a : Nat) : Nat → Nat → Prop
  | 0, s => val S s 1 = 0
  | k + 1, s => Wd S g a s ∧ ∃ i u, i < 6 ∧ nxc S c s i = some u ∧ Bw S c g a k u
def Fw (S : Nat → Option (List Nat)) (c g a : Nat) : Nat → Nat → Prop
  | 0, s => Wd S g a s
  | k + 1, t => Wd S g a t ∧ ∃ s i, s < 4096 ∧ i < 6 ∧ Fw S c g a k s ∧ nxc S c s i = some t
def Ech (S : Nat → Option (List Nat)) (c g a j m : Nat) : Prop := ∃ s i u, s < 4096 ∧ i < 6 ∧ Fw S c g a j s ∧ nxc S c s i = some u ∧ Bw S c g a m u
theorem Ech_s (hS : SOk S) {j m : Nat} : Ech S c g a (j + 1) m ↔ Ech S c g a j (m + 1) := by
  refine ⟨fun ⟨s, i, u, hs, hi, ⟨hw, r, k, hr, hk, hf, e2⟩, e, hb⟩ => ⟨r, k, s, hr, hk, hf, e2, hw, i, u, hi, e, hb⟩, fun ⟨s, i, u, hs, hi, hf, e, hw, k, v, hk, e2, hb⟩ => ⟨u, k, v, nxc_lt hS e, hk, ⟨hw, s, i, hs, hi, hf, e⟩, e2, hb⟩⟩
theorem Ech_0 (hS : SOk S) : ∀ k m, Ech S c g a k m ↔ Ech S c g a 0 (k + m)
  | 0, m => by rw [Nat.zero_add]
  | k + 1, m => by
    rw [Ech_s hS, Ech_0 hS k (m + 1), show k + 1 + m = k + (m + 1) by omega]
theorem Ech_B (hS : SOk S) (k : Nat) : Ech S c g a k 0 ↔ ∃ s, s < 4096 ∧ Bw S c g a (k + 1) s := by
  rw [Ech_0 hS k 0]
  exact ⟨fun ⟨s, i, u, hs, hi, hf, e, hb⟩ => ⟨s, hs, hf, i, u, hi, e, hb⟩, fun ⟨s, hs, hf, i, u, hi, e, hb⟩ => ⟨s, i, u, hs, hi, hf, e, hb⟩⟩
/-- no state without the goal is of a level below k -/
def bs (S : Nat → Option (List Nat)) (c k : Nat) : Prop := ∀ t l, t < 4096 → (come S c).2 t = some l → val S t 1 = 0 → k ≤ l
def IR (S : Nat → Option (List Nat)) (c g a k : Nat) : Prop := bs S c k ∧ ¬ Ech S c g a (k - 1) 0
def Ind (S : Nat → Option (List Nat)) (c g a : Nat) (r : Int32) : Prop := (∃ k, 1 ≤ k ∧ k ≤ 16 ∧ r = nI k ∧ IR S c g a k ∧ ∀ j, 1 ≤ j → j < k → ¬ IR S c g a j) ∨ (r = 0 ∧ ∀ k, 1 ≤ k → k ≤ 16 → ¬ IR S c g a k)
theorem Ind_eq {r r' : Int32} (h : Ind S c g a r) (h' : Ind S c g a r') : r = r' := by
  rcases h with ⟨k, h1, h2, h3, h4, h5⟩ | ⟨h3, h5⟩ <;> rcases h' with ⟨k', h1', h2', h3', h4', h5'⟩ | ⟨h3', h5'⟩
  · have : k = k' := by
      rcases Nat.lt_trichotomy k k' with z | z | z
      · exact absurd h4 (h5' k h1 z)
      · exact z
      · exact absurd h4' (h5 k' h1' z)
    rw [h3, h3', this]
  · exact absurd h4 (h5' k h1 h2)
  · exact absurd h4' (h5 k' h1' h2')
  · rw [h3, h3']
theorem q_hasW (hS : SOk S) (hg : g ≤ 12) (ha : a < 4096) {fa : Nat → Int32} {L : Nat → Option Nat} (hF : FaL S c g fa L) {t : Nat} (ht : t < 4096) {post : Int32 → Prop} (h0 : ¬ Wd S g a t → post 0) (h1 : Wd S g a t → post 1) : wp_Loop_hasAll (nI t) (nI (2 ||| 16 * a)) fa post := by
  have hfl := fc_lt (S := S) (c := c) (g := g) hS hg t
  have hor : 2 ||| 16 * a < 2 ^ 17 := Nat.or_lt_two_pow (by decide) (by omega)
  refine q_hasAll ht (hF t ht) (by omega) (by omega) ?_
  have e1 := and_or (fc S c g t + 4 * (1 - no1 L t)) 2 (16 * a)
  have e2 : (fc S c g t + 4 * (1 - no1 L t) &&& 2 = 2) ↔ val S t 1 = 1 := by
    have := has_bit (fc S c g t + 4 * (1 - no1 L t)) 1
    rw [(fb (c := c) (g := g) hS t _ (show 1 - no1 L t ≤ 1 by omega)).2.1] at this
    exact decide_eq_decide.mp this
  have e3 : (fc S c g t + 4 * (1 - no1 L t) &&& 16 * a = 16 * a) ↔ Gb S t g &&& a = a := by
    obtain ⟨x, hx, ex⟩ := fc_low (c := c) (g := g) hS t (1 - no1 L t) (by omega)
    have hb := Gb_lt12 hS hg t
    have h1 := and_hi (x := x) (y := 4096 * val S t 2 + Gb S t g) (a := a) (k := 4) hx
    have h2 := and_lo (y := Gb S t g) (r := val S t 2) (a := a) (k := 12) ha hb
    rw [show (2 : Nat) ^ 4 = 16 from rfl] at h1
    rw [show (2 : Nat) ^ 12 = 4096 from rfl] at h2
    rw [ex, h1, h2]
    omega
  rw [e2, e3] at e1
  by_cases z : Wd S g a t
  · rw [decide_eq_true (e1.mpr z)]; exact h1 z
  · rw [decide_eq_false (fun q => z (e1.mp q))]; exact h0 z
-- the class
theorem lm2x (hS : SOk S) (hc : c ≤ 6) {tu s1 : Nat → Int32} (hT : Tu S c tu) {s : Nat} (hs : s < 4096) {X : Nat → Prop} (hX : ∀ t, t < 4096 → (s1 t = 1 ↔ X t)) {K1 K2 : Prop} (h1 : (∀ i u, i < 6 → nxc S c s i = some u → ¬ X u) → K1) (h2 : (∃ i u, i < 6 ∧ nxc S c s i = some u ∧ X u) → K2) : ∀ m i, i + m = c → (∀ j u, j < i → nxc S c s j = some u → ¬ X u) → wp_Gues_leadsToMarked_L2 (nI s) (nI c) tu s1 K1 K2 (m + 1) (nI i)
  | 0, i, hi, hp => by
    have : i = c := by omega
    subst this
    refine br_t (nI_le (Nat.le_refl _) (by omega)) (h1 (fun j u hj e => hp j u (Nat.lt_of_not_le (fun z => ?_)) e))
    rw [show nxc S i s j = none from if_neg (by omega)] at e; cases e
  | m + 1, i, hi, hp => by
    have ih := lm2x hS hc hT hs hX h1 h2 m (i + 1) (by omega)
    refine br_f (nI_ge (by omega) (by omega)) (q_turn hc hT (by omega) hs ?_)
    have ex : nxc S c s i = nx S s i := if_pos (by omega)
    rw [nI_1]
    have go : (∀ u, nxc S c s i = some u → ¬ X u) → ∀ j u, j < i + 1 → nxc S c s j = some u → ¬ X u := fun hk j u hj e => by
      by_cases z : j = i
      · subst z; exact hk u e
      · exact hp j u (by omega) e
    cases e : nx S s i with
    | none => exact q_isState_m1 (br_t rfl (ih (go (fun u hu => by rw [ex, e] at hu; cases hu))))
    | some u =>
      have hu := nx_lt hS e
      refine q_isState hu (br_f (by decide) ⟨vp_in_nI hu (by decide), ?_⟩)
      rw [show tI (some u) = nI u from rfl, nI_clamp (show u < 2 ^ 31 by omega)]
      refine bn_c (fun q => ih (go (fun v hv => ?_))) (fun q => h2 ⟨i, u, by omega, ex.trans e, (hX u hu).mp q⟩)
      rw [ex, e] at hv; cases hv
      exact fun z => q ((hX u hu).mpr z)
theorem sb4x (hS : SOk S) (hc : c ≤ 6) (hg : g ≤ 12) (ha : a < 4096) {fa tu s1 : Nat → Int32} {L : Nat → Option Nat} (hF : FaL S c g fa L) (hT : Tu S c tu) {k : Nat} (hX : ∀ t, t < 4096 → (s1 t = 1 ↔ Bw S c g a k t)) {K : Int32 → (Nat → Int32) → Prop} (h : ∀ z s2, (z = 0 ∨ z = 1) → (z = 0 ↔ ∀ t, t < 4096 → ¬ Bw S c g a (k + 1) t) → (∀ t, t < 4096 → (s2 t = 1 ↔ Bw S c g a (k + 1) t)) → K z s2) : ∀ m s z s2, s + m = 4096 → (z = 0 ∨ z = 1) → (z = 0 ↔ ∀ t, t < s → ¬ Bw S c g a (k + 1) t) → (∀ t, t < s → (s2 t = 1 ↔ Bw S c g a (k + 1) t)) → wp_Gues_stepBack_L4 (nI (2 ||| 16 * a)) (nI c) fa tu s1 K (m + 1) z (nI s) s2 := by
  intro m
  induction m with
  | zero =>
    intro s z s2 hs hz h1 h2
    have : s = 4096 := by omega
    subst this
    exact br_t (nI_le (Nat.le_refl 4096) (by decide)) (h z s2 hz h1 h2)
  | succ m ih0 =>
    intro s z s2 hs hz h1 h2
    have ih := fun z s2 hz h1 h2 => ih0 (s + 1) z s2 (by omega) hz h1 h2
    have hs4 : s < 4096 := by omega
    have hv : vp_in (nI s) 4096 := vp_in_nI hs4 (by decide)
    have R : ∀ y : Int32, (y = 1 ↔ Bw S c g a (k + 1) s) → ∀ t, t < s + 1 → (upd s2 s y t = 1 ↔ Bw S c g a (k + 1) t) := fun y hy t ht => by
      by_cases e : t = s
      · subst e; rw [pk_us]; exact hy
      · rw [pk_un e]; exact h2 t (by omega)
    have put : ∀ y : Int32, (y = 1 ↔ Bw S c g a (k + 1) s) → (vp_in (nI s) 4096 ∧ ((¬ z = 0 → wp_Gues_stepBack_L4 (nI (2 ||| 16 * a)) (nI c) fa tu s1 K (m + 1) 1 (nI (s + 1)) (upd s2 s y)) ∧ (z = 0 → (vp_in (nI s) 4096 ∧ ((¬ upd s2 s y s = 1 → wp_Gues_stepBack_L4 (nI (2 ||| 16 * a)) (nI c) fa tu s1 K (m + 1) 0 (nI (s + 1)) (upd s2 s y)) ∧ (upd s2 s y s = 1 → wp_Gues_stepBack_L4 (nI (2 ||| 16 * a)) (nI c) fa tu s1 K (m + 1) 1 (nI (s + 1)) (upd s2 s y))))))) := fun y hy => by
      refine ⟨hv, bn_c (fun q => ih 1 _ (Or.inr rfl) ⟨fun w => absurd w (by decide), fun w => absurd (h1.mpr (fun t ht => w t (by omega))) q⟩ (R y hy)) (fun q => ⟨hv, ?_⟩)⟩
      rw [pk_us]
      refine bn_c (fun q2 => ih 0 _ (Or.inl rfl) ⟨fun _ t ht => ?_, fun _ => rfl⟩ (R y hy)) (fun q2 => ih 1 _ (Or.inr rfl) ⟨fun w => absurd w (by decide), fun w => absurd (hy.mp q2) (w s (by omega))⟩ (R y hy))
      by_cases e : t = s
      · subst e; exact fun w => q2 (hy.mpr w)
      · exact h1.mp q t (by omega)
    refine br_f (show ¬ nI 4096 ≤ nI s from nI_ge (by omega) (by decide)) ?_
    rw [nI_1, nI_clamp (show s < 2 ^ 31 by omega)]
    refine q_hasW hS hg ha hF hs4 (fun q => br_t rfl (put 0 ⟨fun w => absurd w (by decide), fun w => absurd w.1 q⟩)) (fun q => br_f (by decide) ⟨c + 1, lm2x hS hc hT hs4 hX (fun w => br_t rfl (put 0 ⟨fun w => absurd w (by decide), fun ⟨_, i, u, hi, e, hb⟩ => absurd hb (w i u hi e)⟩)) (fun w => br_f (by decide) (put 1 ⟨fun _ => ⟨q, w⟩, fun _ => rfl⟩)) c 0 (by omega) (fun j u hj => absurd hj (Nat.not_lt_zero j))⟩)
theorem q_stepBack (hS : SOk S) (hc : c ≤ 6) (hg : g ≤ 12) (ha : a < 4096) {fa tu s1 s2 : Nat → Int32} {L : Nat → Option Nat} (hF : FaL S c g fa L) (hT : Tu S c tu) {k : Nat} (hX : ∀ t, t < 4096 → (s1 t = 1 ↔ Bw S c g a k t)) {post : Int32 → (Nat → Int32) → (Nat → Int32) → Prop} (h : ∀ z s1 s2, (z = 0 ↔ ∀ t, t < 4096 → ¬ Bw S c g a (k + 1) t) → (∀ t, t < 4096 → (s1 t = 1 ↔ Bw S c g a (k + 1) t)) → post z s1 s2) : wp_Gues_stepBack (nI (2 ||| 16 * a)) (nI c) fa tu s1 s2 post :=
  ⟨4097, sb4x hS hc hg ha hF hT hX (fun z s2 hz h1 h2 => ⟨hz, h z _ s2 h1 (fun t ht => by
    rw [pk_cpy_in (Nat.zero_le t) (by omega)]
    rw [show 0 + (t - 0) = t by omega]
    exact h2 t ht)⟩) 4096 0 0 s2 rfl (Or.inl rfl) ⟨fun _ t ht => absurd ht (Nat.not_lt_zero t), fun _ => rfl⟩ (fun t ht => absurd ht (Nat.not_lt_zero t))⟩
theorem li18x (hS : SOk S) (hg : g ≤ 12) {fa : Nat → Int32} (hF : FaL S c g fa (come S c).2) {x2 x3 : Int32} {K : (Nat → Int32) → Prop} (h : ∀ s1, (∀ t, t < 4096 → (s1 t = 1 ↔ val S t 1 = 0)) → K s1) : ∀ m s s1, s + m = 4096 → (∀ t, t < s → (s1 t = 1 ↔ val S t 1 = 0)) → wp_Gues_leastInduction_L18 x2 x3 fa K (m + 1) (nI s) s1
  | 0, s, s1, hs, h1 => by
    have : s = 4096 := by omega
    subst this
    exact br_t (nI_le (Nat.le_refl 4096) (by decide)) (h s1 h1)
  | m + 1, s, s1, hs, h1 => by
    have hs4 : s < 4096 := by omega
    have hv : vp_in (nI s) 4096 := vp_in_nI hs4 (by decide)
    have hv2 := val_lt2 hS s (s := 1) (by decide)
    have ih := fun y (hy : y = 1 ↔ val S s 1 = 0) => li18x hS hg hF (x2 := x2) (x3 := x3) h m (s + 1) (upd s1 s y) (by omega) (fun t ht => by
      by_cases e : t = s
      · subst e; rw [pk_us]; exact hy
      · rw [pk_un e]; exact h1 t (by omega))
    refine br_f (show ¬ nI 4096 ≤ nI s from nI_ge (by omega) (by decide)) ?_
    rw [nI_1, nI_clamp (show s < 2 ^ 31 by omega)]
    refine (c_mask (a := 0) hS hg hF hs4 (by decide)).2.1 ?_
    show (b01 (decide (val S s 1 = 1)) = 0 → _) ∧ (¬ b01 (decide (val S s 1 = 1)) = 0 → _)
    rcases (show val S s 1 = 0 ∨ val S s 1 = 1 by omega) with e | e
    · rw [e]; exact br_t rfl ⟨hv, ih 1 ⟨fun _ => e, fun _ => rfl⟩⟩
    · rw [e]; exact br_f (by decide) ⟨hv, ih 0 ⟨fun w => absurd w (by decide), fun w => by omega⟩⟩
/-- x2 tells whether a state without the goal is near -/
def Tb (S : Nat → Option (List Nat)) (c : Nat) (x : Int32) : Prop := (x = -1 ∧ ∀ k, bs S c k) ∨ ∃ D, D < 4096 ∧ x = nI D ∧ ∀ k, bs S c k ↔ k ≤ D
theorem li60x (hS : SOk S) (hc : c ≤ 6) (hg : g ≤ 12) (ha : a < 4096) {fa tu : Nat → Int32} (hF : FaL S c g fa (come S c).2) (hT : Tu S c tu) {x2 : Int32} (hx : Tb S c x2) {K1 K2 : (Nat → Int32) → (Nat → Int32) → Prop} {K3 : Int32 → (Nat → Int32) → (Nat → Int32) → Prop} (h1 : Ind S c g a 0 → ∀ s1 s2, K1 s1 s2 ∧ K2 s1 s2) (h3 : ∀ r s1 s2, Ind S c g a r → K3 r s1 s2) : ∀ m k s1 s2, k + m = 16 → (∀ j, 1 ≤ j → j < k + 1 → ¬ IR S c g a j) → (∀ t, t < 4096 → (s1 t = 1 ↔ Bw S c g a k t)) → wp_Gues_leastInduction_L60 x2 (nI (2 ||| 16 * a)) (nI c) fa tu K1 K2 K3 (m + 1) (nI (k + 1)) s1 s2 := by
  intro m
  induction m with
  | zero =>
    intro k s1 s2 hk hp hX
    have : k = 16 := by omega
    subst this
    exact br_t (by decide) (h1 (Or.inr ⟨rfl, fun j h1 h2 => hp j h1 (by omega)⟩) _ _).1
  | succ m ih =>
    intro k s1 s2 hk hp hX
    have step : bs S c (k + 1) → wp_Gues_stepBack (nI (2 ||| 16 * a)) (nI c) fa tu s1 s2 (fun r_1 s1_2 s2_3 => ((¬ r_1 = 0 → wp_Gues_leastInduction_L60 x2 (nI (2 ||| 16 * a)) (nI c) fa tu K1 K2 K3 (m + 1) (nI (k + 1) + 1) s1_2 s2_3) ∧ (r_1 = 0 → K3 (nI (k + 1)) s1_2 s2_3))) := fun hb => by
      refine q_stepBack hS hc hg ha hF hT hX (fun z s1' s2' hz hX' => bn_c (fun q => ?_) (fun q => h3 _ _ _ (Or.inl ⟨k + 1, by omega, by omega, rfl, ⟨hb, ?_⟩, fun j h1 h2 => hp j h1 h2⟩)))
      · rw [nI_1]
        refine ih (k + 1) s1' s2' (by omega) (fun j hj1 hj2 hI => ?_) hX'
        by_cases e : j = k + 1
        · subst e
          refine q (hz.mpr (fun t ht hB => hI.2 ?_))
          rw [Nat.add_sub_cancel]
          exact (Ech_B hS k).mpr ⟨t, ht, hB⟩
        · exact hp j hj1 (by omega) hI
      · rw [Nat.add_sub_cancel]
        intro hE
        obtain ⟨t, ht, hB⟩ := (Ech_B hS k).mp hE
        exact hz.mp q t ht hB
    refine br_f (show ¬ nI 16 < nI (k + 1) from nI_nlt (by omega) (by decide)) ?_
    rcases hx with ⟨e, hall⟩ | ⟨D, hD4, e, hall⟩
    · exact br_t e (step (hall (k + 1)))
    · subst e
      refine br_f (fun z => ?_) (br_c (fun q => step ((hall (k + 1)).mpr ((nI_leI (by omega) (by omega)).mp q))) (fun q => (h1 (Or.inr ⟨rfl, fun j hj1 hj2 hI => ?_⟩) _ _).2))
      · have := nI_pos (n := D) (by omega)
        rw [show nI D = -1 from z] at this
        exact absurd (by decide) this
      · by_cases y : j < k + 1
        · exact hp j hj1 y hI
        · have := (hall j).mp hI.1
          exact q (nI_le (by omega) (by omega))
theorem c_leastInd (hS : SOk S) (hc : c ≤ 6) (hg : g ≤ 12) {fa tu s1 s2 : Nat → Int32} (hF : FaL S c g fa (come S c).2) (hT : Tu S c tu) {x2 : Int32} (hx : Tb S c x2) {b : Nat} (hb : b < 4096) {st : Bool} {post : Int32 → (Nat → Int32) → (Nat → Int32) → Prop} (h : ∀ r s1 s2, Ind S c g (if st then b else 0) r → post r s1 s2) : wp_Gues_leastInduction (b01 st) x2 (nI c) fa tu s1 s2 (nI b) post := by
  have main : ∀ a, a < 4096 → (∀ r s1 s2, Ind S c g a r → post r s1 s2) → ∃ n, wp_Gues_leastInduction_L18 x2 (nI (2 ||| 16 * a)) fa (fun s1_2 => ∃ n_14, wp_Gues_leastInduction_L60 x2 (nI (2 ||| 16 * a)) (nI c) fa tu (fun s1_7 s2_8 => post 0 s1_7 s2_8) (fun s1_9 s2_10 => post 0 s1_9 s2_10) (fun x4_11 s1_12 s2_13 => post x4_11 s1_12 s2_13) n_14 1 s1_2 s2) n 0 s1 := fun a ha hp =>
    ⟨4097, li18x hS hg hF (fun s1 h1 => ⟨17, li60x hS hc hg ha hF hT hx (fun hi s1 s2 => ⟨hp 0 s1 s2 hi, hp 0 s1 s2 hi⟩) hp 16 0 s1 s2 rfl (fun j h1 h2 => by omega) h1⟩) 4096 0 s1 rfl (fun t ht => absurd ht (Nat.not_lt_zero t))⟩
  cases st with
  | false => exact br_t rfl (main 0 (by decide) h)
  | true =>
    refine br_f (by decide) (q_keptFacts hb (fun x3 ex3 => ?_))
    rw [ex3, show (2 : Int32) ||| nI (16 * b) = nI (2 ||| 16 * b) from nI_or 2 (16 * b)]
    exact main b hb h
-- the reference
variable {nr iG lv hgr : Nat → Int32}
theorem go2x {x1 : Int32} {K : (Nat → Int32) → Prop} (h : ∀ o, (∀ t, t < 4096 → o t = 0) → K o) : ∀ m s o, s + m = 4096 → (∀ t, t < s → o t = 0) → wp_Md_goOn_L2 x1 K (m + 1) (nI s) o
  | 0, s, o, hs, h1 => by
    have : s = 4096 := by omega
    subst this
    exact br_t (nI_le (Nat.le_refl 4096) (by decide)) (h o h1)
  | m + 1, s, o, hs, h1 => by
    refine br_f (show ¬ nI 4096 ≤ nI s from nI_ge (by omega) (by decide)) ⟨vp_in_nI (by omega) (by decide), ?_⟩
    rw [nI_1, nI_clamp (show s < 2 ^ 31 by omega), nar0]
    refine go2x h m (s + 1) _ (by omega) (fun t ht => ?_)
    by_cases e : t = s
    · subst e; rw [pk_us]
    · rw [pk_un e]; exact h1 t (by omega)
/-- what goes on from the states looked at so far -/
def Gx (S : Nat → Option (List Nat)) (c g a : Nat) (X : Nat → Prop) (s i t : Nat) : Prop := Wd S g a t ∧ ∃ r j, (r < s ∨ (r = s ∧ j < i)) ∧ r < 4096 ∧ j < 6 ∧ X r ∧ nxc S c r j = some t
theorem go33x (hS : SOk S) (hg12 : g ≤ 12) (ha : a < 4096) (hN : NxR S c nr) (hG : ∀ t, t < 4096 → iG t = nI (val S t 1)) (hH : ∀ t, t < 4096 → hgr t = nI (Gb S t g)) {X : Nat → Prop} {mk0 : Nat → Int32} (hX : ∀ t, t < 4096 → (mk0 t ≠ 0 ↔ X t)) {s : Nat} (hs : s < 4096) {K : (Nat → Int32) → Prop} (h : ∀ o, (∀ t, t < 4096 → (o t = 0 ∨ o t = 1) ∧ (o t ≠ 0 ↔ Gx S c g a X (s + 1) 0 t)) → K o) : ∀ m i o, i + m = 6 → (∀ t, t < 4096 → (o t = 0 ∨ o t = 1) ∧ (o t ≠ 0 ↔ Gx S c g a X s i t)) → wp_Md_goOn_L33 (nI a) (nI s) nr iG hgr mk0 K (m + 1) (nI i) o := by
  intro m
  induction m with
  | zero =>
    intro i o hi ho
    have : i = 6 := by omega
    subst this
    refine br_t (show nI 6 ≤ nI 6 from nI_le (Nat.le_refl _) (by decide)) (h o (fun t ht => ⟨(ho t ht).1, (ho t ht).2.trans ⟨fun ⟨w, r, j, hr, q⟩ => ⟨w, r, j, by omega, q⟩, fun ⟨w, r, j, hr, q⟩ => ⟨w, r, j, by have := q.2.1; omega, q⟩⟩⟩))
  | succ m ih0 =>
    intro i o hi ho
    have ih := fun o ho => ih0 (i + 1) o (by omega) ho
    have hv : vp_in (nI s) 4096 := vp_in_nI hs (by decide)
    refine br_f (show ¬ nI 6 ≤ nI i from nI_ge (by omega) (by decide)) ⟨hv, ?_⟩
    rw [nI_clamp (show s < 2 ^ 31 by omega)]
    refine br_c (fun q => h o (fun t ht => ⟨(ho t ht).1, (ho t ht).2.trans ⟨fun ⟨w, r, j, hr, q⟩ => ⟨w, r, j, by omega, q⟩, fun ⟨w, r, j, hr, q2⟩ => ⟨w, r, j, ?_, q2⟩⟩⟩)) (fun q => ⟨(nxi hs (by omega)).1, fun x ex => ?_⟩)
    · by_cases z : r = s
      · subst z; exact absurd q ((hX r hs).mpr q2.2.2.1)
      · omega
    · rw [nI_1]
      rw [(nxi hs (by omega)).2, hN s hs i (by omega)] at ex
      have same : (∀ u, nxc S c s i = some u → ¬ Wd S g a u) → ∀ t, t < 4096 → (o t = 0 ∨ o t = 1) ∧ (o t ≠ 0 ↔ Gx S c g a X s (i + 1) t) := fun hk t ht => ⟨(ho t ht).1, (ho t ht).2.trans ⟨fun ⟨w, r, j, hr, q⟩ => ⟨w, r, j, by omega, q⟩, fun ⟨w, r, j, hr, q2⟩ => ⟨w, r, j, by
        by_cases z : r = s ∧ j = i
        · rw [z.1, z.2] at q2; exact absurd w (hk t q2.2.2.2)
        · omega, q2⟩⟩⟩
      cases e : nxc S c s i with
      | none =>
        rw [e] at ex
        subst ex
        exact br_t (show (-1 : Int32) < 0 by decide) (ih o (same (fun u hu => by rw [e] at hu; cases hu)))
      | some u =>
        have hu := nxc_lt hS e
        rw [e] at ex
        subst ex
        have hin : vp_in (nI u) 4096 := vp_in_nI hu (by decide)
        have hv2 := val_lt2 hS u (s := 1) (by decide)
        have hb := Gb_lt12 hS hg12 u
        refine br_f (nI_pos (show u < 2 ^ 31 by omega)) ⟨hin, ?_⟩
        rw [show tI (some u) = nI u from rfl, nI_clamp (show u < 2 ^ 31 by omega), hG u hu, hH u hu, nI_and, nar1]
        have hle : Gb S u g &&& a ≤ a := Nat.and_le_right
        have ei : nI (Gb S u g &&& a) = nI a ↔ Gb S u g &&& a = a := nI_eq (by omega) (by omega)
        rcases (show val S u 1 = 0 ∨ val S u 1 = 1 by omega) with e1 | e1
        · rw [e1]
          exact br_t rfl (ih o (same (fun v hv w => by rw [e] at hv; cases hv; have := w.1; omega)))
        · rw [e1]
          refine br_f (by decide) ⟨hin, bn_c (fun q2 => ih o (same (fun v hv w => by rw [e] at hv; cases hv; exact q2 (ei.mpr w.2)))) (fun q2 => ⟨hin, ih _ (fun t ht => ?_)⟩)⟩
          by_cases z : t = u
          · subst z
            rw [pk_us]
            exact ⟨Or.inr rfl, ⟨fun _ => ⟨⟨e1, ei.mp q2⟩, s, i, Or.inr ⟨rfl, by omega⟩, hs, by omega, (hX s hs).mp q, e⟩, fun _ => by decide⟩⟩
          · rw [pk_un z]
            refine ⟨(ho t ht).1, (ho t ht).2.trans ⟨fun ⟨w, r, j, hr, q⟩ => ⟨w, r, j, by omega, q⟩, fun ⟨w, r, j, hr, q3⟩ => ⟨w, r, j, ?_, q3⟩⟩⟩
            by_cases y : r = s ∧ j = i
            · rw [y.1, y.2, e] at q3
              have := q3.2.2.2
              cases this
              exact absurd rfl z
            · omega
theorem go24x (hS : SOk S) (hg12 : g ≤ 12) (ha : a < 4096) (hN : NxR S c nr) (hG : ∀ t, t < 4096 → iG t = nI (val S t 1)) (hH : ∀ t, t < 4096 → hgr t = nI (Gb S t g)) {X : Nat → Prop} {mk0 : Nat → Int32} (hX : ∀ t, t < 4096 → (mk0 t ≠ 0 ↔ X t)) {K : (Nat → Int32) → Prop} (h : ∀ o, (∀ t, t < 4096 → (o t = 0 ∨ o t = 1) ∧ (o t ≠ 0 ↔ Gx S c g a X 4096 0 t)) → K o) : ∀ m s o, s + m = 4096 → (∀ t, t < 4096 → (o t = 0 ∨ o t = 1) ∧ (o t ≠ 0 ↔ Gx S c g a X s 0 t)) → wp_Md_goOn_L24 (nI a) nr iG hgr mk0 K (m + 1) (nI s) o := by
  intro m
  induction m with
  | zero =>
    intro s o hs ho
    have : s = 4096 := by omega
    subst this
    exact br_t (nI_le (Nat.le_refl 4096) (by decide)) (h o ho)
  | succ m ih =>
    intro s o hs ho
    refine br_f (show ¬ nI 4096 ≤ nI s from nI_ge (by omega) (by decide)) ⟨7, go33x hS hg12 ha hN hG hH hX (by omega) (fun o ho => ?_) 6 0 o rfl ho⟩
    rw [nI_1]
    exact ih (s + 1) o (by omega) ho
theorem go111x {o : Nat → Int32} (ho : ∀ t, t < 4096 → o t = 0 ∨ o t = 1) {K : (Nat → Int32) → Prop} (h : ∀ f, (∀ t, t < 4096 → f t = o t) → K f) : ∀ m s f, s + m = 4096 → (∀ t, t < s → f t = o t) → wp_Md_goOn_L111 o K (m + 1) (nI s) f
  | 0, s, f, hs, h1 => by
    have : s = 4096 := by omega
    subst this
    exact br_t (nI_le (Nat.le_refl 4096) (by decide)) (h f h1)
  | m + 1, s, f, hs, h1 => by
    have hv : vp_in (nI s) 4096 := vp_in_nI (by omega) (by decide)
    refine br_f (show ¬ nI 4096 ≤ nI s from nI_ge (by omega) (by decide)) ⟨hv, hv, ?_⟩
    rw [nI_1, nI_clamp (show s < 2 ^ 31 by omega)]
    refine go111x ho h m (s + 1) _ (by omega) (fun t ht => ?_)
    by_cases e : t = s
    · subst e
      rw [pk_us]
      rcases ho t (by omega) with z | z
      · rw [z, nar0]
      · rw [z, nar1]
    · rw [pk_un e]; exact h1 t (by omega)
theorem q_goOn (hS : SOk S) (hg12 : g ≤ 12) (ha : a < 4096) (hN : NxR S c nr) (hG : ∀ t, t < 4096 → iG t = nI (val S t 1)) (hH : ∀ t, t < 4096 → hgr t = nI (Gb S t g)) {k : Nat} {mk0 ot : Nat → Int32} (hX : ∀ t, t < 4096 → (mk0 t ≠ 0 ↔ Fw S c g a k t)) {post : (Nat → Int32) → (Nat → Int32) → Prop} (h : ∀ f o, (∀ t, t < 4096 → (f t ≠ 0 ↔ Fw S c g a (k + 1) t)) → post f o) : wp_Md_goOn (nI a) nr iG hgr mk0 ot post := by
  refine ⟨4097, go2x (fun o h0 => ⟨4097, go24x hS hg12 ha hN hG hH hX (fun o ho => ⟨4097, go111x (fun t ht => (ho t ht).1) (fun f hf => h f o (fun t ht => ?_)) 4096 0 mk0 rfl (fun t ht => absurd ht (Nat.not_lt_zero t))⟩) 4096 0 o rfl (fun t ht => ⟨Or.inl (h0 t ht), ⟨fun w => absurd (h0 t ht) w, fun ⟨_, r, j, hr, _⟩ => by omega⟩⟩)⟩) 4096 0 ot rfl (fun t ht => absurd ht (Nat.not_lt_zero t))⟩
  rw [hf t ht, (ho t ht).2]
  exact ⟨fun ⟨w, r, j, _, h1, h2, h3, h4⟩ => ⟨w, r, j, h1, h2, h3, h4⟩, fun ⟨w, r, j, h1, h2, h3, h4⟩ => ⟨w, r, j, Or.inl h1, h1, h2, h3, h4⟩⟩
theorem in34x (hS : SOk S) (hg12 : g ≤ 12) (ha : a < 4096) (hG : ∀ t, t < 4096 → iG t = nI (val S t 1)) (hH : ∀ t, t < 4096 → hgr t = nI (Gb S t g)) {K : (Nat → Int32) → Prop} (h : ∀ f, (∀ t, t < 4096 → (f t ≠ 0 ↔ Wd S g a t)) → K f) : ∀ m s f, s + m = 4096 → (∀ t, t < s → (f t ≠ 0 ↔ Wd S g a t)) → wp_Md_induction_L34 (nI a) iG hgr K (m + 1) (nI s) f
  | 0, s, f, hs, h1 => by
    have : s = 4096 := by omega
    subst this
    exact br_t (nI_le (Nat.le_refl 4096) (by decide)) (h f h1)
  | m + 1, s, f, hs, h1 => by
    have hs4 : s < 4096 := by omega
    have hv : vp_in (nI s) 4096 := vp_in_nI hs4 (by decide)
    have hv2 := val_lt2 hS s (s := 1) (by decide)
    have hb := Gb_lt12 hS hg12 s
    have ih := fun y (hy : y ≠ 0 ↔ Wd S g a s) => in34x hS hg12 ha hG hH h m (s + 1) (upd f s y) (by omega) (fun t ht => by
      by_cases e : t = s
      · subst e; rw [pk_us]; exact hy
      · rw [pk_un e]; exact h1 t (by omega))
    have hle : Gb S s g &&& a ≤ a := Nat.and_le_right
    have ei : nI (Gb S s g &&& a) = nI a ↔ Gb S s g &&& a = a := nI_eq (by omega) (by omega)
    refine br_f (show ¬ nI 4096 ≤ nI s from nI_ge (by omega) (by decide)) ⟨hv, ?_⟩
    rw [nI_1, nI_clamp (show s < 2 ^ 31 by omega), hG s hs4, hH s hs4, nI_and, nar0, nar1]
    rcases (show val S s 1 = 0 ∨ val S s 1 = 1 by omega) with e | e
    · rw [e]; exact br_t rfl ⟨hv, ih 0 ⟨fun w => absurd rfl w, fun w => by have := w.1; omega⟩⟩
    · rw [e]
      exact br_f (by decide) ⟨hv, bn_c (fun q => ⟨hv, ih 0 ⟨fun w => absurd rfl w, fun w => absurd (ei.mpr w.2) q⟩⟩) (fun q => ⟨hv, ih 1 ⟨fun _ => ⟨e, ei.mp q⟩, fun _ => by decide⟩⟩)⟩
theorem in93x (hS : SOk S) (hL : LvR lv (come S c).2) (hG : ∀ t, t < 4096 → iG t = nI (val S t 1)) {k : Nat} (hk : k < 2 ^ 31) {x2 : Int32} {K : Int32 → Prop} (h : ∀ r, (r = 0 ∨ r = 1) → (r = 0 ↔ ¬ bs S c k) → K r) : ∀ m s r, s + m = 4096 → (r = 0 ∧ ¬ bs S c k ∨ r = 1 ∧ ∀ t l, t < s → (come S c).2 t = some l → val S t 1 = 0 → k ≤ l) → wp_Md_induction_L93 x2 (nI k) iG lv K (m + 1) r (nI s)
  | 0, s, r, hs, hr => by
    have : s = 4096 := by omega
    subst this
    refine br_t (nI_le (Nat.le_refl 4096) (by decide)) ?_
    rcases hr with ⟨e, q⟩ | ⟨e, q⟩
    · exact h r (Or.inl e) ⟨fun _ => q, fun _ => e⟩
    · exact h r (Or.inr e) ⟨fun w => (by rw [e] at w; cases w), fun w => absurd q w⟩
  | m + 1, s, r, hs, hr => by
    have hs4 : s < 4096 := by omega
    have hv : vp_in (nI s) 4096 := vp_in_nI hs4 (by decide)
    have hv2 := val_lt2 hS s (s := 1) (by decide)
    have ih := fun r hr => in93x hS hL hG hk (x2 := x2) h m (s + 1) r (by omega) hr
    refine br_f (show ¬ nI 4096 ≤ nI s from nI_ge (by omega) (by decide)) ?_
    rcases hr with ⟨e, q⟩ | ⟨e, q⟩
    · exact br_t e (h r (Or.inl e) ⟨fun _ => q, fun _ => e⟩)
    · subst e
      have go : (∀ l, (come S c).2 s = some l → val S s 1 = 0 → k ≤ l) → wp_Md_induction_L93 x2 (nI k) iG lv K (m + 1) 1 (nI (s + 1)) := fun hk => ih 1 (Or.inr ⟨rfl, fun t l ht e hb => by
        by_cases z : t = s
        · subst z; exact hk l e hb
        · exact q t l (by omega) e hb⟩)
      refine br_f (by decide) ⟨hv, ?_⟩
      rw [nI_1, nI_clamp (show s < 2 ^ 31 by omega), hL s hs4, hG s hs4]
      cases e : (come S c).2 s with
      | none => exact br_t (show (-1 : Int32) < 0 by decide) (go (fun l hl => by rw [e] at hl; cases hl))
      | some l =>
        have hl := lev_lt hS e
        refine br_f (nI_pos (show l < 2 ^ 31 by omega)) ⟨hv, br_c (fun q2 => go (fun l' hl' _ => by rw [e] at hl'; cases hl'; exact (nI_leI hk (by omega)).mp q2)) (fun q2 => ⟨hv, ?_⟩)⟩
        rcases (show val S s 1 = 0 ∨ val S s 1 = 1 by omega) with e1 | e1
        · rw [e1]
          exact br_t rfl (ih 0 (Or.inl ⟨rfl, fun hb => q2 (nI_le (hb s l hs4 e e1) (by omega))⟩))
        · rw [e1]
          exact br_f (by decide) (go (fun l' _ hb => by omega))
/-- a turn from a state of X leads to one without the goal -/
def Lb (S : Nat → Option (List Nat)) (c : Nat) (X : Nat → Prop) : Prop := ∃ s i u, s < 4096 ∧ i < 6 ∧ X s ∧ nxc S c s i = some u ∧ val S u 1 = 0
theorem in169x (hS : SOk S) (hN : NxR S c nr) (hG : ∀ t, t < 4096 → iG t = nI (val S t 1)) {X : Nat → Prop} {mk0 : Nat → Int32} (hX : ∀ t, t < 4096 → (mk0 t ≠ 0 ↔ X t)) {s : Nat} (hs : s < 4096) {x2 x3 : Int32} {K : Int32 → Prop} (h : ∀ r, (r = 0 ∧ Lb S c X ∨ r = 1 ∧ (X s → ∀ i u, i < 6 → nxc S c s i = some u → val S u 1 ≠ 0)) → K r) : ∀ m i r, i + m = 6 → (r = 0 ∧ Lb S c X ∨ r = 1 ∧ (X s → ∀ j u, j < i → nxc S c s j = some u → val S u 1 ≠ 0)) → wp_Md_induction_L169 x2 x3 (nI s) nr iG mk0 K (m + 1) r (nI i)
  | 0, i, r, hi, hr => by
    have : i = 6 := by omega
    subst this
    exact br_t (show nI 6 ≤ nI 6 from nI_le (Nat.le_refl _) (by decide)) (h r hr)
  | m + 1, i, r, hi, hr => by
    have ih := fun r hr => in169x hS hN hG hX hs (x2 := x2) (x3 := x3) h m (i + 1) r (by omega) hr
    have hv : vp_in (nI s) 4096 := vp_in_nI hs (by decide)
    refine br_f (show ¬ nI 6 ≤ nI i from nI_ge (by omega) (by decide)) ⟨hv, ?_⟩
    rw [nI_clamp (show s < 2 ^ 31 by omega)]
    refine br_c (fun q => h r ?_) (fun q => ⟨(nxi hs (by omega)).1, fun x ex => ?_⟩)
    · rcases hr with hr | ⟨e, _⟩
      · exact Or.inl hr
      · exact Or.inr ⟨e, fun w => absurd q ((hX s hs).mpr w)⟩
    · rw [nI_1]
      rw [(nxi hs (by omega)).2, hN s hs i (by omega)] at ex
      rcases hr with ⟨e, hb⟩ | ⟨e, hb⟩
      · exact br_t e (ih 0 (Or.inl ⟨rfl, hb⟩))
      · subst e
        refine br_f (by decide) ?_
        have go : (∀ u, nxc S c s i = some u → val S u 1 ≠ 0) → wp_Md_induction_L169 x2 x3 (nI s) nr iG mk0 K (m + 1) 1 (nI (i + 1)) := fun hk => ih 1 (Or.inr ⟨rfl, fun w j u hj e => by
          by_cases z : j = i
          · subst z; exact hk u e
          · exact hb w j u (by omega) e⟩)
        cases e : nxc S c s i with
        | none =>
          rw [e] at ex
          subst ex
          exact br_t (show (-1 : Int32) < 0 by decide) (go (fun u hu => by rw [e] at hu; cases hu))
        | some u =>
          have hu := nxc_lt hS e
          have hv2 := val_lt2 hS u (s := 1) (by decide)
          rw [e] at ex
          subst ex
          refine br_f (nI_pos (show u < 2 ^ 31 by omega)) ⟨vp_in_nI hu (by decide), ?_⟩
          rw [show tI (some u) = nI u from rfl, nI_clamp (show u < 2 ^ 31 by omega), hG u hu]
          rcases (show val S u 1 = 0 ∨ val S u 1 = 1 by omega) with e1 | e1
          · rw [e1]; exact br_t rfl (ih 0 (Or.inl ⟨rfl, s, i, u, hs, by omega, (hX s hs).mp q, e, e1⟩))
          · rw [e1]; exact br_f (by decide) (go (fun v hv => by rw [e] at hv; cases hv; omega))
theorem in153x (hS : SOk S) (hN : NxR S c nr) (hG : ∀ t, t < 4096 → iG t = nI (val S t 1)) {X : Nat → Prop} {mk0 : Nat → Int32} (hX : ∀ t, t < 4096 → (mk0 t ≠ 0 ↔ X t)) {x2 x3 : Int32} {Z : Prop} {K : Int32 → Prop} (h : ∀ r, (r = 0 ∧ (Z ∨ Lb S c X) ∨ r = 1 ∧ ¬ Z ∧ ¬ Lb S c X) → K r) : ∀ m s r, s + m = 4096 → (r = 0 ∧ (Z ∨ Lb S c X) ∨ r = 1 ∧ ¬ Z ∧ ∀ t i u, t < s → t < 4096 → X t → i < 6 → nxc S c t i = some u → val S u 1 ≠ 0) → wp_Md_induction_L153 x2 x3 nr iG mk0 K (m + 1) r (nI s)
  | 0, s, r, hs, hr => by
    have : s = 4096 := by omega
    subst this
    refine br_t (nI_le (Nat.le_refl 4096) (by decide)) (h r ?_)
    rcases hr with hr | ⟨e, hz, hr⟩
    · exact Or.inl hr
    · exact Or.inr ⟨e, hz, fun ⟨t, i, u, ht, hi, hx, e, hv⟩ => hr t i u ht ht hx hi e hv⟩
  | m + 1, s, r, hs, hr => by
    have hs4 : s < 4096 := by omega
    refine br_f (show ¬ nI 4096 ≤ nI s from nI_ge (by omega) (by decide)) ?_
    rcases hr with ⟨e, hr⟩ | ⟨e, hz, hr⟩
    · exact br_t e (h r (Or.inl ⟨e, hr⟩))
    · subst e
      refine br_f (by decide) ⟨7, in169x hS hN hG hX hs4 (fun r hr2 => ?_) 6 0 1 rfl (Or.inr ⟨rfl, fun _ j u hj => absurd hj (Nat.not_lt_zero j)⟩)⟩
      rw [nI_1]
      refine in153x hS hN hG hX h m (s + 1) r (by omega) ?_
      rcases hr2 with ⟨e, hb⟩ | ⟨e, hb⟩
      · exact Or.inl ⟨e, Or.inr hb⟩
      · refine Or.inr ⟨e, hz, fun t i u ht ht4 hx hi e2 => ?_⟩
        by_cases z : t = s
        · subst z; exact hb hx i u hi e2
        · exact hr t i u (by omega) ht4 hx hi e2
theorem in81x (hS : SOk S) (hg12 : g ≤ 12) (ha : a < 4096) (hN : NxR S c nr) (hL : LvR lv (come S c).2) (hG : ∀ t, t < 4096 → iG t = nI (val S t 1)) (hH : ∀ t, t < 4096 → hgr t = nI (Gb S t g)) {K1 : (Nat → Int32) → (Nat → Int32) → Prop} {K2 : Int32 → (Nat → Int32) → (Nat → Int32) → Prop} (h1 : Ind S c g a 0 → ∀ f o, K1 f o) (h2 : ∀ r f o, Ind S c g a r → K2 r f o) : ∀ m k f o, k + m = 16 → (∀ j, 1 ≤ j → j < k + 1 → ¬ IR S c g a j) → (∀ t, t < 4096 → (f t ≠ 0 ↔ Fw S c g a k t)) → wp_Md_induction_L81 (nI a) nr iG lv hgr K1 K2 (m + 1) (nI (k + 1)) f o := by
  intro m
  induction m with
  | zero =>
    intro k f o hk hp hX
    have : k = 16 := by omega
    subst this
    exact br_t (by decide) (h1 (Or.inr ⟨rfl, fun j h1 h2 => hp j h1 (by omega)⟩) _ _)
  | succ m ih =>
    intro k f o hk hp hX
    have hLE : Lb S c (Fw S c g a k) ↔ Ech S c g a k 0 := ⟨fun ⟨s, i, u, h1, h2, h3, h4, h5⟩ => ⟨s, i, u, h1, h2, h3, h4, h5⟩, fun ⟨s, i, u, h1, h2, h3, h4, h5⟩ => ⟨s, i, u, h1, h2, h3, h4, h5⟩⟩
    refine br_f (show ¬ nI 16 < nI (k + 1) from nI_nlt (by omega) (by decide)) ⟨4097, in93x hS hL hG (by omega) (fun r hr hb => ⟨4097, in153x hS hN hG hX (Z := ¬ bs S c (k + 1)) (fun r hr => ?_) 4096 0 r rfl ?_⟩) 4096 0 1 rfl (Or.inr ⟨rfl, fun t l ht => absurd ht (Nat.not_lt_zero t)⟩)⟩
    · rcases hr with ⟨e, hr⟩ | ⟨e, hz, hr⟩
      · refine br_t e (q_goOn hS hg12 ha hN hG hH hX (fun f o hf => ?_))
        rw [nI_1]
        refine ih (k + 1) f o (by omega) (fun j hj1 hj2 hI => ?_) hf
        by_cases z : j = k + 1
        · subst z
          rcases hr with hr | hr
          · exact hr hI.1
          · exact hI.2 (by rw [Nat.add_sub_cancel]; exact hLE.mp hr)
        · exact hp j hj1 (by omega) hI
      · refine br_f (by rw [e]; decide) (h2 _ _ _ (Or.inl ⟨k + 1, by omega, by omega, rfl, ⟨Classical.byContradiction hz, ?_⟩, fun j h1 h2 => hp j h1 h2⟩))
        rw [Nat.add_sub_cancel]
        exact fun hE => hr (hLE.mpr hE)
    · rcases hr with e | e
      · exact Or.inl ⟨e, Or.inl (hb.mp e)⟩
      · exact Or.inr ⟨e, fun w => (by have := hb.mpr w; rw [e] at this; cases this), fun t i u ht => absurd ht (Nat.not_lt_zero t)⟩
/-- from the shortest run to what the class asks -/
theorem Tb_of (hS : SOk S) {rp : Int32} {rpa : Nat → Int32} (h : PaR S c rp rpa) : Tb S c (rp - 1) := by
  rcases h with ⟨e, hno⟩ | ⟨D, p, hD4, e, hp, _⟩
  · refine Or.inl ⟨by rw [e]; decide, fun k t l ht hl hv => ?_⟩
    obtain ⟨b, hb⟩ := lemB hS l t 0 ht hl hv
    exact absurd hb (hno b _)
  · refine Or.inr ⟨D, hD4, by rw [e, nI_sub1 (by omega), Nat.add_sub_cancel], fun k => ⟨fun hb => ?_, fun hk t l ht hl hv => ?_⟩⟩
    · obtain ⟨u, x, hu, hx, hv, hle⟩ := lemA hS D (p 0) 0 hp.2.1.1.1 (come_beg hp.2.1.1.2.1) hp.2.1.1.2.2
      have := hb u x hu hx hv
      omega
    · obtain ⟨b, hb⟩ := lemB hS l t 0 ht hl hv
      have := hp.1 b _ hb
      omega
end IN
section PI
variable {lg lc lgu lu lr rr rg rp gl ml kb : Int32} {lf lt l1 ls rl rpa gr ac nm bg go rk cc wh be gc gs uc nr iB iG lv hg ro : Nat → Int32}
theorem x_induction {x : Int32} (G : Gn lg lc lgu lu lr lf lt l1 ls rr rg rp rl rpa gl gr ml kb ac nm bg go rk cc wh be gc gs uc nr iB iG lv hg ro) {Q1 : Prop} {s1 s2 mk0 ot : Nat → Int32} {post : Int32 → (Nat → Int32) → (Nat → Int32) → Int32 → (Nat → Int32) → (Nat → Int32) → Prop} (h1 : Q1) (h : ∀ r s1 s2 mk0 ot, post r s1 s2 r mk0 ot) : wp_LI_induction x lg lc lf lt s1 s2 rp gl (fun r s1 s2 => Q1 ∧ wp_Md_induction x ml kb nr iG lv hg mk0 ot (fun r' mk0 ot => post r s1 s2 r' mk0 ot)) := by
  rcases G with ⟨rfl, rfl⟩ | ⟨rfl, l, S, c, g, u, rfl, hLO, hCI, hRI⟩
  · exact br_t rfl ⟨h1, br_t (by decide) (h _ _ _ _ _)⟩
  · obtain ⟨rfl, _, _, _, hF, hT, _, _, _, _, hP, rfl, _⟩ := hCI
    obtain ⟨hl, _, _, _, _, hN, hV, hL, rfl, _⟩ := hRI
    obtain ⟨hS, _, hc6, hg12, _⟩ := hLO
    have ha := kept_lt (S := S) (c := c) hg12
    generalize (kept S c g).1 = a at *
    have hG : ∀ t, t < 4096 → iG t = nI (val S t 1) := fun t ht => (hV t ht).2.1
    have hH : ∀ t, t < 4096 → hg t = nI (Gb S t g) := fun t ht => (hV t ht).2.2
    have hl0 : ¬ nI l < 0 := nI_pos (by omega)
    have M : ∀ (b : Nat), b < 4096 → ∀ (post : Int32 → (Nat → Int32) → (Nat → Int32) → Prop), (∀ r f o, Ind S c g b r → post r f o) → ∃ n, wp_Md_induction_L34 (nI b) iG hg (fun md_marked_1 => ∃ n_14, wp_Md_induction_L81 (nI b) nr iG lv hg (fun a b => post 0 a b) (fun r a b => post r a b) n_14 1 md_marked_1 ot) n 0 mk0 := fun b hb post hp =>
      ⟨4097, in34x hS hg12 hb hG hH (fun f hf => ⟨17, in81x hS hg12 hb hN hL hG hH (fun hi f o => hp 0 f o hi) hp 16 0 f ot rfl (fun j h1 h2 => by omega) hf⟩) 4096 0 mk0 rfl (fun t ht => absurd ht (Nat.not_lt_zero t))⟩
    refine br_f (by decide) ?_
    by_cases q0 : x < 0
    · exact br_t q0 ⟨h1, br_f hl0 (br_t q0 (h _ _ _ _ _))⟩
    · refine br_f q0 ?_
      by_cases q1 : x ≤ 1
      · refine br_t q1 (bn_c (fun q => ?_) (fun q => ?_))
        · unfold wp_Runs_turnsToBad
          refine c_leastInd (st := false) hS hc6 hg12 hF hT (Tb_of hS hP) ha (fun r s1 s2 hr => ⟨h1, br_f hl0 (br_f q0 (br_t q1 (bn_f q ?_)))⟩)
          exact M 0 (by decide) _ (fun r' f o hr' => by rw [Ind_eq hr' hr]; exact h _ _ _ _ _)
        · unfold wp_Runs_turnsToBad
          refine c_leastInd (st := true) hS hc6 hg12 hF hT (Tb_of hS hP) ha (fun r s1 s2 hr => ⟨h1, br_f hl0 (br_f q0 (br_t q1 (bn_t q ?_)))⟩)
          exact M a ha _ (fun r' f o hr' => by rw [Ind_eq hr' hr]; exact h _ _ _ _ _)
      · exact br_f q1 ⟨h1, br_f hl0 (br_f q0 (br_f q1 (h _ _ _ _ _)))⟩
end PI
