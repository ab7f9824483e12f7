/-! the class's shortest run to a state without the goal -/
section PT
variable {S : Nat → Option (List Nat)} {c g : Nat}
def Lst (P : Nat → Prop) (x : Nat) : Prop := P x ∧ ∀ y, P y → x ≤ y
theorem Lst_eq {P : Nat → Prop} {x y : Nat} (hx : Lst P x) (hy : Lst P y) : x = y := Nat.le_antisymm (hx.2 y hy.1) (hy.2 x hx.1)
theorem Lst_congr {P Q : Nat → Prop} (h : ∀ x, P x ↔ Q x) {x : Nat} (hx : Lst P x) : Lst Q x := ⟨(h x).mp hx.1, fun y hy => hx.2 y ((h y).mpr hy)⟩
def Bg (S : Nat → Option (List Nat)) (c D s : Nat) : Prop := s < 4096 ∧ val S s 0 ≠ 0 ∧ bd S c D s
def Tn (S : Nat → Option (List Nat)) (c k s t : Nat) : Prop := (∃ i, i < 6 ∧ nxc S c s i = some t) ∧ bd S c k t
/-- D is the least number of turns from a state that begins to one without the goal; p the run -/
def Pth (S : Nat → Option (List Nat)) (c D : Nat) (p : Nat → Nat) : Prop := (∀ s j, Bg S c j s → D ≤ j) ∧ Lst (Bg S c D) (p 0) ∧ ∀ l, l < D → Lst (Tn S c (D - l - 1) (p l)) (p (l + 1))
def PaR (S : Nat → Option (List Nat)) (c : Nat) (rp : Int32) (rpa : Nat → Int32) : Prop := (rp = 0 ∧ ∀ s j, ¬ Bg S c j s) ∨ ∃ D p, D < 4096 ∧ rp = nI (D + 1) ∧ Pth S c D p ∧ ∀ l, l ≤ D → p l < 4096 ∧ rpa l = nI (p l)
variable {d : Nat → Option Nat} {s1 : Nat → Int32}
theorem d_lt (hd : Dd S c d) {t x : Nat} (ht : t < 4096) (h : d t = some x) : x < 4096 := ((hd t ht).1 x h).1
/-- the best of the states that begin, among the first s -/
def BB (S : Nat → Option (List Nat)) (d : Nat → Option Nat) (s : Nat) (b : Option Nat) (m : Nat) : Prop := (b = none → m = 4096 ∧ ∀ t, t < s → val S t 0 ≠ 0 → d t = none) ∧ ∀ y, b = some y → y < s ∧ val S y 0 ≠ 0 ∧ d y = some m ∧ ∀ t x, t < s → val S t 0 ≠ 0 → d t = some x → m ≤ x ∧ (x = m → y ≤ t)
theorem beg_bit (hS : SOk S) (hg : g ≤ 12) {fa : Nat → Int32} {L : Nat → Option Nat} (hF : FaL S c g fa L) {t : Nat} (ht : t < 4096) {post : Int32 → Prop} (h : post (b01 (decide (val S t 0 = 1)))) : wp_Loop_hasAll (nI t) 1 fa post := by
  have hfl := fc_lt (S := S) (c := c) (g := g) hS hg t
  have a := val_lt2 hS t (s := 0) (by decide)
  refine q_hasAll (m := 1) ht (hF t ht) (by omega) (by decide) ?_
  rw [Nat.and_one_is_mod, fc_1 t hS]
  exact h
theorem bb8 (hS : SOk S) (hg : g ≤ 12) {fa : Nat → Int32} {L : Nat → Option Nat} (hF : FaL S c g fa L) (hd : Dd S c d) (hL : LvR s1 d) {K : Int32 → Prop} (h : ∀ b m, BB S d 4096 b m → K (tI b)) : ∀ m s b x, s + m = 4096 → BB S d s b x → wp_Runs_bestBegin_L8 fa s1 K (m + 1) (tI b) (nI x) (nI s) := by
  intro m
  induction m with
  | zero =>
    intro s b x hs hb
    have : s = 4096 := by omega
    subst this
    exact br_t (nI_le (Nat.le_refl 4096) (by decide)) (h b x hb)
  | succ m ih0 =>
    intro s b x hs hb
    have ih := fun b x hb => ih0 (s + 1) b x (by omega) hb
    have hs4 : s < 4096 := by omega
    have hvp : vp_in (nI s) 4096 := vp_in_nI hs4 (by decide)
    have a := val_lt2 hS s (s := 0) (by decide)
    have skip : (val S s 0 ≠ 0 → d s = none ∨ ∃ y, d s = some y ∧ x ≤ y ∧ (y = x → ∀ z, b = some z → z ≤ s) ∧ b ≠ none) → BB S d (s + 1) b x := fun hk => ⟨fun e => ⟨(hb.1 e).1, fun t ht hv => by
      by_cases z : t = s
      · subst z
        rcases hk hv with q | ⟨y, _, _, _, q⟩
        · exact q
        · exact absurd e q
      · exact (hb.1 e).2 t (by omega) hv⟩, fun y e => by
      obtain ⟨h1, h2, h3, h4⟩ := hb.2 y e
      refine ⟨by omega, h2, h3, fun t w ht hv hw => ?_⟩
      by_cases z : t = s
      · subst z
        rcases hk hv with q | ⟨y', q1, q2, q3, _⟩
        · rw [q] at hw; cases hw
        · rw [q1] at hw; cases hw; exact ⟨q2, fun q => q3 q y e⟩
      · exact h4 t w (by omega) hv hw⟩
    refine br_f (show ¬ nI 4096 ≤ nI s from nI_ge (by omega) (by decide)) (beg_bit hS hg hF hs4 ?_)
    rw [nI_1]
    rcases (show val S s 0 = 0 ∨ val S s 0 = 1 by omega) with e | e
    · rw [e]
      exact br_t rfl (ih b x (skip (fun q => absurd e q)))
    · have hn0 : val S s 0 ≠ 0 := by omega
      rw [e]
      refine br_f (by decide) ⟨hvp, ?_⟩
      rw [nI_clamp (show s < 2 ^ 31 by omega), hL s hs4]
      cases e2 : d s with
      | none => exact br_t rfl (ih b x (skip (fun _ => Or.inl e2)))
      | some y =>
        have hy := d_lt hd hs4 e2
        refine br_f (fun q => ?_) ⟨hvp, ?_⟩
        · have := nI_pos (n := y) (by omega)
          rw [show nI y = -1 from q] at this
          exact absurd (by decide) this
        have hx : x ≤ 4096 := by
          cases e3 : b with
          | none => have := (hb.1 e3).1; omega
          | some z =>
            obtain ⟨h1, _, h3, _⟩ := hb.2 z e3
            have := d_lt hd (by omega) h3
            omega
        refine br_c (fun q => ih b x (skip (fun _ => Or.inr ⟨y, e2, (nI_leI (by omega) (by omega)).mp q, ?_, ?_⟩))) (fun q => ⟨hvp, fun x2 ex2 => ?_⟩)
        · intro _ z ez
          have := (hb.2 z ez).1
          omega
        · intro ez
          have h1 := (hb.1 ez).1
          have := (nI_leI (by omega) (by omega)).mp q
          omega
        · have hlt : y < x := Nat.lt_of_not_le (fun z => q (nI_le z (by omega)))
          rw [ex2, show tI (some y) = nI y from rfl, show nI s = tI (some s) from rfl]
          refine ih (some s) y ⟨fun z => (by cases z), fun z ez => ?_⟩
          cases ez
          refine ⟨by omega, hn0, e2, fun t w ht hv hw => ?_⟩
          by_cases z : t = s
          · subst z; rw [e2] at hw; cases hw; exact ⟨Nat.le_refl _, fun _ => Nat.le_refl _⟩
          · cases e3 : b with
            | none => rw [(hb.1 e3).2 t (by omega) hv] at hw; cases hw
            | some b' =>
              have := (hb.2 b' e3).2.2.2 t w (by omega) hv hw
              exact ⟨by omega, fun _ => by omega⟩
/-- the best of the turns of s, among the first i -/
def BT (S : Nat → Option (List Nat)) (c : Nat) (d : Nat → Option Nat) (s k i : Nat) (b : Option Nat) : Prop := (b = none → ∀ j t, j < i → nxc S c s j = some t → d t ≠ some k) ∧ ∀ y, b = some y → (∃ j, j < i ∧ nxc S c s j = some y) ∧ d y = some k ∧ ∀ j t, j < i → nxc S c s j = some t → d t = some k → y ≤ t
theorem bt22 (hS : SOk S) (hc : c ≤ 6) {tu : Nat → Int32} (hT : Tu S c tu) (hd : Dd S c d) (hL : LvR s1 d) {s k : Nat} (hs : s < 4096) (hk : d s = some (k + 1)) {K : Int32 → Prop} (h : ∀ b, BT S c d s k c b → K (tI b)) : ∀ m i b, i + m = c → BT S c d s k i b → wp_Runs_bestTurn_L22 (nI s) (nI c) tu s1 K (m + 1) (tI b) (nI i) := by
  intro m
  induction m with
  | zero =>
    intro i b hi hb
    have : i = c := by omega
    subst this
    exact br_t (nI_le (Nat.le_refl _) (by omega)) (h b hb)
  | succ m ih0 =>
    intro i b hi hb
    have ih := fun b hb => ih0 (i + 1) b (by omega) hb
    have hk4 := d_lt hd hs hk
    refine br_f (nI_ge (by omega) (by omega)) (q_turn hc hT (by omega) hs ?_)
    have ex : nxc S c s i = nx S s i := if_pos (by omega)
    rw [nI_1]
    have skip : (∀ t, nxc S c s i = some t → d t = some k → ∃ y, b = some y ∧ y ≤ t) → BT S c d s k (i + 1) b := fun hk => ⟨fun e j t hj ht q => by
      by_cases z : j = i
      · subst z
        obtain ⟨y, hy, _⟩ := hk t ht q
        rw [e] at hy; cases hy
      · exact hb.1 e j t (by omega) ht q, fun y e => by
      obtain ⟨⟨j, hj, h1⟩, h2, h3⟩ := hb.2 y e
      refine ⟨⟨j, by omega, h1⟩, h2, fun j t hj ht q => ?_⟩
      by_cases z : j = i
      · subst z
        obtain ⟨y', hy, hle⟩ := hk t ht q
        rw [e] at hy; cases hy; exact hle
      · exact h3 j t (by omega) ht q⟩
    cases e : nx S s i with
    | none => exact q_isState_m1 (br_t rfl (ih b (skip (fun t ht => by rw [ex, e] at ht; cases ht))))
    | some t =>
      have ht := nx_lt hS e
      have hin : vp_in (nI t) 4096 := vp_in_nI ht (by decide)
      have take : (∀ y, b = some y → t ≤ y) → d t = some k → BT S c d s k (i + 1) (some t) := fun hy hdt => ⟨fun z => (by cases z), fun y ey => by
        cases ey
        refine ⟨⟨i, by omega, ex.trans e⟩, hdt, fun j u hj hu q => ?_⟩
        by_cases z : j = i
        · subst z; rw [ex, e] at hu; cases hu; exact Nat.le_refl _
        · cases e3 : b with
          | none => exact absurd q (hb.1 e3 j u (by omega) hu)
          | some y => exact Nat.le_trans (hy y e3) ((hb.2 y e3).2.2 j u (by omega) hu q)⟩
      refine q_isState ht (br_f (by decide) ⟨hin, vp_in_nI hs (by decide), ?_⟩)
      rw [show tI (some t) = nI t from rfl, nI_clamp (show t < 2 ^ 31 by omega), nI_clamp (show s < 2 ^ 31 by omega), hL t ht, hL s hs, hk, show tI (some (k + 1)) = nI (k + 1) from rfl, nI_sub1 (by omega), Nat.add_sub_cancel]
      have eq := tI_eq (x := d t) (u := k) (fun x hx => by have := d_lt hd ht hx; omega) (by omega)
      refine bn_c (fun q => ih b (skip (fun t' ht' hq => ?_))) (fun q => ?_)
      · rw [ex, e] at ht'; cases ht'; exact absurd (eq.mpr hq) q
      · have hdt := eq.mp q
        cases e3 : b with
        | none => exact br_t rfl (ih (some t) (take (fun y ey => by rw [e3] at ey; cases ey) hdt))
        | some y =>
          have hy : y < 4096 := by
            obtain ⟨j, _, hj⟩ := (hb.2 y e3).1
            exact nxc_lt hS hj
          refine br_f (fun z => ?_) ?_
          · have := nI_pos (n := y) (by omega)
            rw [show nI y = -1 from z] at this
            exact absurd (by decide) this
          refine br_c (fun z => ?_) (fun z => ih (some t) (take (fun y' ey => ?_) hdt))
          · rw [← e3]
            exact ih b (skip (fun t' ht' _ => by
              rw [ex, e] at ht'; cases ht'
              exact ⟨y, e3, (nI_leI (by omega) (by omega)).mp z⟩))
          · rw [e3] at ey
            cases ey
            exact Nat.le_of_lt (Nat.lt_of_not_le (fun w => z (nI_le w (by omega))))
/-- where the walk stands: n states are told, y is the next -/
def Wlk (S : Nat → Option (List Nat)) (c D n : Nat) (pa : Nat → Int32) (y : Nat) : Prop := y < 4096 ∧ bd S c (D - n) y ∧ (∀ j, bd S c j y → D ≤ n + j) ∧ (∀ l, l < n → ∃ z, z < 4096 ∧ pa l = nI z) ∧ (n = 0 → Lst (Bg S c D) y) ∧ (n ≠ 0 → Lst (Bg S c D) (pa 0).toNatClampNeg ∧ Lst (Tn S c (D - n) (pa (n - 1)).toNatClampNeg) y) ∧ ∀ l, l + 1 < n → Lst (Tn S c (D - l - 1) (pa l).toNatClampNeg) (pa (l + 1)).toNatClampNeg
theorem fp12 (hS : SOk S) (hc : c ≤ 6) {tu : Nat → Int32} (hT : Tu S c tu) (hd : Dd S c d) (hL : LvR s1 d) {D : Nat} (hD : D < 4096) (hmin : ∀ s j, Bg S c j s → D ≤ j) {K : Int32 → (Nat → Int32) → Prop} (h : ∀ p pa, Pth S c D p → (∀ l, l ≤ D → p l < 4096 ∧ pa l = nI (p l)) → K (nI (D + 1)) pa) : ∀ m n y pa, n + m = 4096 → n ≤ D → Wlk S c D n pa y → wp_Runs_findPath_L12 (nI c) tu s1 K (m + 1) (nI y) (nI n) (nI n) pa := by
  intro m
  induction m with
  | zero =>
    intro n y pa hn hnD
    omega
  | succ m ih =>
    intro n y pa hn hnD hw
    obtain ⟨hy, hb, hmn, hpa, h0, h1, h2⟩ := hw
    have hdy : d y = some (D - n) := by
      cases e : d y with
      | none => exact absurd hb ((hd y hy).2 e (D - n))
      | some x =>
        obtain ⟨_, q1, q2⟩ := (hd y hy).1 x e
        have a1 := q2 _ hb
        have a2 := hmn _ q1
        rw [show x = D - n by omega]
    -- the row with y in it
    have P : ∀ l, l ≤ n → ∃ z, z < 4096 ∧ upd pa n (nI y) l = nI z := fun l hl => by
      by_cases z : l = n
      · subst z; exact ⟨y, hy, pk_us⟩
      · obtain ⟨w, hw1, hw2⟩ := hpa l (by omega)
        exact ⟨w, hw1, by rw [pk_un z]; exact hw2⟩
    have ey : (upd pa n (nI y) n).toNatClampNeg = y := by rw [pk_us]; exact nI_clamp (by omega)
    have eo : ∀ l, l < n → upd pa n (nI y) l = pa l := fun l hl => pk_un (by omega)
    have B0 : Lst (Bg S c D) (upd pa n (nI y) 0).toNatClampNeg := by
      by_cases z : n = 0
      · subst z; rw [ey]; exact h0 rfl
      · rw [eo 0 (by omega)]; exact (h1 z).1
    have BL : ∀ l, l + 1 ≤ n → Lst (Tn S c (D - l - 1) (upd pa n (nI y) l).toNatClampNeg) (upd pa n (nI y) (l + 1)).toNatClampNeg := fun l hl => by
      by_cases z : l + 1 = n
      · subst z
        rw [ey, eo l (by omega)]
        have := (h1 (by omega)).2
        rw [show D - (l + 1) = D - l - 1 by omega, show l + 1 - 1 = l by omega] at this
        exact this
      · rw [eo l (by omega), eo (l + 1) (by omega)]
        exact h2 l (by omega)
    refine br_f (show ¬ nI 4096 ≤ nI n from nI_ge (by omega) (by decide)) (q_isState hy (br_f (by decide) ⟨vp_in_nI (by omega) (by decide), ?_⟩))
    rw [nI_clamp (show n < 2 ^ 31 by omega), nI_1]
    refine q_isState hy (br_f (by decide) ⟨vp_in_nI hy (by decide), ?_⟩)
    rw [nI_clamp (show y < 2 ^ 31 by omega), hL y hy, hdy, show tI (some (D - n)) = nI (D - n) from rfl]
    by_cases z : D - n = 0
    · have hDn : n = D := by omega
      rw [z]
      refine br_f (by decide) ?_
      have fin : K (nI (n + 1)) (upd pa n (nI y)) := by
        rw [hDn]
        refine h (fun l => (upd pa n (nI y) l).toNatClampNeg) _ ⟨hmin, B0, fun l hl => BL l (by omega)⟩ (fun l hl => ?_)
        · rw [← hDn]
          obtain ⟨w, hw1, hw2⟩ := P l (by omega)
          refine ⟨?_, ?_⟩
          · show (upd pa n (nI y) l).toNatClampNeg < 4096
            rw [hw2, nI_clamp (by omega)]; exact hw1
          · show upd pa n (nI y) l = nI (upd pa n (nI y) l).toNatClampNeg
            rw [hw2, nI_clamp (by omega)]
      by_cases w : 4096 ≤ n + 1
      · cases m with
        | zero => exact br_t (nI_le w (by omega)) fin
        | succ m => exact br_t (nI_le w (by omega)) fin
      · cases m with
        | zero => omega
        | succ m => exact br_f (show ¬ nI 4096 ≤ nI (n + 1) from nI_ge (by omega) (by decide)) (q_isState_m1 (br_t rfl fin))
    · obtain ⟨k, hk⟩ : ∃ k, D - n = k + 1 := ⟨D - n - 1, by omega⟩
      rw [hk] at hdy hb ⊢
      refine br_t (show nI 0 < nI (k + 1) from nI_lt (by omega) (by omega)) ⟨c + 1, bt22 hS hc hT hd hL hy hdy (fun b hbt => ?_) c 0 none (by omega) ⟨fun _ j t hj => absurd hj (Nat.not_lt_zero j), fun y e => by cases e⟩⟩
      -- a turn of y leads nearer
      have near : ∀ t, (∃ i, i < 6 ∧ nxc S c y i = some t) → ∀ j, bd S c j t → D ≤ n + 1 + j := fun t ⟨i, hi, e⟩ j hj => by
        have := hmn (j + 1) ⟨i, t, hi, e, hj⟩
        omega
      have dk : ∀ t, t < 4096 → (∃ i, i < 6 ∧ nxc S c y i = some t) → (d t = some k ↔ bd S c k t) := fun t ht hi => by
        refine ⟨fun e => ((hd t ht).1 k e).2.1, fun hj => ?_⟩
        cases e : d t with
        | none => exact absurd hj ((hd t ht).2 e k)
        | some x =>
          obtain ⟨_, q1, q2⟩ := (hd t ht).1 x e
          have a1 := q2 _ hj
          have a2 := near t hi _ q1
          rw [show x = k by omega]
      have c6 : ∀ j t, nxc S c y j = some t → j < c := fun j t e => Nat.lt_of_not_le (fun z => by rw [show nxc S c y j = none from if_neg (by omega)] at e; cases e)
      obtain ⟨i, t, hi, e, hbt2⟩ := hb
      have htl := nxc_lt hS e
      cases e4 : b with
      | none => exact absurd ((dk t htl ⟨i, hi, e⟩).mpr hbt2) (hbt.1 e4 i t (c6 i t e) e)
      | some w =>
        obtain ⟨⟨j, hj, hjw⟩, hw2, hw3⟩ := hbt.2 w e4
        have hwl := nxc_lt hS hjw
        have hwt : ∃ i, i < 6 ∧ nxc S c y i = some w := ⟨j, by omega, hjw⟩
        refine ih (n + 1) w (upd pa n (nI y)) (by omega) (by omega) ⟨hwl, ?_, near w hwt, fun l hl => P l (by omega), fun q => by omega, fun _ => ⟨B0, ?_, fun u hu => ?_⟩, fun l hl => BL l (by omega)⟩
        · rw [show D - (n + 1) = k by omega]; exact (dk w hwl hwt).mp hw2
        · show Tn S c (D - (n + 1)) (upd pa n (nI y) (n + 1 - 1)).toNatClampNeg w
          rw [Nat.add_sub_cancel, ey, show D - (n + 1) = k by omega]
          exact ⟨hwt, (dk w hwl hwt).mp hw2⟩
        · have hu : Tn S c (D - (n + 1)) (upd pa n (nI y) (n + 1 - 1)).toNatClampNeg u := hu
          rw [Nat.add_sub_cancel, ey, show D - (n + 1) = k by omega] at hu
          obtain ⟨⟨i2, hi2, e2⟩, hb2⟩ := hu
          exact hw3 i2 u (c6 i2 u e2) e2 ((dk u (nxc_lt hS e2) ⟨i2, hi2, e2⟩).mpr hb2)
theorem c_findPath (hS : SOk S) (hc : c ≤ 6) (hg : g ≤ 12) {fa tu pa : Nat → Int32} {ps : Int32} {L : Nat → Option Nat} (hF : FaL S c g fa L) (hT : Tu S c tu) (hd : Dd S c d) (hL : LvR s1 d) {post : Int32 → (Nat → Int32) → Prop} (h : ∀ rp rpa, PaR S c rp rpa → post rp rpa) : wp_Runs_findPath (nI c) fa tu s1 ps pa post := by
  refine ⟨4097, bb8 hS hg hF hd hL (fun b m hb => ⟨4097, ?_⟩) 4096 0 none 4096 rfl ⟨fun _ => ⟨rfl, fun t ht => absurd ht (Nat.not_lt_zero t)⟩, fun y e => by cases e⟩⟩
  cases e : b with
  | none =>
    refine br_f (by decide) (q_isState_m1 (br_t rfl (h 0 pa (Or.inl ⟨rfl, fun s j hj => ?_⟩))))
    exact (hd s hj.1).2 ((hb.1 e).2 s hj.1 hj.2.1) j hj.2.2
  | some y =>
    obtain ⟨hy, hv, hdy, hmin⟩ := hb.2 y e
    obtain ⟨hm4, hbd, hle⟩ := (hd y hy).1 m hdy
    have key : ∀ s j, Bg S c j s → m ≤ j ∧ (j = m → y ≤ s) := fun s j hj => by
      cases e2 : d s with
      | none => exact absurd hj.2.2 ((hd s hj.1).2 e2 j)
      | some x =>
        obtain ⟨_, q1, q2⟩ := (hd s hj.1).1 x e2
        have a1 := q2 j hj.2.2
        have a2 := hmin s x hj.1 hj.2.1 e2
        exact ⟨by omega, fun q => a2.2 (by omega)⟩
    exact fp12 hS hc hT hd hL hm4 (fun s j hj => (key s j hj).1) (fun p pa hp hpa => h _ _ (Or.inr ⟨m, p, hm4, rfl, hp, hpa⟩)) 4096 0 y pa rfl (Nat.zero_le _) ⟨hy, hbd, fun j hj => by have := hle j hj; omega, fun l hl => absurd hl (Nat.not_lt_zero l), fun _ => ⟨⟨hy, hv, hbd⟩, fun s hs => (key s m hs).2 rfl⟩, fun q => absurd rfl q, fun l hl => absurd hl (Nat.not_lt_zero _)⟩
end PT
