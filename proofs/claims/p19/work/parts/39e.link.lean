/-! the class's rows of sources -/
theorem nI_sub1 {a : Nat} (h : 1 ≤ a) : nI a - 1 = nI (a - 1) := pk_sub (b := 1) h
def sm (f : Nat → Nat) : Nat → Nat
  | 0 => 0
  | n + 1 => sm f n + f n
theorem sm_add {f g : Nat → Nat} : ∀ n, sm (fun u => f u + g u) n = sm f n + sm g n
  | 0 => rfl
  | n + 1 => by
    show sm (fun u => f u + g u) n + (f n + g n) = (sm f n + f n) + (sm g n + g n)
    rw [sm_add n]; omega
theorem sm_0 : ∀ n, sm (fun _ => 0) n = 0
  | 0 => rfl
  | n + 1 => by show sm (fun _ => 0) n + 0 = 0; rw [sm_0 n]
theorem sm_mono {f : Nat → Nat} {a : Nat} : ∀ {b}, a ≤ b → sm f a ≤ sm f b
  | 0, h => by rw [Nat.le_zero.mp h]; exact Nat.le_refl _
  | b + 1, h => by
    rcases Nat.lt_or_ge a (b + 1) with q | q
    · exact Nat.le_trans (sm_mono (by omega : a ≤ b)) (Nat.le_add_right _ _)
    · rw [show a = b + 1 by omega]; exact Nat.le_refl _
def rcn (S : Nat → Option (List Nat)) (s t : Nat) : Nat → Nat
  | 0 => 0
  | i + 1 => rcn S s t i + (if nx S s i = some t then 1 else 0)
def pre (S : Nat → Option (List Nat)) (c t s : Nat) : Nat := sm (fun u => rcn S u t c) s
def off (S : Nat → Option (List Nat)) (c t : Nat) : Nat := sm (fun u => pre S c u 4096) t
def sl (S : Nat → Option (List Nat)) (c t : Nat) : Nat → List Nat
  | 0 => []
  | m + 1 => List.replicate (rcn S (4095 - m) t c) (4095 - m) ++ sl S c t m
section LK
variable {S : Nat → Option (List Nat)} {c : Nat} {tu : Nat → Int32}
theorem rcn_ne {s t i : Nat} (h : nx S s i ≠ some t) : rcn S s t (i + 1) = rcn S s t i := by
  show rcn S s t i + (if nx S s i = some t then 1 else 0) = _
  rw [if_neg h]; rfl
theorem rcn_eq {s t i : Nat} (h : nx S s i = some t) : rcn S s t (i + 1) = rcn S s t i + 1 := by
  show rcn S s t i + (if nx S s i = some t then 1 else 0) = _
  rw [if_pos h]
theorem rcn_mono {s t i : Nat} : ∀ {j}, i ≤ j → rcn S s t i ≤ rcn S s t j
  | 0, h => by rw [Nat.le_zero.mp h]; exact Nat.le_refl _
  | j + 1, h => by
    rcases Nat.lt_or_ge i (j + 1) with q | q
    · exact Nat.le_trans (rcn_mono (by omega : i ≤ j)) (Nat.le_add_right _ _)
    · rw [show i = j + 1 by omega]; exact Nat.le_refl _
theorem rcn_big (hS : SOk S) {s t : Nat} (ht : 4096 ≤ t) : ∀ i, rcn S s t i = 0
  | 0 => rfl
  | i + 1 => by rw [rcn_ne (fun e => by have := nx_lt hS e; omega)]; exact rcn_big hS ht i
theorem sm_ind (v : Nat) : ∀ n, sm (fun u => if some v = some u then 1 else 0) n = if v < n then 1 else 0
  | 0 => rfl
  | n + 1 => by
    show sm (fun u => if some v = some u then 1 else 0) n + (if some v = some n then 1 else 0) = _
    rw [sm_ind v n]
    by_cases e : v = n
    · subst e; rw [if_neg (Nat.lt_irrefl v), if_pos rfl, if_pos (Nat.lt_succ_self v)]
    · rw [if_neg (show ¬ some v = some n from fun q => e (by injection q))]
      by_cases e2 : v < n
      · rw [if_pos e2, if_pos (by omega)]
      · rw [if_neg e2, if_neg (by omega)]
theorem sm_ind_le (x : Option Nat) (n : Nat) : sm (fun u => if x = some u then 1 else 0) n ≤ 1 := by
  cases x with
  | none =>
    have e : (fun u => if (none : Option Nat) = some u then 1 else 0) = fun _ => 0 := funext (fun u => if_neg (fun q => by cases q))
    rw [e, sm_0]; decide
  | some v => rw [sm_ind]; split <;> decide
theorem rcn_sum {s n : Nat} : ∀ i, sm (fun u => rcn S s u i) n ≤ i
  | 0 => by show sm (fun _ => 0) n ≤ 0; rw [sm_0]; exact Nat.le_refl _
  | i + 1 => by
    show sm (fun u => rcn S s u i + (if nx S s i = some u then 1 else 0)) n ≤ i + 1
    rw [sm_add (f := fun u => rcn S s u i) (g := fun u => if nx S s i = some u then 1 else 0)]
    exact Nat.add_le_add (rcn_sum i) (sm_ind_le _ n)
theorem pre_sum {n : Nat} : ∀ s, sm (fun u => pre S c u s) n ≤ s * c
  | 0 => by show sm (fun _ => 0) n ≤ 0 * c; rw [sm_0]; omega
  | s + 1 => by
    show sm (fun u => pre S c u s + rcn S s u c) n ≤ (s + 1) * c
    rw [sm_add (f := fun u => pre S c u s) (g := fun u => rcn S s u c), Nat.add_mul, Nat.one_mul]
    exact Nat.add_le_add (pre_sum s) (rcn_sum c)
theorem off_le (hc : c ≤ 6) (t : Nat) : off S c t ≤ 24576 := Nat.le_trans (pre_sum 4096) (by omega)
theorem pre_big (hS : SOk S) {t : Nat} (ht : 4096 ≤ t) (s : Nat) : pre S c t s = 0 := by
  unfold pre
  rw [show (fun u => rcn S u t c) = fun _ => 0 from funext (fun u => rcn_big hS ht c)]
  exact sm_0 s
theorem off_s (t : Nat) : off S c (t + 1) = off S c t + pre S c t 4096 := rfl
theorem sl_len (t : Nat) : ∀ m, m ≤ 4096 → (sl S c t m).length + pre S c t (4096 - m) = pre S c t 4096
  | 0, _ => Nat.zero_add _
  | m + 1, h => by
    have h1 := sl_len t m (by omega)
    have h2 : pre S c t (4096 - m) = pre S c t (4095 - m) + rcn S (4095 - m) t c := by
      rw [show 4096 - m = (4095 - m) + 1 by omega]; rfl
    show (List.replicate (rcn S (4095 - m) t c) (4095 - m) ++ sl S c t m).length + pre S c t (4096 - (m + 1)) = _
    rw [List.length_append, List.length_replicate, show 4096 - (m + 1) = 4095 - m by omega]
    omega
theorem lk19 (hS : SOk S) (hc : c ≤ 6) (hT : Tu S c tu) {s : Nat} (hs : s < 4096) {K : (Nat → Int32) → Prop} (hK : ∀ f, (∀ t, t ≤ 4096 → f t = nI (pre S c t (s + 1))) → K f) : ∀ m i f, i + m = c → (∀ t, t ≤ 4096 → f t = nI (pre S c t s + rcn S s t i)) → wp_Loop_linkSources_L19 (nI s) (nI c) tu K (m + 1) (nI i) f
  | 0, i, f, hi, h1 => by
    have : i = c := by omega
    subst this
    exact br_t (nI_le (Nat.le_refl _) (by omega)) (hK f h1)
  | m + 1, i, f, hi, h1 => by
    refine br_f (nI_ge (by omega) (by omega)) (q_turn hc hT (by omega) hs ?_)
    rw [nI_1]
    cases e : nx S s i with
    | none =>
      refine q_isState_m1 (br_t rfl (lk19 hS hc hT hs hK m (i + 1) f (by omega) (fun t ht => ?_)))
      rw [rcn_ne (by rw [e]; exact fun q => by cases q)]; exact h1 t ht
    | some x =>
      have hx := nx_lt hS e
      refine q_isState hx (br_f (by decide) ⟨vp_in_nI (by omega) (by decide), vp_in_nI (by omega) (by decide), ?_⟩)
      show wp_Loop_linkSources_L19 (nI s) (nI c) tu K (m + 1) (nI (i + 1)) (upd f (nI x).toNatClampNeg (f (nI x).toNatClampNeg + 1))
      rw [nI_clamp (by omega)]
      refine lk19 hS hc hT hs hK m (i + 1) _ (by omega) (fun t ht => ?_)
      by_cases e2 : t = x
      · subst e2; rw [pk_us, h1 t ht, nI_1, rcn_eq e, Nat.add_assoc]
      · rw [pk_un e2, h1 t ht, rcn_ne (by rw [e]; exact fun q => e2 (by injection q with q; exact q.symm))]
theorem lk10 (hS : SOk S) (hc : c ≤ 6) (hT : Tu S c tu) {K : (Nat → Int32) → Prop} (hK : ∀ f, (∀ t, t ≤ 4096 → f t = nI (pre S c t 4096)) → K f) : ∀ m s f, s + m = 4096 → (∀ t, t ≤ 4096 → f t = nI (pre S c t s)) → wp_Loop_linkSources_L10 (nI c) tu K (m + 1) (nI s) f
  | 0, s, f, hs, h1 => by
    have : s = 4096 := by omega
    subst this
    exact br_t (show nI 4096 ≤ nI 4096 from nI_le (Nat.le_refl _) (by decide)) (hK f h1)
  | m + 1, s, f, hs, h1 => by
    refine br_f (show ¬ nI 4096 ≤ nI s from nI_ge (by omega) (by decide)) ⟨c + 1, ?_⟩
    refine lk19 hS hc hT (s := s) (by omega) (fun f2 h2 => ?_) c 0 f (by omega) h1
    rw [nI_1]
    exact lk10 hS hc hT hK m (s + 1) f2 (by omega) h2
theorem lk65 {K : (Nat → Int32) → Prop} (hK : ∀ f, (∀ t, t ≤ 4096 → f t = nI (off S c (t + 1))) → K f) : ∀ m s f, s + m = 4096 → (∀ t, t ≤ s → f t = nI (off S c (t + 1))) → (∀ t, s < t → t ≤ 4096 → f t = nI (pre S c t 4096)) → wp_Loop_linkSources_L65 K (m + 1) (nI s) f
  | 0, s, f, hs, h1, h2 => br_t (show nI 4096 ≤ nI s from nI_le (by omega) (by omega)) (hK f (fun t ht => h1 t (by omega)))
  | m + 1, s, f, hs, h1, h2 => by
    refine br_f (show ¬ nI 4096 ≤ nI s from nI_ge (by omega) (by decide)) ?_
    rw [nI_1]
    refine ⟨vp_in_nI (by omega) (by decide), vp_in_nI (by omega) (by decide), vp_in_nI (by omega) (by decide), ?_⟩
    rw [nI_clamp (by omega), nI_clamp (by omega), h1 s (Nat.le_refl s), h2 (s + 1) (by omega) (by omega), nI_add]
    refine lk65 hK m (s + 1) _ (by omega) (fun t ht => ?_) (fun t ht ht2 => ?_)
    · by_cases e : t = s + 1
      · subst e; rw [pk_us, off_s (s + 1), Nat.add_comm]
      · rw [pk_un e]; exact h1 t (by omega)
    · rw [pk_un (by omega)]; exact h2 t (by omega) ht2
/-- what is put in already, of each state's sources -/
def IP (S : Nat → Option (List Nat)) (c : Nat) (P : Nat → List Nat) (f sr : Nat → Int32) : Prop := ∀ t, t ≤ 4096 → (P t).length ≤ pre S c t 4096 ∧ f t = nI (off S c (t + 1) - (P t).length) ∧ ∀ k v, (P t)[k]? = some v → sr (off S c (t + 1) - (P t).length + k) = nI v
theorem ip_put (hc : c ≤ 6) {P : Nat → List Nat} {f sr : Nat → Int32} {s x : Nat} (h : IP S c P f sr) (hx : x < 4096) (hl : (P x).length < pre S c x 4096) {post : (Nat → Int32) → (Nat → Int32) → Prop} (hp : ∀ f sr, IP S c (fun t => if t = x then s :: P x else P t) f sr → post f sr) : wp_Loop_putSource (nI s) (nI x) f sr post := by
  have h6 := off_le (S := S) hc (x + 1)
  have h7 := off_s (S := S) (c := c) x
  obtain ⟨a1, a2, a3⟩ := h x (by omega)
  refine q_isState hx (bn_f (by decide) ⟨vp_in_nI (by omega) (by decide), fun y hy => ?_⟩)
  rw [nI_clamp (by omega), a2, nI_sub1 (by omega)] at hy
  subst hy
  refine br_f (nI_pos (by omega)) (br_f (show ¬ nI 24576 ≤ _ from nI_ge (by omega) (by decide)) ⟨vp_in_nI (by omega) (by decide), vp_in_nI (by omega) (by decide), ?_⟩)
  rw [nI_clamp (by omega), nI_clamp (by omega)]
  refine hp _ _ (fun t ht => ?_)
  by_cases e : t = x
  · subst e
    have hQ : (fun t_1 => if t_1 = t then s :: P t else P t_1) t = s :: P t := if_pos rfl
    rw [hQ]
    refine ⟨by rw [List.length_cons]; omega, by rw [pk_us, List.length_cons, Nat.sub_sub], fun k v hk => ?_⟩
    rw [List.length_cons]
    cases k with
    | zero =>
      rw [List.getElem?_cons_zero] at hk
      cases hk
      rw [show off S c (t + 1) - ((P t).length + 1) + 0 = off S c (t + 1) - (P t).length - 1 by omega, pk_us]
    | succ k =>
      rw [List.getElem?_cons_succ] at hk
      rw [pk_un (by omega), ← a3 k v hk]
      refine congrArg sr (by omega)
  · have hQ : (fun t => if t = x then s :: P x else P t) t = P t := if_neg e
    rw [hQ]
    obtain ⟨b1, b2, b3⟩ := h t ht
    refine ⟨b1, by rw [pk_un e]; exact b2, fun k v hk => ?_⟩
    have hk2 : k < (P t).length := (List.getElem?_eq_some_iff.mp hk).1
    have h8 := off_s (S := S) (c := c) t
    rw [pk_un ?_]
    · exact b3 k v hk
    · rcases Nat.lt_or_ge t x with q | q
      · have := sm_mono (f := fun u => pre S c u 4096) (show t + 1 ≤ x from q)
        have : off S c (t + 1) ≤ off S c x := this
        omega
      · have := sm_mono (f := fun u => pre S c u 4096) (show x + 1 ≤ t by omega)
        have : off S c (x + 1) ≤ off S c t := this
        omega
theorem lk105 (hS : SOk S) (hc : c ≤ 6) (hT : Tu S c tu) {s : Nat} (hs : s < 4096) {K : (Nat → Int32) → (Nat → Int32) → Prop} (hK : ∀ f sr, IP S c (fun t => sl S c t (4096 - s)) f sr → K f sr) : ∀ m i f sr, i + m = c → IP S c (fun t => List.replicate (rcn S s t i) s ++ sl S c t (4095 - s)) f sr → wp_Loop_linkSources_L105 (nI s) (nI c) tu K (m + 1) (nI i) f sr
  | 0, i, f, sr, hi, h1 => by
    have : i = c := by omega
    subst this
    refine br_t (nI_le (Nat.le_refl _) (by omega)) (hK f sr ?_)
    rw [show 4096 - s = (4095 - s) + 1 by omega]
    show IP S i (fun t => List.replicate (rcn S (4095 - (4095 - s)) t i) (4095 - (4095 - s)) ++ sl S i t (4095 - s)) f sr
    rw [show 4095 - (4095 - s) = s by omega]
    exact h1
  | m + 1, i, f, sr, hi, h1 => by
    refine br_f (nI_ge (by omega) (by omega)) (q_turn hc hT (by omega) hs ?_)
    rw [nI_1]
    cases e : nx S s i with
    | none =>
      refine q_isState_m1 (bn_t rfl (lk105 hS hc hT hs hK m (i + 1) f sr (by omega) ?_))
      rw [show (fun t => List.replicate (rcn S s t (i + 1)) s ++ sl S c t (4095 - s)) = (fun t => List.replicate (rcn S s t i) s ++ sl S c t (4095 - s)) from funext (fun t => by rw [rcn_ne (by rw [e]; exact fun q => by cases q)])]
      exact h1
    | some x =>
      have hx := nx_lt hS e
      have hl : (List.replicate (rcn S s x i) s ++ sl S c x (4095 - s)).length < pre S c x 4096 := by
        have l1 := sl_len (S := S) (c := c) x (4095 - s) (by omega)
        rw [show 4096 - (4095 - s) = s + 1 by omega] at l1
        have l2 : pre S c x (s + 1) = pre S c x s + rcn S s x c := rfl
        have l3 := rcn_mono (S := S) (s := s) (t := x) (show i + 1 ≤ c by omega)
        rw [rcn_eq e] at l3
        rw [List.length_append, List.length_replicate]; omega
      refine ip_put hc h1 hx hl (fun f2 sr2 h2 => lk105 hS hc hT hs hK m (i + 1) f2 sr2 (by omega) ?_)
      rw [show (fun t => List.replicate (rcn S s t (i + 1)) s ++ sl S c t (4095 - s)) = (fun t => if t = x then s :: (List.replicate (rcn S s x i) s ++ sl S c x (4095 - s)) else List.replicate (rcn S s t i) s ++ sl S c t (4095 - s)) from funext (fun t => by
        by_cases e2 : t = x
        · subst e2; rw [if_pos rfl, rcn_eq e, List.replicate_succ]; rfl
        · rw [if_neg e2, rcn_ne (by rw [e]; exact fun q => e2 (by injection q with q; exact q.symm))])]
      exact h2
theorem lk99 (hS : SOk S) (hc : c ≤ 6) (hT : Tu S c tu) {K : (Nat → Int32) → (Nat → Int32) → Prop} (hK : ∀ f sr, IP S c (fun t => sl S c t 4096) f sr → K f sr) : ∀ m f sr, m ≤ 4096 → IP S c (fun t => sl S c t (4096 - m)) f sr → wp_Loop_linkSources_L99 (nI c) tu K (m + 1) (if m = 0 then -1 else nI (m - 1)) f sr
  | 0, f, sr, hm, h1 => br_t (by decide) (hK f sr h1)
  | m + 1, f, sr, hm, h1 => by
    rw [if_neg (Nat.succ_ne_zero m), show m + 1 - 1 = m from rfl]
    refine br_f (nI_pos (by omega)) ⟨c + 1, ?_⟩
    refine lk105 hS hc hT (s := m) (by omega) (fun f2 sr2 h2 => ?_) c 0 f sr (by omega) ?_
    · have e : nI m + (-1) = if m = 0 then -1 else nI (m - 1) := by
        by_cases q : m = 0
        · subst q; rfl
        · rw [if_neg q, ← nI_sub1 (by omega), Int32.sub_eq_add_neg]
      rw [e]
      exact lk99 hS hc hT hK m f2 sr2 (by omega) h2
    · rw [show 4096 - (m + 1) = 4095 - m by omega] at h1
      exact h1
/-- the sources of each state, in rising order -/
def Sr (S : Nat → Option (List Nat)) (c : Nat) (f sr : Nat → Int32) : Prop := (∀ t, t ≤ 4096 → f t = nI (off S c t)) ∧ ∀ t, t < 4096 → ∀ k v, (sl S c t 4096)[k]? = some v → sr (off S c t + k) = nI v
theorem q_link (hS : SOk S) (hc : c ≤ 6) (hT : Tu S c tu) {f sr : Nat → Int32} {post : (Nat → Int32) → (Nat → Int32) → Prop} (h : ∀ f sr, Sr S c f sr → post f sr) : wp_Loop_linkSources (nI c) tu f sr post := by
  have h0 : ∀ t, t ≤ 4096 → vp_fill f 4097 0 t = nI (pre S c t 0) := fun t ht => by
    show (if t < 4097 then (0 : Int32) else f t) = nI 0
    rw [if_pos (by omega)]; rfl
  refine ⟨4097, lk10 hS hc hT (fun f1 h1 => ?_) 4096 0 _ rfl h0⟩
  have h5 : ∀ t, t ≤ 0 → f1 t = nI (off S c (t + 1)) := fun t ht => by
    have : t = 0 := by omega
    subst this
    rw [h1 0 (by omega)]
    show nI (pre S c 0 4096) = nI (0 + pre S c 0 4096)
    rw [Nat.zero_add]
  refine ⟨4097, lk65 (S := S) (c := c) (fun f2 h2 => ⟨4097, ?_⟩) 4096 0 f1 rfl h5 (fun t _ ht => h1 t ht)⟩
  · refine lk99 hS hc hT (fun f3 sr3 h3 => h f3 sr3 ⟨fun t ht => ?_, fun t ht k v hk => ?_⟩) 4096 f2 sr (Nat.le_refl _) (fun t ht => ⟨Nat.zero_le _, h2 t ht, fun k v hk => by cases hk⟩)
    · obtain ⟨_, a2, _⟩ := h3 t ht
      have l := sl_len (S := S) (c := c) t 4096 (Nat.le_refl _)
      have l0 : pre S c t (4096 - 4096) = 0 := rfl
      have l1 := off_s (S := S) (c := c) t
      rw [a2]; refine congrArg nI ?_
      show off S c (t + 1) - (sl S c t 4096).length = off S c t
      omega
    · obtain ⟨_, _, a3⟩ := h3 t (by omega)
      have l := sl_len (S := S) (c := c) t 4096 (Nat.le_refl _)
      have l0 : pre S c t (4096 - 4096) = 0 := rfl
      have l1 := off_s (S := S) (c := c) t
      rw [← a3 k v hk]; refine congrArg sr3 ?_
      show off S c t + k = off S c (t + 1) - (sl S c t 4096).length + k
      omega
end LK
