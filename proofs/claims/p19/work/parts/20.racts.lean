/-! the reference's acts and pile -/
def AK (x : Nat) : Nat := if x < 16 then 1 else if x < 19 then 2 else if x = 300 then 3 else if x = 268 then 4 else if x = 267 then 5 else if x = 266 then 6 else if x = 301 then 7 else x
def AV (x : Nat) : Nat := if x < 16 then x else if x < 19 then x - 16 else 0
def wA (φ : Nat → Nat) : List Nat → (Nat → Int32) → Nat → (Nat → Int32)
  | [], f, _ => f
  | x :: l, f, a => wA φ l (upd f a (nI (φ x))) (a + 1)
theorem wA_app (φ : Nat → Nat) : ∀ (l1 l2 : List Nat) (f : Nat → Int32) (a : Nat), wA φ (l1 ++ l2) f a = wA φ l2 (wA φ l1 f a) (a + l1.length)
  | [], l2, f, a => rfl
  | x :: l1, l2, f, a => by
    show wA φ (l1 ++ l2) (upd f a (nI (φ x))) (a + 1) = _
    rw [wA_app φ l1 l2, List.length_cons, show a + 1 + l1.length = a + (l1.length + 1) by omega]; rfl
theorem wA_lo (φ : Nat → Nat) : ∀ (o : List Nat) (f : Nat → Int32) (a j : Nat), j < a ∨ a + o.length ≤ j → wA φ o f a j = f j
  | [], f, a, j, h => rfl
  | x :: l, f, a, j, h => by
    rw [List.length_cons] at h
    show wA φ l (upd f a (nI (φ x))) (a + 1) j = f j
    rw [wA_lo φ l _ _ _ (by omega), pk_un (by omega)]
theorem wA_in (φ : Nat → Nat) : ∀ (o : List Nat) (f : Nat → Int32) (a k : Nat), k < o.length → wA φ o f a (a + k) = nI (φ (o.getD k 0))
  | [], f, a, k, h => absurd h (Nat.not_lt_zero k)
  | x :: l, f, a, 0, h => by
    show wA φ l (upd f a (nI (φ x))) (a + 1) a = nI (φ x)
    rw [wA_lo φ l _ _ _ (by omega), pk_us]
  | x :: l, f, a, k + 1, h => by
    show wA φ l (upd f a (nI (φ x))) (a + 1) (a + (k + 1)) = nI (φ (l.getD k 0))
    rw [show a + (k + 1) = a + 1 + k by omega]
    exact wA_in φ l _ (a + 1) k (by simpa using h)
theorem upd_upd (f : Nat → Int32) (k : Nat) (x y : Int32) : upd (upd f k x) k y = upd f k y := by
  funext j
  by_cases h : j = k
  · subst h; rw [pk_us, pk_us]
  · rw [pk_un h, pk_un h, pk_un h]
theorem upd_id (f : Nat → Int32) (k : Nat) {x : Int32} (hx : f k = x) : upd f k x = f := by
  funext j
  by_cases h : j = k
  · subst h; rw [pk_us, hx]
  · rw [pk_un h]
def PO (pile : Nat → Int32) : List Nat → Prop
  | [] => True
  | x :: π => pile π.length = nI x ∧ PO pile π
theorem PO_upd {pile : Nat → Int32} {k : Nat} {v : Int32} : ∀ {π : List Nat}, PO pile π → π.length ≤ k → PO (upd pile k v) π
  | [], _, _ => trivial
  | x :: π, h, hk => by
    rw [List.length_cons] at hk
    exact ⟨by rw [pk_un (by omega)]; exact h.1, PO_upd h.2 (by omega)⟩
theorem PO_push {pile : Nat → Int32} {π : List Nat} (h : PO pile π) (v : Nat) : PO (upd pile π.length (nI v)) (v :: π) := ⟨pk_us, PO_upd h (Nat.le_refl _)⟩
def str (x : Nat) : Nat := if x = 42 then 2 else if x = 43 ∨ x = 45 then 1 else 0
/-- the unary minuses that wait on the pile -/
def pn (fl : Nat) : Nat → List Nat → List Nat → Nat × List Nat × List Nat
  | op, [], o => (op, [], o)
  | op, x :: π, o => if fl < π.length + 1 ∧ x = 1000 then pn fl (op - 1) π (o ++ [300]) else (op, x :: π, o)
/-- the operators of at least that strength that wait on the pile -/
def rl (fl lv : Nat) : List Nat → List Nat → List Nat × List Nat
  | [], o => ([], o)
  | x :: π, o => if fl < π.length + 1 ∧ x ≠ 40 ∧ lv ≤ str x then rl fl lv π (o ++ [x]) else (x :: π, o)
theorem q_str {x : Nat} (hx : x < 2000) {post : Int32 → Prop} (h : post (nI (str x))) : wp_Md_strengthOf (nI x) post := by
  unfold str at h
  have e42 : nI x = 42 ↔ x = 42 := nI_eq (b := 42) (by omega) (by decide)
  have e43 : nI x = 43 ↔ x = 43 := nI_eq (b := 43) (by omega) (by decide)
  have e45 : nI x = 45 ↔ x = 45 := nI_eq (b := 45) (by omega) (by decide)
  refine bn_c (fun a => br_c (fun b => ?_) (fun b => bn_c (fun c => ?_) (fun c => ?_))) (fun a => ?_)
  · rw [if_neg (fun q => a (e42.mpr q)), if_pos (Or.inl (e43.mp b))] at h; exact h
  · rw [if_neg (fun q => a (e42.mpr q)), if_neg (fun q => q.elim (fun q => b (e43.mpr q)) (fun q => c (e45.mpr q)))] at h; exact h
  · rw [if_neg (fun q => a (e42.mpr q)), if_pos (Or.inr (e45.mp c))] at h; exact h
  · rw [if_pos (e42.mp a)] at h; exact h
section RA
variable {b c0 : Nat} {A0 N0 C0 : Nat → Int32}
theorem q_act {x1 x2 : Int32} (x : Nat) (h1 : x1 = nI (AK x)) (h2 : x2 = nI (AV x)) (hb : b < 3) {o : List Nat} (hc : c0 + o.length < 1000) {post : (Nat → Int32) → (Nat → Int32) → (Nat → Int32) → Prop} (h : post (wA AK (o ++ [x]) A0 (1000 * b + c0)) (wA AV (o ++ [x]) N0 (1000 * b + c0)) (upd C0 b (nI (c0 + (o ++ [x]).length)))) : wp_Md_act x1 x2 (nI b) (wA AK o A0 (1000 * b + c0)) (wA AV o N0 (1000 * b + c0)) (upd C0 b (nI (c0 + o.length))) post := by
  subst h1 h2
  have hi : vp_in (nI b) 3 := vp_in_nI hb (by decide)
  refine ⟨hi, ?_⟩
  rw [nI_clamp (by omega), pk_us, show (1000 : Int32) = nI 1000 from rfl, pk_mul, nI_add]
  refine nm_e ?_
  have h3 : vp_in (nI (1000 * b + (c0 + o.length))) 3000 := vp_in_nI (by omega) (by decide)
  refine ⟨hi, hi, h3, h3, ?_⟩
  rw [nI_clamp (by omega), upd_upd, nI_1]
  rw [wA_app, wA_app, List.length_append] at h
  simp only [wA, List.length_cons, List.length_nil] at h
  rw [show c0 + (o.length + (0 + 1)) = c0 + o.length + 1 by omega, show 1000 * b + c0 + o.length = 1000 * b + (c0 + o.length) by omega] at h
  exact h
theorem q_neg_L {fl : Nat} {pile : Nat → Int32} (hb : b < 3) {K : Int32 → Int32 → (Nat → Int32) → (Nat → Int32) → (Nat → Int32) → Prop} : ∀ (π o : List Nat) (op : Nat), PO pile π → π.length ≤ 300 → π.length ≤ op + 300 → (∀ x ∈ π, x < 2000) → c0 + o.length + π.length < 1000 → fl < 1000 → (∀ x ∈ π, x = 1000 → True) → K (nI ((pn fl op π o).1)) (nI (pn fl op π o).2.1.length) (wA AK (pn fl op π o).2.2 A0 (1000 * b + c0)) (wA AV (pn fl op π o).2.2 N0 (1000 * b + c0)) (upd C0 b (nI (c0 + (pn fl op π o).2.2.length))) → (∀ k, k ≤ π.length → op < k → True) → (op ≥ (π.filter (· = 1000)).length) → wp_Md_negatives_L0 (nI fl) (nI b) pile K (π.length + 1) (nI op) (nI π.length) (wA AK o A0 (1000 * b + c0)) (wA AV o N0 (1000 * b + c0)) (upd C0 b (nI (c0 + o.length)))
  | [], o, op, hP, hl, _, hx, hc, hf, _, h, _, _ => br_t (nI_le (Nat.zero_le _) (by omega)) h
  | x :: π, o, op, hP, hl, hl2, hx, hc, hf, _, h, _, hop => by
    have hx1 := hx x (List.mem_cons_self ..)
    rw [List.length_cons] at hl hc hl2
    rw [List.length_cons]
    unfold pn at h
    refine pk_le (π.length + 1) fl (fun a => ?_) (fun a => ?_)
    · rw [if_neg (by omega)] at h; exact h
    · rw [nI_pred]
      refine ⟨vp_in_nI (by omega) (by decide), ?_⟩
      rw [nI_clamp (by omega), hP.1]
      have e : nI x = 1000 ↔ x = 1000 := nI_eq (b := 1000) (by omega) (by decide)
      refine bn_c (fun q => ?_) (fun q => ?_)
      · rw [if_neg (fun r => q (e.mpr r.2))] at h; exact h
      · have hxx := e.mp q
        rw [if_pos ⟨a, hxx⟩] at h
        have hop1 : 1 + (π.filter (· = 1000)).length ≤ op := by
          have : ((x :: π).filter (· = 1000)).length = 1 + (π.filter (· = 1000)).length := by
            rw [List.filter_cons_of_pos (by simp [hxx]), List.length_cons, Nat.add_comm]
          omega
        refine q_act 300 rfl rfl hb (by omega) ?_
        rw [show nI op - 1 = nI (op - 1) from pk_sub (b := 1) (by omega)]
        exact q_neg_L hb π (o ++ [300]) (op - 1) hP.2 (by omega) (by omega) (fun y hy => hx y (List.mem_cons_of_mem _ hy)) (by rw [List.length_append, List.length_cons, List.length_nil]; omega) hf (fun _ _ _ => trivial) h (fun _ _ _ => trivial) (by omega)
theorem q_negatives {fl op : Nat} {π o : List Nat} {pile : Nat → Int32} (hb : b < 3) (hP : PO pile π) (hl : π.length ≤ 300) (hx : ∀ x ∈ π, x < 2000) (hc : c0 + o.length + π.length < 1000) (hf : fl < 1000) (hop : (π.filter (· = 1000)).length ≤ op) {post : Int32 → Int32 → (Nat → Int32) → (Nat → Int32) → (Nat → Int32) → Prop} (h : post (nI ((pn fl op π o).1)) (nI (pn fl op π o).2.1.length) (wA AK (pn fl op π o).2.2 A0 (1000 * b + c0)) (wA AV (pn fl op π o).2.2 N0 (1000 * b + c0)) (upd C0 b (nI (c0 + (pn fl op π o).2.2.length)))) : wp_Md_negatives (nI fl) (nI b) (nI op) (nI π.length) (wA AK o A0 (1000 * b + c0)) (wA AV o N0 (1000 * b + c0)) (upd C0 b (nI (c0 + o.length))) pile post :=
  ⟨π.length + 1, q_neg_L hb π o op hP hl (by omega) hx hc hf (fun _ _ _ => trivial) h (fun _ _ _ => trivial) hop⟩
theorem str_ops {x lv : Nat} (h1 : 1 ≤ lv) (h : lv ≤ str x) : x = 42 ∨ x = 43 ∨ x = 45 := by
  unfold str at h
  split at h
  · omega
  split at h
  · omega
  · omega
theorem q_red_L {fl lv : Nat} {pile : Nat → Int32} (hb : b < 3) (h1 : 1 ≤ lv) (hlv : lv ≤ 2) {K : Int32 → (Nat → Int32) → (Nat → Int32) → (Nat → Int32) → Prop} : ∀ (π o : List Nat), PO pile π → π.length ≤ 300 → (∀ x ∈ π, x < 2000) → c0 + o.length + π.length < 1000 → fl < 1000 → K (nI (rl fl lv π o).1.length) (wA AK (rl fl lv π o).2 A0 (1000 * b + c0)) (wA AV (rl fl lv π o).2 N0 (1000 * b + c0)) (upd C0 b (nI (c0 + (rl fl lv π o).2.length))) → wp_Md_reduceLevel_L0 (nI fl) (nI lv) (nI b) pile K (π.length + 1) (nI π.length) (wA AK o A0 (1000 * b + c0)) (wA AV o N0 (1000 * b + c0)) (upd C0 b (nI (c0 + o.length)))
  | [], o, hP, hl, hx, hc, hf, h => br_t (nI_le (Nat.zero_le _) (by omega)) h
  | x :: π, o, hP, hl, hx, hc, hf, h => by
    have hx1 := hx x (List.mem_cons_self ..)
    rw [List.length_cons] at hl hc
    rw [List.length_cons]
    unfold rl at h
    refine pk_le (π.length + 1) fl (fun a => ?_) (fun a => ?_)
    · rw [if_neg (by omega)] at h; exact h
    · rw [nI_pred]
      have hv : vp_in (nI π.length) 300 := vp_in_nI (by omega) (by decide)
      refine ⟨hv, ?_⟩
      rw [nI_clamp (by omega), hP.1]
      have e : nI x = 40 ↔ x = 40 := nI_eq (b := 40) (by omega) (by decide)
      refine br_c (fun q => ?_) (fun q => ⟨hv, q_str hx1 ?_⟩)
      · rw [if_neg (fun r => r.2.1 (e.mp q))] at h; exact h
      · have hs : str x ≤ 2 := by unfold str; split; · decide
                                  split <;> decide
        refine pk_lt (str x) lv (fun r => ?_) (fun r => ⟨hv, ?_⟩)
        · rw [if_neg (by omega)] at h; exact h
        · have h3 := str_ops h1 r
          rw [if_pos ⟨a, fun z => q (e.mpr z), r⟩] at h
          refine q_act x (congrArg nI (by rcases h3 with rfl | rfl | rfl <;> rfl)) (congrArg nI (by rcases h3 with rfl | rfl | rfl <;> rfl)) hb (by omega) ?_
          exact q_red_L hb h1 hlv π (o ++ [x]) hP.2 (by omega) (fun y hy => hx y (List.mem_cons_of_mem _ hy)) (by rw [List.length_append, List.length_cons, List.length_nil]; omega) hf h
theorem q_reduceLevel {fl lv : Nat} {π o : List Nat} {pile : Nat → Int32} (hb : b < 3) (h1 : 1 ≤ lv) (hlv : lv ≤ 2) (hP : PO pile π) (hl : π.length ≤ 300) (hx : ∀ x ∈ π, x < 2000) (hc : c0 + o.length + π.length < 1000) (hf : fl < 1000) {post : Int32 → (Nat → Int32) → (Nat → Int32) → (Nat → Int32) → Prop} (h : post (nI (rl fl lv π o).1.length) (wA AK (rl fl lv π o).2 A0 (1000 * b + c0)) (wA AV (rl fl lv π o).2 N0 (1000 * b + c0)) (upd C0 b (nI (c0 + (rl fl lv π o).2.length)))) : wp_Md_reduceLevel (nI fl) (nI lv) (nI b) (nI π.length) (wA AK o A0 (1000 * b + c0)) (wA AV o N0 (1000 * b + c0)) (upd C0 b (nI (c0 + o.length))) pile post :=
  ⟨π.length + 1, q_red_L hb h1 hlv π o hP hl hx hc hf h⟩
theorem q_reduceTo {fl : Nat} {π o : List Nat} {pile : Nat → Int32} (hb : b < 3) (hP : PO pile π) (hl : π.length ≤ 300) (hx : ∀ x ∈ π, x < 2000) (hc : c0 + o.length + π.length < 1000) (hf : fl < 1000) {post : Int32 → (Nat → Int32) → (Nat → Int32) → (Nat → Int32) → Prop} (h : post (nI (rl fl 1 π o).1.length) (wA AK (rl fl 1 π o).2 A0 (1000 * b + c0)) (wA AV (rl fl 1 π o).2 N0 (1000 * b + c0)) (upd C0 b (nI (c0 + (rl fl 1 π o).2.length)))) : wp_Md_reduceTo (nI fl) (nI b) (nI π.length) (wA AK o A0 (1000 * b + c0)) (wA AV o N0 (1000 * b + c0)) (upd C0 b (nI (c0 + o.length))) pile post :=
  q_reduceLevel hb (Nat.le_refl 1) (by decide) hP hl hx hc hf h
theorem q_push {π : List Nat} {pile : Nat → Int32} {v : Nat} {x : Int32} (hx : x = nI v) (hl : π.length < 300) {post : Int32 → (Nat → Int32) → Prop} (h : post (nI (v :: π).length) (upd pile π.length (nI v))) : wp_Md_push x (nI π.length) pile post := by
  subst hx
  refine ⟨vp_in_nI hl (by decide), ?_⟩
  rw [nI_clamp (by omega), nI_1]; exact h
end RA
/-! how the waiting ones are taken -/
theorem pn_len {fl : Nat} : ∀ (π o : List Nat) (op : Nat), (π.filter (· = 1000)).length ≤ op → (pn fl op π o).2.1.length + (pn fl op π o).2.2.length = π.length + o.length ∧ (pn fl op π o).1 + π.length = op + (pn fl op π o).2.1.length ∧ (pn fl op π o).2.1.length ≤ π.length ∧ (fl ≤ π.length → fl ≤ (pn fl op π o).2.1.length) ∧ (∀ y ∈ (pn fl op π o).2.1, y ∈ π) ∧ ((pn fl op π o).2.1.filter (· = 1000)).length ≤ (pn fl op π o).1
  | [], o, op, h => ⟨by simp [pn], by simp [pn], by simp [pn], by simp [pn], by simp [pn], by simp [pn]⟩
  | x :: π, o, op, h => by
    unfold pn
    by_cases hc : fl < π.length + 1 ∧ x = 1000
    · rw [if_pos hc]
      have e : ((x :: π).filter (· = 1000)).length = (π.filter (· = 1000)).length + 1 := by rw [List.filter_cons_of_pos (by simp [hc.2]), List.length_cons]
      have ih := pn_len (fl := fl) π (o ++ [300]) (op - 1) (by omega)
      rw [List.length_append, List.length_cons, List.length_nil] at ih
      refine ⟨by rw [List.length_cons]; omega, by rw [List.length_cons]; omega, by rw [List.length_cons]; omega, fun _ => ih.2.2.2.1 (by omega), fun y hy => List.mem_cons_of_mem _ (ih.2.2.2.2.1 y hy), ih.2.2.2.2.2⟩
    · rw [if_neg hc]
      exact ⟨rfl, rfl, Nat.le_refl _, id, fun _ hy => hy, h⟩
theorem rl_len {fl lv : Nat} : ∀ (π o : List Nat), (rl fl lv π o).1.length + (rl fl lv π o).2.length = π.length + o.length ∧ (rl fl lv π o).1.length ≤ π.length ∧ (fl ≤ π.length → fl ≤ (rl fl lv π o).1.length) ∧ (∀ y ∈ (rl fl lv π o).1, y ∈ π) ∧ ((rl fl lv π o).1.filter (· = 1000)).length ≤ (π.filter (· = 1000)).length
  | [], o => ⟨by simp [rl], by simp [rl], by simp [rl], by simp [rl], by simp [rl]⟩
  | x :: π, o => by
    unfold rl
    by_cases hc : fl < π.length + 1 ∧ x ≠ 40 ∧ lv ≤ str x
    · rw [if_pos hc]
      have ih := rl_len (fl := fl) (lv := lv) π (o ++ [x])
      rw [List.length_append, List.length_cons, List.length_nil] at ih
      refine ⟨by rw [List.length_cons]; omega, by rw [List.length_cons]; omega, fun _ => ih.2.2.1 (by omega), fun y hy => List.mem_cons_of_mem _ (ih.2.2.2.1 y hy), Nat.le_trans ih.2.2.2.2 ?_⟩
      by_cases h3 : x = 1000
      · rw [List.filter_cons_of_pos (by simp [h3]), List.length_cons]; omega
      · rw [List.filter_cons_of_neg (by simp [h3])]; exact Nat.le_refl _
    · rw [if_neg hc]
      exact ⟨rfl, Nat.le_refl _, id, fun _ hy => hy, Nat.le_refl _⟩
/-- taking the stronger ones first changes nothing -/
theorem rl_rl {fl lv lv2 : Nat} (h : lv ≤ lv2) : ∀ (π o : List Nat), rl fl lv (rl fl lv2 π o).1 (rl fl lv2 π o).2 = rl fl lv π o
  | [], o => rfl
  | x :: π, o => by
    by_cases hc : fl < π.length + 1 ∧ x ≠ 40 ∧ lv2 ≤ str x
    · have e2 : rl fl lv2 (x :: π) o = rl fl lv2 π (o ++ [x]) := if_pos hc
      have e1 : rl fl lv (x :: π) o = rl fl lv π (o ++ [x]) := if_pos ⟨hc.1, hc.2.1, by omega⟩
      rw [e2, e1]; exact rl_rl h π (o ++ [x])
    · have e2 : rl fl lv2 (x :: π) o = (x :: π, o) := if_neg hc
      rw [e2]
