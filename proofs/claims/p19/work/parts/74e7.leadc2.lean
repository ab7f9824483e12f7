/-! the class's search backwards -/
section LE
variable {S : Nat → Option (List Nat)} {c : Nat}
def dnx (al : Bool) (o tot : Nat) : Prop := (al = false → o < tot) ∧ (al = true → o = 0 ∧ 0 < tot)
def CV (al : Bool) (S : Nat → Option (List Nat)) (c : Nat) (v : Nat → Prop) (W : List Nat) (n : Nat) (ρ : List Nat) (s1 s2 : Nat → Int32) : Prop :=
  (∀ s, s < 4096 → s2 s = nI (unp S c W n s + ρ.count s)) ∧ (∀ s, s < 4096 → dnx al (unp S c W n s + ρ.count s) (unp S c W 0 s) → s1 s = 1) ∧ (∀ s, s < 4096 → s1 s = 1 → LFx al S c v s) ∧ (∀ s, s < 4096 → v s → s1 s = 1)
theorem un_small (hS : SOk S) {W : List Nat} {n s : Nat} : unp S c W n s ≤ c := by
  have h1 : unp S c W 0 s = nt S s c := (nt_sum hS c).symm
  have h2 := un_le (S := S) (c := c) (W := W) (n := n) (s := s)
  have h3 := nt_le (S := S) (t := s) c
  omega
theorem count_c {x s : Nat} {ρ : List Nat} : (x :: ρ).count s = ρ.count s + if x = s then 1 else 0 := by
  rw [List.count_cons]
  by_cases e : x = s
  · rw [if_pos e, if_pos (by simpa using e)]
  · rw [if_neg e, if_neg (by simpa using e)]
variable {al : Bool} {v : Nat → Prop}
theorem msx (hS : SOk S) (hc : c ≤ 6) {W : List Nat} {n x : Nat} {ρ : List Nat} {s1 s2 wi : Nat → Int32} (hw : WM W s1 wi) (hx : x < 4096) (hn : n ≤ W.length) (hρ : ∀ s, (x :: ρ).count s ≤ 6) (h : CV al S c v W n (x :: ρ) s1 s2) {j u : Nat} (hj : j < 6) (he : nxc S c x j = some u) (hu : s1 u = 1) {post : (Nat → Int32) → (Nat → Int32) → Int32 → (Nat → Int32) → Prop} (hp : ∀ W' s1' s2' wi', WM W' s1' wi' → CV al S c v W' n ρ s1' s2' → n ≤ W'.length → (∀ i, i < n → W'.getD i 0 = W.getD i 0) → (∀ t, s1 t = 1 → s1' t = 1) → post s1' s2' (nI W'.length) wi') : wp_Fut_markSource (nI x) (b01 al) s1 s2 (nI W.length) wi post := by
  obtain ⟨c1, c2, c3, c4⟩ := h
  have hin : vp_in (nI x) 4096 := vp_in_nI hx (by decide)
  have hcl : (nI x).toNatClampNeg = x := nI_clamp (by omega)
  have hux : u < 4096 := nxc_lt hS he
  have hsm := un_small (c := c) hS (W := W) (n := n) (s := x)
  have e1 : s2 x - 1 = nI (unp S c W n x + ρ.count x) := by
    rw [c1 x hx, count_c, if_pos rfl, ← Nat.add_assoc, nI_sub1 (by omega), Nat.add_sub_cancel]
  have d1 : ∀ s, s < 4096 → upd s2 x (s2 x - 1) s = nI (unp S c W n s + ρ.count s) := fun s hs => by
    by_cases z : s = x
    · subst z; rw [pk_us, e1]
    · rw [pk_un z, c1 s hs, count_c, if_neg (fun q => z q.symm)]; rfl
  have d2 : ∀ s, s < 4096 → s ≠ x → dnx al (unp S c W n s + ρ.count s) (unp S c W 0 s) → s1 s = 1 := fun s hs z hd => c2 s hs (by rw [count_c, if_neg (fun q => z q.symm)]; exact hd)
  -- x is marked
  have put : s1 x = 0 → LFx al S c v x → W.length < 4096 ∧ ∀ wi', wi' = upd wi W.length (nI x) → post (upd s1 x 1) (upd s2 x (s2 x - 1)) (nI (W.length + 1)) wi' := fun h0 hl => by
    obtain ⟨hlt, hw2⟩ := WM_put hw hx h0
    have len : (W ++ [x]).length = W.length + 1 := by rw [List.length_append]; rfl
    refine ⟨hlt, fun wi' hwi => ?_⟩
    subst hwi
    rw [← len]
    refine hp _ _ _ _ hw2 ⟨fun s hs => ?_, fun s hs hd => ?_, fun s hs q => ?_, fun s hs q => ?_⟩ (by omega) (fun i hi => by rw [getD_app, if_pos (by omega)]) (fun t q => ?_)
    · rw [un_app hn]; exact d1 s hs
    · rw [un_app hn, un_app (Nat.zero_le _)] at hd
      by_cases z : s = x
      · subst z; exact pk_us
      · rw [pk_un z]; exact d2 s hs z hd
    · by_cases z : s = x
      · subst z; exact hl
      · rw [pk_un z] at q; exact c3 s hs q
    · by_cases z : s = x
      · subst z; exact pk_us
      · rw [pk_un z]; exact c4 s hs q
    · by_cases z : t = x
      · subst z; exact pk_us
      · rw [pk_un z]; exact q
  -- x stays as it is
  have stay : (dnx al (unp S c W n x + ρ.count x) (unp S c W 0 x) → s1 x = 1) → post s1 (upd s2 x (s2 x - 1)) (nI W.length) wi := fun hd => hp W s1 _ wi hw ⟨d1, fun s hs q => by
    by_cases z : s = x
    · subst z; exact hd q
    · exact d2 s hs z q, c3, c4⟩ hn (fun _ _ => rfl) (fun _ q => q)
  refine q_isState hx (bn_f (by decide) ⟨hin, hin, hin, ?_⟩)
  rw [hcl]
  refine bn_c (fun q => stay (fun _ => (hw.2.2.1 x hx).resolve_left q)) (fun q => ?_)
  cases ea : al with
  | false =>
    subst ea
    obtain ⟨hlt, hput⟩ := put q (LF_step hx ⟨⟨j, u, hj, he, c3 u hux hu⟩, fun z => by cases z⟩)
    exact br_t rfl ⟨hin, q_put_x hlt (hput _ rfl)⟩
  | true =>
    subst ea
    refine br_f (by decide) ⟨hin, ?_⟩
    rw [pk_us, e1]
    have hcount := hρ x
    rw [count_c, if_pos rfl] at hcount
    refine bn_c (fun z => ?_) (fun z => ⟨hin, ?_⟩)
    · rw [← e1]
      exact stay (fun hd => absurd (by rw [(hd.2 rfl).1]; rfl) z)
    · have z0 : unp S c W n x + ρ.count x = 0 := (nI_eq (b := 0) (by omega) (by decide)).mp z
      have hun : unp S c W n x = 0 := by omega
      obtain ⟨hlt, hput⟩ := put q (LF_step hx ⟨⟨j, u, hj, he, c3 u hux hu⟩, fun _ i t hi e => by
        have ht := nxc_lt hS e
        have hr : 0 < rcn S x t c := (rcn_nxc hc).mpr ⟨i, hi, e⟩
        have hg := sm_get (f := fun u => if pin W n u then 0 else rcn S x u c) ht
        have hz : (if pin W n t then 0 else rcn S x t c) = 0 := by
          have : sm (fun u => if pin W n u then 0 else rcn S x u c) 4096 = 0 := hun
          have hg : (if pin W n t then 0 else rcn S x t c) ≤ sm (fun u => if pin W n u then 0 else rcn S x u c) 4096 := hg
          omega
        cases ep : pin W n t with
        | false => rw [ep] at hz; exact absurd hz (by show ¬ rcn S x t c = 0; omega)
        | true =>
          obtain ⟨k, hk, ek⟩ := (pin_iff n).mp ep
          exact c3 t ht ((hw.2.2.2.1 t ht).mpr (mem_getD.mpr ⟨k, by omega, ek⟩))⟩)
      rw [← e1]
      exact q_put_x hlt (hput _ rfl)
theorem rcn_le {s t : Nat} : ∀ i, rcn S s t i ≤ i
  | 0 => Nat.le_refl 0
  | i + 1 => by
    have := rcn_le (s := s) (t := t) i
    show rcn S s t i + (if nx S s i = some t then 1 else 0) ≤ i + 1
    split <;> omega
theorem drop_count {x : Nat} : ∀ (l : List Nat) (k : Nat), (l.drop k).count x ≤ l.count x
  | [], k => by rw [List.drop_nil]; exact Nat.le_refl _
  | y :: l, 0 => Nat.le_refl _
  | y :: l, k + 1 => by
    rw [List.drop_succ_cons]
    exact Nat.le_trans (drop_count l k) List.count_le_count_cons
theorem cl100x (hS : SOk S) (hc : c ≤ 6) {f sr : Nat → Int32} (hR : Sr S c f sr) {t n0 : Nat} (ht : t < 4096) {x2 : Int32} {K : (Nat → Int32) → (Nat → Int32) → Int32 → (Nat → Int32) → Prop} (h : ∀ W s1 s2 wi, WM W s1 wi → CV al S c v W (n0 + 1) [] s1 s2 → n0 + 1 ≤ W.length → K s1 s2 (nI W.length) wi) : ∀ m k W s1 s2 wi, k + m = (sl S c t 4096).length → WM W s1 wi → CV al S c v W (n0 + 1) ((sl S c t 4096).drop k) s1 s2 → n0 + 1 ≤ W.length → s1 t = 1 → wp_Fut_countLeading_L100 (b01 al) x2 (nI (off S c (t + 1)) - 1) sr K (m + 1) (nI (off S c t + k)) s1 s2 (nI W.length) wi := by
  have hoff := off_sl (S := S) (c := c) t
  have hle := off_le (S := S) hc (t + 1)
  intro m
  induction m with
  | zero =>
    intro k W s1 s2 wi hk hw hv hn h1
    have hk : k = (sl S c t 4096).length := by omega
    rw [hk, List.drop_length] at hv
    exact br_t ((sub1_lt (by omega) (by omega)).mpr (by omega)) (h W s1 s2 wi hw hv hn)
  | succ m ih =>
    intro k W s1 s2 wi hk hw hv hn h1
    have hkl : k < (sl S c t 4096).length := by omega
    refine br_f (fun q => by have := (sub1_lt (by omega) (by omega)).mp q; omega) ?_
    refine br_f (nI_pos (by omega)) (br_f (show ¬ nI 24576 ≤ nI (off S c t + k) from nI_ge (by omega) (by decide)) ⟨vp_in_nI (by omega) (by decide), ?_⟩)
    rw [nI_clamp (by omega), nI_1]
    have hget : (sl S c t 4096)[k]? = some ((sl S c t 4096)[k]) := List.getElem?_eq_getElem hkl
    rw [hR.2 t ht k _ hget]
    have hmem : (sl S c t 4096)[k] ∈ sl S c t 4096 := List.getElem_mem hkl
    have hx := sl_lt 4096 hmem
    have hcnt : 0 < rcn S ((sl S c t 4096)[k]) t c := by
      have := sl_count (S := S) (c := c) (t := t) hx 4096 (Nat.le_refl _)
      rw [if_pos (by omega)] at this
      rw [← this]
      exact List.count_pos_iff.mpr hmem
    obtain ⟨j, hj, he⟩ := (rcn_nxc hc).mp hcnt
    have hd := List.drop_eq_getElem_cons hkl
    rw [hd] at hv
    refine msx hS hc hw hx hn (fun s => ?_) hv hj he h1 (fun W' s1' s2' wi' hw' hv' hn' _ hm => ih (k + 1) W' s1' s2' wi' (by omega) hw' hv' hn' (hm t h1))
    rw [← hd]
    refine Nat.le_trans (drop_count _ k) ?_
    by_cases hs : s < 4096
    · rw [sl_count hs 4096 (Nat.le_refl _), if_pos (by omega)]
      exact Nat.le_trans (rcn_le c) hc
    · rw [List.count_eq_zero_of_not_mem (fun q => hs (sl_lt 4096 q))]; omega
theorem cl53x (hS : SOk S) (hc : c ≤ 6) {f sr : Nat → Int32} (hR : Sr S c f sr) {K : (Nat → Int32) → (Nat → Int32) → Int32 → (Nat → Int32) → Prop} (h : ∀ W s1 s2 wi, WM W s1 wi → CV al S c v W W.length [] s1 s2 → K s1 s2 (nI W.length) wi) : ∀ m n W s1 s2 wi, n + m = 4096 → WM W s1 wi → CV al S c v W n [] s1 s2 → n ≤ W.length → wp_Fut_countLeading_L53 (b01 al) f sr K (m + 1) (nI n) s1 s2 (nI W.length) wi := by
  intro m
  induction m with
  | zero =>
    intro n W s1 s2 wi hn hw hv hl
    have hn : n = 4096 := by omega
    subst hn
    have hlen : W.length ≤ 4096 := by rw [hw.2.2.2.2.2]; exact cw_le _ _
    have e : W.length = 4096 := by omega
    rw [← e] at hv
    exact br_t (show nI 4096 ≤ nI 4096 from nI_le (Nat.le_refl _) (by decide)) (h W s1 s2 wi hw hv)
  | succ m ih =>
    intro n W s1 s2 wi hn hw hv hl
    have hlen : W.length ≤ 4096 := by rw [hw.2.2.2.2.2]; exact cw_le _ _
    refine br_f (show ¬ nI 4096 ≤ nI n from nI_ge (by omega) (by decide)) (br_c (fun q => ?_) (fun q => ?_))
    · have : W.length ≤ n := (nI_leI (by omega) (by omega)).mp q
      have e : n = W.length := by omega
      rw [e] at hv
      exact h W s1 s2 wi hw hv
    · have hlt : n < W.length := Nat.lt_of_not_le (fun z => q (nI_le z (by omega)))
      have hmem := getD_mem hlt
      have ht := hw.2.2.2.2.1 _ hmem
      have hm1 := (hw.2.2.2.1 _ ht).mpr hmem
      refine q_item hw.1 hlt hlen ?_
      rw [nI_1 n]
      generalize ht0 : W.getD n 0 = t at *
      have hcl : (nI t).toNatClampNeg = t := nI_clamp (by omega)
      refine q_isState ht (br_f (by decide) ⟨?_, q_isState ht (br_f (by decide) ⟨vp_in_nI (by omega) (by decide), ?_⟩)⟩)
      · rw [nI_1]; exact vp_in_nI (by omega) (by decide)
      rw [hcl, nI_1 t, nI_clamp (show t + 1 < 2 ^ 31 by omega), hR.1 t (by omega), hR.1 (t + 1) (by omega)]
      have hpin : pin W n t = false := by
        cases e : pin W n t with
        | false => rfl
        | true =>
          obtain ⟨k, hk, ek⟩ := (pin_iff n).mp e
          exact absurd (ek.trans ht0.symm) (hw.2.1 k n hk hlt)
      have hun : ∀ s, s < 4096 → unp S c W n s + ([] : List Nat).count s = unp S c W (n + 1) s + (sl S c t 4096).count s := fun s hs => by
        rw [sl_count hs 4096 (Nat.le_refl _), if_pos (by omega)]
        have := un_s (S := S) (c := c) (W := W) (n := n) (s := s) (by rw [ht0]; exact ht) (by rw [ht0]; exact hpin)
        rw [ht0] at this
        rw [List.count_nil, Nat.add_zero]
        exact this
      refine ⟨(sl S c t 4096).length + 1, cl100x hS hc hR ht (n0 := n) (fun W' s1' s2' wi' hw' hv' hn' => ih (n + 1) W' s1' s2' wi' (by omega) hw' hv' hn') _ 0 W s1 s2 wi (by omega) hw ?_ hlt hm1⟩
      rw [List.drop_zero]
      obtain ⟨c1, c2, c3, c4⟩ := hv
      exact ⟨fun s hs => by rw [← hun s hs]; exact c1 s hs, fun s hs hd => c2 s hs (by rw [hun s hs]; exact hd), c3, c4⟩
theorem c_leading (hS : SOk S) (hc : c ≤ 6) {tu f sr s1 s2 wi : Nat → Int32} {ws : Int32} (hT : Tu S c tu) (hR : Sr S c f sr) (hb : Bz s1) {post : Int32 → (Nat → Int32) → (Nat → Int32) → Int32 → (Nat → Int32) → Prop} (h : ∀ s1' s2' ws wi, Bz s1' → (∀ t, t < 4096 → (s1' t ≠ 0 ↔ LFx al S c (fun t => s1 t ≠ 0) t)) → post (nI (cw (fun t => decide (s1' t = 1)) 4096)) s1' s2' ws wi) : wp_Fut_countLeading (b01 al) (nI c) tu f sr s1 s2 ws wi post := by
  refine q_countTurns hS hc hT (fun s2 hs2 => ?_)
  suffices hI : WM [] (fun t => if t < 0 then s1 t else 0) wi by
    refine ⟨4097, cl20x hb (fun W wi hw => ?_) 4096 0 [] wi rfl hI⟩
    refine ⟨4097, ?_⟩
    refine cl53x (al := al) (v := fun t => s1 t ≠ 0) hS hc hR (fun W s1' s2' wi hw hv => ?_) 4096 0 W s1 s2 wi rfl hw ⟨fun s hs => ?_, fun s hs hd => ?_, fun s hs q => LF_in hs (by rw [q]; decide), fun s hs q => (hb s hs).resolve_left q⟩ (Nat.zero_le _)
    · obtain ⟨c1, c2, c3, c4⟩ := hv
      have nz : ∀ t, t < 4096 → (s1' t ≠ 0 ↔ s1' t = 1) := fun t ht => ⟨fun q => (hw.2.2.1 t ht).resolve_left q, fun q => by rw [q]; decide⟩
      have key := h s1' s2' (nI W.length) wi hw.2.2.1 (fun t ht => LF_iff (fun t ht q => c3 t ht ((nz t ht).mp q)) (fun t ht q => (nz t ht).mpr (c4 t ht q)) (fun s hs hx => (nz s hs).mpr (c2 s hs ?_)) ht)
      · rw [← hw.2.2.2.2.2] at key
        exact key
      · show dnx al (unp S c W W.length s + 0) (unp S c W 0 s)
        obtain ⟨⟨i, t, hi, e, hx1⟩, hx2⟩ := hx
        have ht := nxc_lt hS e
        have hr : 0 < rcn S s t c := (rcn_nxc hc).mpr ⟨i, hi, e⟩
        have inW : ∀ t, t < 4096 → s1' t ≠ 0 → pin W W.length t = true := fun t ht q => (pin_iff _).mpr (mem_getD.mp ((hw.2.2.2.1 t ht).mp ((nz t ht).mp q)))
        have tot : 0 < unp S c W 0 s := by
          have hg := sm_get (f := fun u => if pin W 0 u then 0 else rcn S s u c) ht
          have hg : rcn S s t c ≤ unp S c W 0 s := hg
          omega
        refine ⟨fun _ => ?_, fun ha => ⟨?_, tot⟩⟩
        · have e1 : sm (fun u => rcn S s u c) 4096 = sm (fun u => if u = t then 0 else rcn S s u c) 4096 + rcn S s t c := sm_dropk (t := t) (by show rcn S s t c = (if t = t then 0 else rcn S s t c) + rcn S s t c; rw [if_pos rfl]; omega) (fun u hu => by show rcn S s u c = (if u = t then 0 else rcn S s u c); rw [if_neg hu]) 4096 ht
          have e2 : unp S c W W.length s ≤ sm (fun u => if u = t then 0 else rcn S s u c) 4096 := sm_le 4096 (fun u _ => by
            show (if pin W W.length u then 0 else rcn S s u c) ≤ (if u = t then 0 else rcn S s u c)
            by_cases z : u = t
            · subst z; rw [inW u ht hx1]; exact Nat.zero_le _
            · rw [if_neg z]; split <;> omega)
          have e3 : unp S c W 0 s = sm (fun u => rcn S s u c) 4096 := rfl
          omega
        · have : unp S c W W.length s = sm (fun _ => 0) 4096 := sm_ext 4096 (fun u hu => by
            show (if pin W W.length u then 0 else rcn S s u c) = 0
            by_cases z : 0 < rcn S s u c
            · obtain ⟨k, hk, ek⟩ := (rcn_nxc hc).mp z
              rw [inW u hu (hx2 ha k u hk ek)]; rfl
            · split <;> omega)
          rw [this, sm_0]
    · rw [hs2 s hs, nt_sum hS c, List.count_nil, Nat.add_zero]
      exact congrArg nI (sm_ext 4096 (fun u _ => rfl))
    · exfalso
      have hd : dnx al (unp S c W 0 s + 0) (unp S c W 0 s) := hd
      cases al with
      | false => have := hd.1 rfl; omega
      | true => have := hd.2 rfl; omega
  refine ⟨fun k hk => absurd hk (Nat.not_lt_zero k), fun i j hij hj => absurd hj (Nat.not_lt_zero j), fun t ht => Or.inl (if_neg (Nat.not_lt_zero t)), fun t ht => ⟨fun q => ?_, fun q => by cases q⟩, fun t q => (by cases q), ?_⟩
  · rw [show (fun t => if t < 0 then s1 t else 0) t = 0 from if_neg (Nat.not_lt_zero t)] at q; cases q
  · have : cw (fun t => decide ((fun t => if t < 0 then s1 t else 0) t = 1)) 4096 = sm (fun _ => 0) 4096 := sm_ext 4096 (fun t _ => by
      show (if decide ((if t < 0 then s1 t else 0) = 1) then 1 else 0) = 0
      rw [if_neg (Nat.not_lt_zero t)]; rfl)
    rw [this, sm_0]; rfl
end LE
