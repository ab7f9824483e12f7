/-! the reference's readChoice -/
theorem rk_268 (f : Nat → Int32) (n j : Nat) : rK f n j ≤ 268 := by
  show kd sma (bt f n) n j ≤ 268
  by_cases hp : pl sma (bt f n) n j < n
  · rw [(kd_in hp).1]
    have hc := bt_256 (f := f) hp
    unfold tk
    split
    · unfold tkW
      split
      · show (259 : Nat) ≤ 268; decide
      · show wkind _ ≤ 268
        rcases wk_cases (wl (bt f n) (pl sma (bt f n) n j) (fe sma (bt f n) (pl sma (bt f n) n j))) with ⟨k, hk, _, hw⟩ | ⟨_, hw⟩
        · rw [hw]; omega
        · rw [hw]; decide
    · split
      · unfold tkN; split
        · show (257 : Nat) ≤ 268; decide
        · show (258 : Nat) ≤ 268; decide
      · split
        · show bt f n (pl sma (bt f n) n j) ≤ 268; omega
        · show (257 : Nat) ≤ 268; decide
  · unfold kd; rw [if_neg hp]; decide
/-- a section's steps, and their end, stand at p -/
def At (O : List Nat) (p : Nat) (o : List Nat) : Prop := p + o.length < O.length ∧ ∀ k, k ≤ o.length → O.getD (p + k) 0 = (o ++ [301]).getD k 0
theorem At_app {O X : List Nat} {p : Nat} {o : List Nat} (h : At O p o) : At (O ++ X) p o := by
  refine ⟨by rw [List.length_append]; have := h.1; omega, fun k hk => ?_⟩
  rw [← h.2 k hk]
  have := h.1
  simp only [List.getD]
  rw [List.getElem?_append_left (by omega)]
theorem At_new (O o : List Nat) : At (O ++ o ++ [301]) O.length o := by
  refine ⟨by rw [List.length_append, List.length_append, List.length_cons, List.length_nil]; omega, fun k hk => ?_⟩
  rw [List.append_assoc]
  simp only [List.getD]
  rw [List.getElem?_append_right (by omega), Nat.add_sub_cancel_left]
section RCh
variable {f : Nat → Int32} {n b : Nat} {A0 N0 C0 : Nat → Int32}
theorem r_take (hn : n ≤ 1200) {j : Nat} {a t p nu sg fp : Int32} (hr : RT f n j a t p nu sg) {x : Int32} (k : Nat) (hx : x = nI k) (hk : k < 256) {post : Int32 → Int32 → Int32 → Int32 → Int32 → Int32 → Int32 → Prop} (h1 : rK f n j = k → ∀ a t p nu sg, RT f n (j + 1) a t p nu sg → post a t p nu sg 0 fp) (h0 : rK f n j ≠ k → post a t p nu sg 1 p) : wp_Md_take x (nI n) a t p nu sg 0 fp f post :=
  rt_isSign hr k hx hk (fun q => bn_f (by decide) (bn_t rfl (rt_next hn hr (fun a' t' p' nu' sg' hr' => h1 q a' t' p' nu' sg' hr')))) (fun q => bn_t rfl (q_misp (bn_f (by decide) (h0 q))))
theorem r_takeB {j : Nat} {a t p nu sg fp : Int32} (hr : RT f n j a t p nu sg) {x : Int32} (k : Nat) (hx : x = nI k) (hk : k < 256) {post : Int32 → Int32 → Int32 → Int32 → Int32 → Int32 → Int32 → Prop} (h : post a t p nu sg 1 fp) : wp_Md_take x (nI n) a t p nu sg 1 fp f post :=
  rt_isSign hr k hx hk (fun q => bn_f (by decide) (bn_f (by decide) h)) (fun q => bn_t rfl (q_misp1 (bn_f (by decide) h)))
theorem r_takeWord (hn : n ≤ 1200) {j : Nat} {a t p nu sg fp : Int32} (hr : RT f n j a t p nu sg) {x : Int32} (w : Nat) (hx : x = nI w) (hw : w < 9) {post : Int32 → Int32 → Int32 → Int32 → Int32 → Int32 → Int32 → Prop} (h1 : rK f n j = 260 + w → ∀ a t p nu sg, RT f n (j + 1) a t p nu sg → post a t p nu sg 0 fp) (h0 : rK f n j ≠ 260 + w → post a t p nu sg 1 p) : wp_Md_takeWord x (nI n) a t p nu sg 0 fp f post :=
  rt_isWord hr w hx hw (fun q => bn_f (by decide) (bn_t rfl (rt_next hn hr (fun a' t' p' nu' sg' hr' => h1 q a' t' p' nu' sg' hr')))) (fun q => bn_t rfl (q_misp (bn_f (by decide) (h0 q))))
theorem r_takeWordB {j : Nat} {a t p nu sg fp : Int32} (hr : RT f n j a t p nu sg) {x : Int32} (w : Nat) (hx : x = nI w) (hw : w < 9) {post : Int32 → Int32 → Int32 → Int32 → Int32 → Int32 → Int32 → Prop} (h : post a t p nu sg 1 fp) : wp_Md_takeWord x (nI n) a t p nu sg 1 fp f post :=
  rt_isWord hr w hx hw (fun q => bn_f (by decide) (bn_f (by decide) h)) (fun q => bn_t rfl (q_misp1 (bn_f (by decide) h)))
abbrev K5p := Int32 → Int32 → Int32 → Int32 → Int32 → Int32 → Int32 → Int32 → Int32 → Int32 → (Nat → Int32) → (Nat → Int32) → (Nat → Int32) → (Nat → Int32) → (Nat → Int32) → Prop
def BEok (l c b : Nat) (S : Nat → Option (List Nat)) (O : List Nat) (be : Nat → Int32) : Prop := ∀ v, v < 3 → (S (21 + c * 3 + v) = none → be (3 * (6 * l + c) + v) = -1) ∧ (∀ o, S (21 + c * 3 + v) = some o → ∃ p, be (3 * (6 * l + c) + v) = nI (1000 * b + p) ∧ At O p o)
def FBe (l c : Nat) (be0 be : Nat → Int32) : Prop := ∀ i, ¬ (3 * (6 * l + c) ≤ i ∧ i < 3 * (6 * l + c) + 3) → be i = be0 i
def ZL (f : Nat → Int32) (n b : Nat) (A0 N0 C0 : Nat → Int32) (l c : Nat) (be0 : Nat → Int32) (K5 : K5p) (j u : Nat) (S : Nat → Option (List Nat)) (O : List Nat) : Prop := ∃ N, ∀ a t p nu sg fp op pl pile be, RT f n j a t p nu sg → BEok l c b S O be → FBe l c be0 be → wp_Md_readChoice_L73 (nI l) (nI (6 * l + c)) (nI n) (nI b) f K5 (N + 1) 1 a t p nu sg 0 fp (nI u) op pl (wA AK O A0 (1000 * b)) (wA AV O N0 (1000 * b)) (upd C0 b (nI (O).length)) pile be
def WZ (f : Nat → Int32) (n b : Nat) (A0 N0 C0 : Nat → Int32) (l c : Nat) (be0 : Nat → Int32) (K5 : K5p) : Prop := ∀ j u O op pl a t p nu sg fp pile be, RT f n j a t p nu sg → O.length ≤ 995 → FBe l c be0 be → K5 a t p nu sg 1 fp (nI u) op pl (wA AK O A0 (1000 * b)) (wA AV O N0 (1000 * b)) (upd C0 b (nI (O).length)) pile be
theorem z_bad {N : Nat} {x1 x2 x3 sz bk a t p nu sg fp u op q : Int32} {ac nm ct pile be : Nat → Int32} {K5 : K5p} (h : K5 a t p nu sg 1 fp u op q ac nm ct pile be) : wp_Md_readChoice_L73 x1 x2 sz bk f K5 (N + 1) x3 a t p nu sg 1 fp u op q ac nm ct pile be := br_c (fun _ => h) (fun _ => bn_f (by decide) h)
theorem neg19 : ∀ k, k < 19 → (nI k - 10) - 9 < 0 := by decide +kernel
theorem z_turn (hn : n ≤ 1200) (hb : b < 3) {l c : Nat} (hl : l < 2) (hc : c < 6) {be0 : Nat → Int32} {K5 : K5p} {σ : LoS} (hw : asg (rK f n) (rV f n) c σ = none → WZ f n b A0 N0 C0 l c be0 K5) {O : List Nat} (hO : O.length ≤ 2 * σ.2.1 + rP f n σ.1 / 3 + 1) (hu : σ.2.1 ≤ 100) (h : ∀ i u o, asg (rK f n) (rV f n) c σ = some (i, u, upS σ.2.2 (21 + c * 3 + rV f n σ.1) o) → rK f n σ.1 = 259 → σ.1 < i → u ≤ 100 → (O ++ o ++ [301]).length ≤ 2 * u + rP f n i / 3 + 1 → (rK f n i = 44 → ZL f n b A0 N0 C0 l c be0 K5 (i + 1) u (upS σ.2.2 (21 + c * 3 + rV f n σ.1) o) (O ++ o ++ [301])) ∧ (rK f n i ≠ 44 → ∀ a t p nu sg fp op pl pile be, RT f n i a t p nu sg → BEok l c b (upS σ.2.2 (21 + c * 3 + rV f n σ.1) o) (O ++ o ++ [301]) be → FBe l c be0 be → K5 a t p nu sg 0 fp (nI u) op pl (wA AK (O ++ o ++ [301]) A0 (1000 * b)) (wA AV (O ++ o ++ [301]) N0 (1000 * b)) (upd C0 b (nI ((O ++ o ++ [301])).length)) pile be)) : ZL f n b A0 N0 C0 l c be0 K5 σ.1 σ.2.1 σ.2.2 O := by
  have hrp := rp_le f hn σ.1
  have main : ∀ N, (∀ i u o, asg (rK f n) (rV f n) c σ = some (i, u, upS σ.2.2 (21 + c * 3 + rV f n σ.1) o) → rK f n σ.1 = 259 → σ.1 < i → u ≤ 100 → (O ++ o ++ [301]).length ≤ 2 * u + rP f n i / 3 + 1 → (rK f n i = 44 → ∀ a t p nu sg fp op pl pile be, RT f n (i + 1) a t p nu sg → BEok l c b (upS σ.2.2 (21 + c * 3 + rV f n σ.1) o) (O ++ o ++ [301]) be → FBe l c be0 be → wp_Md_readChoice_L73 (nI l) (nI (6 * l + c)) (nI n) (nI b) f K5 (N + 1) 1 a t p nu sg 0 fp (nI u) op pl (wA AK (O ++ o ++ [301]) A0 (1000 * b)) (wA AV (O ++ o ++ [301]) N0 (1000 * b)) (upd C0 b (nI ((O ++ o ++ [301])).length)) pile be) ∧ (rK f n i ≠ 44 → ∀ a t p nu sg fp op pl pile be, RT f n i a t p nu sg → BEok l c b (upS σ.2.2 (21 + c * 3 + rV f n σ.1) o) (O ++ o ++ [301]) be → FBe l c be0 be → K5 a t p nu sg 0 fp (nI u) op pl (wA AK (O ++ o ++ [301]) A0 (1000 * b)) (wA AV (O ++ o ++ [301]) N0 (1000 * b)) (upd C0 b (nI ((O ++ o ++ [301])).length)) pile be)) → ZL f n b A0 N0 C0 l c be0 K5 σ.1 σ.2.1 σ.2.2 O := by
    intro N hN
    refine ⟨N + 1, fun a t p nu sg fp op pl pile be hr hBE hFB => ?_⟩
    have htok := rt_is3 hr
    have hf := rk_facts f n σ.1
    have h268 := rk_268 f n σ.1
    have bad : asg (rK f n) (rV f n) c σ = none → ∀ fp' x3, wp_Md_readChoice_L73 (nI l) (nI (6 * l + c)) (nI n) (nI b) f K5 (N + 1) x3 a t p nu sg 1 fp' (nI σ.2.1) op pl (wA AK O A0 (1000 * b)) (wA AV O N0 (1000 * b)) (upd C0 b (nI (O).length)) pile be := fun e0 fp' x3 => z_bad (hw e0 σ.1 σ.2.1 O op pl a t p nu sg fp' pile be hr (by omega) hFB)
    refine br_f (by decide) (bn_t rfl ?_)
    intro x4 hx4
    by_cases h9 : rK f n σ.1 = 259
    · have hv := hf.2.2.1 h9
      have hx : x4 = nI (rV f n σ.1) := by
        rw [hx4, htok.2.2.2.2.2, h9, show tc 259 (rV f n σ.1) = 19 + rV f n σ.1 from rfl, show (10 : Int32) = nI 10 from rfl, show (9 : Int32) = nI 9 from rfl, pk_sub (by omega), pk_sub (by omega)]
        exact congrArg nI (by omega)
      subst hx
      have eix : (3 * nI (6 * l + c)) + nI (rV f n σ.1) = nI (3 * (6 * l + c) + rV f n σ.1) := by rw [show (3 : Int32) = nI 3 from rfl, pk_mul, nI_add]
      have hin : vp_in (nI (3 * (6 * l + c) + rV f n σ.1)) 36 := vp_in_nI (by omega) (by decide)
      refine br_f (nI_pos (by omega)) (br_f (show ¬ nI 2 < nI (rV f n σ.1) from nI_nlt (by omega) (by decide)) ?_)
      rw [eix]
      refine ⟨hin, ?_⟩
      rw [nI_clamp (by omega)]
      cases hS : σ.2.2 (21 + c * 3 + rV f n σ.1) with
      | some o =>
        obtain ⟨p0, hp0, hat⟩ := (hBE _ hv).2 o hS
        have := hat.1
        rw [hp0]
        exact br_f (nI_pos (by omega)) (q_misp (bad (by unfold asg; rw [if_neg (fun z => by rw [hS] at z; cases z.2.1)]) _ _))
      | none =>
        rw [(hBE _ hv).1 hS]
        refine br_t (by decide) (rt_next hn hr (fun a1 t1 p1 nu1 sg1 hr1 => ?_))
        refine r_take hn hr1 61 rfl (by decide) (fun k2 a2 t2 p2 nu2 sg2 hr2 => ?_) (fun k2 => ?_)
        · refine bn_t rfl ?_
          have hpm := rp_mono (f := f) hn σ.1
          have hpm2 := rp_mono (f := f) hn (σ.1 + 1)
          refine r_plain hn hb (by omega) hu ?_ ?_ hr2
          · intro e0 j u O2 op pl a t p nu sg fp pile hr hO2
            have hw := hw (by
              unfold asg
              rw [if_pos ⟨h9, hS, k2⟩]
              unfold sct
              show (match pE (rK f n) (rV f n) 8 (σ.1 + 1 + 1) σ.2.1 with | none => none | some (i, u, o) => some (i, u, upS σ.2.2 (21 + c * 3 + rV f n σ.1) o)) = _
              rw [e0])
            have bad2 : ∀ x3, wp_Md_readChoice_L73 (nI l) (nI (6 * l + c)) (nI n) (nI b) f K5 (N + 1) x3 a t p nu sg 1 fp (nI u) op pl (wA AK O2 A0 (1000 * b)) (wA AV O2 N0 (1000 * b)) (upd C0 b (nI (O2).length)) pile (upd be (3 * (6 * l + c) + rV f n σ.1) (nI (1000 * b + O.length))) := fun x3 => z_bad (hw j u O2 op pl a t p nu sg fp pile _ hr hO2 (fun i hi => by rw [pk_un (by omega)]; exact hFB i hi))
            exact ⟨hin, rt_isSign hr 44 rfl (by decide) (fun _ => br_f (by decide) (bn_f (by decide) (bad2 _))) (fun _ => br_t rfl (bad2 _))⟩
          · intro i u o e hu' hi' hu1 hbud op pl a t p nu sg fp pile hr
            have easg : asg (rK f n) (rV f n) c σ = some (i, u, upS σ.2.2 (21 + c * 3 + rV f n σ.1) o) := by
              unfold asg
              rw [if_pos ⟨h9, hS, k2⟩]
              unfold sct
              show (match pE (rK f n) (rV f n) 8 (σ.1 + 1 + 1) σ.2.1 with | none => none | some (i, u, o) => some (i, u, upS σ.2.2 (21 + c * 3 + rV f n σ.1) o)) = _
              rw [e]
            have hN2 := hN i u o easg h9 (by omega) hu1 hbud
            have hBE2 : BEok l c b (upS σ.2.2 (21 + c * 3 + rV f n σ.1) o) (O ++ o ++ [301]) (upd be (3 * (6 * l + c) + rV f n σ.1) (nI (1000 * b + O.length))) := by
              intro v hv3
              unfold upS
              by_cases hvv : v = rV f n σ.1
              · rw [hvv, if_pos rfl, pk_us]
                refine ⟨fun q => (by cases q), fun o' q => ?_⟩
                cases q
                exact ⟨O.length, rfl, At_new O o⟩
              · rw [if_neg (by omega), pk_un (by omega)]
                refine ⟨(hBE v hv3).1, fun o' q => ?_⟩
                obtain ⟨p0, hp0, hat⟩ := (hBE v hv3).2 o' q
                exact ⟨p0, hp0, by rw [List.append_assoc]; exact At_app hat⟩
            have hFB2 : FBe l c be0 (upd be (3 * (6 * l + c) + rV f n σ.1) (nI (1000 * b + O.length))) := fun i hi => by rw [pk_un (by omega)]; exact hFB i hi
            refine ⟨hin, rt_isSign hr 44 rfl (by decide) (fun k44 => br_f (by decide) (bn_t rfl (rt_next hn hr (fun a' t' p' nu' sg' hr' => ?_)))) (fun k44 => br_t rfl (br_t rfl ?_))⟩
            · exact hN2.1 k44 a' t' p' nu' sg' fp op pl pile _ hr' hBE2 hFB2
            · exact hN2.2 k44 a t p nu sg fp op pl pile _ hr hBE2 hFB2
        · have bad3 : ∀ x3, wp_Md_readChoice_L73 (nI l) (nI (6 * l + c)) (nI n) (nI b) f K5 (N + 1) x3 a1 t1 p1 nu1 sg1 1 p1 (nI σ.2.1) op pl (wA AK O A0 (1000 * b)) (wA AV O N0 (1000 * b)) (upd C0 b (nI (O).length)) pile be := fun x3 => z_bad (hw (by unfold asg; rw [if_neg (fun z => k2 z.2.2)]) (σ.1 + 1) σ.2.1 O op pl a1 t1 p1 nu1 sg1 p1 pile be hr1 (by omega) hFB)
          exact bn_f (by decide) (rt_isSign hr1 44 rfl (by decide) (fun _ => br_f (by decide) (bn_f (by decide) (bad3 _))) (fun _ => br_t rfl (bad3 _)))
    · have htc : tc (rK f n σ.1) (rV f n σ.1) < 19 := by
        unfold tc
        repeat' split
        all_goals omega
      refine br_t (by rw [hx4, htok.2.2.2.2.2]; exact neg19 _ htc) (q_misp (bad (by unfold asg; rw [if_neg (fun z => h9 z.1)]) _ _))
  by_cases hex : ∃ i u o, asg (rK f n) (rV f n) c σ = some (i, u, upS σ.2.2 (21 + c * 3 + rV f n σ.1) o) ∧ rK f n σ.1 = 259 ∧ σ.1 < i ∧ u ≤ 100 ∧ (O ++ o ++ [301]).length ≤ 2 * u + rP f n i / 3 + 1 ∧ rK f n i = 44
  · obtain ⟨i, u, o, e, h9, hi, hu1, hbud, h44⟩ := hex
    obtain ⟨N, hN⟩ := (h i u o e h9 hi hu1 hbud).1 h44
    refine main N (fun i' u' o' e' h9' hi' hu' hbud' => ⟨fun k => ?_, (h i' u' o' e' h9' hi' hu' hbud').2⟩)
    have he := e.symm.trans e'
    simp only [Option.some.injEq, Prod.mk.injEq] at he
    have ho : o = o' := by
      have := congrFun he.2.2 (21 + c * 3 + rV f n σ.1)
      unfold upS at this
      rw [if_pos rfl, if_pos rfl] at this
      exact Option.some.inj this
    obtain ⟨rfl, rfl, _⟩ := he
    subst ho
    exact hN
  · refine main 0 (fun i' u' o' e' h9' hi' hu' hbud' => ⟨fun k => absurd ⟨i', u', o', e', h9', hi', hu', hbud', k⟩ hex, (h i' u' o' e' h9' hi' hu' hbud').2⟩)
end RCh
