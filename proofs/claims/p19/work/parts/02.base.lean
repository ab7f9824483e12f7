/-! the base: the shape of every contract, calls with the frame rule -/
/-- a value that a boolean may be -/
def vp_z (x : Int32) : Prop := x = 0 ∨ x = 1
theorem vp_z0 : vp_z 0 := Or.inl rfl
theorem vp_z1 : vp_z 1 := Or.inr rfl
theorem vp_zn {x : Int32} (h : vp_z x) : narrow .boolean (.int x) = .int x := by
  rcases h with rfl | rfl <;> rfl
theorem vp_zf {x : Int32} (h : vp_z x) : fits .boolean (.int x) = true := by
  rcases h with rfl | rfl <;> rfl
/-- Arrays.fill -/
def vp_fill (f : Nat → Int32) (n : Nat) (v : Int32) : Nat → Int32 := fun j => if j < n then v else f j
/-- the nest mates' links hold -/
def nw_ (U : State) : Prop := ∀ w ∈ nwL, va_Nw w U
theorem nw_tab : ∀ w ∈ nwL, w.onTables = true := by decide +kernel
theorem nw_same {u U : State} (hvm : u.vm = U.vm) (h : nw_ u) : nw_ U := fun w hw => va_Nw.same (nw_tab w hw) hvm (h w hw)
/-- the texts of the class's constants, and what the library's text methods read: none of it lies in A -/
def st_ (adK adV : Nat → Nat) (A : Nat → Prop) (U : State) (H : Heap) : Prop := vk_S nS lenS bytS adK adV A U H ∧ va_Z "java/lang/String" "COMPACT_STRINGS" "Z" (.int 1) A U H ∧ va_Zq "jdk/internal/util/Preconditions" "SIOOBE_FORMATTER" "Ljava/util/function/BiFunction;" A U H ∧ ∀ i : Nat, i < nS → vk_R ownS (ixS.getD i 0) (txS.getD i "") (adK i) U
theorem st_same {adK adV : Nat → Nat} {A : Nat → Prop} {u U : State} {H : Heap} (hvm : u.vm = U.vm) (h : st_ adK adV A u H) : st_ adK adV A U H :=
  have ha : u.vm.Alike U.vm := hvm ▸ Vm.Alike.refl u.vm
  ⟨vk_S.moved ha h.1, va_Z.moved ha h.2.1, va_Zq.moved ha h.2.2.1, fun i hi => vk_R.same hvm.symm (h.2.2.2 i hi)⟩
theorem st_moved {adK adV : Nat → Nat} {A : Nat → Prop} {u U : State} {H : Heap} (hW : u.WarmedH U.vm) (h : st_ adK adV A u H) : st_ adK adV A U H :=
  ⟨vk_S.moved hW.alike h.1, va_Z.moved hW.alike h.2.1, va_Zq.moved hW.alike h.2.2.1, fun i hi => vk_R.warm hW (h.2.2.2 i hi)⟩
theorem st_kept {adK adV : Nat → Nat} {A B : Nat → Prop} {U : State} {H0 H : Heap} {locs : List Loc} (hS : va_S A H0 H locs) (hB : ∀ q, B q → A q) (h : st_ adK adV A U H0) : st_ adK adV B U H :=
  ⟨(h.1.kept hS.2.1).narrow hB, (h.2.1.kept hS.2.1).narrow hB, (h.2.2.1.kept hS.2.1).narrow hB, h.2.2.2⟩
/-- a method's start -/
def pc_ (D : va_G) (tys : List (ClassId × FieldType)) (ws : va_W) (sz : Nat) (adK adV : Nat → Nat) (av : List Value) : Array Value → State → Prop := va_Pc av (fun U => U.heap.size = sz ∧ va_P D vwCl ws U.heap ∧ va_K D vwCl tys U ∧ va_D (fun _ => True) ws ∧ nw_ U ∧ st_ adK adV (va_A ws sz) U U.heap)
/-- a method's end -/
def bw_ (D : va_G) (tys : List (ClassId × FieldType)) (A : Nat → Prop) (ws : va_W) (t : State) : Prop := va_P D vwCl ws t.heap ∧ va_K D vwCl tys t ∧ va_D A ws
theorem pc_blind {D : va_G} {tys : List (ClassId × FieldType)} {ws : va_W} {sz : Nat} {adK adV : Nat → Nat} {av : List Value} : FrameBlind (pc_ D tys ws sz adK adV av) := fun a U g mk q => by
  obtain ⟨q0, q1, qP, qK, qD, qN, qT⟩ := q
  exact ⟨q0, q1, qP, va_K.moved (u := U) (U := U.calling g mk a) (Vm.Alike.refl U.vm) qK, qD, nw_same (u := U) (U := U.calling g mk a) rfl qN, st_same (u := U) (U := U.calling g mk a) rfl qT⟩
theorem pc_of {D : va_G} {tys : List (ClassId × FieldType)} {ws : va_W} {H : Heap} {s : State} {adK adV : Nat → Nat} {av : List Value} {A : Nat → Prop} {locs : List Loc} (hP : va_P D vwCl ws H) (hK : va_K D vwCl tys s) (hD : va_D A ws) (hN : nw_ s) (hT : st_ adK adV A s s.heap) (hS : va_S A s.heap H locs) (hA : ∀ q, s.heap.size ≤ q → A q) : ∀ U : State, U.heap = H → s.WarmedH U.vm → pc_ D tys ws H.size adK adV av av.toArray U :=
  fun U hU hW => ⟨rfl, by rw [hU], by rw [hU]; exact hP, va_K.moved hW.alike hK, hD.weaken (fun _ _ _ _ => trivial), nw_moved hW hN, by
    rw [hU]
    refine st_moved hW (st_kept hS (fun q h => ?_) hT)
    rcases h with ⟨k, e, h⟩ | h
    · exact hD.2 k (q, e) h
    · exact hA q (Nat.le_trans hS.1 h)⟩
section Jn
variable {p : Program} {l : Launch} {e : Env} {R : Room} {s : State} {m : MethodId} {args : Array Value} {below : List Frame} {meth : Method} {c : Code} {H : Heap} {locs : List Loc} {cells slots : Nat} {Q : State → Prop}
variable {pc : Nat} {ls : Array Slot} {rest st0 : List Value} {a : Array Value} {A : Nat → Prop} {H0 : Heap} {D : va_G} {tys : List (ClassId × FieldType)} {ws wc wr : va_W}
theorem jn_i {S : Type} {post : Int32 → S → Prop} {w1 : S → va_W} (hr : va_Run p l e R s m args below meth c H locs cells slots 0 0 (F0 m pc ls st0) rest (va_Qi post (fun u t => bw_ D tys (va_A wc H.size) (w1 u) t) (va_A wc H.size) a) (va_A wc H.size))
    (hP : va_P D vwCl ws H) (hD : va_D A ws) (hS : va_S A H0 H locs) (hA : ∀ q, H0.size ≤ q → A q) (isC isR : List Nat) (hC : isC.map (fun i => ws[i]?) = wc.map some) (hR : isR.map (fun i => ws[i]?) = wr.map some) (hn : va_nd isR = true) (hdis : ∀ i ∈ isR, i ∉ isC)
    (kk : ∀ (r : Int32) (u : S) (H1 : Heap) (locs1 : List Loc), post r u → va_P D vwCl (wr ++ w1 u) H1 → va_D A (wr ++ w1 u) → va_S A H0 H1 locs1 → W p l e R s m args below meth c H1 locs1 cells slots Q (F0 m (pc + 3) ls (.int r :: rest))) : W p l e R s m args below meth c H locs cells slots Q (F0 m pc ls st0) := by
  have hF := va_free (wc := wc) hD hS hA isC hC
  refine va_calli hr hS (fun q _ h => hF q h) hF (fun r u t H1 locs1 ht hvm hw hB hz hk hS1 => ?_)
  obtain ⟨hP1, hK1, hD1⟩ := hB
  rw [ht] at hP1
  obtain ⟨hP2, hD2⟩ := va_join hP hD isC isR hC hR hn hdis hk hF hP1 hD1
  exact kk r u H1 locs1 hw hP2 hD2 hS1
theorem jn_v {S : Type} {post : S → Prop} {w1 : S → va_W} (hr : va_Run p l e R s m args below meth c H locs cells slots 0 0 (F0 m pc ls st0) rest (va_Qv post (fun u t => bw_ D tys (va_A wc H.size) (w1 u) t) (va_A wc H.size) a) (va_A wc H.size))
    (hP : va_P D vwCl ws H) (hD : va_D A ws) (hS : va_S A H0 H locs) (hA : ∀ q, H0.size ≤ q → A q) (isC isR : List Nat) (hC : isC.map (fun i => ws[i]?) = wc.map some) (hR : isR.map (fun i => ws[i]?) = wr.map some) (hn : va_nd isR = true) (hdis : ∀ i ∈ isR, i ∉ isC)
    (kk : ∀ (u : S) (H1 : Heap) (locs1 : List Loc), post u → va_P D vwCl (wr ++ w1 u) H1 → va_D A (wr ++ w1 u) → va_S A H0 H1 locs1 → W p l e R s m args below meth c H1 locs1 cells slots Q (F0 m (pc + 3) ls rest)) : W p l e R s m args below meth c H locs cells slots Q (F0 m pc ls st0) := by
  have hF := va_free (wc := wc) hD hS hA isC hC
  refine va_callv hr hS (fun q _ h => hF q h) hF (fun u t H1 locs1 ht hvm hw hB hz hk hS1 => ?_)
  obtain ⟨hP1, hK1, hD1⟩ := hB
  rw [ht] at hP1
  obtain ⟨hP2, hD2⟩ := va_join hP hD isC isR hC hR hn hdis hk hF hP1 hD1
  exact kk u H1 locs1 hw hP2 hD2 hS1
theorem jn_r {S : Type} {post : S → Prop} {w1 : S → va_W} {b : Nat} (hr : va_Run p l e R s m args below meth c H locs cells slots 0 0 (F0 m pc ls st0) rest (va_Qr post (fun u x t => x = b ∧ bw_ D tys (va_A wc H.size) (w1 u) t) (va_A wc H.size) a) (va_A wc H.size))
    (hP : va_P D vwCl ws H) (hD : va_D A ws) (hS : va_S A H0 H locs) (hA : ∀ q, H0.size ≤ q → A q) (isC isR : List Nat) (hC : isC.map (fun i => ws[i]?) = wc.map some) (hR : isR.map (fun i => ws[i]?) = wr.map some) (hn : va_nd isR = true) (hdis : ∀ i ∈ isR, i ∉ isC)
    (kk : ∀ (u : S) (H1 : Heap) (locs1 : List Loc), post u → va_P D vwCl (wr ++ w1 u) H1 → va_D A (wr ++ w1 u) → va_S A H0 H1 locs1 → W p l e R s m args below meth c H1 locs1 cells slots Q (F0 m (pc + 3) ls (.ref b :: rest))) : W p l e R s m args below meth c H locs cells slots Q (F0 m pc ls st0) := by
  have hF := va_free (wc := wc) hD hS hA isC hC
  refine va_callr hr hS (fun q _ h => hF q h) hF (fun u x t H1 locs1 ht hvm hw hB hz hk hS1 => ?_)
  obtain ⟨hx, hP1, hK1, hD1⟩ := hB
  subst hx
  rw [ht] at hP1
  obtain ⟨hP2, hD2⟩ := va_join hP hD isC isR hC hR hn hdis hk hF hP1 hD1
  exact kk u H1 locs1 hw hP2 hD2 hS1
end Jn

