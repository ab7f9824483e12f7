/-! the reference goes through the states, as a whole -/
section TH
variable {S : Nat → Option (List Nat)} {l c g : Nat} {ac nm bg gl rk cc wh be gc gs : Nat → Int32}
/-- the reference's rows of states -/
def RSt (S : Nat → Option (List Nat)) (c g : Nat) (kb0 : Int32) (nx iB iG lv hg ro : Nat → Int32) : Prop := NxR S c nx ∧ (∀ t, t < 4096 → iB t = nI (val S t 0) ∧ iG t = nI (val S t 1) ∧ hg t = nI (Gb S t g)) ∧ LvR lv (come S c).2 ∧ kb0 = nI (kept S c g).1 ∧ ∀ i, i < g → ro i = nI ((kept S c g).2 i)
theorem r_goThrough (hS : SOk S) (hl : l < 2) (hc6 : c ≤ 6) (hg : g ≤ 12) (hR : RLo l S c g ac nm bg gl rk cc wh be gc gs) {kb0 : Int32} {st nx iB iG lv qu h0 ro : Nat → Int32} {post : Int32 → (Nat → Int32) → (Nat → Int32) → (Nat → Int32) → (Nat → Int32) → (Nat → Int32) → (Nat → Int32) → (Nat → Int32) → (Nat → Int32) → Prop} (h : ∀ kb0 st nx iB iG lv qu h0 ro, RSt S c g kb0 nx iB iG lv h0 ro → post kb0 st nx iB iG lv qu h0 ro) : wp_Md_goThrough (nI l) kb0 ac nm bg gl cc wh be gc gs st nx iB iG lv qu h0 ro post := by
  refine ⟨4097, g4 hS hl hc6 hg hR (fun st1 nx1 iB1 iG1 lv1 qu1 h1 a1 => ⟨4097, ?_⟩) 4096 0 st nx iB iG lv qu h0 rfl ⟨fun t ht => absurd ht (Nat.not_lt_zero t), fun k hk => absurd hk (Nat.not_lt_zero k)⟩⟩
  have hN : NxR S c nx1 := fun t ht => (a1.1 t ht).2.2.2.2
  refine g209 hS hN (fun lv2 qu2 b1 b2 => ?_) 4096 0 (bl S 4096, l0 S) lv1 qu1 rfl QI_0 rfl a1.2 (fun t ht => (a1.1 t ht).2.2.2.1)
  refine r_findKept hS hg hl hR.2.1 hN (fun t ht => (a1.1 t ht).1) (fun t ht => (a1.1 t ht).2.2.1) (fun ro2 h2 => ?_)
  refine h _ _ _ _ _ _ _ _ _ ⟨hN, fun t ht => ⟨(a1.1 t ht).1, (a1.1 t ht).2.1, (a1.1 t ht).2.2.1⟩, b2, rfl, fun i hi => ?_⟩
  rw [h2 i hi]
  cases e : (kept S c g).1.testBit i with
  | true => rw [kept_100 e]; rfl
  | false => rfl
end TH
