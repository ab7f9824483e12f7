/-! guesses as bits -/
def dif (a b : Nat) : Nat := a ^^^ (a &&& b)
theorem dif_bit (a b i : Nat) : (dif a b).testBit i = (a.testBit i && !b.testBit i) := by
  unfold dif
  rw [Nat.testBit_xor, Nat.testBit_and]
  cases a.testBit i <;> cases b.testBit i <;> rfl
theorem nI_dif (a b : Nat) : nI a &&& (nI b ^^^ (-1)) = nI (dif a b) := by
  apply Int32.toBitVec_inj.mp
  rw [Int32.toBitVec_and, Int32.toBitVec_xor]
  show BitVec.ofNat 32 a &&& (BitVec.ofNat 32 b ^^^ BitVec.allOnes 32) = BitVec.ofNat 32 (dif a b)
  apply BitVec.eq_of_getLsbD_eq
  intro i hi
  rw [BitVec.getLsbD_and, BitVec.getLsbD_xor, BitVec.getLsbD_allOnes, BitVec.getLsbD_ofNat, BitVec.getLsbD_ofNat, BitVec.getLsbD_ofNat, dif_bit, decide_eq_true hi]
  cases a.testBit i <;> cases b.testBit i <;> rfl
theorem dif_or (a b d : Nat) : dif a b ||| dif a d = dif a (b &&& d) := by
  apply Nat.eq_of_testBit_eq
  intro i
  rw [Nat.testBit_or, dif_bit, dif_bit, dif_bit, Nat.testBit_and]
  cases a.testBit i <;> cases b.testBit i <;> cases d.testBit i <;> rfl
/-- b's bits are a's -/
def Sub (b a : Nat) : Prop := b &&& a = b
theorem Sub_bit {a b : Nat} (h : Sub b a) {i : Nat} (hb : b.testBit i = true) : a.testBit i = true := by
  have h2 : (b &&& a).testBit i = true := by rw [show b &&& a = b from h]; exact hb
  rw [Nat.testBit_and, hb] at h2
  exact h2
theorem Sub_refl (a : Nat) : Sub a a := Nat.and_self a
theorem Sub_and {a b d : Nat} (h : Sub b a) : Sub (b &&& d) a := by
  unfold Sub
  rw [Nat.and_assoc, Nat.and_comm d a, ← Nat.and_assoc, show b &&& a = b from h]
theorem Sub_trans {a b d : Nat} (h : Sub b a) (h2 : Sub d b) : Sub d a := by
  unfold Sub
  rw [← show d &&& b = d from h2, Nat.and_assoc, show b &&& a = b from h]
theorem Sub_le {a b : Nat} (h : Sub b a) : b ≤ a := by
  rw [← show b &&& a = b from h]; exact Nat.and_le_right
theorem dif_dif {a b : Nat} (h : Sub b a) : dif a (dif a b) = b := by
  apply Nat.eq_of_testBit_eq
  intro i
  rw [dif_bit, dif_bit]
  cases e : b.testBit i
  · cases a.testBit i <;> rfl
  · rw [Sub_bit h e]; rfl
theorem dif_0 {a b : Nat} (h : Sub b a) : dif a b = 0 ↔ b = a := by
  constructor
  · intro q
    apply Nat.eq_of_testBit_eq
    intro i
    have h2 := dif_bit a b i
    rw [q, Nat.zero_testBit] at h2
    cases e : b.testBit i
    · rw [e] at h2; cases e2 : a.testBit i
      · rfl
      · rw [e2] at h2; cases h2
    · rw [Sub_bit h e]
  · intro q
    subst q
    unfold dif
    rw [Nat.and_self, Nat.xor_self]
theorem dif_le (a b : Nat) : dif a b ≤ a := by
  have : Sub (dif a b) a := by
    apply Nat.eq_of_testBit_eq
    intro i
    rw [Nat.testBit_and, dif_bit]
    cases a.testBit i <;> cases b.testBit i <;> rfl
  exact Sub_le this
/-! which guesses are lost -/
section KB
variable (S : Nat → Option (List Nat)) (c g : Nat)
def kb (a : Nat) : Nat → Nat
  | 0 => a
  | s + 1 => if val S s 0 = 0 then kb a s else kb a s &&& Gb S s g
def kr1 (s a : Nat) : Nat → Nat
  | 0 => a
  | i + 1 => match nxc S c s i with
    | none => kr1 s a i
    | some t => kr1 s a i &&& Gb S t g
def kr (a : Nat) : Nat → Nat
  | 0 => a
  | s + 1 => if Gb S s g &&& a = a then kr a s &&& kr1 S c g s a 6 else kr a s
def mk (bits r : Nat) (R : Nat → Nat) : Nat → Nat := fun i => if bits.testBit i then r else R i
end KB
section KL
variable {S : Nat → Option (List Nat)} {c g : Nat}
theorem kr1_none {s a i : Nat} (h : nxc S c s i = none) : kr1 S c g s a (i + 1) = kr1 S c g s a i := by
  show (match nxc S c s i with | none => _ | some t => _) = _
  rw [h]
theorem kr1_some {s a i t : Nat} (h : nxc S c s i = some t) : kr1 S c g s a (i + 1) = kr1 S c g s a i &&& Gb S t g := by
  show (match nxc S c s i with | none => _ | some t => _) = _
  rw [h]
theorem kr1_sub {s a : Nat} : ∀ i, Sub (kr1 S c g s a i) a
  | 0 => Sub_refl a
  | i + 1 => by
    cases e : nxc S c s i with
    | none => rw [kr1_none e]; exact kr1_sub i
    | some t => rw [kr1_some e]; exact Sub_and (kr1_sub i)
theorem kr1_acc {s a b : Nat} (h : Sub b a) : ∀ i, kr1 S c g s b i = b &&& kr1 S c g s a i
  | 0 => h.symm
  | i + 1 => by
    cases e : nxc S c s i with
    | none => rw [kr1_none e, kr1_none e]; exact kr1_acc h i
    | some t => rw [kr1_some e, kr1_some e, kr1_acc h i, Nat.and_assoc]
theorem kr_sub {a : Nat} : ∀ s, Sub (kr S c g a s) a
  | 0 => Sub_refl a
  | s + 1 => by
    unfold kr
    split
    · exact Sub_and (kr_sub s)
    · exact kr_sub s
theorem kb_sub {a : Nat} : ∀ s, Sub (kb S g a s) a
  | 0 => Sub_refl a
  | s + 1 => by
    unfold kb
    split
    · exact kb_sub s
    · exact Sub_and (kb_sub s)
end KL
