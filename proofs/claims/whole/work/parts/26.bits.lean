/-! the least set that the class finds is the one that the reference finds -/
theorem nw_and (a b : Nat) : nI a &&& nI b = nI (a &&& b) := by
  apply Int32.toBitVec_inj.mp
  apply BitVec.eq_of_getLsbD_eq
  intro i hi
  show ((BitVec.ofNat 32 a) &&& (BitVec.ofNat 32 b)).getLsbD i = (BitVec.ofNat 32 (a &&& b)).getLsbD i
  simp [BitVec.getLsbD_ofNat, Nat.testBit_and, hi]
theorem nw_xor (a b : Nat) : nI a ^^^ nI b = nI (a ^^^ b) := by
  apply Int32.toBitVec_inj.mp
  apply BitVec.eq_of_getLsbD_eq
  intro i hi
  show ((BitVec.ofNat 32 a) ^^^ (BitVec.ofNat 32 b)).getLsbD i = (BitVec.ofNat 32 (a ^^^ b)).getLsbD i
  simp [BitVec.getLsbD_ofNat, Nat.testBit_xor, hi]
/-- eight bits, the other way round -/
def rev (s : Nat) : Nat := (s % 2) * 128 + (s / 2 % 2) * 64 + (s / 4 % 2) * 32 + (s / 8 % 2) * 16 + (s / 16 % 2) * 8 + (s / 32 % 2) * 4 + (s / 64 % 2) * 2 + (s / 128 % 2)
def lowb (d : Nat) : Nat := d &&& (256 - d)
theorem rev_lt (s : Nat) : rev s < 256 := by unfold rev; omega
theorem rev_rev : ∀ s, s < 256 → rev (rev s) = s := by decide +kernel
theorem rev_popc : ∀ s, s < 256 → popc (rev s) = popc s := by decide +kernel
theorem rev_bit : ∀ s, s < 256 → ∀ i, i < 8 → (rev s).testBit i = s.testBit (7 - i) := by decide +kernel
theorem low_neg : ∀ d, d < 256 → (nI d &&& -(nI d)) = nI (lowb d) := by decide +kernel
theorem low_rev : ∀ s, s < 256 → ∀ t, t < 256 → (¬ (s &&& lowb (s ^^^ t)) = 0 ↔ rev t < rev s) := by decide +kernel
theorem sub_own : ∀ s, s < 256 → ∀ o, o < 256 → ((s &&& (o ^^^ 4294967295)) = 0 ↔ s &&& o = s) := by decide +kernel
