/-! what the reference needs besides -/
def sh30 (f : Nat → Nat) : Nat → Nat := fun q => f (30 + q)
theorem lostG_r {a b : Nat} (h : a ≤ b) : lostG a b = 900 * (b - a) / b := by rw [lostG, Nat.max_eq_right h, Nat.min_eq_left h]
theorem lostG_l {a b : Nat} (h : b ≤ a) : lostG a b = 900 * (a - b) / a := by rw [lostG, Nat.max_eq_left h, Nat.min_eq_right h]
theorem pk_sle {a b : Nat} (hb : b < 2 ^ 30) (h : a < b) : nI a - nI b ≤ 0 := by
  have := pk_sneg hb h
  rw [Int32.lt_iff_toInt_lt] at this
  rw [Int32.le_iff_toInt_le]
  omega
theorem i64_day {x : Int32} : inL 0 100000 x.toInt64 ↔ inR 100001 x := by
  constructor
  · rintro ⟨j, -, h2, e⟩
    refine ⟨j, by omega, ?_⟩
    have h := congrArg Int64.toInt e
    rw [Int32.toInt_toInt64, pk_lT (by omega)] at h
    apply Int32.toInt_inj.mp
    rw [h, nI_toInt (by omega)]
  · rintro ⟨j, h, rfl⟩
    exact ⟨j, Nat.zero_le _, by omega, nI_l (by omega)⟩
theorem w_in {sp : Nat → Option Nat} {dy : Nat → Nat} {x : Int32} {p : Nat} (hd : dy p ≤ 100000) (h0 : sp p = none) (h : inL 0 5 (x.toInt64 - lN (dy p))) : wB sp dy x p = true := by
  obtain ⟨j, -, h2, e⟩ := h
  exact w_yes hd h0 (by rw [e]; exact (pk_lLE (by omega) (by omega)).mpr (Nat.zero_le _)) (by rw [e]; exact (pk_lLE (by omega) (by omega)).mpr h2)
theorem w_out {sp : Nat → Option Nat} {dy : Nat → Nat} {x : Int32} {p : Nat} (hd : dy p ≤ 100000) (h : ¬ inL 0 5 (x.toInt64 - lN (dy p))) : wB sp dy x p = false := by
  by_cases h1 : x.toInt64 - lN (dy p) < lN 0
  · exact w_no2 hd h1
  · by_cases h2 : lN 5 < x.toInt64 - lN (dy p)
    · exact w_no3 hd h2
    · exact absurd (inL_of (by omega) (by omega) (bk_nltL.mp h1) (bk_nltL.mp h2)) h
theorem kth_low {f : Nat → Bool} {n i b : Nat} {y : Int32} (hn : n < 2 ^ 31) (hy : noYet f y i) (hb : b = cntB f i) (h : y.toInt < b) : kth f n y none := fun p hp hf e => by
  by_cases z : p < i
  · exact hy p z hf e
  · have m := cntB_mono f (i := i) p (by omega)
    have l := cntB_le f p
    rw [← e, nI_toInt (by omega)] at h
    omega
theorem dec_toInt {lf : Int32} (h : ¬ lf < 0) : (lf + (-1)).toInt = lf.toInt - 1 := by
  rw [Int32.lt_iff_toInt_lt, show (0 : Int32).toInt = 0 by decide] at h
  rw [Int32.toInt_add, show (-1 : Int32).toInt = -1 by decide]
  have h1 := Int32.toInt_lt lf
  rw [Int.bmod_def]
  split <;> omega
theorem nI_of_toInt {y : Int32} {b : Nat} (hb : b < 2 ^ 31) (h : y.toInt = b) : nI b = y := Int32.toInt_inj.mp (by rw [nI_toInt hb, h])
theorem lsub2 (x : Int64) (a b : Nat) : x - lN a - lN b = x - lN (a + b) := by
  rw [← lN_add]
  apply Int64.toBitVec_inj.mp
  show x.toBitVec - (lN a).toBitVec - (lN b).toBitVec = x.toBitVec - ((lN a).toBitVec + (lN b).toBitVec)
  rw [BitVec.sub_sub]
theorem lsub0 (x : Int64) : x - lN 0 = x := by
  apply Int64.toBitVec_inj.mp
  show x.toBitVec - (lN 0).toBitVec = x.toBitVec
  rw [show (lN 0).toBitVec = 0#64 from rfl, BitVec.sub_zero]
theorem ptM_no {ms md mk mg : Nat → Nat} {p q : Nat} (h : ¬ (ms p = ms (30 + q) ∧ mk p = mk (30 + q) ∧ md p ≤ md (30 + q) ∧ md (30 + q) ≤ md p + 5)) : ptOf ms md mk mg (sh30 ms) (sh30 md) (sh30 mk) (sh30 mg) p q = 0 := if_neg h
theorem ptM_yes {ms md mk mg : Nat → Nat} {p q : Nat} (h : ms p = ms (30 + q) ∧ mk p = mk (30 + q) ∧ md p ≤ md (30 + q) ∧ md (30 + q) ≤ md p + 5) : ptOf ms md mk mg (sh30 ms) (sh30 md) (sh30 mk) (sh30 mg) p q = 1000 - 100 * (md (30 + q) - md p) - lostG (mg p) (mg (30 + q)) := if_pos h
