/-! comparisons of ints with small naturals -/
theorem lt1_nn {x : Int32} (h : ¬ x < nI 1) : ¬ x < 0 := fun q => h (by
  rw [Int32.lt_iff_toInt_lt] at q ⊢
  rw [show (nI 1).toInt = 1 by decide]
  rw [show (0 : Int32).toInt = 0 by decide] at q
  omega)
theorem lt1_pos {x : Int32} {b : Nat} (h : ¬ x < nI 1) (e : x = nI b) (hb : b < 2 ^ 31) : 1 ≤ b := by
  rw [e] at h
  exact Nat.le_of_not_lt fun q => h (nI_lt q (by decide))
theorem le_nI {x : Int32} {b : Nat} (h0 : ¬ x < 0) (h : x ≤ nI b) (hb : b < 2 ^ 30) : ∃ a, a ≤ b ∧ x = nI a := by
  obtain ⟨j, hj, e⟩ := nI_of h0
  refine ⟨j, ?_, e⟩
  rw [e] at h
  exact (nI_leI hj (by omega)).mp h
theorem no_lt1 {x : Int32} {b : Nat} (e : x = nI b) (hb : 1 ≤ b) (hb2 : b < 2 ^ 31) (h : x < nI 1) : False := by
  rw [e] at h
  have := (nI_ltI hb2 (by decide)).mp h
  omega
theorem no_gt {x : Int32} {b n : Nat} (e : x = nI b) (hb : b ≤ n) (hn : n < 2 ^ 31) (hb2 : b < 2 ^ 31) (h : nI n < x) : False := by
  rw [e] at h
  have := (nI_ltI hn hb2).mp h
  omega
