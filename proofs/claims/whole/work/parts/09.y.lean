/-! the reference's joining and least sets -/
theorem vvM_free {pt : Nat → Nat → Nat} {sp : Nat → Option Nat} {sd : Nat → Bool} {p q : Nat} (h1 : sp p = none) (h2 : bN (sd q) = 0) : vv pt sp sd p q = pt p q := by
  rw [vv, if_pos ⟨h1, bN_0.mp h2⟩]
theorem vvM_no1 {pt : Nat → Nat → Nat} {sp : Nat → Option Nat} {sd : Nat → Bool} {p q : Nat} (h1 : ¬ sp p = none) : vv pt sp sd p q = 0 := by
  rw [vv, if_neg (fun z => h1 z.1)]
theorem vvM_no2 {pt : Nat → Nat → Nat} {sp : Nat → Option Nat} {sd : Nat → Bool} {p q : Nat} (h2 : bN (sd q) ≠ 0) : vv pt sp sd p q = 0 := by
  rw [vv, if_neg (fun z => by rw [z.2] at h2; exact h2 rfl)]
theorem jsM_next {pt : Nat → Nat → Nat} {n n2 i : Nat} {s : JT} (h : s = JS pt n n2 i) {b : Nat × Nat × Nat} (hb : b = jbest pt n n2 s) : (va_up s.1 b.2.1 (some b.2.2), va_up s.2 b.2.2 true) = JS pt n n2 (i + 1) := by
  rw [JS, ← h, hb]
  rfl
theorem false_up {f : Nat → Bool} {i : Nat} (h : ∀ j, j < i → f j = false) : ∀ j, j < i + 1 → va_up f i false j = false := fun j hj => by
  by_cases e : j = i
  · exact if_pos e
  · rw [show va_up f i false j = f j from if_neg e]; exact h j (by omega)
theorem bit_shr : ∀ s, s < 256 → ∀ i, i < 8 → ((nI s >>> (nI (7 - i) &&& 31)) &&& nI 1) = nI (bN (s.testBit (7 - i))) := by decide +kernel
theorem bit_shr0 : ∀ s, s < 256 → ∀ i, i < 8 → ((nI s >>> (nI i &&& 31)) &&& nI 1) = nI (bN (s.testBit i)) := by decide +kernel
/-- grams of the outs of its own kind in a set, the set read from its highest bit -/
def gsumM (ok og pk : Nat → Nat) (p s : Nat) : Nat → Nat
  | 0 => 0
  | i + 1 => gsumM ok og pk p s i + (if s.testBit (7 - i) = true ∧ ok (p * 8 + i) = pk p then og (p * 8 + i) else 0)
theorem gsumM_lec {ok og pk : Nat → Nat} {p s c : Nat} : ∀ m, (∀ i, i < m → og (p * 8 + i) ≤ c) → gsumM ok og pk p s m ≤ m * c
  | 0, _ => Nat.zero_le _
  | m + 1, h => by
    have h1 := gsumM_lec (ok := ok) (pk := pk) (s := s) m (fun i hi => h i (by omega))
    have h2 := h m (Nat.lt_succ_self m)
    rw [gsumM, Nat.add_mul]
    split <;> omega
theorem gsumM_le {ok og pk : Nat → Nat} {p s : Nat} (m : Nat) (h : ∀ i, i < m → og (p * 8 + i) ≤ 1000000000) : gsumM ok og pk p s m ≤ m * 1000000000 := gsumM_lec m h
def lackM (inn pk ou ok og : Nat → Nat) (p : Nat) : Nat := gsumM ok og pk p 255 (ou p) - inn p
/-- the search of the least set, from 255 down -/
noncomputable def lmS (L : Nat) (ok og pk : Nat → Nat) (p m : Nat) : Nat → Nat × Nat
  | 0 => (255, 9)
  | k + 1 => @ite (Nat × Nat) (popc (255 - k) < (lmS L ok og pk p m k).2 ∧ L ≤ gsumM ok og pk p (255 - k) m) (Classical.propDecidable _) (255 - k, popc (255 - k)) (lmS L ok og pk p m k)
theorem lmS_yes {L : Nat} {ok og pk : Nat → Nat} {p m k : Nat} (h1 : popc (255 - k) < (lmS L ok og pk p m k).2) (h2 : L ≤ gsumM ok og pk p (255 - k) m) : (255 - k, popc (255 - k)) = lmS L ok og pk p m (k + 1) := by
  rw [lmS, if_pos ⟨h1, h2⟩]
theorem lmS_no {L : Nat} {ok og pk : Nat → Nat} {p m k : Nat} (h : ¬ (popc (255 - k) < (lmS L ok og pk p m k).2 ∧ L ≤ gsumM ok og pk p (255 - k) m)) : lmS L ok og pk p m k = lmS L ok og pk p m (k + 1) := by
  rw [lmS.eq_def L ok og pk p m (k + 1)]
  exact (if_neg h).symm
theorem popc_le (s : Nat) : popc s ≤ 8 := cntB_le _ 8
theorem lmS_lt {L : Nat} {ok og pk : Nat → Nat} {p m : Nat} : ∀ k, (lmS L ok og pk p m k).1 < 256 ∧ (lmS L ok og pk p m k).2 ≤ 9
  | 0 => ⟨show 255 < 256 by omega, show 9 ≤ 9 by omega⟩
  | k + 1 => by
    rw [lmS]
    split
    · have := popc_le (255 - k)
      exact ⟨by show 255 - k < 256; omega, by show popc (255 - k) ≤ 9; omega⟩
    · exact lmS_lt k
noncomputable def nwM (inn pk ou ok og : Nat → Nat) (p : Nat) : Nat := @ite Nat (lackM inn pk ou ok og p = 0) (Classical.propDecidable _) 0 (lmS (lackM inn pk ou ok og p) ok og pk p (ou p) 255).1
theorem dec_toInt2 {lf : Int32} (h : -100 ≤ lf.toInt) : (lf + (-1)).toInt = lf.toInt - 1 := by
  rw [Int32.toInt_add, show (-1 : Int32).toInt = -1 by decide]
  have h1 := Int32.toInt_lt lf
  rw [Int.bmod_def]
  split <;> omega
theorem kth_neg {f : Nat → Bool} {n : Nat} (hn : n < 2 ^ 31) {y : Int32} (h : y < 0) : kth f n y none := fun p hp _ e => by
  have l := cntB_le f p
  rw [← e] at h
  exact nI_pos (by omega) h
theorem kth_0 {g : Nat → Nat} {y : Int32} : kth (fun i => (0 : Nat).testBit (g i)) 8 y none := fun p _ h => by
  simp at h
