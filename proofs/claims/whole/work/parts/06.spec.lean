/-! what the methods answer, over naturals -/
def sumK (kd gr : Nat → Nat) (x : Int32) : Nat → Nat
  | 0 => 0
  | i + 1 => sumK kd gr x i + (if nI (kd i) = x then gr i else 0)
def tn (x : Int32) : Nat := x.toNatClampNeg
def tl (x : Int64) : Nat := x.toNatClampNeg
theorem tn_nI {n : Nat} (h : n < 2 ^ 31) : tn (nI n) = n := nI_clamp h
theorem tl_lN {n : Nat} (h : n < 2 ^ 63) : tl (lN n) = n := by
  show (lN n).toInt.toNat = n
  rw [pk_lT h]
  rfl
def addOk (n : Nat) (x1 x2 x3 : Int32) (x4 : Int64) : Prop := n < 30 ∧ inR 10 x1 ∧ inR 100001 x2 ∧ inR 10 x3 ∧ inL 1 1000000000 x4
/-- what every page or sale keeps -/
def bkI (n : Nat) (sh dy kd gr : Nat → Nat) : Prop := n ≤ 30 ∧ ∀ j, j < n → sh j < 10 ∧ dy j ≤ 100000 ∧ kd j < 10 ∧ 1 ≤ gr j ∧ gr j ≤ 1000000000
def lostG (a b : Nat) : Nat := 900 * (max a b - min a b) / max a b
theorem lostG_le {a b : Nat} : lostG a b ≤ 900 := by
  unfold lostG
  apply Nat.div_le_of_le_mul
  rw [Nat.mul_comm (max a b)]
  exact Nat.mul_le_mul_left _ (Nat.sub_le _ _)
def pts (s1 s2 k1 k2 d1 d2 g1 g2 : Nat) : Nat := if s1 = s2 ∧ k1 = k2 ∧ d1 ≤ d2 ∧ d2 ≤ d1 + 5 then 1000 - 100 * (d2 - d1) - lostG g1 g2 else 0
theorem pts_le {s1 s2 k1 k2 d1 d2 g1 g2 : Nat} : pts s1 s2 k1 k2 d1 d2 g1 g2 ≤ 1000 := by
  unfold pts
  split <;> omega
/-- points of page p and sale q -/
def ptOf (sh dy kd gr sh2 dy2 kd2 gr2 : Nat → Nat) (p q : Nat) : Nat := pts (sh p) (sh2 q) (kd p) (kd2 q) (dy p) (dy2 q) (gr p) (gr2 q)
theorem bk_maxL {x y : Nat} (hx : x < 2 ^ 63) (hy : y < 2 ^ 63) : (if lN y < lN x then lN x else lN y) = lN (max x y) := by
  by_cases h : y < x
  · rw [if_pos ((pk_lLT hy hx).mpr h), Nat.max_eq_left (by omega)]
  · rw [if_neg (fun q => h ((pk_lLT hy hx).mp q)), Nat.max_eq_right (by omega)]
theorem lN_subI {x y : Nat} (hx : x < 2 ^ 62) (hy : y < 2 ^ 62) : (lN x - lN y).toInt = (x : Int) - y := by
  rw [Int64.toInt_sub, pk_lT (by omega), pk_lT (by omega)]
  rw [Int.bmod_def]
  split <;> omega
theorem bk_absL {x y : Nat} (hx : x < 2 ^ 62) (hy : y < 2 ^ 62) : (if 0 < lN x - lN y then lN x - lN y else -(lN x - lN y)) = lN (max x y - min x y) := by
  by_cases h : y < x
  · have h0 : (0 : Int64) < lN x - lN y := by
      rw [Int64.lt_iff_toInt_lt, lN_subI hx hy, show (0 : Int64).toInt = 0 by decide]; omega
    rw [if_pos h0, lN_sub (by omega), Nat.max_eq_left (by omega), Nat.min_eq_right (by omega)]
  · have h0 : ¬ (0 : Int64) < lN x - lN y := by
      rw [Int64.lt_iff_toInt_lt, lN_subI hx hy, show (0 : Int64).toInt = 0 by decide]; omega
    rw [if_neg h0, Nat.max_eq_right (by omega), Nat.min_eq_left (by omega), ← lN_sub (by omega)]
    rw [Int64.neg_sub]
theorem bk_max0 {x y : Nat} (hx : x < 2 ^ 30) (hy : y < 2 ^ 30) : (if nI 0 < nI x - nI y then nI x - nI y else nI 0) = nI (x - y) := by
  by_cases h : y < x
  · have h0 : nI 0 < nI x - nI y := by
      rw [pk_sub (by omega)]; exact nI_lt (by omega) (by omega)
    rw [if_pos h0, pk_sub (by omega)]
  · have h0 : ¬ nI 0 < nI x - nI y := by
      rw [Int32.lt_iff_toInt_lt, pk_sub_toInt hx hy, show (nI 0).toInt = 0 by decide]; omega
    rw [if_neg h0, show x - y = 0 by omega]
