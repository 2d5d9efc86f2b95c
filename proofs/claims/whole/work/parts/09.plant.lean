/-! plants, over naturals -/
def ixO (p i : Nat) : Nat := p * 8 + i
def plOk (n : Nat) (x1 : Int64) (x2 : Int32) : Prop := n < 8 ∧ inL 0 1000000000 x1 ∧ inR 10 x2
def outOk (n : Nat) (ou : Nat → Nat) (x1 x2 : Int32) (x3 : Int64) : Prop := inR n x1 ∧ inR 10 x2 ∧ inL 1 1000000000 x3 ∧ ou (tn x1) < 8
/-- what every plant keeps -/
def plI (n : Nat) (inn pk ou ok og : Nat → Nat) : Prop := n ≤ 8 ∧ (∀ p, p < n → inn p ≤ 1000000000 ∧ pk p < 10 ∧ ou p ≤ 8 ∧ ∀ i, i < ou p → ok (p * 8 + i) < 10 ∧ og (p * 8 + i) ≤ 1000000000) ∧ ∀ p, n ≤ p → ou p = 0
/-- the outs of its own kind, a bit for each -/
def ownM (ok pk : Nat → Nat) (p : Nat) : Nat → Nat
  | 0 => 0
  | i + 1 => ownM ok pk p i + (if ok (p * 8 + i) = pk p then 2 ^ i else 0)
theorem ownM_lt (ok pk : Nat → Nat) (p : Nat) : ∀ i, ownM ok pk p i < 2 ^ i
  | 0 => Nat.one_pos
  | i + 1 => by
    have h1 := ownM_lt ok pk p i
    have h2 : 2 ^ (i + 1) = 2 ^ i + 2 ^ i := by rw [Nat.pow_succ]; omega
    rw [ownM]
    split <;> omega
theorem pow8 {i : Nat} (h : i ≤ 8) : 2 ^ i ≤ 256 := Nat.pow_le_pow_right (by decide) h
theorem ownM_256 {ok pk : Nat → Nat} {p i : Nat} (h : i ≤ 8) : ownM ok pk p i < 256 := Nat.lt_of_lt_of_le (ownM_lt ok pk p i) (pow8 h)
/-- grams of a set of outs -/
def gsum (og : Nat → Nat) (p s : Nat) : Nat → Nat
  | 0 => 0
  | i + 1 => gsum og p s i + (if s.testBit i = true then og (p * 8 + i) else 0)
theorem gsum_lec {og : Nat → Nat} {p s c : Nat} : ∀ m, (∀ i, i < m → og (p * 8 + i) ≤ c) → gsum og p s m ≤ m * c
  | 0, _ => Nat.zero_le _
  | m + 1, h => by
    have h1 := gsum_lec (s := s) m (fun i hi => h i (by omega))
    have h2 := h m (Nat.lt_succ_self m)
    rw [gsum, Nat.add_mul]
    split <;> omega
theorem gsum_le {og : Nat → Nat} {p s : Nat} (m : Nat) (h : ∀ i, i < m → og (p * 8 + i) ≤ 1000000000) : gsum og p s m ≤ m * 1000000000 := gsum_lec m h
def lackN (inn pk ou ok og : Nat → Nat) (p : Nat) : Nat := gsum og p (ownM ok pk p (ou p)) (ou p) - inn p
def popc (s : Nat) : Nat := cntB (fun i => s.testBit i) 8
def bc1 (x : Int32) : Int32 := x - ((x.toUInt32 >>> ((nI 1).toUInt32 &&& Int32.toUInt32 31)).toInt32 &&& nI 1431655765)
def bc2 (x : Int32) : Int32 := (x &&& nI 858993459) + ((x.toUInt32 >>> ((nI 2).toUInt32 &&& Int32.toUInt32 31)).toInt32 &&& nI 858993459)
def bc3 (x : Int32) : Int32 := (x + (x.toUInt32 >>> ((nI 4).toUInt32 &&& Int32.toUInt32 31)).toInt32) &&& nI 252645135
def bc4 (x : Int32) : Int32 := x + (x.toUInt32 >>> ((nI 8).toUInt32 &&& Int32.toUInt32 31)).toInt32
def bc5 (x : Int32) : Int32 := x + (x.toUInt32 >>> ((nI 16).toUInt32 &&& Int32.toUInt32 31)).toInt32
def bcF (x : Int32) : Int32 := bc5 (bc4 (bc3 (bc2 (bc1 x)))) &&& nI 63
theorem bcF_nat : ∀ s, s < 256 → bcF (nI s) = nI (popc s) := by decide +kernel
theorem bit_and : ∀ s, s < 256 → ∀ i, i < 8 → ((nI s &&& (nI 1 <<< (nI i &&& 31))) = 0 ↔ s.testBit i = false) := by decide +kernel
theorem bit_yes {s i : Nat} (hs : s < 256) (hi : i < 8) (h : ¬ (nI s &&& (nI 1 <<< (nI i &&& 31))) = 0) : s.testBit i = true := by
  cases e : s.testBit i with
  | true => rfl
  | false => exact absurd ((bit_and s hs i hi).mpr e) h
theorem bit_or : ∀ i, i < 8 → ∀ s, s < 2 ^ i → (nI s ||| (nI 1 <<< (nI i &&& 31))) = nI (s + 2 ^ i) := by decide +kernel
/-- a set comes before another: it has fewer, or as many and the first that differs -/
def bfP (s t : Nat) : Prop := 0 < nI (popc t) - nI (popc s) ∨ (nI (popc t) - nI (popc s) = 0 ∧ ¬ (nI s &&& ((nI s ^^^ nI t) &&& -(nI s ^^^ nI t))) = 0)
theorem bk_max0L {x y : Nat} (hx : x < 2 ^ 62) (hy : y < 2 ^ 62) : (if lN x - lN y < lN 0 then lN 0 else lN x - lN y) = lN (x - y) := by
  by_cases h : x < y
  · rw [if_pos (by rw [Int64.lt_iff_toInt_lt, lN_subI hx hy, pk_lT (by omega)]; omega), show x - y = 0 by omega]
  · rw [if_neg (by rw [Int64.lt_iff_toInt_lt, lN_subI hx hy, pk_lT (by omega)]; omega), lN_sub (by omega)]
/-- the search of the least set, by numbers from 1 on -/
noncomputable def lsF (own L : Nat) (og : Nat → Nat) (p m : Nat) : Nat → Nat
  | 0 => own
  | k + 1 => @ite Nat ((nI (k + 1) &&& (nI own ^^^ oI none)) = 0 ∧ bfP (k + 1) (lsF own L og p m k) ∧ L ≤ gsum og p (k + 1) m) (Classical.propDecidable _) (k + 1) (lsF own L og p m k)
theorem lsF_lt {own L : Nat} {og : Nat → Nat} {p m : Nat} (ho : own < 256) : ∀ k, k ≤ own → lsF own L og p m k < 256
  | 0, _ => ho
  | k + 1, h => by
    rw [lsF]
    split
    · omega
    · exact lsF_lt ho k (by omega)
theorem lsF_yes {own L : Nat} {og : Nat → Nat} {p m k : Nat} (h : (nI (k + 1) &&& (nI own ^^^ oI none)) = 0) (h2 : bfP (k + 1) (lsF own L og p m k)) (h3 : L ≤ gsum og p (k + 1) m) : k + 1 = lsF own L og p m (k + 1) := by
  rw [lsF, if_pos ⟨h, h2, h3⟩]
theorem lsF_no {own L : Nat} {og : Nat → Nat} {p m k : Nat} (h : ¬ ((nI (k + 1) &&& (nI own ^^^ oI none)) = 0 ∧ bfP (k + 1) (lsF own L og p m k) ∧ L ≤ gsum og p (k + 1) m)) : lsF own L og p m k = lsF own L og p m (k + 1) := by
  rw [lsF.eq_def own L og p m (k + 1)]
  exact (if_neg h).symm
/-- the outs from nowhere as the class finds them -/
noncomputable def lsR (inn pk ou ok og : Nat → Nat) (p : Nat) : Nat := @ite Nat (lackN inn pk ou ok og p = 0) (Classical.propDecidable _) 0 (lsF (ownM ok pk p (ou p)) (lackN inn pk ou ok og p) og p (ou p) (ownM ok pk p (ou p)))
theorem lsR_lt {inn pk ou ok og : Nat → Nat} {p : Nat} (h : ou p ≤ 8) : lsR inn pk ou ok og p < 256 := by
  unfold lsR
  split
  · omega
  · exact lsF_lt (ownM_256 h) _ (Nat.le_refl _)
