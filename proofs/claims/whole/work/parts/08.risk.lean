/-! acts and draws, over naturals -/
def aft (now : Nat) (ev : Int32) : Option Nat := if ev = nI 0 then (if now < 3 then some (now + 1) else none) else if ev = nI 1 then (if now = 2 then some 1 else none) else if ev = nI 2 then (if now = 3 then some 2 else none) else if ev = nI 3 then (if now = 1 then some 0 else none) else none
theorem aft_0 (now : Nat) : aft now (nI 0) = if now < 3 then some (now + 1) else none := by rw [aft, if_pos rfl]
theorem aft_1 (now : Nat) : aft now (nI 1) = if now = 2 then some 1 else none := by rw [aft, if_neg (by decide), if_pos rfl]
theorem aft_2 (now : Nat) : aft now (nI 2) = if now = 3 then some 2 else none := by rw [aft, if_neg (by decide), if_neg (by decide), if_pos rfl]
theorem aft_3 (now : Nat) : aft now (nI 3) = if now = 1 then some 0 else none := by rw [aft, if_neg (by decide), if_neg (by decide), if_neg (by decide), if_pos rfl]
theorem aft_out {now : Nat} {ev : Int32} (h : ¬ inR 4 ev) : aft now ev = none := by
  rw [aft, if_neg (fun e => h ⟨0, by decide, e⟩), if_neg (fun e => h ⟨1, by decide, e⟩), if_neg (fun e => h ⟨2, by decide, e⟩), if_neg (fun e => h ⟨3, by decide, e⟩)]
theorem aft_le {now k : Nat} {ev : Int32} (h : aft now ev = some k) : k ≤ 3 := by
  unfold aft at h
  split at h
  · split at h <;> simp at h; omega
  · split at h
    · split at h <;> simp at h; omega
    · split at h
      · split at h <;> simp at h; omega
      · split at h
        · split at h <;> simp at h; omega
        · cases h
/-- who may tell it, and what it comes to -/
def actOk (st : Nat → Nat) (pe : Nat → Option Nat) (x1 x2 x3 : Int32) (to : Nat) : Prop := inR 10 x1 ∧ inR 100 x3 ∧ ¬ pe (tn x1) = some (tn x3) ∧ aft (st (tn x1)) x2 = some to
def setOk (x1 x2 x3 : Int32) : Prop := inR 10 x1 ∧ ∃ a b, 1 ≤ b ∧ b ≤ 10 ∧ a ≤ b ∧ x2 = nI a ∧ x3 = nI b
def sumN (w : Nat → Nat) : Nat → Nat
  | 0 => 0
  | i + 1 => sumN w i + w i
theorem sumN_le {w : Nat → Nat} {c : Nat} : ∀ n, (∀ j, j < n → w j ≤ c) → sumN w n ≤ n * c
  | 0, _ => Nat.zero_le _
  | n + 1, h => by
    have h1 := sumN_le n (fun j hj => h j (by omega))
    have h2 := h n (Nat.lt_succ_self n)
    rw [sumN, Nat.add_mul]
    omega
theorem sumN_mono {w : Nat → Nat} {i : Nat} : ∀ j, i ≤ j → sumN w i ≤ sumN w j
  | 0, h => by rw [show i = 0 by omega]; exact Nat.le_refl _
  | j + 1, h => by
    by_cases e : i = j + 1
    · rw [e]; exact Nat.le_refl _
    · have := sumN_mono (w := w) (i := i) j (by omega)
      rw [sumN]
      omega
theorem sumN_congr {w w2 : Nat → Nat} : ∀ n, (∀ j, j < n → w j = w2 j) → sumN w n = sumN w2 n
  | 0, _ => rfl
  | n + 1, h => by rw [sumN, sumN, sumN_congr n (fun j hj => h j (by omega)), h n (Nat.lt_succ_self n)]
theorem sumN_out {w : Nat → Nat} {p x : Nat} : ∀ n, n ≤ p → sumN (va_up w p x) n = sumN w n
  | 0, _ => rfl
  | n + 1, h => by rw [sumN, sumN, sumN_out n (by omega), show va_up w p x n = w n from if_neg (by omega)]
theorem sumN_up {w : Nat → Nat} {p : Nat} : ∀ n, p < n → sumN (va_up w p 0) n + w p = sumN w n
  | 0, h => absurd h (by omega)
  | n + 1, h => by
    rw [sumN, sumN]
    by_cases e : n = p
    · subst e
      rw [sumN_out n (Nat.le_refl _), show va_up w n 0 n = 0 from if_pos rfl]
      rfl
    · have := sumN_up (w := w) n (show p < n by omega)
      rw [show va_up w p 0 n = w n from if_neg e]
      omega
/-- the place where the weights pass r -/
def isPick (w : Nat → Nat) (r p : Nat) : Prop := sumN w p ≤ r ∧ r < sumN w (p + 1)
def pickF (w : Nat → Nat) (r : Nat) : Nat → Nat
  | 0 => 0
  | p + 1 => if sumN w p ≤ r then p else pickF w r p
theorem pickF_is {w : Nat → Nat} {r p : Nat} (h : isPick w r p) : ∀ n, p < n → pickF w r n = p
  | 0, hn => absurd hn (by omega)
  | n + 1, hn => by
    rw [pickF]
    by_cases e : n = p
    · rw [e, if_pos h.1]
    · have := sumN_mono (w := w) (i := p + 1) n (by omega)
      rw [if_neg (by have := h.2; omega)]
      exact pickF_is h n (by omega)
theorem pickF_congr {w w2 : Nat → Nat} {r : Nat} : ∀ n, (∀ j, j < n → w j = w2 j) → pickF w r n = pickF w2 r n
  | 0, _ => rfl
  | n + 1, h => by rw [pickF, pickF, sumN_congr n (fun j hj => h j (by omega)), pickF_congr n (fun j hj => h j (by omega))]
theorem pickF_rng {w : Nat → Nat} {r : Nat} : ∀ n, r < sumN w n → isPick w r (pickF w r n) ∧ pickF w r n < n
  | 0, h => absurd h (Nat.not_lt_zero _)
  | n + 1, h => by
    rw [pickF]
    by_cases e : sumN w n ≤ r
    · rw [if_pos e]; exact ⟨⟨e, h⟩, Nat.lt_succ_self n⟩
    · rw [if_neg e]
      have := pickF_rng (w := w) (r := r) n (by omega)
      exact ⟨this.1, by omega⟩
def nxt (x : Int64) : Int64 := x * lN 6364136223846793005 + lN 1442695040888963407
def h33 (x : Int64) : Nat := x.toBitVec.toNat / 2 ^ 33
theorem h33_lt (x : Int64) : h33 x < 2 ^ 31 := by
  unfold h33
  have := x.toBitVec.isLt
  omega
/-- the seed's number and the weights that are left, behind k pages -/
def DR (n : Nat) (w0 : Nat → Nat) (seed : Int64) : Nat → Int64 × (Nat → Nat)
  | 0 => (seed, w0)
  | k + 1 => (nxt (DR n w0 seed k).1, va_up (DR n w0 seed k).2 (pickF (DR n w0 seed k).2 (h33 (nxt (DR n w0 seed k).1) % sumN (DR n w0 seed k).2 n) n) 0)
/-- the k-th page that a draw takes -/
def pkD (n : Nat) (w0 : Nat → Nat) (seed : Int64) (k : Nat) : Nat := pickF (DR n w0 seed k).2 (h33 (nxt (DR n w0 seed k).1) % sumN (DR n w0 seed k).2 n) n
/-- a draw of N takes k -/
def isDraw (n : Nat) (w0 : Nat → Nat) (seed : Int64) (N k : Nat) : Prop := k ≤ N ∧ (∀ i, i < k → 0 < sumN (DR n w0 seed i).2 n) ∧ (k = N ∨ sumN (DR n w0 seed k).2 n = 0)
theorem isDraw_uniq {n : Nat} {w0 : Nat → Nat} {seed : Int64} {N k k2 : Nat} (h1 : isDraw n w0 seed N k) (h2 : isDraw n w0 seed N k2) : k = k2 := by
  have key : ∀ a b, isDraw n w0 seed N a → isDraw n w0 seed N b → ¬ a < b := by
    intro a b ha hb hab
    rcases ha.2.2 with e | e
    · have := hb.1; omega
    · have := hb.2.1 a hab; omega
  have := key k k2 h1 h2
  have := key k2 k h2 h1
  omega
theorem pkD_lt {n : Nat} {w0 : Nat → Nat} {seed : Int64} {k : Nat} (h : 0 < sumN (DR n w0 seed k).2 n) : isPick (DR n w0 seed k).2 (h33 (nxt (DR n w0 seed k).1) % sumN (DR n w0 seed k).2 n) (pkD n w0 seed k) ∧ pkD n w0 seed k < n := pickF_rng n (Nat.mod_lt _ h)
theorem ushr33 (x : Int64) : (x.toUInt64 >>> ((nI 33).toInt64.toUInt64 &&& Int64.toUInt64 63)).toInt64 = lN (h33 x) := by
  apply Int64.toBitVec_inj.mp
  apply BitVec.eq_of_toNat_eq
  have e : ((nI 33).toInt64.toUInt64 &&& Int64.toUInt64 63) = (33 : UInt64) := by decide
  rw [e]
  have h2 : (lN (h33 x)).toBitVec.toNat = h33 x := by
    have := h33_lt x
    show (BitVec.ofNat 64 (h33 x)).toNat = h33 x
    rw [BitVec.toNat_ofNat]
    exact Nat.mod_eq_of_lt (by omega)
  rw [h2]
  show (x.toBitVec >>> (33 : Nat)).toNat = h33 x
  rw [BitVec.toNat_ushiftRight, Nat.shiftRight_eq_div_pow]
  rfl
theorem w_up {wq wt sh : Nat → Nat} {i : Nat} (h : ∀ j, j < i → wq j = wt (sh j)) : ∀ j, j < i + 1 → va_up wq i (wt (sh i)) j = wt (sh j) := fun j hj => by
  by_cases e : j = i
  · rw [e]; exact if_pos rfl
  · rw [show va_up wq i (wt (sh i)) j = wq j from if_neg e]; exact h j (by omega)
theorem dr_le {n : Nat} {wt sh : Nat → Nat} {sd : Int64} (hwt : ∀ j, j < 10 → wt j ≤ 2520) (hsh : ∀ j, j < n → sh j < 10) : ∀ {i : Nat} (j : Nat), j < n → (DR n (fun j => wt (sh j)) sd i).2 j ≤ 2520
  | 0, j, hj => hwt _ (hsh j hj)
  | i + 1, j, hj => by
    rw [DR]
    show va_up _ _ 0 j ≤ 2520
    unfold va_up
    split
    · omega
    · exact dr_le hwt hsh j hj
theorem dr_up {n : Nat} {w0 wq : Nat → Nat} {sd x : Int64} {i : Nat} (hx : x = (DR n w0 sd i).1) (hw : ∀ j, j < n → wq j = (DR n w0 sd i).2 j) : ∀ j, j < n → va_up wq (pickF wq (h33 (nxt x) % sumN wq n) n) 0 j = (DR n w0 sd (i + 1)).2 j := fun j hj => by
  rw [DR]
  show _ = va_up _ _ 0 j
  rw [hx, sumN_congr n hw, pickF_congr n hw]
  unfold va_up
  split
  · rfl
  · exact hw j hj
theorem pk_up {tq : Nat → Nat} {i n p : Nat} {f : Nat → Nat} (h : ∀ j, j < i → tq j = f j ∧ tq j < n) (hp : p = f i) (hn : p < n) : ∀ j, j < i + 1 → va_up tq i p j = f j ∧ va_up tq i p j < n := fun j hj => by
  by_cases e : j = i
  · rw [show va_up tq i p j = p from if_pos e, e]; exact ⟨hp, hn⟩
  · rw [show va_up tq i p j = tq j from if_neg e]; exact h j (by omega)
theorem const_up {f : Nat → Nat} {i c : Nat} (h : ∀ j, j < i → f j = c) : ∀ j, j < i + 1 → va_up f i c j = c := fun j hj => by
  by_cases e : j = i
  · exact if_pos e
  · rw [show va_up f i c j = f j from if_neg e]; exact h j (by omega)
