/-! minutes of a camera, and odds, over naturals -/
def lstF (f : Nat → Nat) : Nat → Nat → List Nat
  | _, 0 => []
  | a, n + 1 => f a :: lstF f (a + 1) n
theorem lstF_add (f : Nat → Nat) : ∀ (m a n : Nat), lstF f a (m + n) = lstF f a m ++ lstF f (a + m) n
  | 0, a, n => by rw [Nat.zero_add]; rfl
  | m + 1, a, n => by
    rw [show m + 1 + n = (m + n) + 1 by omega, lstF, lstF, lstF_add f m (a + 1) n, show a + 1 + m = a + (m + 1) by omega]
    rfl
theorem lstF_congr {f g : Nat → Nat} : ∀ (n a : Nat), (∀ j, a ≤ j → j < a + n → f j = g j) → lstF f a n = lstF g a n
  | 0, _, _ => rfl
  | n + 1, a, h => by rw [lstF, lstF, h a (Nat.le_refl _) (by omega), lstF_congr n (a + 1) (fun j h1 h2 => h j (by omega) (by omega))]
theorem lstF_swap {f g : Nat → Nat} {c q : Nat} (hq : q < c) (h1 : g q = f (q + 1)) (h2 : g (q + 1) = f q) (h : ∀ j, j ≠ q → j ≠ q + 1 → g j = f j) : (lstF g 0 (c + 1)).Perm (lstF f 0 (c + 1)) := by
  have e : ∀ k : Nat → Nat, lstF k 0 (c + 1) = lstF k 0 q ++ (k q :: k (q + 1) :: lstF k (q + 2) (c - q - 1)) := fun k => by
    rw [show c + 1 = q + ((c - q - 1) + 1 + 1) by omega, lstF_add, Nat.zero_add, lstF, lstF]
  rw [e g, e f, h1, h2, lstF_congr (f := g) (g := f) q 0 (fun j _ h3 => h j (by omega) (by omega)), lstF_congr (f := g) (g := f) (c - q - 1) (q + 2) (fun j h3 _ => h j (by omega) (by omega))]
  exact List.Perm.append_left _ (List.Perm.swap _ _ _)
def sortedN (f : Nat → Nat) (c : Nat) : Prop := ∀ i j, i < j → j < c → f i ≤ f j
theorem sorted_pw {f : Nat → Nat} : ∀ (n a : Nat), (∀ i j, a ≤ i → i < j → j < a + n → f i ≤ f j) → (lstF f a n).Pairwise (· ≤ ·)
  | 0, _, _ => List.Pairwise.nil
  | n + 1, a, h => by
    rw [lstF]
    refine List.Pairwise.cons (fun x hx => ?_) (sorted_pw n (a + 1) (fun i j h1 h2 h3 => h i j (by omega) h2 (by omega)))
    have key : ∀ (n b : Nat), x ∈ lstF f b n → ∃ j, b ≤ j ∧ j < b + n ∧ x = f j := by
      intro n
      induction n with
      | zero => intro b hb; cases hb
      | succ n ih =>
        intro b hb
        rw [lstF] at hb
        rcases List.mem_cons.mp hb with e | hb
        · exact ⟨b, Nat.le_refl _, by omega, e⟩
        · obtain ⟨j, h1, h2, h3⟩ := ih (b + 1) hb
          exact ⟨j, by omega, by omega, h3⟩
    obtain ⟨j, h1, h2, rfl⟩ := key n (a + 1) hx
    exact h a j (Nat.le_refl _) (by omega) (by omega)
theorem sortedN_pw {f : Nat → Nat} {c : Nat} (h : sortedN f c) : (lstF f 0 c).Pairwise (· ≤ ·) := sorted_pw c 0 (fun i j _ h2 h3 => h i j h2 (by omega))
/-- the state of an insertion: v stands at q -/
def insI (mn mq : Nat → Nat) (c v q : Nat) : Prop := q ≤ c ∧ (∀ j, j < q → mq j = mn j) ∧ (∀ j, q < j → j ≤ c → mq j = mn (j - 1) ∧ v < mn (j - 1)) ∧ (lstF (va_up mq q v) 0 (c + 1)).Perm (v :: lstF mn 0 c)
theorem ins_0 {mn : Nat → Nat} {c v : Nat} : insI mn mn c v c := by
  refine ⟨Nat.le_refl _, fun _ _ => rfl, fun j h1 h2 => absurd h1 (by omega), ?_⟩
  rw [lstF_add (va_up mn c v) c 0 1, Nat.zero_add]
  have e : lstF (va_up mn c v) c 1 = [v] := by
    show [va_up mn c v c] = [v]
    rw [show va_up mn c v c = v from if_pos rfl]
  rw [e, lstF_congr (f := va_up mn c v) (g := mn) c 0 (fun j _ h => if_neg (by omega))]
  exact List.perm_append_singleton _ _
theorem ins_s {mn mq : Nat → Nat} {c v q : Nat} (h : insI mn mq c v q) (hq : 0 < q) (hv : v < mq (q - 1)) : insI mn (va_up mq q (mq (q - 1))) c v (q - 1) := by
  obtain ⟨h1, h2, h3, h4⟩ := h
  refine ⟨by omega, fun j hj => ?_, fun j hj hc => ?_, ?_⟩
  · rw [show va_up mq q (mq (q - 1)) j = mq j from if_neg (by omega)]
    exact h2 j (by omega)
  · by_cases e : j = q
    · subst e
      rw [show va_up mq j (mq (j - 1)) j = mq (j - 1) from if_pos rfl, ← h2 (j - 1) (by omega)]
      exact ⟨rfl, hv⟩
    · rw [show va_up mq q (mq (q - 1)) j = mq j from if_neg e]
      exact h3 j (by omega) hc
  · refine List.Perm.trans ?_ h4
    refine lstF_swap (q := q - 1) (by omega) ?_ ?_ (fun j e1 e2 => ?_)
    · rw [show q - 1 + 1 = q by omega, show va_up (va_up mq q (mq (q - 1))) (q - 1) v (q - 1) = v from if_pos rfl, show va_up mq q v q = v from if_pos rfl]
    · rw [show q - 1 + 1 = q by omega, show va_up (va_up mq q (mq (q - 1))) (q - 1) v q = va_up mq q (mq (q - 1)) q from if_neg (by omega), show va_up mq q (mq (q - 1)) q = mq (q - 1) from if_pos rfl, show va_up mq q v (q - 1) = mq (q - 1) from if_neg (by omega)]
    · rw [show va_up (va_up mq q (mq (q - 1))) (q - 1) v j = va_up mq q (mq (q - 1)) j from if_neg e1, show va_up mq q (mq (q - 1)) j = mq j from if_neg (by omega), show va_up mq q v j = mq j from if_neg (by omega)]
theorem ins_e {mn mq : Nat → Nat} {c v q : Nat} (h : insI mn mq c v q) (hs : sortedN mn c) (hq : q = 0 ∨ mq (q - 1) ≤ v) : sortedN (va_up mq q v) (c + 1) := by
  obtain ⟨h1, h2, h3, -⟩ := h
  have val : ∀ j, j ≤ c → (j < q ∧ va_up mq q v j = mn j) ∨ (j = q ∧ va_up mq q v j = v) ∨ (q < j ∧ va_up mq q v j = mn (j - 1) ∧ v < mn (j - 1)) := fun j hj => by
    rcases Nat.lt_trichotomy j q with e | e | e
    · exact Or.inl ⟨e, by rw [show va_up mq q v j = mq j from if_neg (by omega)]; exact h2 j e⟩
    · exact Or.inr (Or.inl ⟨e, if_pos e⟩)
    · exact Or.inr (Or.inr ⟨e, by rw [show va_up mq q v j = mq j from if_neg (by omega)]; exact h3 j e hj⟩)
  intro i j hij hj
  have low : ∀ i, i < q → mn i ≤ v := fun i hi => by
    rcases hq with e | e
    · omega
    · rw [h2 (q - 1) (by omega)] at e
      by_cases z : i = q - 1
      · rw [z]; exact e
      · exact Nat.le_trans (hs i (q - 1) (by omega) (by omega)) e
  rcases val i (by omega) with ⟨a1, a2⟩ | ⟨a1, a2⟩ | ⟨a1, a2, a3⟩ <;> rcases val j (by omega) with ⟨b1, b2⟩ | ⟨b1, b2⟩ | ⟨b1, b2, b3⟩ <;> rw [a2, b2]
  · exact hs i j hij (by omega)
  · exact low i a1
  · exact Nat.le_of_lt (Nat.lt_of_le_of_lt (low i a1) b3)
  · omega
  · omega
  · exact Nat.le_of_lt b3
  · omega
  · omega
  · exact hs (i - 1) (j - 1) (by omega) (by omega)
theorem ins_b {mn mq : Nat → Nat} {c v q B : Nat} (h : insI mn mq c v q) (hb : ∀ j, j < c → mn j ≤ B) (hv : v ≤ B) : ∀ j, j < c + 1 → va_up mq q v j ≤ B := fun j hj => by
  obtain ⟨h1, h2, h3, -⟩ := h
  rcases Nat.lt_trichotomy j q with e | e | e
  · rw [show va_up mq q v j = mq j from if_neg (by omega), h2 j e]; exact hb j (by omega)
  · rw [show va_up mq q v j = v from if_pos e]; exact hv
  · rw [show va_up mq q v j = mq j from if_neg (by omega), (h3 j e (by omega)).1]; exact hb (j - 1) (by omega)
def cost (g : Nat) : Nat := 20 + (g + 100000 - 1) / 100000
theorem cost_le {g : Nat} (h : g ≤ 1000000000) : cost g ≤ 20000 := by
  unfold cost
  have : (g + 100000 - 1) / 100000 ≤ (1000000000 + 100000 - 1) / 100000 := Nat.div_le_div_right (by omega)
  omega
/-- minutes of a ship's pages, by their numbers -/
def cl (sh gr : Nat → Nat) (x : Int32) : Nat → List Nat
  | 0 => []
  | i + 1 => if nI (sh i) = x then cl sh gr x i ++ [cost (gr i)] else cl sh gr x i
def grS : List Nat → Int → Nat
  | [], _ => 0
  | a :: t, x => if (a : Int) ≤ x then grS t (x - a) + 1 else 0
/-- how many of these minutes fit -/
def isCam (l : List Nat) (x : Int) (k : Nat) : Prop := ∃ s : List Nat, s.Pairwise (· ≤ ·) ∧ s.Perm l ∧ k = grS s x
theorem isCam_uniq {l : List Nat} {x : Int} {k k2 : Nat} (h1 : isCam l x k) (h2 : isCam l x k2) : k = k2 := by
  obtain ⟨s, a1, a2, a3⟩ := h1
  obtain ⟨t, b1, b2, b3⟩ := h2
  have : s = t := List.Perm.eq_of_pairwise (fun a b _ _ h3 h4 => Nat.le_antisymm h3 h4) a1 b1 (a2.trans b2.symm)
  rw [a3, b3, this]
/-- choosing, as the class reckons it -/
def chI (a s : Nat) : Nat → Nat
  | 0 => 1
  | i + 1 => chI a s i * (a - s + (i + 1)) / (i + 1)
theorem chI_le : ∀ a, a < 31 → ∀ s, s < 31 → s ≤ a → ∀ i, i < 31 → i ≤ s → chI a s i ≤ 155117520 := by decide +kernel
def chs (a s : Nat) : Nat := if a < s then 0 else chI a s s
def gcdF : Nat → Nat → Nat → Nat
  | 0, a, _ => a
  | k + 1, a, b => if b = 0 then a else gcdF k b (a % b)
theorem lsub_toInt {lf : Int64} {m : Nat} (h : -2147483648 ≤ lf.toInt ∧ lf.toInt < 2147483648) (hm : m ≤ 20000) (_ : ((m : Nat) : Int) ≤ lf.toInt) : (lf - lN m).toInt = lf.toInt - m := by
  rw [Int64.toInt_sub, pk_lT (by omega)]
  rw [Int.bmod_def]
  split <;> omega
theorem chs_le {a s : Nat} (ha : a ≤ 30) (hs : s ≤ 30) : chs a s ≤ 155117520 := by
  unfold chs
  split
  · omega
  · exact chI_le a (by omega) s (by omega) (by omega) s (by omega) (Nat.le_refl _)
theorem gcdF_le : ∀ k a b, gcdF k a b ≤ max a b
  | 0, a, b => Nat.le_max_left a b
  | k + 1, a, b => by
    rw [gcdF]
    split
    · exact Nat.le_max_left a b
    · have h1 := gcdF_le k b (a % b)
      have h2 := Nat.mod_le a b
      omega
/-- the odds, in lowest terms, as the class reckons them -/
def misN (n a b p0 : Nat) : Nat := if 0 < gcdF 128 (chs (n - b) a) (chs n a) then (if p0 = 0 then chs (n - b) a else chs n a) / gcdF 128 (chs (n - b) a) (chs n a) else (if p0 = 0 then chs (n - b) a else chs n a)
theorem bk_nle {x y : Int32} : ¬ x ≤ y ↔ y < x := by rw [Int32.lt_iff_toInt_lt, Int32.le_iff_toInt_le]; omega
