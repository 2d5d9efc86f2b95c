/-! the reference's camera and odds -/
def cand (ms : Nat → Nat) (x : Int32) (wq : Nat → Bool) (j : Nat) : Prop := nI (ms j) = x ∧ wq j = false
/-- minutes of the pages not watched yet -/
def cr (ms mg : Nat → Nat) (x : Int32) (wq : Nat → Bool) : Nat → List Nat
  | 0 => []
  | i + 1 => if nI (ms i) = x ∧ wq i = false then cr ms mg x wq i ++ [cost (mg i)] else cr ms mg x wq i
theorem cr_false {ms mg : Nat → Nat} {x : Int32} {wq : Nat → Bool} : ∀ n, (∀ j, j < n → wq j = false) → cr ms mg x wq n = cl ms mg x n
  | 0, _ => rfl
  | n + 1, h => by
    rw [cr, cl, cr_false n (fun j hj => h j (by omega))]
    by_cases e : nI (ms n) = x
    · rw [if_pos ⟨e, h n (Nat.lt_succ_self n)⟩, if_pos e]
    · rw [if_neg (fun z => e z.1), if_neg e]
theorem cr_low {ms mg : Nat → Nat} {x : Int32} {wq : Nat → Bool} {p : Nat} {v : Bool} : ∀ n, n ≤ p → cr ms mg x (va_up wq p v) n = cr ms mg x wq n
  | 0, _ => rfl
  | n + 1, h => by rw [cr, cr, cr_low n (by omega), show va_up wq p v n = wq n from if_neg (by omega)]
theorem cr_up {ms mg : Nat → Nat} {x : Int32} {wq : Nat → Bool} {p : Nat} (hc : cand ms x wq p) : ∀ n, p < n → (cr ms mg x wq n).Perm (cost (mg p) :: cr ms mg x (va_up wq p true) n)
  | 0, h => absurd h (by omega)
  | n + 1, h => by
    by_cases e : n = p
    · subst e
      rw [cr, cr, if_pos (show nI (ms n) = x ∧ wq n = false from hc), if_neg (show ¬ (nI (ms n) = x ∧ va_up wq n true n = false) from fun z => by rw [show va_up wq n true n = true from if_pos rfl] at z; exact absurd z.2 (by decide)), cr_low n (Nat.le_refl _)]
      exact List.perm_append_singleton _ _
    · have ih := cr_up (mg := mg) hc n (by omega)
      rw [cr, cr, show va_up wq p true n = wq n from if_neg e]
      split
      · exact (ih.append_right _)
      · exact ih
theorem cr_mem {ms mg : Nat → Nat} {x : Int32} {wq : Nat → Bool} {a : Nat} : ∀ n, a ∈ cr ms mg x wq n → ∃ j, j < n ∧ cand ms x wq j ∧ a = cost (mg j)
  | 0, h => by cases h
  | n + 1, h => by
    rw [cr] at h
    split at h
    · rename_i hc
      rcases List.mem_append.mp h with h | h
      · obtain ⟨j, h1, h2⟩ := cr_mem n h
        exact ⟨j, by omega, h2⟩
      · exact ⟨n, Nat.lt_succ_self n, hc, List.mem_singleton.mp h⟩
    · obtain ⟨j, h1, h2⟩ := cr_mem n h
      exact ⟨j, by omega, h2⟩
theorem cost_mono {a b : Nat} (h : a ≤ b) : cost a ≤ cost b := by
  unfold cost
  have := Nat.div_le_div_right (c := 100000) (show a + 100000 - 1 ≤ b + 100000 - 1 by omega)
  omega
/-- the page of the least grams so far -/
def minO (ms mg : Nat → Nat) (x : Int32) (wq : Nat → Bool) (i : Nat) (o : Option Nat) : Prop := match o with
  | none => ∀ j, j < i → ¬ cand ms x wq j
  | some m => m < i ∧ cand ms x wq m ∧ ∀ j, j < i → cand ms x wq j → mg m ≤ mg j
theorem minO_0 {ms mg : Nat → Nat} {x : Int32} {wq : Nat → Bool} : minO ms mg x wq 0 none := fun _ h => absurd h (by omega)
theorem minO_no {ms mg : Nat → Nat} {x : Int32} {wq : Nat → Bool} {i : Nat} {o : Option Nat} (h : minO ms mg x wq i o) (hc : ¬ cand ms x wq i) : minO ms mg x wq (i + 1) o := by
  cases o with
  | none =>
    intro j hj
    by_cases e : j = i
    · rw [e]; exact hc
    · exact h j (by omega)
  | some m =>
    refine ⟨by have := h.1; omega, h.2.1, fun j hj hcj => ?_⟩
    by_cases e : j = i
    · rw [e] at hcj; exact absurd hcj hc
    · exact h.2.2 j (by omega) hcj
theorem minO_keep {ms mg : Nat → Nat} {x : Int32} {wq : Nat → Bool} {i m : Nat} (h : minO ms mg x wq i (some m)) (hg : mg m ≤ mg i) : minO ms mg x wq (i + 1) (some m) := ⟨by have := h.1; omega, h.2.1, fun j hj hcj => by
  by_cases e : j = i
  · rw [e]; exact hg
  · exact h.2.2 j (by omega) hcj⟩
theorem minO_first {ms mg : Nat → Nat} {x : Int32} {wq : Nat → Bool} {i : Nat} (h : minO ms mg x wq i none) (hc : cand ms x wq i) : minO ms mg x wq (i + 1) (some i) := ⟨Nat.lt_succ_self i, hc, fun j hj hcj => by
  by_cases e : j = i
  · rw [e]; exact Nat.le_refl _
  · exact absurd hcj (h j (by omega))⟩
theorem minO_less {ms mg : Nat → Nat} {x : Int32} {wq : Nat → Bool} {i m : Nat} (h : minO ms mg x wq i (some m)) (hc : cand ms x wq i) (hg : mg i < mg m) : minO ms mg x wq (i + 1) (some i) := ⟨Nat.lt_succ_self i, hc, fun j hj hcj => by
  by_cases e : j = i
  · rw [e]; exact Nat.le_refl _
  · exact Nat.le_trans (Nat.le_of_lt hg) (h.2.2 j (by omega) hcj)⟩
theorem cam_none {ms mg : Nat → Nat} {x : Int32} {wq : Nat → Bool} {n : Nat} {t : List Nat} (h : minO ms mg x wq n none) (hp : t.Perm (cr ms mg x wq n)) : t = [] := by
  cases t with
  | nil => rfl
  | cons a t =>
    obtain ⟨j, h1, h2, -⟩ := cr_mem n (hp.subset List.mem_cons_self)
    exact absurd h2 (h j h1)
theorem cam_some {ms mg : Nat → Nat} {x : Int32} {wq : Nat → Bool} {n m : Nat} {t : List Nat} (h : minO ms mg x wq n (some m)) (hs : t.Pairwise (· ≤ ·)) (hp : t.Perm (cr ms mg x wq n)) : ∃ t2, t = cost (mg m) :: t2 ∧ t2.Pairwise (· ≤ ·) ∧ t2.Perm (cr ms mg x (va_up wq m true) n) := by
  have hp2 := hp.trans (cr_up (mg := mg) h.2.1 n h.1)
  cases t with
  | nil => exact absurd hp2.length_eq (by simp)
  | cons a t =>
    obtain ⟨j, h1, h2, h3⟩ := cr_mem n (hp.subset List.mem_cons_self)
    have l1 : cost (mg m) ≤ a := by rw [h3]; exact cost_mono (h.2.2 j h1 h2)
    have l2 : a ≤ cost (mg m) := by
      have hm : cost (mg m) ∈ a :: t := hp2.symm.subset List.mem_cons_self
      rcases List.mem_cons.mp hm with e | e
      · rw [e]; exact Nat.le_refl _
      · exact List.rel_of_pairwise_cons hs e
    have e : a = cost (mg m) := Nat.le_antisymm l2 l1
    subst e
    exact ⟨t, rfl, hs.tail, hp2.cons_inv⟩
theorem ins_ex (a : Nat) : ∀ s : List Nat, s.Pairwise (· ≤ ·) → ∃ t : List Nat, t.Pairwise (· ≤ ·) ∧ t.Perm (a :: s)
  | [], _ => ⟨[a], List.pairwise_singleton _ _, List.Perm.refl _⟩
  | b :: s, h => by
    by_cases e : a ≤ b
    · refine ⟨a :: b :: s, List.Pairwise.cons (fun x hx => ?_) h, List.Perm.refl _⟩
      rcases List.mem_cons.mp hx with z | z
      · rw [z]; exact e
      · exact Nat.le_trans e (List.rel_of_pairwise_cons h z)
    · obtain ⟨t, h1, h2⟩ := ins_ex a s h.tail
      refine ⟨b :: t, List.Pairwise.cons (fun x hx => ?_) h1, (h2.cons b).trans (List.Perm.swap _ _ _)⟩
      rcases List.mem_cons.mp (h2.subset hx) with z | z
      · rw [z]; omega
      · exact List.rel_of_pairwise_cons h z
theorem sort_ex : ∀ l : List Nat, ∃ s : List Nat, s.Pairwise (· ≤ ·) ∧ s.Perm l
  | [] => ⟨[], List.Pairwise.nil, List.Perm.refl _⟩
  | a :: l => by
    obtain ⟨s, h1, h2⟩ := sort_ex l
    obtain ⟨t, h3, h4⟩ := ins_ex a s h1
    exact ⟨t, h3, h4.trans (h2.cons a)⟩
theorem grS_le : ∀ (s : List Nat) (x : Int), grS s x ≤ s.length
  | [], _ => Nat.le_refl _
  | a :: t, x => by
    rw [grS]
    split
    · have := grS_le t (x - a)
      simp only [List.length_cons]
      omega
    · exact Nat.zero_le _
theorem cl_len {ms mg : Nat → Nat} {x : Int32} : ∀ n, (cl ms mg x n).length ≤ n
  | 0 => Nat.le_refl _
  | n + 1 => by
    have := cl_len (ms := ms) (mg := mg) (x := x) n
    rw [cl]
    split
    · simp only [List.length_append, List.length_singleton]; omega
    · omega
theorem chs_0 : ∀ n, n < 31 → chs n 0 = 1 := by decide +kernel
theorem chs_pas : ∀ n, n < 31 → ∀ k, k < 31 → 1 ≤ k → k ≤ n → chs n k = chs (n - 1) (k - 1) + (if k < n then chs (n - 1) k else 0) := by decide +kernel
theorem chs_pos : ∀ n, n < 31 → ∀ k, k < 31 → k ≤ n → 1 ≤ chs n k := by decide +kernel
theorem gcdF_eq : ∀ m k a b, b < 2 ^ m → 2 * m + 1 ≤ k → gcdF k a b = Nat.gcd a b
  | 0, k + 1, a, b, hb, _ => by
    have : b = 0 := by omega
    subst this
    rw [gcdF, if_pos rfl, Nat.gcd_zero_right]
  | 0, 0, _, _, _, h => absurd h (by omega)
  | m + 1, 0, _, _, _, h => absurd h (by omega)
  | m + 1, 1, _, _, _, h => absurd h (by omega)
  | m + 1, k + 2, a, b, hb, hk => by
    have g : ∀ a b, Nat.gcd b (a % b) = Nat.gcd a b := fun a b => by rw [Nat.gcd_comm b, ← Nat.gcd_rec, Nat.gcd_comm]
    rw [gcdF]
    by_cases e : b = 0
    · rw [if_pos e, e, Nat.gcd_zero_right]
    · rw [if_neg e, gcdF]
      by_cases e2 : a % b = 0
      · rw [if_pos e2, ← g a b, e2, Nat.gcd_zero_right]
      · rw [if_neg e2]
        have h1 : a % b < b := Nat.mod_lt _ (by omega)
        have h2 : b % (a % b) < a % b := Nat.mod_lt _ (by omega)
        have h3 : b % (a % b) + a % b ≤ b := by
          have := Nat.div_add_mod b (a % b)
          have h4 : 1 ≤ b / (a % b) := (Nat.one_le_div_iff (by omega)).mpr (by omega)
          have h5 : a % b * 1 ≤ a % b * (b / (a % b)) := Nat.mul_le_mul_left _ h4
          omega
        have h6 : 2 ^ (m + 1) = 2 ^ m + 2 ^ m := by rw [Nat.pow_succ]; omega
        rw [gcdF_eq m k (a % b) (b % (a % b)) (by omega) (by omega), g, g]
/-- the odds as the reference reckons them -/
def misM (n a b p0 : Nat) : Nat := if n - b < a then p0 else (if p0 = 0 then chs (n - b) a else chs n a) / Nat.gcd (chs n a) (chs (n - b) a)
theorem mis_eq {n a b p0 : Nat} (hn : n ≤ 30) (ha : a ≤ n) (hb : b ≤ n) (hp : p0 ≤ 1) : misN n a b p0 = misM n a b p0 := by
  have hB := chs_pos n (by omega) a (by omega) ha
  have hl := chs_le (a := n) (s := a) (by omega) (by omega)
  have hg : gcdF 128 (chs (n - b) a) (chs n a) = Nat.gcd (chs (n - b) a) (chs n a) := gcdF_eq 28 128 _ _ (by omega) (by omega)
  unfold misN misM
  rw [hg]
  have hpos : 0 < Nat.gcd (chs (n - b) a) (chs n a) := Nat.gcd_pos_of_pos_right _ (by omega)
  rw [if_pos hpos]
  by_cases e : n - b < a
  · have h0 : chs (n - b) a = 0 := if_pos e
    rw [if_pos e, h0, Nat.gcd_zero_left]
    by_cases z : p0 = 0
    · rw [if_pos z, z, Nat.zero_div]
    · rw [if_neg z, Nat.div_self (by omega)]; omega
  · rw [if_neg e, Nat.gcd_comm]
theorem gcd_step (a b : Nat) : Nat.gcd b (a % b) = Nat.gcd a b := by rw [Nat.gcd_comm b, ← Nat.gcd_rec, Nat.gcd_comm]
theorem tab_keep0 {cq : Nat → Nat} {i : Nat} (hi : i ≤ 30) (h : ∀ a s, a < i → s ≤ a → cq (31 * a + s) = chs a s) : ∀ a s, a < i → s ≤ a → va_up cq (31 * i) 1 (31 * a + s) = chs a s := fun a s h1 h2 => by
  rw [show va_up cq (31 * i) 1 (31 * a + s) = cq (31 * a + s) from if_neg (by omega)]; exact h a s h1 h2
theorem row_0 {cq : Nat → Nat} {i : Nat} (hi : i ≤ 30) : ∀ s, s ≤ 0 → va_up cq (31 * i) 1 (31 * i + s) = chs i s := fun s hs => by
  rw [show s = 0 by omega, Nat.add_zero, show va_up cq (31 * i) 1 (31 * i) = 1 from if_pos rfl, chs_0 i (by omega)]
theorem tab_keep {cq : Nat → Nat} {i j v : Nat} (h : ∀ a s, a < i → s ≤ a → cq (31 * a + s) = chs a s) (hj : j < i) (hi : i ≤ 30) : ∀ a s, a < i → s ≤ a → va_up cq (31 * i + (j + 1)) v (31 * a + s) = chs a s := fun a s h1 h2 => by
  rw [show va_up cq (31 * i + (j + 1)) v (31 * a + s) = cq (31 * a + s) from if_neg (by omega)]; exact h a s h1 h2
theorem row_s {cq : Nat → Nat} {i j v : Nat} (h : ∀ s, s ≤ j → cq (31 * i + s) = chs i s) (hv : v = chs i (j + 1)) : ∀ s, s ≤ j + 1 → va_up cq (31 * i + (j + 1)) v (31 * i + s) = chs i s := fun s hs => by
  by_cases e : s = j + 1
  · rw [e, show va_up cq (31 * i + (j + 1)) v (31 * i + (j + 1)) = v from if_pos rfl]; exact hv
  · rw [show va_up cq (31 * i + (j + 1)) v (31 * i + s) = cq (31 * i + s) from if_neg (by omega)]; exact h s (by omega)
theorem pas_lt {cq : Nat → Nat} {i j : Nat} (h : ∀ a s, a < i → s ≤ a → cq (31 * a + s) = chs a s) (hi : i ≤ 30) (hj : j + 1 < i) : chs i (j + 1) = cq (31 * (i - 1) + (j + 1) - 1) + cq (31 * (i - 1) + (j + 1)) := by
  rw [chs_pas i (by omega) (j + 1) (by omega) (by omega) (by omega), if_pos hj, show 31 * (i - 1) + (j + 1) - 1 = 31 * (i - 1) + j by omega, h (i - 1) j (by omega) (by omega), h (i - 1) (j + 1) (by omega) (by omega), Nat.add_sub_cancel]
theorem pas_eq {cq : Nat → Nat} {i j : Nat} (h : ∀ a s, a < i → s ≤ a → cq (31 * a + s) = chs a s) (hi : i ≤ 30) (hj : j + 1 = i) : chs i (j + 1) = cq (31 * (i - 1) + (j + 1) - 1) + 0 := by
  rw [chs_pas i (by omega) (j + 1) (by omega) (by omega) (by omega), if_neg (by omega), show 31 * (i - 1) + (j + 1) - 1 = 31 * (i - 1) + j by omega, h (i - 1) j (by omega) (by omega), Nat.add_sub_cancel]
