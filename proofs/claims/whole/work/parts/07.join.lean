/-! a row's cell tells no more than its places; the joining of pages and sales -/
theorem cell_int {cA : ClassId} {n : Nat} {f g : Nat → Int32} (h : ∀ j, j < n → f j = g j) : vp_cell cA (n, .inl f) = vp_cell cA (n, .inl g) := by
  have e : (fun j : Fin n => Value.int (f j.val)) = fun j : Fin n => Value.int (g j.val) := funext fun j => by rw [h j.val j.isLt]
  show ({ cls := cA, slots := Array.ofFn (n := n) fun j => Value.int (f j.val), vm := .none } : Cell) = { cls := cA, slots := Array.ofFn (n := n) fun j => Value.int (g j.val), vm := .none }
  rw [e]
theorem cell_long {cA : ClassId} {n : Nat} {f g : Nat → Int64} (h : ∀ j, j < n → f j = g j) : vp_cell cA (n, .inr (.inl f)) = vp_cell cA (n, .inr (.inl g)) := by
  have e : (fun j : Fin n => Value.long (f j.val)) = fun j : Fin n => Value.long (g j.val) := funext fun j => by rw [h j.val j.isLt]
  show ({ cls := cA, slots := Array.ofFn (n := n) fun j => Value.long (f j.val), vm := .none } : Cell) = { cls := cA, slots := Array.ofFn (n := n) fun j => Value.long (g j.val), vm := .none }
  rw [e]
theorem ext_P {D : va_G} {cl : List vw_C} {ws : va_W} {H : Heap} (hP : va_P D cl ws H) (q0 : Nat) {a : Nat} {cA : ClassId} {x y : vp_A} (ha : ws[q0]? = some (a, .inl (cA, x))) (h : vp_cell cA x = vp_cell cA y) : va_P D cl (ws.set q0 (a, .inl (cA, y))) H := by
  intro k q hk
  rw [List.getElem?_set] at hk
  by_cases e : q0 = k
  · subst e
    rw [if_pos rfl] at hk
    split at hk
    · cases hk
      have := hP q0 _ ha
      show H[a]? = some (vp_cell cA y)
      rw [← h]
      exact this
    · cases hk
  · rw [if_neg e] at hk
    exact hP k q hk
theorem ext_D {A : Nat → Prop} {ws : va_W} (hD : va_D A ws) (q0 : Nat) {a : Nat} {e e2 : va_E} (ha : ws[q0]? = some (a, e)) : va_D A (ws.set q0 (a, e2)) := hD.set ha
/-- the points of a pair that may be joined, else 0 -/
def vv (pt : Nat → Nat → Nat) (sp : Nat → Option Nat) (sd : Nat → Bool) (p q : Nat) : Nat := if sp p = none ∧ sd q = false then pt p q else 0
def sdO (ps : Nat → Option Nat) (q : Nat) : Bool := (ps q).isSome
def bO (m x : Nat) : Option Nat := if m = 0 then none else some x
def scI (v : Nat → Nat) (p : Nat) (b : Nat × Nat × Nat) : Nat → Nat × Nat × Nat
  | 0 => b
  | q + 1 => if (scI v p b q).1 < v q then (v q, p, q) else scI v p b q
def scO (v : Nat → Nat → Nat) (n2 : Nat) : Nat → Nat × Nat × Nat
  | 0 => (0, 0, 0)
  | p + 1 => scI (v p) p (scO v n2 p) n2
theorem scI_take {v : Nat → Nat} {p : Nat} {b0 b : Nat × Nat × Nat} {q x : Nat} (h : b = scI v p b0 q) (hv : v q = x) (hx : b.1 < x) : (x, p, q) = scI v p b0 (q + 1) := by
  rw [scI, ← h, hv, if_pos hx]
theorem scI_keep {v : Nat → Nat} {p : Nat} {b0 b : Nat × Nat × Nat} {q x : Nat} (h : b = scI v p b0 q) (hv : v q = x) (hx : x ≤ b.1) : b = scI v p b0 (q + 1) := by
  rw [scI, ← h, hv, if_neg (by omega)]
theorem scI_zero {v : Nat → Nat} {p : Nat} {b : Nat × Nat × Nat} (h : ∀ q, v q = 0) : ∀ n, scI v p b n = b
  | 0 => rfl
  | n + 1 => by rw [scI, scI_zero h n, h n, if_neg (by omega)]
theorem vv_free {pt : Nat → Nat → Nat} {sp ps : Nat → Option Nat} {p q : Nat} (h1 : sp p = none) (h2 : ps q = none) : vv pt sp (sdO ps) p q = pt p q := by
  rw [vv, if_pos ⟨h1, by rw [sdO, h2]; rfl⟩]
theorem vv_sold {pt : Nat → Nat → Nat} {sp ps : Nat → Option Nat} {p q : Nat} (h2 : ¬ ps q = none) : vv pt sp (sdO ps) p q = 0 := by
  rw [vv, if_neg]
  rintro ⟨-, h⟩
  rw [sdO] at h
  cases e : ps q with
  | none => exact h2 e
  | some k => rw [e] at h; cases h
theorem scO_skip {pt : Nat → Nat → Nat} {sp : Nat → Option Nat} {sd : Nat → Bool} {n2 p : Nat} (h : ¬ sp p = none) : scO (vv pt sp sd) n2 (p + 1) = scO (vv pt sp sd) n2 p := by
  rw [scO]
  exact scI_zero (fun q => by rw [vv, if_neg (fun z => h z.1)]) _
theorem scI_val {v : Nat → Nat → Nat} {n2 p : Nat} {b : Nat × Nat × Nat} (hb : b.1 = 0 ∨ (b.2.1 < p + 1 ∧ b.2.2 < n2 ∧ v b.2.1 b.2.2 = b.1)) : ∀ q, q ≤ n2 → (scI (v p) p b q).1 = 0 ∨ ((scI (v p) p b q).2.1 < p + 1 ∧ (scI (v p) p b q).2.2 < n2 ∧ v (scI (v p) p b q).2.1 (scI (v p) p b q).2.2 = (scI (v p) p b q).1)
  | 0, _ => hb
  | q + 1, h => by
    rw [scI]
    split
    · exact Or.inr ⟨Nat.lt_succ_self p, by show q < n2; omega, rfl⟩
    · exact scI_val hb q (by omega)
theorem scO_val (v : Nat → Nat → Nat) (n2 : Nat) : ∀ n, (scO v n2 n).1 = 0 ∨ ((scO v n2 n).2.1 < n ∧ (scO v n2 n).2.2 < n2 ∧ v (scO v n2 n).2.1 (scO v n2 n).2.2 = (scO v n2 n).1)
  | 0 => Or.inl rfl
  | n + 1 => by
    rw [scO]
    refine scI_val ?_ n2 (Nat.le_refl _)
    rcases scO_val v n2 n with h | ⟨h1, h2, h3⟩
    · exact Or.inl h
    · exact Or.inr ⟨by omega, h2, h3⟩
abbrev JT : Type := (Nat → Option Nat) × (Nat → Bool)
def jbest (pt : Nat → Nat → Nat) (n n2 : Nat) (s : JT) : Nat × Nat × Nat := scO (vv pt s.1 s.2) n2 n
def jstep (pt : Nat → Nat → Nat) (n n2 : Nat) (s : JT) : JT := (va_up s.1 (jbest pt n n2 s).2.1 (some (jbest pt n n2 s).2.2), va_up s.2 (jbest pt n n2 s).2.2 true)
/-- after i joinings -/
def JS (pt : Nat → Nat → Nat) (n n2 : Nat) : Nat → JT
  | 0 => (fun _ => none, fun _ => false)
  | i + 1 => jstep pt n n2 (JS pt n n2 i)
def more (pt : Nat → Nat → Nat) (n n2 i : Nat) : Prop := ∀ k, k < i → (jbest pt n n2 (JS pt n n2 k)).1 ≠ 0
/-- the joining ends behind i -/
def isRun (pt : Nat → Nat → Nat) (n n2 i : Nat) : Prop := (jbest pt n n2 (JS pt n n2 i)).1 = 0 ∧ more pt n n2 i
def cntO (f : Nat → Option Nat) : Nat → Nat
  | 0 => 0
  | i + 1 => cntO f i + (if f i = none then 0 else 1)
theorem cntO_le (f : Nat → Option Nat) : ∀ n, cntO f n ≤ n
  | 0 => Nat.le_refl 0
  | n + 1 => by
    have := cntO_le f n
    rw [cntO]
    split <;> omega
theorem cntO_none : ∀ n, cntO (fun _ => none) n = 0
  | 0 => rfl
  | n + 1 => by rw [cntO, cntO_none n]; rfl
theorem cntO_out {f : Nat → Option Nat} {p : Nat} {x : Option Nat} : ∀ n, n ≤ p → cntO (va_up f p x) n = cntO f n
  | 0, _ => rfl
  | n + 1, h => by
    rw [cntO, cntO, cntO_out n (by omega), show va_up f p x n = f n from if_neg (by omega)]
theorem cntO_up {f : Nat → Option Nat} {p q : Nat} (hf : f p = none) : ∀ n, p < n → cntO (va_up f p (some q)) n = cntO f n + 1
  | 0, h => absurd h (by omega)
  | n + 1, h => by
    rw [cntO, cntO]
    by_cases e : n = p
    · subst e
      rw [cntO_out n (Nat.le_refl _), show va_up f n (some q) n = some q from if_pos rfl, hf]
      rfl
    · rw [cntO_up hf n (by omega), show va_up f p (some q) n = f n from if_neg e]
      omega
theorem js_cnt {pt : Nat → Nat → Nat} {n n2 : Nat} : ∀ i, more pt n n2 i → cntO (JS pt n n2 i).1 n = i
  | 0, _ => cntO_none n
  | i + 1, h => by
    have h0 := h i (Nat.lt_succ_self i)
    have ih := js_cnt i (fun k hk => h k (by omega))
    rcases scO_val (vv pt (JS pt n n2 i).1 (JS pt n n2 i).2) n2 n with e | ⟨e1, e2, e3⟩
    · exact absurd e h0
    · have hf : (JS pt n n2 i).1 (jbest pt n n2 (JS pt n n2 i)).2.1 = none := by
        by_cases z : (JS pt n n2 i).1 (jbest pt n n2 (JS pt n n2 i)).2.1 = none
        · exact z
        · refine absurd ?_ h0
          show (scO _ n2 n).1 = 0
          rw [← e3, vv, if_neg (fun y => z y.1)]
      show cntO (va_up _ _ _) n = i + 1
      rw [cntO_up hf n e1, ih]
theorem js_le {pt : Nat → Nat → Nat} {n n2 i : Nat} (h : more pt n n2 i) : i ≤ n := by
  have h1 := js_cnt i h
  have h2 := cntO_le (JS pt n n2 i).1 n
  omega
theorem js_end {pt : Nat → Nat → Nat} {n n2 i : Nat} (h : more pt n n2 i) (hi : n ≤ i) : (jbest pt n n2 (JS pt n n2 i)).1 = 0 := by
  by_cases z : (jbest pt n n2 (JS pt n n2 i)).1 = 0
  · exact z
  · have : more pt n n2 (i + 1) := fun k hk => by
      by_cases e : k = i
      · rw [e]; exact z
      · exact h k (by omega)
    have := js_le this
    omega
theorem isRun_uniq {pt : Nat → Nat → Nat} {n n2 i j : Nat} (h1 : isRun pt n n2 i) (h2 : isRun pt n n2 j) : i = j := by
  rcases Nat.lt_trichotomy i j with h | h | h
  · exact absurd h1.1 (h2.2 i h)
  · exact h
  · exact absurd h2.1 (h1.2 j h)
theorem sdO_up (ps : Nat → Option Nat) (q p : Nat) : sdO (va_up ps q (some p)) = va_up (sdO ps) q true := by
  funext j
  by_cases h : j = q
  · subst h; simp [sdO, va_up]
  · simp [sdO, va_up, h]
theorem ptOf_le {sh dy kd gr sh2 dy2 kd2 gr2 : Nat → Nat} {p q : Nat} : ptOf sh dy kd gr sh2 dy2 kd2 gr2 p q ≤ 1000 := pts_le
/-- how many before i -/
def cntB (f : Nat → Bool) : Nat → Nat
  | 0 => 0
  | i + 1 => cntB f i + (if f i = true then 1 else 0)
theorem cntB_no {f : Nat → Bool} {b i : Nat} (h : b = cntB f i) (hf : f i = false) : b = cntB f (i + 1) := by rw [cntB, hf, h]; rfl
theorem cntB_yes {f : Nat → Bool} {b i : Nat} (h : b = cntB f i) (hf : f i = true) : b + 1 = cntB f (i + 1) := by rw [cntB, hf, h]; rfl
theorem cntB_le (f : Nat → Bool) : ∀ n, cntB f n ≤ n
  | 0 => Nat.le_refl 0
  | n + 1 => by
    have := cntB_le f n
    rw [cntB]
    split <;> omega
theorem cntB_mono (f : Nat → Bool) {i : Nat} : ∀ j, i ≤ j → cntB f i ≤ cntB f j
  | 0, h => by rw [show i = 0 by omega]; exact Nat.le_refl _
  | j + 1, h => by
    by_cases e : i = j + 1
    · rw [e]; exact Nat.le_refl _
    · have := cntB_mono f (i := i) j (by omega)
      rw [cntB]
      omega
/-- the k-th place that has it, if there is one below n -/
def kth (f : Nat → Bool) (n : Nat) (k : Int32) (r : Option Nat) : Prop := match r with
  | some p => p < n ∧ f p = true ∧ nI (cntB f p) = k
  | none => ∀ p, p < n → f p = true → ¬ nI (cntB f p) = k
theorem kth_uniq {f : Nat → Bool} {n : Nat} (hn : n < 2 ^ 31) {k : Int32} {r r2 : Option Nat} (h1 : kth f n k r) (h2 : kth f n k r2) : r = r2 := by
  have key : ∀ a b, kth f n k (some a) → kth f n k (some b) → ¬ a < b := by
    intro a b ⟨x1, x2, x3⟩ ⟨y1, y2, y3⟩ hab
    have e := x3.trans y3.symm
    have q1 := cntB_le f a
    have q2 := cntB_le f b
    have e := (nI_eq (by omega) (by omega)).mp e
    have m := cntB_mono f b (i := a + 1) hab
    rw [cntB, x2] at m
    simp only [if_true] at m
    omega
  cases r with
  | none =>
    cases r2 with
    | none => rfl
    | some b => exact absurd h2.2.2 (h1 b h2.1 h2.2.1)
  | some a =>
    cases r2 with
    | none => exact absurd h1.2.2 (h2 a h1.1 h1.2.1)
    | some b =>
      have k1 := key a b h1 h2
      have k2 := key b a h2 h1
      rw [show a = b by omega]
def noYet (f : Nat → Bool) (k : Int32) (i : Nat) : Prop := ∀ p, p < i → f p = true → ¬ nI (cntB f p) = k
theorem noYet_0 {f : Nat → Bool} {k : Int32} : noYet f k 0 := fun _ h => absurd h (by omega)
theorem noYet_no {f : Nat → Bool} {k : Int32} {i : Nat} (h : noYet f k i) (hf : f i = false) : noYet f k (i + 1) := fun p hp hq => by
  by_cases e : p = i
  · rw [e, hf] at hq; cases hq
  · exact h p (by omega) hq
theorem noYet_ne {f : Nat → Bool} {k : Int32} {b i : Nat} (h : noYet f k i) (hb : b = cntB f i) (hk : ¬ nI b = k) : noYet f k (i + 1) := fun p hp hq => by
  by_cases e : p = i
  · rw [e, ← hb]; exact hk
  · exact h p (by omega) hq
/-- not joined, and of that day or the five before -/
def wB (sp : Nat → Option Nat) (dy : Nat → Nat) (x : Int32) (p : Nat) : Bool := (sp p).isNone && (decide (0 ≤ x.toInt - dy p) && decide (x.toInt - dy p ≤ 5))
theorem i64_sub {x : Int32} {d : Nat} (hd : d ≤ 100000) : (x.toInt64 - lN d).toInt = x.toInt - d := by
  rw [Int64.toInt_sub, pk_lT (by omega), Int32.toInt_toInt64]
  have h1 := Int32.le_toInt x
  have h2 := Int32.toInt_lt x
  rw [Int.bmod_def]
  split <;> omega
theorem w_no1 {sp : Nat → Option Nat} {dy : Nat → Nat} {x : Int32} {p : Nat} (h : ¬ sp p = none) : wB sp dy x p = false := by
  cases e : sp p with
  | none => exact absurd e h
  | some k => simp [wB, e]
theorem w_no2 {sp : Nat → Option Nat} {dy : Nat → Nat} {x : Int32} {p : Nat} (hd : dy p ≤ 100000) (h : x.toInt64 - lN (dy p) < lN 0) : wB sp dy x p = false := by
  rw [Int64.lt_iff_toInt_lt, i64_sub hd, pk_lT (by omega)] at h
  have : ¬ (0 : Int) ≤ x.toInt - dy p := by omega
  rw [wB, decide_eq_false this]
  simp
theorem w_no3 {sp : Nat → Option Nat} {dy : Nat → Nat} {x : Int32} {p : Nat} (hd : dy p ≤ 100000) (h : lN 5 < x.toInt64 - lN (dy p)) : wB sp dy x p = false := by
  rw [Int64.lt_iff_toInt_lt, i64_sub hd, pk_lT (by omega)] at h
  have : ¬ x.toInt - dy p ≤ 5 := by omega
  rw [wB, decide_eq_false this]
  simp
theorem w_yes {sp : Nat → Option Nat} {dy : Nat → Nat} {x : Int32} {p : Nat} (hd : dy p ≤ 100000) (h0 : sp p = none) (h1 : lN 0 ≤ x.toInt64 - lN (dy p)) (h2 : x.toInt64 - lN (dy p) ≤ lN 5) : wB sp dy x p = true := by
  rw [Int64.le_iff_toInt_le, i64_sub hd, pk_lT (by omega)] at h1 h2
  have a : (0 : Int) ≤ x.toInt - dy p := by omega
  have b : x.toInt - dy p ≤ 5 := by omega
  rw [wB, h0, decide_eq_true a, decide_eq_true b]
  rfl
theorem none_up {f : Nat → Option Nat} {i : Nat} (h : ∀ j, j < i → f j = none) : ∀ j, j < i + 1 → va_up f i none j = none := fun j hj => by
  by_cases e : j = i
  · rw [e]; exact if_pos rfl
  · rw [show va_up f i none j = f j from if_neg e]; exact h j (by omega)
theorem js_next {pt : Nat → Nat → Nat} {n n2 i : Nat} {sq pq : Nat → Option Nat} (h : (sq, sdO pq) = JS pt n n2 i) : (va_up sq (jbest pt n n2 (sq, sdO pq)).2.1 (some (jbest pt n n2 (sq, sdO pq)).2.2), sdO (va_up pq (jbest pt n n2 (sq, sdO pq)).2.2 (some (jbest pt n n2 (sq, sdO pq)).2.1))) = JS pt n n2 (i + 1) := by
  rw [JS, ← h, sdO_up]
  rfl
theorem more_next {pt : Nat → Nat → Nat} {n n2 i : Nat} {s : JT} (h : s = JS pt n n2 i) (hm : more pt n n2 i) (z : (jbest pt n n2 s).1 ≠ 0) : more pt n n2 (i + 1) := fun k hk => by
  by_cases e : k = i
  · rw [e, ← h]; exact z
  · exact hm k (by omega)
theorem best_rng {pt : Nat → Nat → Nat} {n n2 : Nat} {s : JT} (z : (jbest pt n n2 s).1 ≠ 0) : (jbest pt n n2 s).2.1 < n ∧ (jbest pt n n2 s).2.2 < n2 := by
  rcases scO_val (vv pt s.1 s.2) n2 n with e | ⟨e1, e2, -⟩
  · exact absurd e z
  · exact ⟨e1, e2⟩
theorem rng_up {f : Nat → Option Nat} {n n2 a b : Nat} (h : ∀ p k, f p = some k → p < n ∧ k < n2) (ha : a < n) (hb : b < n2) : ∀ p k, va_up f a (some b) p = some k → p < n ∧ k < n2 := fun p k e => by
  by_cases z : p = a
  · rw [show va_up f a (some b) p = some b from if_pos z] at e
    cases e
    exact ⟨by omega, hb⟩
  · rw [show va_up f a (some b) p = f p from if_neg z] at e
    exact h p k e
theorem some_up {f : Nat → Option Nat} {n2 a b : Nat} (h : ∀ p k, f p = some k → k < n2) (hb : b < n2) : ∀ p k, va_up f a (some b) p = some k → k < n2 := fun p k e => by
  by_cases z : p = a
  · rw [show va_up f a (some b) p = some b from if_pos z] at e
    cases e
    exact hb
  · rw [show va_up f a (some b) p = f p from if_neg z] at e
    exact h p k e
