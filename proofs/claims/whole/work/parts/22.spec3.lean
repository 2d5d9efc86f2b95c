/-! the reference's draws -/
/-- the weights of the pages that are not gone -/
def wgo (wt ms : Nat → Nat) (g : Nat → Bool) : Nat → Nat := fun j => if g j = true then 0 else wt (ms j)
theorem wgo_g {wt ms : Nat → Nat} {g : Nat → Bool} {q : Nat} (h : bN (g q) ≠ 0) : wgo wt ms g q = 0 := if_pos (bN_1.mp h)
theorem wgo_n {wt ms : Nat → Nat} {g : Nat → Bool} {q : Nat} (h : bN (g q) = 0) : wgo wt ms g q = wt (ms q) := if_neg (by rw [bN_0.mp h]; decide)
theorem wgo_f {wt ms : Nat → Nat} {g : Nat → Bool} {n : Nat} (h : ∀ j, j < n → g j = false) : ∀ j, j < n → wgo wt ms g j = wt (ms j) := fun j hj => if_neg (by rw [h j hj]; decide)
theorem wgo_up {wt ms : Nat → Nat} {g : Nat → Bool} {q : Nat} : wgo wt ms (va_up g q true) = va_up (wgo wt ms g) q 0 := by
  funext j
  by_cases e : j = q
  · subst e; simp [wgo, va_up]
  · simp [wgo, va_up, e]
theorem up_same (f : Nat → Nat) (k : Nat) : va_up f k (f k + 0) = f := by
  funext j
  by_cases e : j = k
  · subst e; simp [va_up]
  · simp [va_up, e]
theorem eq_up {f g : Nat → Nat} {i : Nat} (h : ∀ j, j < i → f j = g j) : ∀ j, j < i + 1 → va_up f i (g i) j = g j := fun j hj => by
  by_cases e : j = i
  · rw [e]; exact if_pos rfl
  · rw [show va_up f i (g i) j = f j from if_neg e]; exact h j (by omega)
theorem drM_up {n : Nat} {wt ms : Nat → Nat} {g : Nat → Bool} {w0 : Nat → Nat} {sd x : Int64} {i q : Nat} (hx : x = (DR n w0 sd i).1) (hw : ∀ j, j < n → wgo wt ms g j = (DR n w0 sd i).2 j) (hq : pickF (wgo wt ms g) (h33 (nxt x) % sumN (wgo wt ms g) n) n = q) : ∀ j, j < n → wgo wt ms (va_up g q true) j = (DR n w0 sd (i + 1)).2 j := by
  rw [wgo_up, ← hq]
  exact dr_up hx hw
