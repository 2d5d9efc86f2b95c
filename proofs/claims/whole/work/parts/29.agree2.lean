theorem so_up {so sp : Nat → Option Nat} {n : Nat} (h : ∀ p, p < n → so p = sp p) (hno : ∀ p k, sp p = some k → p < n) : ∀ p, p < n + 1 → va_up so n none p = sp p := fun p hp => by
  by_cases e : p = n
  · rw [show va_up so n none p = none from if_pos e]
    cases z : sp p with
    | none => rfl
    | some k => exact absurd (hno p k z) (by omega)
  · rw [show va_up so n none p = so p from if_neg e]; exact h p (by omega)
