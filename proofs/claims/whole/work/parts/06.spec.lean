/-! what the methods answer, over naturals -/
def sumK (kd gr : Nat → Nat) (x : Int32) : Nat → Nat
  | 0 => 0
  | i + 1 => sumK kd gr x i + (if nI (kd i) = x then gr i else 0)
