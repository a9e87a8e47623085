/-! ===== hold ===== -/
def hasB (p : Nat → Bool) (i : Nat) : Nat → Bool
  | 0 => false
  | d + 1 => p i || hasB p (i + 1) d
