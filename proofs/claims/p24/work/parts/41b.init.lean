/-- the model's row at first -/
def iniL : Nat → Nat → Int32
  | 0 => fun _ => 0
  | k + 1 => va_up (va_up (va_up (va_up (iniL k) (17 * k + 0) (nI 3)) (17 * k + 1) (nI 10)) (17 * k + 2) (nI 100)) (17 * k + 3) (nI k)
def iniS : Nat → Int32 := va_up (va_up (iniL 6) 102 (nI 10)) 103 (nI 1)
