/-! the law's term is true from every start -/
theorem law_ok (M : Mem) (b L : Nat) (xs : Nat → Int32) (hL : L ≤ 3072) (h : Start M b L xs) : f_law M b = some 1 := by
  exact law_true hL h
