theorem pure_law {L : Nat} (hL : L ≤ 1536) (xs : Nat → Int32) : fn_L_law L xs = some 1 := by
  sorry
