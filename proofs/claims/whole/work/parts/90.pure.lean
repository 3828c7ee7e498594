/-- the law's loop over the two functions: it comes to its end with 1 -/
theorem pure_law (xs : Nat → Int32) (L : Nat) (hL : L ≤ 2048) : ∃ M' : zM, f_L_law_18 L xs zFU zM0 0 = some ((1 : Int32), M') := by
  sorry
