/-! a number that is 1 or more (by hand) -/
theorem kNz2 {x : Int32} (h : (1 : Int32) ≤ x) : ¬ x = 0 := fun e => absurd (show (1 : Int32) ≤ 0 from e ▸ h) (by decide)
