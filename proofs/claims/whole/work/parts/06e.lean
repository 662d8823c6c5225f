/-! The kinds of the methods, the first half. -/
theorem xk_a : (List.range 130).all xkb = true := by decide +kernel
