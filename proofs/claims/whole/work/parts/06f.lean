/-! The kinds of the methods, the second half. -/
theorem xk_b : (List.range' 130 129).all xkb = true := by decide +kernel
theorem xk_ok : (List.range xnM).all xkb = true := by
  rw [show List.range xnM = List.range 130 ++ List.range' 130 129 from by decide +kernel, List.all_append, xk_a, xk_b]
  rfl
