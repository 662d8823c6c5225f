/-! The links of the fields. -/
theorem xFL_ok : xFL.all xFLb = true := by decide +kernel
