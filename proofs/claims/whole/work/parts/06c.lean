/-! The links of the methods. -/
theorem xML_ok : xML.all xMLb = true := by decide +kernel
