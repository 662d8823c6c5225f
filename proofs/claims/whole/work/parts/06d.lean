/-! The other links. -/
theorem xCL_ok : xCL.all xCLb = true := by decide +kernel
theorem xAL_ok : xAL.all xALb = true := by decide +kernel
theorem xOL_ok : xOL.all xOLb = true := by decide +kernel
theorem xGS_ok : xGS.all xGSb = true := by decide +kernel
theorem xLC_ok : xLC.all xLCb = true := by decide +kernel
theorem xIC_ok : xIC.all xICb = true := by decide +kernel
theorem xNL_ok : xNL.all xNLb = true := by decide +kernel
theorem xSL_ok : xSL.all xSLb = true := by decide +kernel
