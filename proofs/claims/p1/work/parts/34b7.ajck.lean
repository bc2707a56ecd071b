/-! AJ: calls on fresh objects, checked, by program -/
set_option maxRecDepth 1000000 in
theorem aCk_32a : aPreL (aOpB 30000 32 aCuts32 0 4) = true := by decide +kernel
set_option maxRecDepth 1000000 in
theorem aCk_32b : aPreL (aOpB 30000 32 aCuts32 4 10) = true := by decide +kernel
