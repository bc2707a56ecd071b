/-! AJ: the call 33, checked -/
set_option maxRecDepth 1000000 in
theorem aCk_33b : aPreL (aOpS 99 17) = true := by decide +kernel
