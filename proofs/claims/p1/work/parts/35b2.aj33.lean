/-! AJ: the call 33, checked -/
set_option maxRecDepth 1000000 in
theorem aCk_33c : aPreL (aOpS 116 80) = true := by decide +kernel
