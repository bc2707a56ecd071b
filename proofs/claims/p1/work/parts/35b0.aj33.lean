/-! AJ: the call 33, checked -/
set_option maxRecDepth 1000000 in
theorem aCk_33a : aPreL (aOpS 0 99) = true := by decide +kernel
