/-! AJ: the call 33, checked: so many boxes from such a one on -/
set_option maxRecDepth 1000000 in
theorem aCk_33_121 : aPreL (aOpS 121 2) = true := by decide +kernel
set_option maxRecDepth 1000000 in
theorem aCk_33_123 : aPreL (aOpS 123 2) = true := by decide +kernel
set_option maxRecDepth 1000000 in
theorem aCk_33_125 : aPreL (aOpS 125 70) = true := by decide +kernel
