/-! AJ: the call 33, checked: so many boxes from such a one on -/
set_option maxRecDepth 1000000 in
theorem aCk_33_112 : aPreL (aOpS 112 3) = true := by decide +kernel
set_option maxRecDepth 1000000 in
theorem aCk_33_115 : aPreL (aOpS 115 3) = true := by decide +kernel
set_option maxRecDepth 1000000 in
theorem aCk_33_118 : aPreL (aOpS 118 3) = true := by decide +kernel
