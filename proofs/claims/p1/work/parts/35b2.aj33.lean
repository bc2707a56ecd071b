/-! AJ: the call 33, checked: so many boxes from such a one on -/
set_option maxRecDepth 1000000 in
theorem aCk_33_102 : aPreL (aOpS 102 4) = true := by decide +kernel
set_option maxRecDepth 1000000 in
theorem aCk_33_106 : aPreL (aOpS 106 3) = true := by decide +kernel
set_option maxRecDepth 1000000 in
theorem aCk_33_109 : aPreL (aOpS 109 3) = true := by decide +kernel
