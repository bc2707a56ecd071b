/-! AJ: the call 33, checked: so many boxes from such a one on -/
set_option maxRecDepth 1000000 in
theorem aCk_33_0 : aPreL (aOpS 0 65) = true := by decide +kernel
set_option maxRecDepth 1000000 in
theorem aCk_33_65 : aPreL (aOpS 65 16) = true := by decide +kernel
set_option maxRecDepth 1000000 in
theorem aCk_33_81 : aPreL (aOpS 81 7) = true := by decide +kernel
