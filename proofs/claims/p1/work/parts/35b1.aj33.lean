/-! AJ: the call 33, checked: so many boxes from such a one on -/
set_option maxRecDepth 1000000 in
theorem aCk_33_88 : aPreL (aOpS 88 5) = true := by decide +kernel
set_option maxRecDepth 1000000 in
theorem aCk_33_93 : aPreL (aOpS 93 5) = true := by decide +kernel
set_option maxRecDepth 1000000 in
theorem aCk_33_98 : aPreL (aOpS 98 4) = true := by decide +kernel
