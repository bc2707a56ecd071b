/-! AJ: calls on fresh objects, checked, by program -/
set_option maxRecDepth 1000000 in
theorem aCk_2 : aPreL (aOps 30000 aCuts2) = true := by decide +kernel
