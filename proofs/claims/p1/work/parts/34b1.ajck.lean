/-! AJ: calls on fresh objects, checked, by program -/
set_option maxRecDepth 1000000 in
theorem aCk_1 : aPreL (aOps 30000 aCuts1) = true := by decide +kernel
