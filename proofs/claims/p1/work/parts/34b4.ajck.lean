/-! AJ: calls on fresh objects, checked, by program -/
set_option maxRecDepth 1000000 in
theorem aCk_4 : aPreL (aOps 30000 aCuts4) = true := by decide +kernel
