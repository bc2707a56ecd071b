set_option maxRecDepth 1000000 in
theorem tst_c : (aSeg none 1000 aS0).isSome = true := by decide +kernel
