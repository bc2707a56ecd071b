/-! MJ: the tables are what the class files say: checked by the kernel -/
set_option maxRecDepth 1000000 in
theorem mjTB_ok0 : (List.range 375).all mjTB = true := by decide +kernel
set_option maxRecDepth 1000000 in
theorem mjMB_ok0 : (List.range 375).all mjMB = true := by decide +kernel
set_option maxRecDepth 1000000 in
theorem mjTB_law : mjTB 375 = true := by decide +kernel
