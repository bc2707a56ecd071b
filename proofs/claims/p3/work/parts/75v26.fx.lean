/-! texts read alike: contracts by program -/
section FX_v26
set_option maxRecDepth 1000000 in
theorem pz53_1_0_4 : pxCuF pj53 pc53_1 (pxP2 pj53 (some pc53_1.2.2.1) 247 37 9 0 21 10 4) = true := by decide +kernel
set_option maxRecDepth 1000000 in
theorem pz53_1_0_5 : pxCuF pj53 pc53_1 (pxP2 pj53 (some pc53_1.2.2.1) 247 37 9 0 21 10 5) = true := by decide +kernel
set_option maxRecDepth 1000000 in
theorem pz53_1_0_6 : pxCuF pj53 pc53_1 (pxP2 pj53 (some pc53_1.2.2.1) 247 37 9 0 21 10 6) = true := by decide +kernel
set_option maxRecDepth 1000000 in
theorem pz53_1_0_7 : pxCuF pj53 pc53_1 (pxP2 pj53 (some pc53_1.2.2.1) 247 37 9 0 21 10 7) = true := by decide +kernel
set_option maxRecDepth 1000000 in
theorem pz53_1_0_8 : pxCuF pj53 pc53_1 (pxP2 pj53 (some pc53_1.2.2.1) 247 37 9 0 21 10 8) = true := by decide +kernel
set_option maxRecDepth 1000000 in
theorem pz53_1_0_9 : pxCuF pj53 pc53_1 (pxP2 pj53 (some pc53_1.2.2.1) 247 37 9 0 21 10 9) = true := by decide +kernel
set_option maxRecDepth 1000000 in
theorem pz53_1_1 : pxCuF pj53 pc53_1 (pxP1 pj53 (some pc53_1.2.2.1) 247 37 9 1) = true := by decide +kernel
end FX_v26
