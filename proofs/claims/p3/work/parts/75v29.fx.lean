/-! texts read alike: contracts by program -/
section FX_v29
set_option maxRecDepth 1000000 in
theorem pz53_1_2_7 : pxCuF pj53 pc53_1 (pxP2 pj53 (some pc53_1.2.2.1) 247 37 9 2 51 17 7) = true := by decide +kernel
set_option maxRecDepth 1000000 in
theorem pz53_1_2_8 : pxCuF pj53 pc53_1 (pxP2 pj53 (some pc53_1.2.2.1) 247 37 9 2 51 17 8) = true := by decide +kernel
set_option maxRecDepth 1000000 in
theorem pz53_1_2_9 : pxCuF pj53 pc53_1 (pxP2 pj53 (some pc53_1.2.2.1) 247 37 9 2 51 17 9) = true := by decide +kernel
set_option maxRecDepth 1000000 in
theorem pz53_1_2_10 : pxCuF pj53 pc53_1 (pxP2 pj53 (some pc53_1.2.2.1) 247 37 9 2 51 17 10) = true := by decide +kernel
set_option maxRecDepth 1000000 in
theorem pz53_1_2_11 : pxCuF pj53 pc53_1 (pxP2 pj53 (some pc53_1.2.2.1) 247 37 9 2 51 17 11) = true := by decide +kernel
end FX_v29
