/-! texts read alike: contracts by program -/
section FX_v30
set_option maxRecDepth 1000000 in
theorem pz53_1_2_12 : pxCuF pj53 pc53_1 (pxP2 pj53 (some pc53_1.2.2.1) 247 37 9 2 51 17 12) = true := by decide +kernel
set_option maxRecDepth 1000000 in
theorem pz53_1_2_13 : pxCuF pj53 pc53_1 (pxP2 pj53 (some pc53_1.2.2.1) 247 37 9 2 51 17 13) = true := by decide +kernel
set_option maxRecDepth 1000000 in
theorem pz53_1_2_14 : pxCuF pj53 pc53_1 (pxP2 pj53 (some pc53_1.2.2.1) 247 37 9 2 51 17 14) = true := by decide +kernel
set_option maxRecDepth 1000000 in
theorem pz53_1_2_15 : pxCuF pj53 pc53_1 (pxP2 pj53 (some pc53_1.2.2.1) 247 37 9 2 51 17 15) = true := by decide +kernel
set_option maxRecDepth 1000000 in
theorem pz53_1_2_16 : pxCuF pj53 pc53_1 (pxP2 pj53 (some pc53_1.2.2.1) 247 37 9 2 51 17 16) = true := by decide +kernel
end FX_v30
