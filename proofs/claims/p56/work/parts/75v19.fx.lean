/-! texts read alike: contracts by program -/
section FX_v19
set_option maxRecDepth 1000000 in
theorem pz53_1_8_1 : pxCuF pj53 pc53_1 (pxP2 pj53 (some pc53_1.2.2.1) 247 45 11 8 42 2 1) = true := by decide +kernel
set_option maxRecDepth 1000000 in
theorem pz53_1_9 : pxCuF pj53 pc53_1 (pxP1 pj53 (some pc53_1.2.2.1) 247 45 11 9) = true := by decide +kernel
set_option maxRecDepth 1000000 in
theorem pz53_1_10_0 : pxCuF pj53 pc53_1 (pxP2 pj53 (some pc53_1.2.2.1) 247 45 11 10 5 3 0) = true := by decide +kernel
end FX_v19
