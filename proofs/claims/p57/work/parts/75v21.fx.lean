/-! texts read alike: contracts by program -/
section FX_v21
set_option maxRecDepth 1000000 in
theorem pz53_1_8_0 : pxCuF pj53 pc53_1 (pxP2 pj53 (some pc53_1.2.2.1) 247 36 9 8 52 4 0) = true := by decide +kernel
set_option maxRecDepth 1000000 in
theorem pz53_1_8_1 : pxCuF pj53 pc53_1 (pxP2 pj53 (some pc53_1.2.2.1) 247 36 9 8 52 4 1) = true := by decide +kernel
set_option maxRecDepth 1000000 in
theorem pz53_1_8_2 : pxCuF pj53 pc53_1 (pxP2 pj53 (some pc53_1.2.2.1) 247 36 9 8 52 4 2) = true := by decide +kernel
end FX_v21
