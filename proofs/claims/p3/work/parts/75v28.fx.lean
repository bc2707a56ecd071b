/-! texts read alike: contracts by program -/
section FX_v28
set_option maxRecDepth 1000000 in
theorem pz53_1_2_4 : pxCuF pj53 pc53_1 (pxP2 pj53 (some pc53_1.2.2.1) 247 37 9 2 51 17 4) = true := by decide +kernel
set_option maxRecDepth 1000000 in
theorem pz53_1_2_5 : pxCuF pj53 pc53_1 (pxP2 pj53 (some pc53_1.2.2.1) 247 37 9 2 51 17 5) = true := by decide +kernel
set_option maxRecDepth 1000000 in
theorem pz53_1_2_6 : pxCuF pj53 pc53_1 (pxP2 pj53 (some pc53_1.2.2.1) 247 37 9 2 51 17 6) = true := by decide +kernel
end FX_v28
