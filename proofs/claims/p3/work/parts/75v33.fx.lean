/-! texts read alike: contracts by program -/
section FX_v33
set_option maxRecDepth 1000000 in
theorem pz53_1_5_3 : pxCuF pj53 pc53_1 (pxP2 pj53 (some pc53_1.2.2.1) 247 37 9 5 26 8 3) = true := by decide +kernel
set_option maxRecDepth 1000000 in
theorem pz53_1_5_4 : pxCuF pj53 pc53_1 (pxP2 pj53 (some pc53_1.2.2.1) 247 37 9 5 26 8 4) = true := by decide +kernel
set_option maxRecDepth 1000000 in
theorem pz53_1_5_5 : pxCuF pj53 pc53_1 (pxP2 pj53 (some pc53_1.2.2.1) 247 37 9 5 26 8 5) = true := by decide +kernel
set_option maxRecDepth 1000000 in
theorem pz53_1_5_6 : pxCuF pj53 pc53_1 (pxP2 pj53 (some pc53_1.2.2.1) 247 37 9 5 26 8 6) = true := by decide +kernel
set_option maxRecDepth 1000000 in
theorem pz53_1_5_7 : pxCuF pj53 pc53_1 (pxP2 pj53 (some pc53_1.2.2.1) 247 37 9 5 26 8 7) = true := by decide +kernel
end FX_v33
