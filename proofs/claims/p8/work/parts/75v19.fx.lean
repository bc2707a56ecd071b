/-! texts read alike: contracts by program -/
section FX_v19
set_option maxRecDepth 1000000 in
theorem pz53_1_6_3 : pxCuF pj53 pc53_1 (pxP2 pj53 (some pc53_1.2.2.1) 247 35 8 6 10 6 3) = true := by decide +kernel
set_option maxRecDepth 1000000 in
theorem pz53_1_6_4 : pxCuF pj53 pc53_1 (pxP2 pj53 (some pc53_1.2.2.1) 247 35 8 6 10 6 4) = true := by decide +kernel
set_option maxRecDepth 1000000 in
theorem pz53_1_6_5 : pxCuF pj53 pc53_1 (pxP2 pj53 (some pc53_1.2.2.1) 247 35 8 6 10 6 5) = true := by decide +kernel
end FX_v19
