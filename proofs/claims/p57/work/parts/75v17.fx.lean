/-! texts read alike: contracts by program -/
section FX_v17
set_option maxRecDepth 1000000 in
theorem pz53_1_2_2 : pxCuF pj53 pc53_1 (pxP2 pj53 (some pc53_1.2.2.1) 247 36 9 2 65 4 2) = true := by decide +kernel
set_option maxRecDepth 1000000 in
theorem pz53_1_2_3 : pxCuF pj53 pc53_1 (pxP2 pj53 (some pc53_1.2.2.1) 247 36 9 2 65 4 3) = true := by decide +kernel
end FX_v17
