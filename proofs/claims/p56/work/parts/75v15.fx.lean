/-! texts read alike: contracts by program -/
section FX_v15
set_option maxRecDepth 1000000 in
theorem pz53_1_3 : pxCuF pj53 pc53_1 (pxP1 pj53 (some pc53_1.2.2.1) 247 45 11 3) = true := by decide +kernel
set_option maxRecDepth 1000000 in
theorem pz53_1_4 : pxCuF pj53 pc53_1 (pxP1 pj53 (some pc53_1.2.2.1) 247 45 11 4) = true := by decide +kernel
end FX_v15
