/-! texts read alike: contracts by program -/
section FX_v39
set_option maxRecDepth 1000000 in
theorem pz53_1_8_6 : pxCuF pj53 pc53_1 (pxP2 pj53 (some pc53_1.2.2.1) 247 37 9 8 65 10 6) = true := by decide +kernel
set_option maxRecDepth 1000000 in
theorem pz53_1_8_7 : pxCuF pj53 pc53_1 (pxP2 pj53 (some pc53_1.2.2.1) 247 37 9 8 65 10 7) = true := by decide +kernel
end FX_v39
