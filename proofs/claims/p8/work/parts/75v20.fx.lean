/-! texts read alike: contracts by program -/
section FX_v20
set_option maxRecDepth 1000000 in
theorem pz53_1_7_0 : pxCuF pj53 pc53_1 (pxP2 pj53 (some pc53_1.2.2.1) 247 35 8 7 53 2 0) = true := by decide +kernel
set_option maxRecDepth 1000000 in
theorem pz53_1_7_1 : pxCuF pj53 pc53_1 (pxP2 pj53 (some pc53_1.2.2.1) 247 35 8 7 53 2 1) = true := by decide +kernel
set_option maxRecDepth 1000000 in
theorem pz53_2_0 : pxCuF pj53 pc53_2 (pxP1 pj53 (some pc53_2.2.2.1) 144 0 1 0) = true := by decide +kernel
set_option maxRecDepth 1000000 in
theorem pz53_3_0 : pxCuF pj53 pc53_3 (pxP1 pj53 (some pc53_3.2.2.1) 144 0 1 0) = true := by decide +kernel
set_option maxRecDepth 1000000 in
theorem pz53_4_0 : pxCuF pj53 pc53_4 (pxP1 pj53 (some pc53_4.2.2.1) 144 0 1 0) = true := by decide +kernel
set_option maxRecDepth 1000000 in
theorem pz53_5_0 : pxCuF pj53 pc53_5 (pxP1 pj53 (some pc53_5.2.2.1) 144 0 1 0) = true := by decide +kernel
set_option maxRecDepth 1000000 in
theorem pz53_6_0 : pxCuF pj53 pc53_6 (pxP1 pj53 (some pc53_6.2.2.1) 36 0 1 0) = true := by decide +kernel
end FX_v20
