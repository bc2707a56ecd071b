/-! texts read alike: contracts by program -/
section FX_v07
set_option maxRecDepth 1000000 in
theorem pz26_1_0_9 : pxCuF pj26 pc26_1 (pxP2 pj26 (some pc26_1.2.2.1) 247 37 9 0 21 10 9) = true := by decide +kernel
set_option maxRecDepth 1000000 in
theorem pz26_1_1 : pxCuF pj26 pc26_1 (pxP1 pj26 (some pc26_1.2.2.1) 247 37 9 1) = true := by decide +kernel
set_option maxRecDepth 1000000 in
theorem pz26_1_2_0 : pxCuF pj26 pc26_1 (pxP2 pj26 (some pc26_1.2.2.1) 247 37 9 2 51 17 0) = true := by decide +kernel
set_option maxRecDepth 1000000 in
theorem pz26_1_2_1 : pxCuF pj26 pc26_1 (pxP2 pj26 (some pc26_1.2.2.1) 247 37 9 2 51 17 1) = true := by decide +kernel
set_option maxRecDepth 1000000 in
theorem pz26_1_2_2 : pxCuF pj26 pc26_1 (pxP2 pj26 (some pc26_1.2.2.1) 247 37 9 2 51 17 2) = true := by decide +kernel
end FX_v07
