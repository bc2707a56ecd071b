/-! texts read alike: contracts by program -/
section FX_v12
set_option maxRecDepth 1000000 in
theorem pz26_1_3_3 : pxCuF pj26 pc26_1 (pxP2 pj26 (some pc26_1.2.2.1) 247 37 9 3 22 5 3) = true := by decide +kernel
set_option maxRecDepth 1000000 in
theorem pz26_1_3_4 : pxCuF pj26 pc26_1 (pxP2 pj26 (some pc26_1.2.2.1) 247 37 9 3 22 5 4) = true := by decide +kernel
set_option maxRecDepth 1000000 in
theorem pz26_1_4 : pxCuF pj26 pc26_1 (pxP1 pj26 (some pc26_1.2.2.1) 247 37 9 4) = true := by decide +kernel
set_option maxRecDepth 1000000 in
theorem pz26_1_5_0 : pxCuF pj26 pc26_1 (pxP2 pj26 (some pc26_1.2.2.1) 247 37 9 5 26 8 0) = true := by decide +kernel
set_option maxRecDepth 1000000 in
theorem pz26_1_5_1 : pxCuF pj26 pc26_1 (pxP2 pj26 (some pc26_1.2.2.1) 247 37 9 5 26 8 1) = true := by decide +kernel
set_option maxRecDepth 1000000 in
theorem pz26_1_5_2 : pxCuF pj26 pc26_1 (pxP2 pj26 (some pc26_1.2.2.1) 247 37 9 5 26 8 2) = true := by decide +kernel
end FX_v12
