/-! texts read alike: contracts by program -/
section FX_v06
set_option maxRecDepth 1000000 in
theorem pz26_1_0_0 : pxCuF pj26 pc26_1 (pxP2 pj26 (some pc26_1.2.2.1) 247 37 9 0 21 10 0) = true := by decide +kernel
set_option maxRecDepth 1000000 in
theorem pz26_1_0_1 : pxCuF pj26 pc26_1 (pxP2 pj26 (some pc26_1.2.2.1) 247 37 9 0 21 10 1) = true := by decide +kernel
set_option maxRecDepth 1000000 in
theorem pz26_1_0_2 : pxCuF pj26 pc26_1 (pxP2 pj26 (some pc26_1.2.2.1) 247 37 9 0 21 10 2) = true := by decide +kernel
set_option maxRecDepth 1000000 in
theorem pz26_1_0_3 : pxCuF pj26 pc26_1 (pxP2 pj26 (some pc26_1.2.2.1) 247 37 9 0 21 10 3) = true := by decide +kernel
set_option maxRecDepth 1000000 in
theorem pz26_1_0_4 : pxCuF pj26 pc26_1 (pxP2 pj26 (some pc26_1.2.2.1) 247 37 9 0 21 10 4) = true := by decide +kernel
set_option maxRecDepth 1000000 in
theorem pz26_1_0_5 : pxCuF pj26 pc26_1 (pxP2 pj26 (some pc26_1.2.2.1) 247 37 9 0 21 10 5) = true := by decide +kernel
set_option maxRecDepth 1000000 in
theorem pz26_1_0_6 : pxCuF pj26 pc26_1 (pxP2 pj26 (some pc26_1.2.2.1) 247 37 9 0 21 10 6) = true := by decide +kernel
set_option maxRecDepth 1000000 in
theorem pz26_1_0_7 : pxCuF pj26 pc26_1 (pxP2 pj26 (some pc26_1.2.2.1) 247 37 9 0 21 10 7) = true := by decide +kernel
set_option maxRecDepth 1000000 in
theorem pz26_1_0_8 : pxCuF pj26 pc26_1 (pxP2 pj26 (some pc26_1.2.2.1) 247 37 9 0 21 10 8) = true := by decide +kernel
end FX_v06
