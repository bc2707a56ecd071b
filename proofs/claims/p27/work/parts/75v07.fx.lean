/-! texts read alike: contracts by program -/
section FX_v07
set_option maxRecDepth 1000000 in
theorem pz26_1_2_2 : pxCuF pj26 pc26_1 (pxP2 pj26 (some pc26_1.2.2.1) 247 35 8 2 20 3 2) = true := by decide +kernel
set_option maxRecDepth 1000000 in
theorem pz26_1_3 : pxCuF pj26 pc26_1 (pxP1 pj26 (some pc26_1.2.2.1) 247 35 8 3) = true := by decide +kernel
set_option maxRecDepth 1000000 in
theorem pz26_1_4 : pxCuF pj26 pc26_1 (pxP1 pj26 (some pc26_1.2.2.1) 247 35 8 4) = true := by decide +kernel
set_option maxRecDepth 1000000 in
theorem pz26_1_5 : pxCuF pj26 pc26_1 (pxP1 pj26 (some pc26_1.2.2.1) 247 35 8 5) = true := by decide +kernel
set_option maxRecDepth 1000000 in
theorem pz26_1_6_0 : pxCuF pj26 pc26_1 (pxP2 pj26 (some pc26_1.2.2.1) 247 35 8 6 10 6 0) = true := by decide +kernel
end FX_v07
