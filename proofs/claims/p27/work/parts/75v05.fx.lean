/-! texts read alike: contracts by program -/
section FX_v05
set_option maxRecDepth 1000000 in
theorem pz26_1_0_2 : pxCuF pj26 pc26_1 (pxP2 pj26 (some pc26_1.2.2.1) 247 35 8 0 52 3 2) = true := by decide +kernel
set_option maxRecDepth 1000000 in
theorem pz26_1_1_0 : pxCuF pj26 pc26_1 (pxP2 pj26 (some pc26_1.2.2.1) 247 35 8 1 1 5 0) = true := by decide +kernel
set_option maxRecDepth 1000000 in
theorem pz26_1_1_1 : pxCuF pj26 pc26_1 (pxP2 pj26 (some pc26_1.2.2.1) 247 35 8 1 1 5 1) = true := by decide +kernel
set_option maxRecDepth 1000000 in
theorem pz26_1_1_2 : pxCuF pj26 pc26_1 (pxP2 pj26 (some pc26_1.2.2.1) 247 35 8 1 1 5 2) = true := by decide +kernel
set_option maxRecDepth 1000000 in
theorem pz26_1_1_3 : pxCuF pj26 pc26_1 (pxP2 pj26 (some pc26_1.2.2.1) 247 35 8 1 1 5 3) = true := by decide +kernel
end FX_v05
