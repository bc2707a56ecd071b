/-! texts read alike: contracts by program -/
section FX_v10
set_option maxRecDepth 1000000 in
theorem pz26_1_2_12 : pxCuF pj26 pc26_1 (pxP2 pj26 (some pc26_1.2.2.1) 247 37 9 2 51 17 12) = true := by decide +kernel
set_option maxRecDepth 1000000 in
theorem pz26_1_2_13 : pxCuF pj26 pc26_1 (pxP2 pj26 (some pc26_1.2.2.1) 247 37 9 2 51 17 13) = true := by decide +kernel
set_option maxRecDepth 1000000 in
theorem pz26_1_2_14 : pxCuF pj26 pc26_1 (pxP2 pj26 (some pc26_1.2.2.1) 247 37 9 2 51 17 14) = true := by decide +kernel
set_option maxRecDepth 1000000 in
theorem pz26_1_2_15 : pxCuF pj26 pc26_1 (pxP2 pj26 (some pc26_1.2.2.1) 247 37 9 2 51 17 15) = true := by decide +kernel
set_option maxRecDepth 1000000 in
theorem pz26_1_2_16 : pxCuF pj26 pc26_1 (pxP2 pj26 (some pc26_1.2.2.1) 247 37 9 2 51 17 16) = true := by decide +kernel
end FX_v10
