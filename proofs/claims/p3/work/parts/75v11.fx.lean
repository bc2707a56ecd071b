/-! texts read alike: contracts by program -/
section FX_v11
set_option maxRecDepth 1000000 in
theorem pz26_1_3_0 : pxCuF pj26 pc26_1 (pxP2 pj26 (some pc26_1.2.2.1) 247 37 9 3 22 5 0) = true := by decide +kernel
set_option maxRecDepth 1000000 in
theorem pz26_1_3_1 : pxCuF pj26 pc26_1 (pxP2 pj26 (some pc26_1.2.2.1) 247 37 9 3 22 5 1) = true := by decide +kernel
set_option maxRecDepth 1000000 in
theorem pz26_1_3_2 : pxCuF pj26 pc26_1 (pxP2 pj26 (some pc26_1.2.2.1) 247 37 9 3 22 5 2) = true := by decide +kernel
end FX_v11
