/-! texts read alike: contracts by program -/
section FX_v09
set_option maxRecDepth 1000000 in
theorem pz26_1_5_1 : pxCuF pj26 pc26_1 (pxP2 pj26 (some pc26_1.2.2.1) 247 36 9 5 3 2 1) = true := by decide +kernel
set_option maxRecDepth 1000000 in
theorem pz26_1_6_0 : pxCuF pj26 pc26_1 (pxP2 pj26 (some pc26_1.2.2.1) 247 36 9 6 12 2 0) = true := by decide +kernel
set_option maxRecDepth 1000000 in
theorem pz26_1_6_1 : pxCuF pj26 pc26_1 (pxP2 pj26 (some pc26_1.2.2.1) 247 36 9 6 12 2 1) = true := by decide +kernel
set_option maxRecDepth 1000000 in
theorem pz26_1_7 : pxCuF pj26 pc26_1 (pxP1 pj26 (some pc26_1.2.2.1) 247 36 9 7) = true := by decide +kernel
end FX_v09
