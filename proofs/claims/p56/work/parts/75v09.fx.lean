/-! texts read alike: contracts by program -/
section FX_v09
set_option maxRecDepth 1000000 in
theorem pz26_1_8_1 : pxCuF pj26 pc26_1 (pxP2 pj26 (some pc26_1.2.2.1) 247 45 11 8 42 2 1) = true := by decide +kernel
set_option maxRecDepth 1000000 in
theorem pz26_1_9 : pxCuF pj26 pc26_1 (pxP1 pj26 (some pc26_1.2.2.1) 247 45 11 9) = true := by decide +kernel
set_option maxRecDepth 1000000 in
theorem pz26_1_10_0 : pxCuF pj26 pc26_1 (pxP2 pj26 (some pc26_1.2.2.1) 247 45 11 10 5 3 0) = true := by decide +kernel
end FX_v09
