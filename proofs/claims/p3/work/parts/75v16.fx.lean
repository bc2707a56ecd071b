/-! texts read alike: contracts by program -/
section FX_v16
set_option maxRecDepth 1000000 in
theorem pz26_1_7_7 : pxCuF pj26 pc26_1 (pxP2 pj26 (some pc26_1.2.2.1) 247 37 9 7 50 10 7) = true := by decide +kernel
set_option maxRecDepth 1000000 in
theorem pz26_1_7_8 : pxCuF pj26 pc26_1 (pxP2 pj26 (some pc26_1.2.2.1) 247 37 9 7 50 10 8) = true := by decide +kernel
set_option maxRecDepth 1000000 in
theorem pz26_1_7_9 : pxCuF pj26 pc26_1 (pxP2 pj26 (some pc26_1.2.2.1) 247 37 9 7 50 10 9) = true := by decide +kernel
set_option maxRecDepth 1000000 in
theorem pz26_1_8_0 : pxCuF pj26 pc26_1 (pxP2 pj26 (some pc26_1.2.2.1) 247 37 9 8 65 10 0) = true := by decide +kernel
end FX_v16
