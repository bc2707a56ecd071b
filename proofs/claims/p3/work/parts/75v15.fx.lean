/-! texts read alike: contracts by program -/
section FX_v15
set_option maxRecDepth 1000000 in
theorem pz26_1_7_0 : pxCuF pj26 pc26_1 (pxP2 pj26 (some pc26_1.2.2.1) 247 37 9 7 50 10 0) = true := by decide +kernel
set_option maxRecDepth 1000000 in
theorem pz26_1_7_1 : pxCuF pj26 pc26_1 (pxP2 pj26 (some pc26_1.2.2.1) 247 37 9 7 50 10 1) = true := by decide +kernel
set_option maxRecDepth 1000000 in
theorem pz26_1_7_2 : pxCuF pj26 pc26_1 (pxP2 pj26 (some pc26_1.2.2.1) 247 37 9 7 50 10 2) = true := by decide +kernel
set_option maxRecDepth 1000000 in
theorem pz26_1_7_3 : pxCuF pj26 pc26_1 (pxP2 pj26 (some pc26_1.2.2.1) 247 37 9 7 50 10 3) = true := by decide +kernel
set_option maxRecDepth 1000000 in
theorem pz26_1_7_4 : pxCuF pj26 pc26_1 (pxP2 pj26 (some pc26_1.2.2.1) 247 37 9 7 50 10 4) = true := by decide +kernel
set_option maxRecDepth 1000000 in
theorem pz26_1_7_5 : pxCuF pj26 pc26_1 (pxP2 pj26 (some pc26_1.2.2.1) 247 37 9 7 50 10 5) = true := by decide +kernel
set_option maxRecDepth 1000000 in
theorem pz26_1_7_6 : pxCuF pj26 pc26_1 (pxP2 pj26 (some pc26_1.2.2.1) 247 37 9 7 50 10 6) = true := by decide +kernel
end FX_v15
