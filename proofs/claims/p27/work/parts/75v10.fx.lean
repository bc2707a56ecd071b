/-! texts read alike: contracts by program -/
section FX_v10
set_option maxRecDepth 1000000 in
theorem pz26_1_7_0 : pxCuF pj26 pc26_1 (pxP2 pj26 (some pc26_1.2.2.1) 247 35 8 7 53 2 0) = true := by decide +kernel
set_option maxRecDepth 1000000 in
theorem pz26_1_7_1 : pxCuF pj26 pc26_1 (pxP2 pj26 (some pc26_1.2.2.1) 247 35 8 7 53 2 1) = true := by decide +kernel
set_option maxRecDepth 1000000 in
theorem pz26_2_0 : pxCuF pj26 pc26_2 (pxP1 pj26 (some pc26_2.2.2.1) 144 0 1 0) = true := by decide +kernel
set_option maxRecDepth 1000000 in
theorem pz26_3_0 : pxCuF pj26 pc26_3 (pxP1 pj26 (some pc26_3.2.2.1) 144 0 1 0) = true := by decide +kernel
set_option maxRecDepth 1000000 in
theorem pz26_4_0 : pxCuF pj26 pc26_4 (pxP1 pj26 (some pc26_4.2.2.1) 144 0 1 0) = true := by decide +kernel
set_option maxRecDepth 1000000 in
theorem pz26_5_0 : pxCuF pj26 pc26_5 (pxP1 pj26 (some pc26_5.2.2.1) 144 0 1 0) = true := by decide +kernel
set_option maxRecDepth 1000000 in
theorem pz26_6_0 : pxCuF pj26 pc26_6 (pxP1 pj26 (some pc26_6.2.2.1) 36 0 1 0) = true := by decide +kernel
end FX_v10
