/-! texts read alike: contracts by program -/
section FX_v08
set_option maxRecDepth 1000000 in
theorem pz26_1_2_3 : pxCuF pj26 pc26_1 (pxP2 pj26 (some pc26_1.2.2.1) 247 37 9 2 51 17 3) = true := by decide +kernel
set_option maxRecDepth 1000000 in
theorem pz26_1_2_4 : pxCuF pj26 pc26_1 (pxP2 pj26 (some pc26_1.2.2.1) 247 37 9 2 51 17 4) = true := by decide +kernel
set_option maxRecDepth 1000000 in
theorem pz26_1_2_5 : pxCuF pj26 pc26_1 (pxP2 pj26 (some pc26_1.2.2.1) 247 37 9 2 51 17 5) = true := by decide +kernel
end FX_v08
