/-! texts read alike: contracts by program -/
section FX_v09
set_option maxRecDepth 1000000 in
theorem pz26_1_6_3 : pxCuF pj26 pc26_1 (pxP2 pj26 (some pc26_1.2.2.1) 247 35 8 6 10 6 3) = true := by decide +kernel
set_option maxRecDepth 1000000 in
theorem pz26_1_6_4 : pxCuF pj26 pc26_1 (pxP2 pj26 (some pc26_1.2.2.1) 247 35 8 6 10 6 4) = true := by decide +kernel
set_option maxRecDepth 1000000 in
theorem pz26_1_6_5 : pxCuF pj26 pc26_1 (pxP2 pj26 (some pc26_1.2.2.1) 247 35 8 6 10 6 5) = true := by decide +kernel
end FX_v09
