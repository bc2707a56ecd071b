/-! texts read alike: contracts by program -/
section FX_v06
set_option maxRecDepth 1000000 in
theorem pz26_1_2_2 : pxCuF pj26 pc26_1 (pxP2 pj26 (some pc26_1.2.2.1) 247 36 9 2 65 4 2) = true := by decide +kernel
set_option maxRecDepth 1000000 in
theorem pz26_1_2_3 : pxCuF pj26 pc26_1 (pxP2 pj26 (some pc26_1.2.2.1) 247 36 9 2 65 4 3) = true := by decide +kernel
end FX_v06
