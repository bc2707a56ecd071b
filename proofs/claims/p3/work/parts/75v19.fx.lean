/-! texts read alike: contracts by program -/
section FX_v19
set_option maxRecDepth 1000000 in
theorem pz26_1_8_6 : pxCuF pj26 pc26_1 (pxP2 pj26 (some pc26_1.2.2.1) 247 37 9 8 65 10 6) = true := by decide +kernel
set_option maxRecDepth 1000000 in
theorem pz26_1_8_7 : pxCuF pj26 pc26_1 (pxP2 pj26 (some pc26_1.2.2.1) 247 37 9 8 65 10 7) = true := by decide +kernel
end FX_v19
