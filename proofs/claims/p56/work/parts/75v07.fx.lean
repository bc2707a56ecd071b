/-! texts read alike: contracts by program -/
section FX_v07
set_option maxRecDepth 1000000 in
theorem pz26_1_6 : pxCuF pj26 pc26_1 (pxP1 pj26 (some pc26_1.2.2.1) 247 45 11 6) = true := by decide +kernel
set_option maxRecDepth 1000000 in
theorem pz26_1_7_0 : pxCuF pj26 pc26_1 (pxP2 pj26 (some pc26_1.2.2.1) 247 45 11 7 56 2 0) = true := by decide +kernel
end FX_v07
