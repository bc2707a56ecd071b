/-! texts read alike: contracts by program -/
section FX_v05
set_option maxRecDepth 1000000 in
theorem pz26_1_3 : pxCuF pj26 pc26_1 (pxP1 pj26 (some pc26_1.2.2.1) 247 45 11 3) = true := by decide +kernel
set_option maxRecDepth 1000000 in
theorem pz26_1_4 : pxCuF pj26 pc26_1 (pxP1 pj26 (some pc26_1.2.2.1) 247 45 11 4) = true := by decide +kernel
end FX_v05
