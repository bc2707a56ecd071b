/-! texts read alike: contracts by program -/
section FX_v04
set_option maxRecDepth 1000000 in
theorem pz26_1_0_0 : pxCuF pj26 pc26_1 (pxP2 pj26 (some pc26_1.2.2.1) 247 35 8 0 52 3 0) = true := by decide +kernel
set_option maxRecDepth 1000000 in
theorem pz26_1_0_1 : pxCuF pj26 pc26_1 (pxP2 pj26 (some pc26_1.2.2.1) 247 35 8 0 52 3 1) = true := by decide +kernel
end FX_v04
