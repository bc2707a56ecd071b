/-! texts read alike: contracts by program -/
section FX_v02
set_option maxRecDepth 1000000 in
theorem pe23_1_1 : pxEnF pj23 pt23.2.2.1 (pxP2 pj23 none 227 28 5 1 88 2 1) = true := by decide +kernel
set_option maxRecDepth 1000000 in
theorem pe23_2_0 : pxEnF pj23 pt23.2.2.1 (pxP2 pj23 none 227 28 5 2 88 2 0) = true := by decide +kernel
set_option maxRecDepth 1000000 in
theorem pe23_2_1 : pxEnF pj23 pt23.2.2.1 (pxP2 pj23 none 227 28 5 2 88 2 1) = true := by decide +kernel
end FX_v02
