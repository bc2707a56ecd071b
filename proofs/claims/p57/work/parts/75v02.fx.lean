/-! texts read alike: contracts by program -/
section FX_v02
set_option maxRecDepth 1000000 in
theorem pe23_2 : pxEnF pj23 pt23.2.2.1 (pxP1 pj23 none 227 28 8 2) = true := by decide +kernel
set_option maxRecDepth 1000000 in
theorem pe23_3 : pxEnF pj23 pt23.2.2.1 (pxP1 pj23 none 227 28 8 3) = true := by decide +kernel
set_option maxRecDepth 1000000 in
theorem pe23_4_0 : pxEnF pj23 pt23.2.2.1 (pxP2 pj23 none 227 28 8 4 89 2 0) = true := by decide +kernel
set_option maxRecDepth 1000000 in
theorem pe23_4_1 : pxEnF pj23 pt23.2.2.1 (pxP2 pj23 none 227 28 8 4 89 2 1) = true := by decide +kernel
end FX_v02
