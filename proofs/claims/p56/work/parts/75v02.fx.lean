/-! texts read alike: contracts by program -/
section FX_v02
set_option maxRecDepth 1000000 in
theorem pe23_1 : pxEnF pj23 pt23.2.2.1 (pxP1 pj23 none 227 30 6 1) = true := by decide +kernel
set_option maxRecDepth 1000000 in
theorem pe23_2_0 : pxEnF pj23 pt23.2.2.1 (pxP2 pj23 none 227 30 6 2 87 2 0) = true := by decide +kernel
set_option maxRecDepth 1000000 in
theorem pe23_2_1 : pxEnF pj23 pt23.2.2.1 (pxP2 pj23 none 227 30 6 2 87 2 1) = true := by decide +kernel
set_option maxRecDepth 1000000 in
theorem pe23_3_0 : pxEnF pj23 pt23.2.2.1 (pxP2 pj23 none 227 30 6 3 86 2 0) = true := by decide +kernel
end FX_v02
