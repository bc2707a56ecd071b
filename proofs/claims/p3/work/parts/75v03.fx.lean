/-! texts read alike: contracts by program -/
section FX_v03
set_option maxRecDepth 1000000 in
theorem pe23_5_1 : pxEnF pj23 pt23.2.2.1 (pxP2 pj23 none 227 31 8 5 102 3 1) = true := by decide +kernel
set_option maxRecDepth 1000000 in
theorem pe23_5_2 : pxEnF pj23 pt23.2.2.1 (pxP2 pj23 none 227 31 8 5 102 3 2) = true := by decide +kernel
set_option maxRecDepth 1000000 in
theorem pe23_6_0 : pxEnF pj23 pt23.2.2.1 (pxP2 pj23 none 227 31 8 6 109 5 0) = true := by decide +kernel
end FX_v03
