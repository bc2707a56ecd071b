/-! texts read alike: contracts by program -/
section FX_v04
set_option maxRecDepth 1000000 in
theorem pe23_6_1 : pxEnF pj23 pt23.2.2.1 (pxP2 pj23 none 227 31 8 6 109 5 1) = true := by decide +kernel
set_option maxRecDepth 1000000 in
theorem pe23_6_2 : pxEnF pj23 pt23.2.2.1 (pxP2 pj23 none 227 31 8 6 109 5 2) = true := by decide +kernel
set_option maxRecDepth 1000000 in
theorem pe23_6_3 : pxEnF pj23 pt23.2.2.1 (pxP2 pj23 none 227 31 8 6 109 5 3) = true := by decide +kernel
end FX_v04
