/-! texts read alike: contracts by program -/
section FX_v13
set_option maxRecDepth 1000000 in
theorem pe50_4_1 : pxEnF pj50 pt50.2.2.1 (pxP2 pj50 none 227 28 8 4 89 2 1) = true := by decide +kernel
set_option maxRecDepth 1000000 in
theorem pe50_5_0 : pxEnF pj50 pt50.2.2.1 (pxP2 pj50 none 227 28 8 5 102 2 0) = true := by decide +kernel
end FX_v13
