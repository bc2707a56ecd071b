/-! texts read alike: contracts by program -/
section FX_v23
set_option maxRecDepth 1000000 in
theorem pe50_5_2 : pxEnF pj50 pt50.2.2.1 (pxP2 pj50 none 227 31 8 5 102 3 2) = true := by decide +kernel
set_option maxRecDepth 1000000 in
theorem pe50_6_0 : pxEnF pj50 pt50.2.2.1 (pxP2 pj50 none 227 31 8 6 109 5 0) = true := by decide +kernel
set_option maxRecDepth 1000000 in
theorem pe50_6_1 : pxEnF pj50 pt50.2.2.1 (pxP2 pj50 none 227 31 8 6 109 5 1) = true := by decide +kernel
end FX_v23
