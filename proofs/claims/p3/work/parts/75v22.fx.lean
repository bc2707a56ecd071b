/-! texts read alike: contracts by program -/
section FX_v22
set_option maxRecDepth 1000000 in
theorem pe50_3 : pxEnF pj50 pt50.2.2.1 (pxP1 pj50 none 227 31 8 3) = true := by decide +kernel
set_option maxRecDepth 1000000 in
theorem pe50_4 : pxEnF pj50 pt50.2.2.1 (pxP1 pj50 none 227 31 8 4) = true := by decide +kernel
set_option maxRecDepth 1000000 in
theorem pe50_5_0 : pxEnF pj50 pt50.2.2.1 (pxP2 pj50 none 227 31 8 5 102 3 0) = true := by decide +kernel
set_option maxRecDepth 1000000 in
theorem pe50_5_1 : pxEnF pj50 pt50.2.2.1 (pxP2 pj50 none 227 31 8 5 102 3 1) = true := by decide +kernel
end FX_v22
