/-! texts read alike: contracts by program -/
section FX_v24
set_option maxRecDepth 1000000 in
theorem pe50_6_2 : pxEnF pj50 pt50.2.2.1 (pxP2 pj50 none 227 31 8 6 109 5 2) = true := by decide +kernel
set_option maxRecDepth 1000000 in
theorem pe50_6_3 : pxEnF pj50 pt50.2.2.1 (pxP2 pj50 none 227 31 8 6 109 5 3) = true := by decide +kernel
set_option maxRecDepth 1000000 in
theorem pe50_6_4 : pxEnF pj50 pt50.2.2.1 (pxP2 pj50 none 227 31 8 6 109 5 4) = true := by decide +kernel
set_option maxRecDepth 1000000 in
theorem pe50_7_0 : pxEnF pj50 pt50.2.2.1 (pxP2 pj50 none 227 31 8 7 10 2 0) = true := by decide +kernel
end FX_v24
