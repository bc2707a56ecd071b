/-! texts read alike: contracts by program -/
section FX_v12
set_option maxRecDepth 1000000 in
theorem pe49_0 : pxEnF pj49 pt49.2.2.1 (pxP1 pj49 none 189 0 1 0) = true := by decide +kernel
set_option maxRecDepth 1000000 in
theorem pe50_0 : pxEnF pj50 pt50.2.2.1 (pxP1 pj50 none 227 28 8 0) = true := by decide +kernel
set_option maxRecDepth 1000000 in
theorem pe50_1 : pxEnF pj50 pt50.2.2.1 (pxP1 pj50 none 227 28 8 1) = true := by decide +kernel
set_option maxRecDepth 1000000 in
theorem pe50_2 : pxEnF pj50 pt50.2.2.1 (pxP1 pj50 none 227 28 8 2) = true := by decide +kernel
set_option maxRecDepth 1000000 in
theorem pe50_3 : pxEnF pj50 pt50.2.2.1 (pxP1 pj50 none 227 28 8 3) = true := by decide +kernel
set_option maxRecDepth 1000000 in
theorem pe50_4_0 : pxEnF pj50 pt50.2.2.1 (pxP2 pj50 none 227 28 8 4 89 2 0) = true := by decide +kernel
end FX_v12
