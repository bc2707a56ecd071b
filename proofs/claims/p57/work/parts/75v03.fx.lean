/-! texts read alike: contracts by program -/
section FX_v03
set_option maxRecDepth 1000000 in
theorem pe23_5_0 : pxEnF pj23 pt23.2.2.1 (pxP2 pj23 none 227 28 8 5 102 2 0) = true := by decide +kernel
set_option maxRecDepth 1000000 in
theorem pe23_5_1 : pxEnF pj23 pt23.2.2.1 (pxP2 pj23 none 227 28 8 5 102 2 1) = true := by decide +kernel
set_option maxRecDepth 1000000 in
theorem pe23_6 : pxEnF pj23 pt23.2.2.1 (pxP1 pj23 none 227 28 8 6) = true := by decide +kernel
set_option maxRecDepth 1000000 in
theorem pe23_7 : pxEnF pj23 pt23.2.2.1 (pxP1 pj23 none 227 28 8 7) = true := by decide +kernel
set_option maxRecDepth 1000000 in
theorem pe24_0 : pxEnF pj24 pt24.2.2.1 (pxP1 pj24 none 13 0 1 0) = true := by decide +kernel
set_option maxRecDepth 1000000 in
theorem pz24_0_0 : pxCuF pj24 pc24_0 (pxP1 pj24 (some pc24_0.2.2.1) 37 0 1 0) = true := by decide +kernel
set_option maxRecDepth 1000000 in
theorem pz24_1_0 : pxCuF pj24 pc24_1 (pxP1 pj24 (some pc24_1.2.2.1) 54 0 1 0) = true := by decide +kernel
set_option maxRecDepth 1000000 in
theorem pz24_2_0 : pxCuF pj24 pc24_2 (pxP1 pj24 (some pc24_2.2.2.1) 37 0 1 0) = true := by decide +kernel
set_option maxRecDepth 1000000 in
theorem pz24_3_0 : pxCuF pj24 pc24_3 (pxP1 pj24 (some pc24_3.2.2.1) 37 0 1 0) = true := by decide +kernel
set_option maxRecDepth 1000000 in
theorem pz24_4_0 : pxCuF pj24 pc24_4 (pxP1 pj24 (some pc24_4.2.2.1) 37 0 1 0) = true := by decide +kernel
end FX_v03
