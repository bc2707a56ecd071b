/-! texts read alike: contracts by program -/
section FX_v03
set_option maxRecDepth 1000000 in
theorem pe23_3 : pxEnF pj23 pt23.2.2.1 (pxP1 pj23 none 227 28 5 3) = true := by decide +kernel
set_option maxRecDepth 1000000 in
theorem pe23_4 : pxEnF pj23 pt23.2.2.1 (pxP1 pj23 none 227 28 5 4) = true := by decide +kernel
set_option maxRecDepth 1000000 in
theorem pe24_0 : pxEnF pj24 pt24.2.2.1 (pxP1 pj24 none 13 0 1 0) = true := by decide +kernel
set_option maxRecDepth 1000000 in
theorem pz24_0_0 : pxCuF pj24 pc24_0 (pxP1 pj24 (some pc24_0.2.2.1) 37 0 1 0) = true := by decide +kernel
set_option maxRecDepth 1000000 in
theorem pz24_1_0 : pxCuF pj24 pc24_1 (pxP1 pj24 (some pc24_1.2.2.1) 54 0 1 0) = true := by decide +kernel
set_option maxRecDepth 1000000 in
theorem pz24_2_0 : pxCuF pj24 pc24_2 (pxP1 pj24 (some pc24_2.2.2.1) 37 0 1 0) = true := by decide +kernel
set_option maxRecDepth 1000000 in
theorem pz24_3_0 : pxCuF pj24 pc24_3 (pxP1 pj24 (some pc24_3.2.2.1) 37 0 1 0) = true := by decide +kernel
set_option maxRecDepth 1000000 in
theorem pz24_4_0 : pxCuF pj24 pc24_4 (pxP1 pj24 (some pc24_4.2.2.1) 37 0 1 0) = true := by decide +kernel
set_option maxRecDepth 1000000 in
theorem pz24_5_0 : pxCuF pj24 pc24_5 (pxP1 pj24 (some pc24_5.2.2.1) 37 0 1 0) = true := by decide +kernel
set_option maxRecDepth 1000000 in
theorem pz24_6_0 : pxCuF pj24 pc24_6 (pxP1 pj24 (some pc24_6.2.2.1) 37 0 1 0) = true := by decide +kernel
set_option maxRecDepth 1000000 in
theorem pe25_0 : pxEnF pj25 pt25.2.2.1 (pxP1 pj25 none 13 0 1 0) = true := by decide +kernel
set_option maxRecDepth 1000000 in
theorem pz25_0_0 : pxCuF pj25 pc25_0 (pxP1 pj25 (some pc25_0.2.2.1) 37 0 1 0) = true := by decide +kernel
set_option maxRecDepth 1000000 in
theorem pz25_1_0 : pxCuF pj25 pc25_1 (pxP1 pj25 (some pc25_1.2.2.1) 54 0 1 0) = true := by decide +kernel
set_option maxRecDepth 1000000 in
theorem pz25_2_0 : pxCuF pj25 pc25_2 (pxP1 pj25 (some pc25_2.2.2.1) 37 0 1 0) = true := by decide +kernel
set_option maxRecDepth 1000000 in
theorem pz25_3_0 : pxCuF pj25 pc25_3 (pxP1 pj25 (some pc25_3.2.2.1) 37 0 1 0) = true := by decide +kernel
set_option maxRecDepth 1000000 in
theorem pz25_4_0 : pxCuF pj25 pc25_4 (pxP1 pj25 (some pc25_4.2.2.1) 37 0 1 0) = true := by decide +kernel
set_option maxRecDepth 1000000 in
theorem pz25_5_0 : pxCuF pj25 pc25_5 (pxP1 pj25 (some pc25_5.2.2.1) 37 0 1 0) = true := by decide +kernel
set_option maxRecDepth 1000000 in
theorem pz25_6_0 : pxCuF pj25 pc25_6 (pxP1 pj25 (some pc25_6.2.2.1) 37 0 1 0) = true := by decide +kernel
set_option maxRecDepth 1000000 in
theorem pe26_0 : pxEnF pj26 pt26.2.2.1 (pxP1 pj26 none 70 0 1 0) = true := by decide +kernel
set_option maxRecDepth 1000000 in
theorem pz26_0_0 : pxCuF pj26 pc26_0 (pxP1 pj26 (some pc26_0.2.2.1) 40 0 1 0) = true := by decide +kernel
end FX_v03
