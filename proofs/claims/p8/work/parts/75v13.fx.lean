/-! texts read alike: contracts by program -/
section FX_v13
set_option maxRecDepth 1000000 in
theorem pe50_3 : pxEnF pj50 pt50.2.2.1 (pxP1 pj50 none 227 28 5 3) = true := by decide +kernel
set_option maxRecDepth 1000000 in
theorem pe50_4 : pxEnF pj50 pt50.2.2.1 (pxP1 pj50 none 227 28 5 4) = true := by decide +kernel
set_option maxRecDepth 1000000 in
theorem pe51_0 : pxEnF pj51 pt51.2.2.1 (pxP1 pj51 none 13 0 1 0) = true := by decide +kernel
set_option maxRecDepth 1000000 in
theorem pz51_0_0 : pxCuF pj51 pc51_0 (pxP1 pj51 (some pc51_0.2.2.1) 37 0 1 0) = true := by decide +kernel
set_option maxRecDepth 1000000 in
theorem pz51_1_0 : pxCuF pj51 pc51_1 (pxP1 pj51 (some pc51_1.2.2.1) 54 0 1 0) = true := by decide +kernel
set_option maxRecDepth 1000000 in
theorem pz51_2_0 : pxCuF pj51 pc51_2 (pxP1 pj51 (some pc51_2.2.2.1) 37 0 1 0) = true := by decide +kernel
set_option maxRecDepth 1000000 in
theorem pz51_3_0 : pxCuF pj51 pc51_3 (pxP1 pj51 (some pc51_3.2.2.1) 37 0 1 0) = true := by decide +kernel
set_option maxRecDepth 1000000 in
theorem pz51_4_0 : pxCuF pj51 pc51_4 (pxP1 pj51 (some pc51_4.2.2.1) 37 0 1 0) = true := by decide +kernel
set_option maxRecDepth 1000000 in
theorem pz51_5_0 : pxCuF pj51 pc51_5 (pxP1 pj51 (some pc51_5.2.2.1) 37 0 1 0) = true := by decide +kernel
set_option maxRecDepth 1000000 in
theorem pz51_6_0 : pxCuF pj51 pc51_6 (pxP1 pj51 (some pc51_6.2.2.1) 37 0 1 0) = true := by decide +kernel
set_option maxRecDepth 1000000 in
theorem pe52_0 : pxEnF pj52 pt52.2.2.1 (pxP1 pj52 none 13 0 1 0) = true := by decide +kernel
set_option maxRecDepth 1000000 in
theorem pz52_0_0 : pxCuF pj52 pc52_0 (pxP1 pj52 (some pc52_0.2.2.1) 37 0 1 0) = true := by decide +kernel
set_option maxRecDepth 1000000 in
theorem pz52_1_0 : pxCuF pj52 pc52_1 (pxP1 pj52 (some pc52_1.2.2.1) 54 0 1 0) = true := by decide +kernel
set_option maxRecDepth 1000000 in
theorem pz52_2_0 : pxCuF pj52 pc52_2 (pxP1 pj52 (some pc52_2.2.2.1) 37 0 1 0) = true := by decide +kernel
set_option maxRecDepth 1000000 in
theorem pz52_3_0 : pxCuF pj52 pc52_3 (pxP1 pj52 (some pc52_3.2.2.1) 37 0 1 0) = true := by decide +kernel
set_option maxRecDepth 1000000 in
theorem pz52_4_0 : pxCuF pj52 pc52_4 (pxP1 pj52 (some pc52_4.2.2.1) 37 0 1 0) = true := by decide +kernel
set_option maxRecDepth 1000000 in
theorem pz52_5_0 : pxCuF pj52 pc52_5 (pxP1 pj52 (some pc52_5.2.2.1) 37 0 1 0) = true := by decide +kernel
set_option maxRecDepth 1000000 in
theorem pz52_6_0 : pxCuF pj52 pc52_6 (pxP1 pj52 (some pc52_6.2.2.1) 37 0 1 0) = true := by decide +kernel
set_option maxRecDepth 1000000 in
theorem pe53_0 : pxEnF pj53 pt53.2.2.1 (pxP1 pj53 none 70 0 1 0) = true := by decide +kernel
set_option maxRecDepth 1000000 in
theorem pz53_0_0 : pxCuF pj53 pc53_0 (pxP1 pj53 (some pc53_0.2.2.1) 40 0 1 0) = true := by decide +kernel
end FX_v13
