/-! texts read alike: contracts by program -/
section FX_v11
set_option maxRecDepth 1000000 in
theorem pz45_1_0 : pxCuF pj45 pc45_1 (pxP1 pj45 (some pc45_1.2.2.1) 54 0 1 0) = true := by decide +kernel
set_option maxRecDepth 1000000 in
theorem pz45_2_0 : pxCuF pj45 pc45_2 (pxP1 pj45 (some pc45_2.2.2.1) 37 0 1 0) = true := by decide +kernel
set_option maxRecDepth 1000000 in
theorem pz45_3_0 : pxCuF pj45 pc45_3 (pxP1 pj45 (some pc45_3.2.2.1) 37 0 1 0) = true := by decide +kernel
set_option maxRecDepth 1000000 in
theorem pz45_4_0 : pxCuF pj45 pc45_4 (pxP1 pj45 (some pc45_4.2.2.1) 37 0 1 0) = true := by decide +kernel
set_option maxRecDepth 1000000 in
theorem pz45_5_0 : pxCuF pj45 pc45_5 (pxP1 pj45 (some pc45_5.2.2.1) 37 0 1 0) = true := by decide +kernel
set_option maxRecDepth 1000000 in
theorem pz45_6_0 : pxCuF pj45 pc45_6 (pxP1 pj45 (some pc45_6.2.2.1) 37 0 1 0) = true := by decide +kernel
set_option maxRecDepth 1000000 in
theorem pe46_0 : pxEnF pj46 pt46.2.2.1 (pxP1 pj46 none 13 0 1 0) = true := by decide +kernel
set_option maxRecDepth 1000000 in
theorem pz46_0_0 : pxCuF pj46 pc46_0 (pxP1 pj46 (some pc46_0.2.2.1) 37 0 1 0) = true := by decide +kernel
set_option maxRecDepth 1000000 in
theorem pe47_0 : pxEnF pj47 pt47.2.2.1 (pxP1 pj47 none 13 0 1 0) = true := by decide +kernel
set_option maxRecDepth 1000000 in
theorem pz47_0_0 : pxCuF pj47 pc47_0 (pxP1 pj47 (some pc47_0.2.2.1) 37 0 1 0) = true := by decide +kernel
set_option maxRecDepth 1000000 in
theorem pz47_1_0 : pxCuF pj47 pc47_1 (pxP1 pj47 (some pc47_1.2.2.1) 54 0 1 0) = true := by decide +kernel
set_option maxRecDepth 1000000 in
theorem pz47_2_0 : pxCuF pj47 pc47_2 (pxP1 pj47 (some pc47_2.2.2.1) 37 0 1 0) = true := by decide +kernel
set_option maxRecDepth 1000000 in
theorem pz47_3_0 : pxCuF pj47 pc47_3 (pxP1 pj47 (some pc47_3.2.2.1) 37 0 1 0) = true := by decide +kernel
set_option maxRecDepth 1000000 in
theorem pz47_4_0 : pxCuF pj47 pc47_4 (pxP1 pj47 (some pc47_4.2.2.1) 37 0 1 0) = true := by decide +kernel
set_option maxRecDepth 1000000 in
theorem pz47_5_0 : pxCuF pj47 pc47_5 (pxP1 pj47 (some pc47_5.2.2.1) 37 0 1 0) = true := by decide +kernel
set_option maxRecDepth 1000000 in
theorem pz47_6_0 : pxCuF pj47 pc47_6 (pxP1 pj47 (some pc47_6.2.2.1) 37 0 1 0) = true := by decide +kernel
set_option maxRecDepth 1000000 in
theorem pe48_0 : pxEnF pj48 pt48.2.2.1 (pxP1 pj48 none 13 0 1 0) = true := by decide +kernel
set_option maxRecDepth 1000000 in
theorem pz48_0_0 : pxCuF pj48 pc48_0 (pxP1 pj48 (some pc48_0.2.2.1) 37 0 1 0) = true := by decide +kernel
set_option maxRecDepth 1000000 in
theorem pe49_0 : pxEnF pj49 pt49.2.2.1 (pxP1 pj49 none 189 0 1 0) = true := by decide +kernel
set_option maxRecDepth 1000000 in
theorem pe50_0 : pxEnF pj50 pt50.2.2.1 (pxP1 pj50 none 227 30 6 0) = true := by decide +kernel
set_option maxRecDepth 1000000 in
theorem pe50_1 : pxEnF pj50 pt50.2.2.1 (pxP1 pj50 none 227 30 6 1) = true := by decide +kernel
end FX_v11
