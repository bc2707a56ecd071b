/-! texts read alike: contracts by program -/
section FX_v11
set_option maxRecDepth 1000000 in
theorem pz27_0_0 : pxCuF pj27 pc27_0 (pxP1 pj27 (some pc27_0.2.2.1) 40 0 1 0) = true := by decide +kernel
set_option maxRecDepth 1000000 in
theorem pe28_0 : pxEnF pj28 pt28.2.2.1 (pxP1 pj28 none 70 0 1 0) = true := by decide +kernel
set_option maxRecDepth 1000000 in
theorem pz28_0_0 : pxCuF pj28 pc28_0 (pxP1 pj28 (some pc28_0.2.2.1) 142 0 1 0) = true := by decide +kernel
set_option maxRecDepth 1000000 in
theorem pz28_1_0 : pxCuF pj28 pc28_1 (pxP1 pj28 (some pc28_1.2.2.1) 36 0 1 0) = true := by decide +kernel
set_option maxRecDepth 1000000 in
theorem pe29_0 : pxEnF pj29 pt29.2.2.1 (pxP1 pj29 none 70 0 1 0) = true := by decide +kernel
set_option maxRecDepth 1000000 in
theorem pz29_0_0 : pxCuF pj29 pc29_0 (pxP1 pj29 (some pc29_0.2.2.1) 142 0 1 0) = true := by decide +kernel
set_option maxRecDepth 1000000 in
theorem pz29_1_0 : pxCuF pj29 pc29_1 (pxP1 pj29 (some pc29_1.2.2.1) 36 0 1 0) = true := by decide +kernel
set_option maxRecDepth 1000000 in
theorem pe30_0 : pxEnF pj30 pt30.2.2.1 (pxP1 pj30 none 70 0 1 0) = true := by decide +kernel
set_option maxRecDepth 1000000 in
theorem pz30_0_0 : pxCuF pj30 pc30_0 (pxP1 pj30 (some pc30_0.2.2.1) 142 0 1 0) = true := by decide +kernel
set_option maxRecDepth 1000000 in
theorem pz30_1_0 : pxCuF pj30 pc30_1 (pxP1 pj30 (some pc30_1.2.2.1) 36 0 1 0) = true := by decide +kernel
set_option maxRecDepth 1000000 in
theorem pe31_0 : pxEnF pj31 pt31.2.2.1 (pxP1 pj31 none 70 0 1 0) = true := by decide +kernel
set_option maxRecDepth 1000000 in
theorem pz31_0_0 : pxCuF pj31 pc31_0 (pxP1 pj31 (some pc31_0.2.2.1) 142 0 1 0) = true := by decide +kernel
set_option maxRecDepth 1000000 in
theorem pz31_1_0 : pxCuF pj31 pc31_1 (pxP1 pj31 (some pc31_1.2.2.1) 36 0 1 0) = true := by decide +kernel
set_option maxRecDepth 1000000 in
theorem pe32_0 : pxEnF pj32 pt32.2.2.1 (pxP1 pj32 none 53 0 1 0) = true := by decide +kernel
set_option maxRecDepth 1000000 in
theorem pe33_0 : pxEnF pj33 pt33.2.2.1 (pxP1 pj33 none 13 0 1 0) = true := by decide +kernel
set_option maxRecDepth 1000000 in
theorem pz33_0_0 : pxCuF pj33 pc33_0 (pxP1 pj33 (some pc33_0.2.2.1) 37 0 1 0) = true := by decide +kernel
set_option maxRecDepth 1000000 in
theorem pe34_0 : pxEnF pj34 pt34.2.2.1 (pxP1 pj34 none 13 0 1 0) = true := by decide +kernel
set_option maxRecDepth 1000000 in
theorem pz34_0_0 : pxCuF pj34 pc34_0 (pxP1 pj34 (some pc34_0.2.2.1) 37 0 1 0) = true := by decide +kernel
set_option maxRecDepth 1000000 in
theorem pe35_0 : pxEnF pj35 pt35.2.2.1 (pxP1 pj35 none 166 0 1 0) = true := by decide +kernel
set_option maxRecDepth 1000000 in
theorem pe36_0 : pxEnF pj36 pt36.2.2.1 (pxP1 pj36 none 13 0 1 0) = true := by decide +kernel
set_option maxRecDepth 1000000 in
theorem pz36_0_0 : pxCuF pj36 pc36_0 (pxP1 pj36 (some pc36_0.2.2.1) 37 0 1 0) = true := by decide +kernel
set_option maxRecDepth 1000000 in
theorem pe37_0 : pxEnF pj37 pt37.2.2.1 (pxP1 pj37 none 13 0 1 0) = true := by decide +kernel
set_option maxRecDepth 1000000 in
theorem pz37_0_0 : pxCuF pj37 pc37_0 (pxP1 pj37 (some pc37_0.2.2.1) 37 0 1 0) = true := by decide +kernel
set_option maxRecDepth 1000000 in
theorem pe38_0 : pxEnF pj38 pt38.2.2.1 (pxP1 pj38 none 162 0 1 0) = true := by decide +kernel
set_option maxRecDepth 1000000 in
theorem pe39_0 : pxEnF pj39 pt39.2.2.1 (pxP1 pj39 none 170 0 1 0) = true := by decide +kernel
set_option maxRecDepth 1000000 in
theorem pe40_0 : pxEnF pj40 pt40.2.2.1 (pxP1 pj40 none 13 0 1 0) = true := by decide +kernel
set_option maxRecDepth 1000000 in
theorem pz40_0_0 : pxCuF pj40 pc40_0 (pxP1 pj40 (some pc40_0.2.2.1) 37 0 1 0) = true := by decide +kernel
set_option maxRecDepth 1000000 in
theorem pe41_0 : pxEnF pj41 pt41.2.2.1 (pxP1 pj41 none 13 0 1 0) = true := by decide +kernel
set_option maxRecDepth 1000000 in
theorem pz41_0_0 : pxCuF pj41 pc41_0 (pxP1 pj41 (some pc41_0.2.2.1) 37 0 1 0) = true := by decide +kernel
set_option maxRecDepth 1000000 in
theorem pe42_0 : pxEnF pj42 pt42.2.2.1 (pxP1 pj42 none 13 0 1 0) = true := by decide +kernel
set_option maxRecDepth 1000000 in
theorem pz42_0_0 : pxCuF pj42 pc42_0 (pxP1 pj42 (some pc42_0.2.2.1) 37 0 1 0) = true := by decide +kernel
set_option maxRecDepth 1000000 in
theorem pe43_0 : pxEnF pj43 pt43.2.2.1 (pxP1 pj43 none 13 0 1 0) = true := by decide +kernel
set_option maxRecDepth 1000000 in
theorem pz43_0_0 : pxCuF pj43 pc43_0 (pxP1 pj43 (some pc43_0.2.2.1) 37 0 1 0) = true := by decide +kernel
set_option maxRecDepth 1000000 in
theorem pe44_0 : pxEnF pj44 pt44.2.2.1 (pxP1 pj44 none 173 0 1 0) = true := by decide +kernel
set_option maxRecDepth 1000000 in
theorem pe45_0 : pxEnF pj45 pt45.2.2.1 (pxP1 pj45 none 13 0 1 0) = true := by decide +kernel
set_option maxRecDepth 1000000 in
theorem pz45_0_0 : pxCuF pj45 pc45_0 (pxP1 pj45 (some pc45_0.2.2.1) 37 0 1 0) = true := by decide +kernel
set_option maxRecDepth 1000000 in
theorem pz45_1_0 : pxCuF pj45 pc45_1 (pxP1 pj45 (some pc45_1.2.2.1) 54 0 1 0) = true := by decide +kernel
set_option maxRecDepth 1000000 in
theorem pz45_2_0 : pxCuF pj45 pc45_2 (pxP1 pj45 (some pc45_2.2.2.1) 37 0 1 0) = true := by decide +kernel
set_option maxRecDepth 1000000 in
theorem pz45_3_0 : pxCuF pj45 pc45_3 (pxP1 pj45 (some pc45_3.2.2.1) 37 0 1 0) = true := by decide +kernel
set_option maxRecDepth 1000000 in
theorem pz45_4_0 : pxCuF pj45 pc45_4 (pxP1 pj45 (some pc45_4.2.2.1) 37 0 1 0) = true := by decide +kernel
set_option maxRecDepth 1000000 in
theorem pz45_5_0 : pxCuF pj45 pc45_5 (pxP1 pj45 (some pc45_5.2.2.1) 37 0 1 0) = true := by decide +kernel
set_option maxRecDepth 1000000 in
theorem pz45_6_0 : pxCuF pj45 pc45_6 (pxP1 pj45 (some pc45_6.2.2.1) 37 0 1 0) = true := by decide +kernel
set_option maxRecDepth 1000000 in
theorem pe46_0 : pxEnF pj46 pt46.2.2.1 (pxP1 pj46 none 13 0 1 0) = true := by decide +kernel
set_option maxRecDepth 1000000 in
theorem pz46_0_0 : pxCuF pj46 pc46_0 (pxP1 pj46 (some pc46_0.2.2.1) 37 0 1 0) = true := by decide +kernel
set_option maxRecDepth 1000000 in
theorem pe47_0 : pxEnF pj47 pt47.2.2.1 (pxP1 pj47 none 13 0 1 0) = true := by decide +kernel
set_option maxRecDepth 1000000 in
theorem pz47_0_0 : pxCuF pj47 pc47_0 (pxP1 pj47 (some pc47_0.2.2.1) 37 0 1 0) = true := by decide +kernel
set_option maxRecDepth 1000000 in
theorem pz47_1_0 : pxCuF pj47 pc47_1 (pxP1 pj47 (some pc47_1.2.2.1) 54 0 1 0) = true := by decide +kernel
set_option maxRecDepth 1000000 in
theorem pz47_2_0 : pxCuF pj47 pc47_2 (pxP1 pj47 (some pc47_2.2.2.1) 37 0 1 0) = true := by decide +kernel
set_option maxRecDepth 1000000 in
theorem pz47_3_0 : pxCuF pj47 pc47_3 (pxP1 pj47 (some pc47_3.2.2.1) 37 0 1 0) = true := by decide +kernel
set_option maxRecDepth 1000000 in
theorem pz47_4_0 : pxCuF pj47 pc47_4 (pxP1 pj47 (some pc47_4.2.2.1) 37 0 1 0) = true := by decide +kernel
set_option maxRecDepth 1000000 in
theorem pz47_5_0 : pxCuF pj47 pc47_5 (pxP1 pj47 (some pc47_5.2.2.1) 37 0 1 0) = true := by decide +kernel
set_option maxRecDepth 1000000 in
theorem pz47_6_0 : pxCuF pj47 pc47_6 (pxP1 pj47 (some pc47_6.2.2.1) 37 0 1 0) = true := by decide +kernel
set_option maxRecDepth 1000000 in
theorem pe48_0 : pxEnF pj48 pt48.2.2.1 (pxP1 pj48 none 13 0 1 0) = true := by decide +kernel
set_option maxRecDepth 1000000 in
theorem pz48_0_0 : pxCuF pj48 pc48_0 (pxP1 pj48 (some pc48_0.2.2.1) 37 0 1 0) = true := by decide +kernel
set_option maxRecDepth 1000000 in
theorem pe49_0 : pxEnF pj49 pt49.2.2.1 (pxP1 pj49 none 189 0 1 0) = true := by decide +kernel
set_option maxRecDepth 1000000 in
theorem pe50_0 : pxEnF pj50 pt50.2.2.1 (pxP1 pj50 none 227 28 5 0) = true := by decide +kernel
set_option maxRecDepth 1000000 in
theorem pe50_1_0 : pxEnF pj50 pt50.2.2.1 (pxP2 pj50 none 227 28 5 1 88 2 0) = true := by decide +kernel
end FX_v11
