/-! texts read alike: contracts by program -/
section FX_v01
set_option maxRecDepth 1000000 in
theorem pe0_0 : pxEnF pj0 pt0.2.2.1 (pxP1 pj0 none 70 0 1 0) = true := by decide +kernel
set_option maxRecDepth 1000000 in
theorem pz0_0_0 : pxCuF pj0 pc0_0 (pxP1 pj0 (some pc0_0.2.2.1) 40 0 1 0) = true := by decide +kernel
set_option maxRecDepth 1000000 in
theorem pe1_0 : pxEnF pj1 pt1.2.2.1 (pxP1 pj1 none 70 0 1 0) = true := by decide +kernel
set_option maxRecDepth 1000000 in
theorem pz1_0_0 : pxCuF pj1 pc1_0 (pxP1 pj1 (some pc1_0.2.2.1) 142 0 1 0) = true := by decide +kernel
set_option maxRecDepth 1000000 in
theorem pz1_1_0 : pxCuF pj1 pc1_1 (pxP1 pj1 (some pc1_1.2.2.1) 36 0 1 0) = true := by decide +kernel
set_option maxRecDepth 1000000 in
theorem pe2_0 : pxEnF pj2 pt2.2.2.1 (pxP1 pj2 none 70 0 1 0) = true := by decide +kernel
set_option maxRecDepth 1000000 in
theorem pz2_0_0 : pxCuF pj2 pc2_0 (pxP1 pj2 (some pc2_0.2.2.1) 142 0 1 0) = true := by decide +kernel
set_option maxRecDepth 1000000 in
theorem pz2_1_0 : pxCuF pj2 pc2_1 (pxP1 pj2 (some pc2_1.2.2.1) 36 0 1 0) = true := by decide +kernel
set_option maxRecDepth 1000000 in
theorem pe3_0 : pxEnF pj3 pt3.2.2.1 (pxP1 pj3 none 70 0 1 0) = true := by decide +kernel
set_option maxRecDepth 1000000 in
theorem pz3_0_0 : pxCuF pj3 pc3_0 (pxP1 pj3 (some pc3_0.2.2.1) 142 0 1 0) = true := by decide +kernel
set_option maxRecDepth 1000000 in
theorem pz3_1_0 : pxCuF pj3 pc3_1 (pxP1 pj3 (some pc3_1.2.2.1) 36 0 1 0) = true := by decide +kernel
set_option maxRecDepth 1000000 in
theorem pe4_0 : pxEnF pj4 pt4.2.2.1 (pxP1 pj4 none 70 0 1 0) = true := by decide +kernel
set_option maxRecDepth 1000000 in
theorem pz4_0_0 : pxCuF pj4 pc4_0 (pxP1 pj4 (some pc4_0.2.2.1) 142 0 1 0) = true := by decide +kernel
set_option maxRecDepth 1000000 in
theorem pz4_1_0 : pxCuF pj4 pc4_1 (pxP1 pj4 (some pc4_1.2.2.1) 36 0 1 0) = true := by decide +kernel
set_option maxRecDepth 1000000 in
theorem pe5_0 : pxEnF pj5 pt5.2.2.1 (pxP1 pj5 none 53 0 1 0) = true := by decide +kernel
set_option maxRecDepth 1000000 in
theorem pe6_0 : pxEnF pj6 pt6.2.2.1 (pxP1 pj6 none 13 0 1 0) = true := by decide +kernel
set_option maxRecDepth 1000000 in
theorem pz6_0_0 : pxCuF pj6 pc6_0 (pxP1 pj6 (some pc6_0.2.2.1) 37 0 1 0) = true := by decide +kernel
set_option maxRecDepth 1000000 in
theorem pe7_0 : pxEnF pj7 pt7.2.2.1 (pxP1 pj7 none 13 0 1 0) = true := by decide +kernel
set_option maxRecDepth 1000000 in
theorem pz7_0_0 : pxCuF pj7 pc7_0 (pxP1 pj7 (some pc7_0.2.2.1) 37 0 1 0) = true := by decide +kernel
set_option maxRecDepth 1000000 in
theorem pe8_0 : pxEnF pj8 pt8.2.2.1 (pxP1 pj8 none 166 0 1 0) = true := by decide +kernel
set_option maxRecDepth 1000000 in
theorem pe9_0 : pxEnF pj9 pt9.2.2.1 (pxP1 pj9 none 13 0 1 0) = true := by decide +kernel
set_option maxRecDepth 1000000 in
theorem pz9_0_0 : pxCuF pj9 pc9_0 (pxP1 pj9 (some pc9_0.2.2.1) 37 0 1 0) = true := by decide +kernel
set_option maxRecDepth 1000000 in
theorem pe10_0 : pxEnF pj10 pt10.2.2.1 (pxP1 pj10 none 13 0 1 0) = true := by decide +kernel
set_option maxRecDepth 1000000 in
theorem pz10_0_0 : pxCuF pj10 pc10_0 (pxP1 pj10 (some pc10_0.2.2.1) 37 0 1 0) = true := by decide +kernel
set_option maxRecDepth 1000000 in
theorem pe11_0 : pxEnF pj11 pt11.2.2.1 (pxP1 pj11 none 162 0 1 0) = true := by decide +kernel
set_option maxRecDepth 1000000 in
theorem pe12_0 : pxEnF pj12 pt12.2.2.1 (pxP1 pj12 none 170 0 1 0) = true := by decide +kernel
set_option maxRecDepth 1000000 in
theorem pe13_0 : pxEnF pj13 pt13.2.2.1 (pxP1 pj13 none 13 0 1 0) = true := by decide +kernel
set_option maxRecDepth 1000000 in
theorem pz13_0_0 : pxCuF pj13 pc13_0 (pxP1 pj13 (some pc13_0.2.2.1) 37 0 1 0) = true := by decide +kernel
set_option maxRecDepth 1000000 in
theorem pe14_0 : pxEnF pj14 pt14.2.2.1 (pxP1 pj14 none 13 0 1 0) = true := by decide +kernel
set_option maxRecDepth 1000000 in
theorem pz14_0_0 : pxCuF pj14 pc14_0 (pxP1 pj14 (some pc14_0.2.2.1) 37 0 1 0) = true := by decide +kernel
set_option maxRecDepth 1000000 in
theorem pe15_0 : pxEnF pj15 pt15.2.2.1 (pxP1 pj15 none 13 0 1 0) = true := by decide +kernel
set_option maxRecDepth 1000000 in
theorem pz15_0_0 : pxCuF pj15 pc15_0 (pxP1 pj15 (some pc15_0.2.2.1) 37 0 1 0) = true := by decide +kernel
set_option maxRecDepth 1000000 in
theorem pe16_0 : pxEnF pj16 pt16.2.2.1 (pxP1 pj16 none 13 0 1 0) = true := by decide +kernel
set_option maxRecDepth 1000000 in
theorem pz16_0_0 : pxCuF pj16 pc16_0 (pxP1 pj16 (some pc16_0.2.2.1) 37 0 1 0) = true := by decide +kernel
set_option maxRecDepth 1000000 in
theorem pe17_0 : pxEnF pj17 pt17.2.2.1 (pxP1 pj17 none 173 0 1 0) = true := by decide +kernel
set_option maxRecDepth 1000000 in
theorem pe18_0 : pxEnF pj18 pt18.2.2.1 (pxP1 pj18 none 13 0 1 0) = true := by decide +kernel
set_option maxRecDepth 1000000 in
theorem pz18_0_0 : pxCuF pj18 pc18_0 (pxP1 pj18 (some pc18_0.2.2.1) 37 0 1 0) = true := by decide +kernel
set_option maxRecDepth 1000000 in
theorem pz18_1_0 : pxCuF pj18 pc18_1 (pxP1 pj18 (some pc18_1.2.2.1) 54 0 1 0) = true := by decide +kernel
set_option maxRecDepth 1000000 in
theorem pz18_2_0 : pxCuF pj18 pc18_2 (pxP1 pj18 (some pc18_2.2.2.1) 37 0 1 0) = true := by decide +kernel
set_option maxRecDepth 1000000 in
theorem pz18_3_0 : pxCuF pj18 pc18_3 (pxP1 pj18 (some pc18_3.2.2.1) 37 0 1 0) = true := by decide +kernel
set_option maxRecDepth 1000000 in
theorem pz18_4_0 : pxCuF pj18 pc18_4 (pxP1 pj18 (some pc18_4.2.2.1) 37 0 1 0) = true := by decide +kernel
set_option maxRecDepth 1000000 in
theorem pz18_5_0 : pxCuF pj18 pc18_5 (pxP1 pj18 (some pc18_5.2.2.1) 37 0 1 0) = true := by decide +kernel
set_option maxRecDepth 1000000 in
theorem pz18_6_0 : pxCuF pj18 pc18_6 (pxP1 pj18 (some pc18_6.2.2.1) 37 0 1 0) = true := by decide +kernel
set_option maxRecDepth 1000000 in
theorem pe19_0 : pxEnF pj19 pt19.2.2.1 (pxP1 pj19 none 13 0 1 0) = true := by decide +kernel
set_option maxRecDepth 1000000 in
theorem pz19_0_0 : pxCuF pj19 pc19_0 (pxP1 pj19 (some pc19_0.2.2.1) 37 0 1 0) = true := by decide +kernel
set_option maxRecDepth 1000000 in
theorem pe20_0 : pxEnF pj20 pt20.2.2.1 (pxP1 pj20 none 13 0 1 0) = true := by decide +kernel
set_option maxRecDepth 1000000 in
theorem pz20_0_0 : pxCuF pj20 pc20_0 (pxP1 pj20 (some pc20_0.2.2.1) 37 0 1 0) = true := by decide +kernel
set_option maxRecDepth 1000000 in
theorem pz20_1_0 : pxCuF pj20 pc20_1 (pxP1 pj20 (some pc20_1.2.2.1) 54 0 1 0) = true := by decide +kernel
set_option maxRecDepth 1000000 in
theorem pz20_2_0 : pxCuF pj20 pc20_2 (pxP1 pj20 (some pc20_2.2.2.1) 37 0 1 0) = true := by decide +kernel
set_option maxRecDepth 1000000 in
theorem pz20_3_0 : pxCuF pj20 pc20_3 (pxP1 pj20 (some pc20_3.2.2.1) 37 0 1 0) = true := by decide +kernel
set_option maxRecDepth 1000000 in
theorem pz20_4_0 : pxCuF pj20 pc20_4 (pxP1 pj20 (some pc20_4.2.2.1) 37 0 1 0) = true := by decide +kernel
set_option maxRecDepth 1000000 in
theorem pz20_5_0 : pxCuF pj20 pc20_5 (pxP1 pj20 (some pc20_5.2.2.1) 37 0 1 0) = true := by decide +kernel
set_option maxRecDepth 1000000 in
theorem pz20_6_0 : pxCuF pj20 pc20_6 (pxP1 pj20 (some pc20_6.2.2.1) 37 0 1 0) = true := by decide +kernel
set_option maxRecDepth 1000000 in
theorem pe21_0 : pxEnF pj21 pt21.2.2.1 (pxP1 pj21 none 13 0 1 0) = true := by decide +kernel
set_option maxRecDepth 1000000 in
theorem pz21_0_0 : pxCuF pj21 pc21_0 (pxP1 pj21 (some pc21_0.2.2.1) 37 0 1 0) = true := by decide +kernel
set_option maxRecDepth 1000000 in
theorem pe22_0 : pxEnF pj22 pt22.2.2.1 (pxP1 pj22 none 189 0 1 0) = true := by decide +kernel
set_option maxRecDepth 1000000 in
theorem pe23_0 : pxEnF pj23 pt23.2.2.1 (pxP1 pj23 none 227 28 5 0) = true := by decide +kernel
set_option maxRecDepth 1000000 in
theorem pe23_1_0 : pxEnF pj23 pt23.2.2.1 (pxP2 pj23 none 227 28 5 1 88 2 0) = true := by decide +kernel
end FX_v01
