/-! a pair of queries: contracts of two by program -/
section QPC_01
set_option maxRecDepth 1000000 in
theorem qpe0_0 : pxEnF qpj0 qpt0.2.2.1 (pxP1 qpj0 none 313 0 1 0) = true := by decide +kernel
set_option maxRecDepth 1000000 in
theorem qpz0_0_0 : pxCuF qpj0 qpc0_0 (pxP1 qpj0 (some qpc0_0.2.2.1) 9 0 1 0) = true := by decide +kernel
set_option maxRecDepth 1000000 in
theorem qpz0_1_0 : pxCuF qpj0 qpc0_1 (pxP1 qpj0 (some qpc0_1.2.2.1) 82 0 1 0) = true := by decide +kernel
set_option maxRecDepth 1000000 in
theorem qpz0_2_0 : pxCuF qpj0 qpc0_2 (pxP1 qpj0 (some qpc0_2.2.2.1) 82 0 1 0) = true := by decide +kernel
set_option maxRecDepth 1000000 in
theorem qpz0_3_0 : pxCuF qpj0 qpc0_3 (pxP1 qpj0 (some qpc0_3.2.2.1) 82 0 1 0) = true := by decide +kernel
set_option maxRecDepth 1000000 in
theorem qpz0_4_0 : pxCuF qpj0 qpc0_4 (pxP1 qpj0 (some qpc0_4.2.2.1) 82 0 1 0) = true := by decide +kernel
set_option maxRecDepth 1000000 in
theorem qpz0_5_0 : pxCuF qpj0 qpc0_5 (pxP1 qpj0 (some qpc0_5.2.2.1) 82 0 1 0) = true := by decide +kernel
set_option maxRecDepth 1000000 in
theorem qpz0_6_0 : pxCuF qpj0 qpc0_6 (pxP1 qpj0 (some qpc0_6.2.2.1) 82 0 1 0) = true := by decide +kernel
set_option maxRecDepth 1000000 in
theorem qpz0_7_0 : pxCuF qpj0 qpc0_7 (pxP1 qpj0 (some qpc0_7.2.2.1) 82 0 1 0) = true := by decide +kernel
set_option maxRecDepth 1000000 in
theorem qpz0_8_0 : pxCuF qpj0 qpc0_8 (pxP1 qpj0 (some qpc0_8.2.2.1) 82 0 1 0) = true := by decide +kernel
set_option maxRecDepth 1000000 in
theorem qpz0_9_0 : pxCuF qpj0 qpc0_9 (pxP1 qpj0 (some qpc0_9.2.2.1) 82 0 1 0) = true := by decide +kernel
set_option maxRecDepth 1000000 in
theorem qpz0_10_0 : pxCuF qpj0 qpc0_10 (pxP1 qpj0 (some qpc0_10.2.2.1) 82 0 1 0) = true := by decide +kernel
set_option maxRecDepth 1000000 in
theorem qpz0_11_0 : pxCuF qpj0 qpc0_11 (pxP1 qpj0 (some qpc0_11.2.2.1) 82 0 1 0) = true := by decide +kernel
set_option maxRecDepth 1000000 in
theorem qpe1_0 : pxEnF qpj1 qpt1.2.2.1 (pxP1 qpj1 none 290 0 1 0) = true := by decide +kernel
set_option maxRecDepth 1000000 in
theorem qpz1_0_0 : pxCuF qpj1 qpc1_0 (pxP1 qpj1 (some qpc1_0.2.2.1) 9 0 1 0) = true := by decide +kernel
set_option maxRecDepth 1000000 in
theorem qpz1_1_0 : pxCuF qpj1 qpc1_1 (pxP1 qpj1 (some qpc1_1.2.2.1) 82 0 1 0) = true := by decide +kernel
set_option maxRecDepth 1000000 in
theorem qpz1_2_0 : pxCuF qpj1 qpc1_2 (pxP1 qpj1 (some qpc1_2.2.2.1) 82 0 1 0) = true := by decide +kernel
set_option maxRecDepth 1000000 in
theorem qpz1_3_0 : pxCuF qpj1 qpc1_3 (pxP1 qpj1 (some qpc1_3.2.2.1) 82 0 1 0) = true := by decide +kernel
set_option maxRecDepth 1000000 in
theorem qpz1_4_0 : pxCuF qpj1 qpc1_4 (pxP1 qpj1 (some qpc1_4.2.2.1) 82 0 1 0) = true := by decide +kernel
set_option maxRecDepth 1000000 in
theorem qpz1_5_0 : pxCuF qpj1 qpc1_5 (pxP1 qpj1 (some qpc1_5.2.2.1) 82 0 1 0) = true := by decide +kernel
set_option maxRecDepth 1000000 in
theorem qpz1_6_0 : pxCuF qpj1 qpc1_6 (pxP1 qpj1 (some qpc1_6.2.2.1) 82 0 1 0) = true := by decide +kernel
set_option maxRecDepth 1000000 in
theorem qpz1_7_0 : pxCuF qpj1 qpc1_7 (pxP1 qpj1 (some qpc1_7.2.2.1) 82 0 1 0) = true := by decide +kernel
set_option maxRecDepth 1000000 in
theorem qpz1_8_0 : pxCuF qpj1 qpc1_8 (pxP1 qpj1 (some qpc1_8.2.2.1) 82 0 1 0) = true := by decide +kernel
set_option maxRecDepth 1000000 in
theorem qpz1_9_0 : pxCuF qpj1 qpc1_9 (pxP1 qpj1 (some qpc1_9.2.2.1) 82 0 1 0) = true := by decide +kernel
set_option maxRecDepth 1000000 in
theorem qpz1_10_0 : pxCuF qpj1 qpc1_10 (pxP1 qpj1 (some qpc1_10.2.2.1) 82 0 1 0) = true := by decide +kernel
set_option maxRecDepth 1000000 in
theorem qpe2_0 : pxEnF qpj2 qpt2.2.2.1 (pxP1 qpj2 none 267 0 1 0) = true := by decide +kernel
set_option maxRecDepth 1000000 in
theorem qpz2_0_0 : pxCuF qpj2 qpc2_0 (pxP1 qpj2 (some qpc2_0.2.2.1) 9 0 1 0) = true := by decide +kernel
set_option maxRecDepth 1000000 in
theorem qpz2_1_0 : pxCuF qpj2 qpc2_1 (pxP1 qpj2 (some qpc2_1.2.2.1) 82 0 1 0) = true := by decide +kernel
set_option maxRecDepth 1000000 in
theorem qpz2_2_0 : pxCuF qpj2 qpc2_2 (pxP1 qpj2 (some qpc2_2.2.2.1) 82 0 1 0) = true := by decide +kernel
set_option maxRecDepth 1000000 in
theorem qpz2_3_0 : pxCuF qpj2 qpc2_3 (pxP1 qpj2 (some qpc2_3.2.2.1) 82 0 1 0) = true := by decide +kernel
set_option maxRecDepth 1000000 in
theorem qpz2_4_0 : pxCuF qpj2 qpc2_4 (pxP1 qpj2 (some qpc2_4.2.2.1) 82 0 1 0) = true := by decide +kernel
set_option maxRecDepth 1000000 in
theorem qpz2_5_0 : pxCuF qpj2 qpc2_5 (pxP1 qpj2 (some qpc2_5.2.2.1) 82 0 1 0) = true := by decide +kernel
end QPC_01
