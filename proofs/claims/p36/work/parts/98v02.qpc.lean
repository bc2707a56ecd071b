/-! a pair of queries: contracts of two by program -/
section QPC_02
set_option maxRecDepth 1000000 in
theorem qpz2_6_0 : pxCuF qpj2 qpc2_6 (pxP1 qpj2 (some qpc2_6.2.2.1) 82 0 1 0) = true := by decide +kernel
set_option maxRecDepth 1000000 in
theorem qpz2_7_0 : pxCuF qpj2 qpc2_7 (pxP1 qpj2 (some qpc2_7.2.2.1) 82 0 1 0) = true := by decide +kernel
set_option maxRecDepth 1000000 in
theorem qpz2_8_0 : pxCuF qpj2 qpc2_8 (pxP1 qpj2 (some qpc2_8.2.2.1) 82 0 1 0) = true := by decide +kernel
set_option maxRecDepth 1000000 in
theorem qpz2_9_0 : pxCuF qpj2 qpc2_9 (pxP1 qpj2 (some qpc2_9.2.2.1) 82 0 1 0) = true := by decide +kernel
set_option maxRecDepth 1000000 in
theorem qpe3_0 : pxEnF qpj3 qpt3.2.2.1 (pxP1 qpj3 none 244 0 1 0) = true := by decide +kernel
set_option maxRecDepth 1000000 in
theorem qpz3_0_0 : pxCuF qpj3 qpc3_0 (pxP1 qpj3 (some qpc3_0.2.2.1) 9 0 1 0) = true := by decide +kernel
set_option maxRecDepth 1000000 in
theorem qpz3_1_0 : pxCuF qpj3 qpc3_1 (pxP1 qpj3 (some qpc3_1.2.2.1) 82 0 1 0) = true := by decide +kernel
set_option maxRecDepth 1000000 in
theorem qpz3_2_0 : pxCuF qpj3 qpc3_2 (pxP1 qpj3 (some qpc3_2.2.2.1) 82 0 1 0) = true := by decide +kernel
set_option maxRecDepth 1000000 in
theorem qpz3_3_0 : pxCuF qpj3 qpc3_3 (pxP1 qpj3 (some qpc3_3.2.2.1) 82 0 1 0) = true := by decide +kernel
set_option maxRecDepth 1000000 in
theorem qpz3_4_0 : pxCuF qpj3 qpc3_4 (pxP1 qpj3 (some qpc3_4.2.2.1) 82 0 1 0) = true := by decide +kernel
set_option maxRecDepth 1000000 in
theorem qpz3_5_0 : pxCuF qpj3 qpc3_5 (pxP1 qpj3 (some qpc3_5.2.2.1) 82 0 1 0) = true := by decide +kernel
set_option maxRecDepth 1000000 in
theorem qpz3_6_0 : pxCuF qpj3 qpc3_6 (pxP1 qpj3 (some qpc3_6.2.2.1) 82 0 1 0) = true := by decide +kernel
set_option maxRecDepth 1000000 in
theorem qpz3_7_0 : pxCuF qpj3 qpc3_7 (pxP1 qpj3 (some qpc3_7.2.2.1) 82 0 1 0) = true := by decide +kernel
set_option maxRecDepth 1000000 in
theorem qpz3_8_0 : pxCuF qpj3 qpc3_8 (pxP1 qpj3 (some qpc3_8.2.2.1) 82 0 1 0) = true := by decide +kernel
set_option maxRecDepth 1000000 in
theorem qpe4_0 : pxEnF qpj4 qpt4.2.2.1 (pxP1 qpj4 none 221 0 1 0) = true := by decide +kernel
set_option maxRecDepth 1000000 in
theorem qpz4_0_0 : pxCuF qpj4 qpc4_0 (pxP1 qpj4 (some qpc4_0.2.2.1) 9 0 1 0) = true := by decide +kernel
set_option maxRecDepth 1000000 in
theorem qpz4_1_0 : pxCuF qpj4 qpc4_1 (pxP1 qpj4 (some qpc4_1.2.2.1) 82 0 1 0) = true := by decide +kernel
set_option maxRecDepth 1000000 in
theorem qpz4_2_0 : pxCuF qpj4 qpc4_2 (pxP1 qpj4 (some qpc4_2.2.2.1) 82 0 1 0) = true := by decide +kernel
set_option maxRecDepth 1000000 in
theorem qpz4_3_0 : pxCuF qpj4 qpc4_3 (pxP1 qpj4 (some qpc4_3.2.2.1) 82 0 1 0) = true := by decide +kernel
set_option maxRecDepth 1000000 in
theorem qpz4_4_0 : pxCuF qpj4 qpc4_4 (pxP1 qpj4 (some qpc4_4.2.2.1) 82 0 1 0) = true := by decide +kernel
set_option maxRecDepth 1000000 in
theorem qpz4_5_0 : pxCuF qpj4 qpc4_5 (pxP1 qpj4 (some qpc4_5.2.2.1) 82 0 1 0) = true := by decide +kernel
set_option maxRecDepth 1000000 in
theorem qpz4_6_0 : pxCuF qpj4 qpc4_6 (pxP1 qpj4 (some qpc4_6.2.2.1) 82 0 1 0) = true := by decide +kernel
set_option maxRecDepth 1000000 in
theorem qpz4_7_0 : pxCuF qpj4 qpc4_7 (pxP1 qpj4 (some qpc4_7.2.2.1) 82 0 1 0) = true := by decide +kernel
set_option maxRecDepth 1000000 in
theorem qpe5_0 : pxEnF qpj5 qpt5.2.2.1 (pxP1 qpj5 none 198 0 1 0) = true := by decide +kernel
set_option maxRecDepth 1000000 in
theorem qpz5_0_0 : pxCuF qpj5 qpc5_0 (pxP1 qpj5 (some qpc5_0.2.2.1) 9 0 1 0) = true := by decide +kernel
set_option maxRecDepth 1000000 in
theorem qpz5_1_0 : pxCuF qpj5 qpc5_1 (pxP1 qpj5 (some qpc5_1.2.2.1) 82 0 1 0) = true := by decide +kernel
set_option maxRecDepth 1000000 in
theorem qpz5_2_0 : pxCuF qpj5 qpc5_2 (pxP1 qpj5 (some qpc5_2.2.2.1) 82 0 1 0) = true := by decide +kernel
set_option maxRecDepth 1000000 in
theorem qpz5_3_0 : pxCuF qpj5 qpc5_3 (pxP1 qpj5 (some qpc5_3.2.2.1) 82 0 1 0) = true := by decide +kernel
set_option maxRecDepth 1000000 in
theorem qpz5_4_0 : pxCuF qpj5 qpc5_4 (pxP1 qpj5 (some qpc5_4.2.2.1) 82 0 1 0) = true := by decide +kernel
set_option maxRecDepth 1000000 in
theorem qpz5_5_0 : pxCuF qpj5 qpc5_5 (pxP1 qpj5 (some qpc5_5.2.2.1) 82 0 1 0) = true := by decide +kernel
set_option maxRecDepth 1000000 in
theorem qpz5_6_0 : pxCuF qpj5 qpc5_6 (pxP1 qpj5 (some qpc5_6.2.2.1) 82 0 1 0) = true := by decide +kernel
set_option maxRecDepth 1000000 in
theorem qpe6_0 : pxEnF qpj6 qpt6.2.2.1 (pxP1 qpj6 none 175 0 1 0) = true := by decide +kernel
set_option maxRecDepth 1000000 in
theorem qpz6_0_0 : pxCuF qpj6 qpc6_0 (pxP1 qpj6 (some qpc6_0.2.2.1) 9 0 1 0) = true := by decide +kernel
set_option maxRecDepth 1000000 in
theorem qpz6_1_0 : pxCuF qpj6 qpc6_1 (pxP1 qpj6 (some qpc6_1.2.2.1) 82 0 1 0) = true := by decide +kernel
set_option maxRecDepth 1000000 in
theorem qpz6_2_0 : pxCuF qpj6 qpc6_2 (pxP1 qpj6 (some qpc6_2.2.2.1) 82 0 1 0) = true := by decide +kernel
set_option maxRecDepth 1000000 in
theorem qpz6_3_0 : pxCuF qpj6 qpc6_3 (pxP1 qpj6 (some qpc6_3.2.2.1) 82 0 1 0) = true := by decide +kernel
set_option maxRecDepth 1000000 in
theorem qpz6_4_0 : pxCuF qpj6 qpc6_4 (pxP1 qpj6 (some qpc6_4.2.2.1) 82 0 1 0) = true := by decide +kernel
set_option maxRecDepth 1000000 in
theorem qpz6_5_0 : pxCuF qpj6 qpc6_5 (pxP1 qpj6 (some qpc6_5.2.2.1) 82 0 1 0) = true := by decide +kernel
set_option maxRecDepth 1000000 in
theorem qpe7_0 : pxEnF qpj7 qpt7.2.2.1 (pxP1 qpj7 none 152 0 1 0) = true := by decide +kernel
set_option maxRecDepth 1000000 in
theorem qpz7_0_0 : pxCuF qpj7 qpc7_0 (pxP1 qpj7 (some qpc7_0.2.2.1) 9 0 1 0) = true := by decide +kernel
set_option maxRecDepth 1000000 in
theorem qpz7_1_0 : pxCuF qpj7 qpc7_1 (pxP1 qpj7 (some qpc7_1.2.2.1) 82 0 1 0) = true := by decide +kernel
set_option maxRecDepth 1000000 in
theorem qpz7_2_0 : pxCuF qpj7 qpc7_2 (pxP1 qpj7 (some qpc7_2.2.2.1) 82 0 1 0) = true := by decide +kernel
set_option maxRecDepth 1000000 in
theorem qpz7_3_0 : pxCuF qpj7 qpc7_3 (pxP1 qpj7 (some qpc7_3.2.2.1) 82 0 1 0) = true := by decide +kernel
set_option maxRecDepth 1000000 in
theorem qpz7_4_0 : pxCuF qpj7 qpc7_4 (pxP1 qpj7 (some qpc7_4.2.2.1) 82 0 1 0) = true := by decide +kernel
set_option maxRecDepth 1000000 in
theorem qpe8_0 : pxEnF qpj8 qpt8.2.2.1 (pxP1 qpj8 none 129 0 1 0) = true := by decide +kernel
set_option maxRecDepth 1000000 in
theorem qpz8_0_0 : pxCuF qpj8 qpc8_0 (pxP1 qpj8 (some qpc8_0.2.2.1) 9 0 1 0) = true := by decide +kernel
set_option maxRecDepth 1000000 in
theorem qpz8_1_0 : pxCuF qpj8 qpc8_1 (pxP1 qpj8 (some qpc8_1.2.2.1) 82 0 1 0) = true := by decide +kernel
set_option maxRecDepth 1000000 in
theorem qpz8_2_0 : pxCuF qpj8 qpc8_2 (pxP1 qpj8 (some qpc8_2.2.2.1) 82 0 1 0) = true := by decide +kernel
end QPC_02
