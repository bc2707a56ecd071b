/-! a pair of queries: contracts of two by program -/
section QPC_03
set_option maxRecDepth 1000000 in
theorem qpz8_3_0 : pxCuF qpj8 qpc8_3 (pxP1 qpj8 (some qpc8_3.2.2.1) 82 0 1 0) = true := by decide +kernel
set_option maxRecDepth 1000000 in
theorem qpe9_0 : pxEnF qpj9 qpt9.2.2.1 (pxP1 qpj9 none 106 0 1 0) = true := by decide +kernel
set_option maxRecDepth 1000000 in
theorem qpz9_0_0 : pxCuF qpj9 qpc9_0 (pxP1 qpj9 (some qpc9_0.2.2.1) 9 0 1 0) = true := by decide +kernel
set_option maxRecDepth 1000000 in
theorem qpz9_1_0 : pxCuF qpj9 qpc9_1 (pxP1 qpj9 (some qpc9_1.2.2.1) 82 0 1 0) = true := by decide +kernel
set_option maxRecDepth 1000000 in
theorem qpz9_2_0 : pxCuF qpj9 qpc9_2 (pxP1 qpj9 (some qpc9_2.2.2.1) 82 0 1 0) = true := by decide +kernel
set_option maxRecDepth 1000000 in
theorem qpe10_0 : pxEnF qpj10 qpt10.2.2.1 (pxP1 qpj10 none 83 0 1 0) = true := by decide +kernel
set_option maxRecDepth 1000000 in
theorem qpz10_0_0 : pxCuF qpj10 qpc10_0 (pxP1 qpj10 (some qpc10_0.2.2.1) 9 0 1 0) = true := by decide +kernel
set_option maxRecDepth 1000000 in
theorem qpz10_1_0 : pxCuF qpj10 qpc10_1 (pxP1 qpj10 (some qpc10_1.2.2.1) 82 0 1 0) = true := by decide +kernel
set_option maxRecDepth 1000000 in
theorem qpe11_0 : pxEnF qpj11 qpt11.2.2.1 (pxP1 qpj11 none 60 0 1 0) = true := by decide +kernel
set_option maxRecDepth 1000000 in
theorem qpz11_0_0 : pxCuF qpj11 qpc11_0 (pxP1 qpj11 (some qpc11_0.2.2.1) 9 0 1 0) = true := by decide +kernel
set_option maxRecDepth 1000000 in
theorem qpe12_0 : pxEnF qpj12 qpt12.2.2.1 (pxP1 qpj12 none 49 0 1 0) = true := by decide +kernel
end QPC_03
