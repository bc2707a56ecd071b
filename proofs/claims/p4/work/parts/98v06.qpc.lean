/-! a query that reads the text: contracts by program -/
section QPC_06
set_option maxRecDepth 1000000 in
theorem qpe16_3 : pxEnF qpj16 qpt16.2.2.1 (pxP1 qpj16 none 227 28 5 3) = true := by decide +kernel
set_option maxRecDepth 1000000 in
theorem qpe16_4 : pxEnF qpj16 qpt16.2.2.1 (pxP1 qpj16 none 227 28 5 4) = true := by decide +kernel
set_option maxRecDepth 1000000 in
theorem qpe17_0 : pxEnF qpj17 qpt17.2.2.1 (pxP1 qpj17 none 13 0 1 0) = true := by decide +kernel
set_option maxRecDepth 1000000 in
theorem qpz17_0_0 : pxCuF qpj17 qpc17_0 (pxP1 qpj17 (some qpc17_0.2.2.1) 37 0 1 0) = true := by decide +kernel
set_option maxRecDepth 1000000 in
theorem qpz17_1_0 : pxCuF qpj17 qpc17_1 (pxP1 qpj17 (some qpc17_1.2.2.1) 54 0 1 0) = true := by decide +kernel
set_option maxRecDepth 1000000 in
theorem qpz17_2_0 : pxCuF qpj17 qpc17_2 (pxP1 qpj17 (some qpc17_2.2.2.1) 37 0 1 0) = true := by decide +kernel
set_option maxRecDepth 1000000 in
theorem qpz17_3_0 : pxCuF qpj17 qpc17_3 (pxP1 qpj17 (some qpc17_3.2.2.1) 37 0 1 0) = true := by decide +kernel
set_option maxRecDepth 1000000 in
theorem qpz17_4_0 : pxCuF qpj17 qpc17_4 (pxP1 qpj17 (some qpc17_4.2.2.1) 37 0 1 0) = true := by decide +kernel
set_option maxRecDepth 1000000 in
theorem qpz17_5_0 : pxCuF qpj17 qpc17_5 (pxP1 qpj17 (some qpc17_5.2.2.1) 37 0 1 0) = true := by decide +kernel
set_option maxRecDepth 1000000 in
theorem qpz17_6_0 : pxCuF qpj17 qpc17_6 (pxP1 qpj17 (some qpc17_6.2.2.1) 37 0 1 0) = true := by decide +kernel
set_option maxRecDepth 1000000 in
theorem qpe18_0 : pxEnF qpj18 qpt18.2.2.1 (pxP1 qpj18 none 13 0 1 0) = true := by decide +kernel
set_option maxRecDepth 1000000 in
theorem qpz18_0_0 : pxCuF qpj18 qpc18_0 (pxP1 qpj18 (some qpc18_0.2.2.1) 37 0 1 0) = true := by decide +kernel
set_option maxRecDepth 1000000 in
theorem qpz18_1_0 : pxCuF qpj18 qpc18_1 (pxP1 qpj18 (some qpc18_1.2.2.1) 54 0 1 0) = true := by decide +kernel
set_option maxRecDepth 1000000 in
theorem qpz18_2_0 : pxCuF qpj18 qpc18_2 (pxP1 qpj18 (some qpc18_2.2.2.1) 37 0 1 0) = true := by decide +kernel
set_option maxRecDepth 1000000 in
theorem qpz18_3_0 : pxCuF qpj18 qpc18_3 (pxP1 qpj18 (some qpc18_3.2.2.1) 37 0 1 0) = true := by decide +kernel
set_option maxRecDepth 1000000 in
theorem qpz18_4_0 : pxCuF qpj18 qpc18_4 (pxP1 qpj18 (some qpc18_4.2.2.1) 37 0 1 0) = true := by decide +kernel
set_option maxRecDepth 1000000 in
theorem qpz18_5_0 : pxCuF qpj18 qpc18_5 (pxP1 qpj18 (some qpc18_5.2.2.1) 37 0 1 0) = true := by decide +kernel
set_option maxRecDepth 1000000 in
theorem qpz18_6_0 : pxCuF qpj18 qpc18_6 (pxP1 qpj18 (some qpc18_6.2.2.1) 37 0 1 0) = true := by decide +kernel
set_option maxRecDepth 1000000 in
theorem qpe19_0 : pxEnF qpj19 qpt19.2.2.1 (pxP1 qpj19 none 223 0 1 0) = true := by decide +kernel
end QPC_06
