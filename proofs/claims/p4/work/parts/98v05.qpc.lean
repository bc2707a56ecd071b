/-! a query that reads the text: contracts by program -/
section QPC_05
set_option maxRecDepth 1000000 in
theorem qpe16_1_1 : pxEnF qpj16 qpt16.2.2.1 (pxP2 qpj16 none 227 28 5 1 88 2 1) = true := by decide +kernel
set_option maxRecDepth 1000000 in
theorem qpe16_2_0 : pxEnF qpj16 qpt16.2.2.1 (pxP2 qpj16 none 227 28 5 2 88 2 0) = true := by decide +kernel
set_option maxRecDepth 1000000 in
theorem qpe16_2_1 : pxEnF qpj16 qpt16.2.2.1 (pxP2 qpj16 none 227 28 5 2 88 2 1) = true := by decide +kernel
end QPC_05
