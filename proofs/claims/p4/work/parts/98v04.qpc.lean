/-! a query that reads the text: contracts by program -/
section QPC_04
set_option maxRecDepth 1000000 in
theorem qpe0_0 : pxEnF qpj0 qpt0.2.2.1 (pxP1 qpj0 none 162 0 1 0) = true := by decide +kernel
set_option maxRecDepth 1000000 in
theorem qpe1_0 : pxEnF qpj1 qpt1.2.2.1 (pxP1 qpj1 none 13 0 1 0) = true := by decide +kernel
set_option maxRecDepth 1000000 in
theorem qpz1_0_0 : pxCuF qpj1 qpc1_0 (pxP1 qpj1 (some qpc1_0.2.2.1) 37 0 1 0) = true := by decide +kernel
set_option maxRecDepth 1000000 in
theorem qpe2_0 : pxEnF qpj2 qpt2.2.2.1 (pxP1 qpj2 none 13 0 1 0) = true := by decide +kernel
set_option maxRecDepth 1000000 in
theorem qpz2_0_0 : pxCuF qpj2 qpc2_0 (pxP1 qpj2 (some qpc2_0.2.2.1) 37 0 1 0) = true := by decide +kernel
set_option maxRecDepth 1000000 in
theorem qpe3_0 : pxEnF qpj3 qpt3.2.2.1 (pxP1 qpj3 none 166 0 1 0) = true := by decide +kernel
set_option maxRecDepth 1000000 in
theorem qpe4_0 : pxEnF qpj4 qpt4.2.2.1 (pxP1 qpj4 none 13 0 1 0) = true := by decide +kernel
set_option maxRecDepth 1000000 in
theorem qpz4_0_0 : pxCuF qpj4 qpc4_0 (pxP1 qpj4 (some qpc4_0.2.2.1) 37 0 1 0) = true := by decide +kernel
set_option maxRecDepth 1000000 in
theorem qpe5_0 : pxEnF qpj5 qpt5.2.2.1 (pxP1 qpj5 none 13 0 1 0) = true := by decide +kernel
set_option maxRecDepth 1000000 in
theorem qpz5_0_0 : pxCuF qpj5 qpc5_0 (pxP1 qpj5 (some qpc5_0.2.2.1) 37 0 1 0) = true := by decide +kernel
set_option maxRecDepth 1000000 in
theorem qpe6_0 : pxEnF qpj6 qpt6.2.2.1 (pxP1 qpj6 none 53 0 1 0) = true := by decide +kernel
set_option maxRecDepth 1000000 in
theorem qpe7_0 : pxEnF qpj7 qpt7.2.2.1 (pxP1 qpj7 none 170 0 1 0) = true := by decide +kernel
set_option maxRecDepth 1000000 in
theorem qpe8_0 : pxEnF qpj8 qpt8.2.2.1 (pxP1 qpj8 none 13 0 1 0) = true := by decide +kernel
set_option maxRecDepth 1000000 in
theorem qpz8_0_0 : pxCuF qpj8 qpc8_0 (pxP1 qpj8 (some qpc8_0.2.2.1) 37 0 1 0) = true := by decide +kernel
set_option maxRecDepth 1000000 in
theorem qpe9_0 : pxEnF qpj9 qpt9.2.2.1 (pxP1 qpj9 none 13 0 1 0) = true := by decide +kernel
set_option maxRecDepth 1000000 in
theorem qpz9_0_0 : pxCuF qpj9 qpc9_0 (pxP1 qpj9 (some qpc9_0.2.2.1) 37 0 1 0) = true := by decide +kernel
set_option maxRecDepth 1000000 in
theorem qpe10_0 : pxEnF qpj10 qpt10.2.2.1 (pxP1 qpj10 none 173 0 1 0) = true := by decide +kernel
set_option maxRecDepth 1000000 in
theorem qpe11_0 : pxEnF qpj11 qpt11.2.2.1 (pxP1 qpj11 none 13 0 1 0) = true := by decide +kernel
set_option maxRecDepth 1000000 in
theorem qpz11_0_0 : pxCuF qpj11 qpc11_0 (pxP1 qpj11 (some qpc11_0.2.2.1) 37 0 1 0) = true := by decide +kernel
set_option maxRecDepth 1000000 in
theorem qpz11_1_0 : pxCuF qpj11 qpc11_1 (pxP1 qpj11 (some qpc11_1.2.2.1) 54 0 1 0) = true := by decide +kernel
set_option maxRecDepth 1000000 in
theorem qpz11_2_0 : pxCuF qpj11 qpc11_2 (pxP1 qpj11 (some qpc11_2.2.2.1) 37 0 1 0) = true := by decide +kernel
set_option maxRecDepth 1000000 in
theorem qpz11_3_0 : pxCuF qpj11 qpc11_3 (pxP1 qpj11 (some qpc11_3.2.2.1) 37 0 1 0) = true := by decide +kernel
set_option maxRecDepth 1000000 in
theorem qpz11_4_0 : pxCuF qpj11 qpc11_4 (pxP1 qpj11 (some qpc11_4.2.2.1) 37 0 1 0) = true := by decide +kernel
set_option maxRecDepth 1000000 in
theorem qpz11_5_0 : pxCuF qpj11 qpc11_5 (pxP1 qpj11 (some qpc11_5.2.2.1) 37 0 1 0) = true := by decide +kernel
set_option maxRecDepth 1000000 in
theorem qpz11_6_0 : pxCuF qpj11 qpc11_6 (pxP1 qpj11 (some qpc11_6.2.2.1) 37 0 1 0) = true := by decide +kernel
set_option maxRecDepth 1000000 in
theorem qpe12_0 : pxEnF qpj12 qpt12.2.2.1 (pxP1 qpj12 none 13 0 1 0) = true := by decide +kernel
set_option maxRecDepth 1000000 in
theorem qpz12_0_0 : pxCuF qpj12 qpc12_0 (pxP1 qpj12 (some qpc12_0.2.2.1) 37 0 1 0) = true := by decide +kernel
set_option maxRecDepth 1000000 in
theorem qpe13_0 : pxEnF qpj13 qpt13.2.2.1 (pxP1 qpj13 none 13 0 1 0) = true := by decide +kernel
set_option maxRecDepth 1000000 in
theorem qpz13_0_0 : pxCuF qpj13 qpc13_0 (pxP1 qpj13 (some qpc13_0.2.2.1) 37 0 1 0) = true := by decide +kernel
set_option maxRecDepth 1000000 in
theorem qpz13_1_0 : pxCuF qpj13 qpc13_1 (pxP1 qpj13 (some qpc13_1.2.2.1) 54 0 1 0) = true := by decide +kernel
set_option maxRecDepth 1000000 in
theorem qpz13_2_0 : pxCuF qpj13 qpc13_2 (pxP1 qpj13 (some qpc13_2.2.2.1) 37 0 1 0) = true := by decide +kernel
set_option maxRecDepth 1000000 in
theorem qpz13_3_0 : pxCuF qpj13 qpc13_3 (pxP1 qpj13 (some qpc13_3.2.2.1) 37 0 1 0) = true := by decide +kernel
set_option maxRecDepth 1000000 in
theorem qpz13_4_0 : pxCuF qpj13 qpc13_4 (pxP1 qpj13 (some qpc13_4.2.2.1) 37 0 1 0) = true := by decide +kernel
set_option maxRecDepth 1000000 in
theorem qpz13_5_0 : pxCuF qpj13 qpc13_5 (pxP1 qpj13 (some qpc13_5.2.2.1) 37 0 1 0) = true := by decide +kernel
set_option maxRecDepth 1000000 in
theorem qpz13_6_0 : pxCuF qpj13 qpc13_6 (pxP1 qpj13 (some qpc13_6.2.2.1) 37 0 1 0) = true := by decide +kernel
set_option maxRecDepth 1000000 in
theorem qpe14_0 : pxEnF qpj14 qpt14.2.2.1 (pxP1 qpj14 none 13 0 1 0) = true := by decide +kernel
set_option maxRecDepth 1000000 in
theorem qpz14_0_0 : pxCuF qpj14 qpc14_0 (pxP1 qpj14 (some qpc14_0.2.2.1) 37 0 1 0) = true := by decide +kernel
set_option maxRecDepth 1000000 in
theorem qpe15_0 : pxEnF qpj15 qpt15.2.2.1 (pxP1 qpj15 none 189 0 1 0) = true := by decide +kernel
set_option maxRecDepth 1000000 in
theorem qpe16_0 : pxEnF qpj16 qpt16.2.2.1 (pxP1 qpj16 none 227 28 5 0) = true := by decide +kernel
set_option maxRecDepth 1000000 in
theorem qpe16_1_0 : pxEnF qpj16 qpt16.2.2.1 (pxP2 qpj16 none 227 28 5 1 88 2 0) = true := by decide +kernel
end QPC_04
