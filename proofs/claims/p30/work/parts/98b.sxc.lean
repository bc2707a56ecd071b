/-! SX: the law's turn, case by case, by program -/
section SXL
set_option maxRecDepth 1000000 in
theorem tuC1520 : tuGood 1520 := tuGood3 (tuSeg (J := 3) (sp := []) (cs := [ct529, ct531]) (Or.inl rfl) 871 (by decide +kernel) (fun {T} => (List.forall_mem_cons.mpr ⟨cv529 ghGd, (List.forall_mem_cons.mpr ⟨cv531 ghGd, (fun _ h => absurd h List.not_mem_nil)⟩)⟩)))
set_option maxRecDepth 1000000 in
theorem tuC1560 : tuGood 1560 := tuGood3 (tuSeg (J := 3) (sp := []) (cs := [ct1374, ct531, ct1375]) (Or.inl rfl) 474 (by decide +kernel) (fun {T} => (List.forall_mem_cons.mpr ⟨cv1374 ghGd, (List.forall_mem_cons.mpr ⟨cv531 ghGd, (List.forall_mem_cons.mpr ⟨cv1375 ghGd, (fun _ h => absurd h List.not_mem_nil)⟩)⟩)⟩)))
set_option maxRecDepth 1000000 in
theorem tuC1600 : tuGood 1600 := tuGood3 (tuSeg (J := 3) (sp := []) (cs := [ct1376, ct519, ct432]) (Or.inl rfl) 293 (by decide +kernel) (fun {T} => (List.forall_mem_cons.mpr ⟨cv1376 ghGd, (List.forall_mem_cons.mpr ⟨cv519 ghGd, (List.forall_mem_cons.mpr ⟨cv432 ghGd, (fun _ h => absurd h List.not_mem_nil)⟩)⟩)⟩)))
set_option maxRecDepth 1000000 in
theorem tuC1628 : tuGood 1628 := tuGood3 (tuSeg (J := 3) (sp := []) (cs := [ct1377, ct1379, ct1378]) (Or.inl rfl) 111 (by decide +kernel) (fun {T} => (List.forall_mem_cons.mpr ⟨cv1377 ghGd, (List.forall_mem_cons.mpr ⟨cv1379 ghGd, (List.forall_mem_cons.mpr ⟨cv1378 ghGd, (fun _ h => absurd h List.not_mem_nil)⟩)⟩)⟩)))
set_option maxRecDepth 1000000 in
theorem tuC1656 : tuGood 1656 := tuGood3 (tuSeg (J := 3) (sp := []) (cs := [ct1409, ct1410, ct1380]) (Or.inl rfl) 171 (by decide +kernel) (fun {T} => (List.forall_mem_cons.mpr ⟨cv1409 ghGd, (List.forall_mem_cons.mpr ⟨cv1410 ghGd, (List.forall_mem_cons.mpr ⟨cv1380 ghGd, (fun _ h => absurd h List.not_mem_nil)⟩)⟩)⟩)))
set_option maxRecDepth 1000000 in
theorem tuC1684 : tuGood 1684 := tuGood3 (tuSeg (J := 3) (sp := []) (cs := [ct1411, ct1412, ct1413]) (Or.inl rfl) 127 (by decide +kernel) (fun {T} => (List.forall_mem_cons.mpr ⟨cv1411 ghGd, (List.forall_mem_cons.mpr ⟨cv1412 ghGd, (List.forall_mem_cons.mpr ⟨cv1413 ghGd, (fun _ h => absurd h List.not_mem_nil)⟩)⟩)⟩)))
set_option maxRecDepth 1000000 in
theorem tuC1712 : tuGood 1712 := tuGood3 (tuSeg (J := 3) (sp := []) (cs := [ct1414, ct1417, ct1415, ct1416]) (Or.inl rfl) 170 (by decide +kernel) (fun {T} => (List.forall_mem_cons.mpr ⟨cv1414 ghGd, (List.forall_mem_cons.mpr ⟨cv1417 ghGd, (List.forall_mem_cons.mpr ⟨cv1415 ghGd, (List.forall_mem_cons.mpr ⟨cv1416 ghGd, (fun _ h => absurd h List.not_mem_nil)⟩)⟩)⟩)⟩)))
set_option maxRecDepth 1000000 in
theorem tuC1764 : tuGood 1764 := tuGood3 (tuSeg (J := 3) (sp := []) (cs := [ct1418, ct1421, ct1420]) (Or.inl rfl) 127 (by decide +kernel) (fun {T} => (List.forall_mem_cons.mpr ⟨cv1418 ghGd, (List.forall_mem_cons.mpr ⟨cv1421 ghGd, (List.forall_mem_cons.mpr ⟨cv1420 ghGd, (fun _ h => absurd h List.not_mem_nil)⟩)⟩)⟩)))
set_option maxRecDepth 1000000 in
theorem tuC1804 : tuGood 1804 := tuGood3 (tuSeg (J := 3) (sp := []) (cs := [ct1599, ct1427, ct1426]) (Or.inl rfl) 488 (by decide +kernel) (fun {T} => (List.forall_mem_cons.mpr ⟨cv1599 ghGd, (List.forall_mem_cons.mpr ⟨cv1427 ghGd, (List.forall_mem_cons.mpr ⟨cv1426 ghGd, (fun _ h => absurd h List.not_mem_nil)⟩)⟩)⟩)))
set_option maxRecDepth 1000000 in
theorem tuC1832 : tuGood 1832 := tuGood3 (tuSeg (J := 3) (sp := []) (cs := [ct1638, ct1643, ct1642]) (Or.inl rfl) 111 (by decide +kernel) (fun {T} => (List.forall_mem_cons.mpr ⟨cv1638 ghGd, (List.forall_mem_cons.mpr ⟨cv1643 ghGd, (List.forall_mem_cons.mpr ⟨cv1642 ghGd, (fun _ h => absurd h List.not_mem_nil)⟩)⟩)⟩)))
set_option maxRecDepth 1000000 in
theorem tuC1860 : tuGood 1860 := tuGood3 (tuSeg (J := 3) (sp := []) (cs := [ct1698, ct1700, ct1699]) (Or.inl rfl) 111 (by decide +kernel) (fun {T} => (List.forall_mem_cons.mpr ⟨cv1698 ghGd, (List.forall_mem_cons.mpr ⟨cv1700 ghGd, (List.forall_mem_cons.mpr ⟨cv1699 ghGd, (fun _ h => absurd h List.not_mem_nil)⟩)⟩)⟩)))
set_option maxRecDepth 1000000 in
theorem tuC1888 : tuGood 1888 := tuGood3 (tuSeg (J := 3) (sp := []) (cs := [ct1711, ct1712]) (Or.inl rfl) 83 (by decide +kernel) (fun {T} => (List.forall_mem_cons.mpr ⟨cv1711 ghGd, (List.forall_mem_cons.mpr ⟨cv1712 ghGd, (fun _ h => absurd h List.not_mem_nil)⟩)⟩)))
set_option maxRecDepth 1000000 in
theorem tuC1913 : tuGood 1913 := tuGood3 (tuSeg (J := 3) (sp := []) (cs := [ct1713, ct1715, ct1714]) (Or.inl rfl) 111 (by decide +kernel) (fun {T} => (List.forall_mem_cons.mpr ⟨cv1713 ghGd, (List.forall_mem_cons.mpr ⟨cv1715 ghGd, (List.forall_mem_cons.mpr ⟨cv1714 ghGd, (fun _ h => absurd h List.not_mem_nil)⟩)⟩)⟩)))
set_option maxRecDepth 1000000 in
theorem tuC1941 : tuGood 1941 := tuGood3 (tuSeg (J := 3) (sp := []) (cs := [ct1716, ct1717]) (Or.inl rfl) 73 (by decide +kernel) (fun {T} => (List.forall_mem_cons.mpr ⟨cv1716 ghGd, (List.forall_mem_cons.mpr ⟨cv1717 ghGd, (fun _ h => absurd h List.not_mem_nil)⟩)⟩)))
set_option maxRecDepth 1000000 in
theorem tuC1954 : tuGood 1954 := tuGood3 (tuSeg (J := 3) (sp := []) (cs := [ct1744, ct1745]) (Or.inl rfl) 73 (by decide +kernel) (fun {T} => (List.forall_mem_cons.mpr ⟨cv1744 ghGd, (List.forall_mem_cons.mpr ⟨cv1745 ghGd, (fun _ h => absurd h List.not_mem_nil)⟩)⟩)))
set_option maxRecDepth 1000000 in
theorem tuC1967 : tuGood 1967 := tuGood3 (tuSeg (J := 3) (sp := []) (cs := [ct1751, ct1753, ct400, ct402, ct1752, ct1750, ct1749, ct1748, ct1747]) (Or.inl rfl) 583 (by decide +kernel) (fun {T} => (List.forall_mem_cons.mpr ⟨cv1751 ghGd, (List.forall_mem_cons.mpr ⟨cv1753 ghGd, (List.forall_mem_cons.mpr ⟨cv400 ghGd, (List.forall_mem_cons.mpr ⟨cv402 ghGd, (List.forall_mem_cons.mpr ⟨cv1752 ghGd, (List.forall_mem_cons.mpr ⟨cv1750 ghGd, (List.forall_mem_cons.mpr ⟨cv1749 ghGd, (List.forall_mem_cons.mpr ⟨cv1748 ghGd, (List.forall_mem_cons.mpr ⟨cv1747 ghGd, (fun _ h => absurd h List.not_mem_nil)⟩)⟩)⟩)⟩)⟩)⟩)⟩)⟩)⟩)))
set_option maxRecDepth 1000000 in
theorem tuC2031 : tuGood 2031 := tuGood3 (tuSeg (J := 3) (sp := []) (cs := []) (Or.inl rfl) 2367 (by decide +kernel) (fun {T} => (fun _ h => absurd h List.not_mem_nil)))
set_option maxRecDepth 1000000 in
theorem tuC2044 : tuGood 2044 := tuGood3 (tuSeg (J := 3) (sp := []) (cs := []) (Or.inl rfl) 2140 (by decide +kernel) (fun {T} => (fun _ h => absurd h List.not_mem_nil)))
set_option maxRecDepth 1000000 in
theorem tuC2057 : tuGood 2057 := tuGood3 (tuSeg (J := 3) (sp := []) (cs := []) (Or.inl rfl) 183 (by decide +kernel) (fun {T} => (fun _ h => absurd h List.not_mem_nil)))
set_option maxRecDepth 1000000 in
theorem tuC2082 : tuGood 2082 := tuGood3 (tuSeg (J := 3) (sp := []) (cs := []) (Or.inl rfl) 177 (by decide +kernel) (fun {T} => (fun _ h => absurd h List.not_mem_nil)))
set_option maxRecDepth 1000000 in
theorem tuC2107 : tuGood 2107 := tuGood3 (tuSeg (J := 3) (sp := []) (cs := []) (Or.inl rfl) 64 (by decide +kernel) (fun {T} => (fun _ h => absurd h List.not_mem_nil)))
end SXL
