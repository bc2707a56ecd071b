/-! SX: the law's turn, case by case, by program -/
section SXL
set_option maxRecDepth 1000000 in
theorem tuC1520 : tuGood 1520 := tuGood3 (tuSeg (J := 3) (sp := []) (cs := [ct529, ct531]) (Or.inl rfl) 871 (by decide +kernel) (fun {T} => (List.forall_mem_cons.mpr ⟨cv529 ghGd, (List.forall_mem_cons.mpr ⟨cv531 ghGd, (fun _ h => absurd h List.not_mem_nil)⟩)⟩)))
set_option maxRecDepth 1000000 in
theorem tuC1560 : tuGood 1560 := tuGood3 (tuSeg (J := 3) (sp := []) (cs := [ct1373, ct531, ct1374]) (Or.inl rfl) 474 (by decide +kernel) (fun {T} => (List.forall_mem_cons.mpr ⟨cv1373 ghGd, (List.forall_mem_cons.mpr ⟨cv531 ghGd, (List.forall_mem_cons.mpr ⟨cv1374 ghGd, (fun _ h => absurd h List.not_mem_nil)⟩)⟩)⟩)))
set_option maxRecDepth 1000000 in
theorem tuC1600 : tuGood 1600 := tuGood3 (tuSeg (J := 3) (sp := []) (cs := [ct1375, ct519, ct432]) (Or.inl rfl) 293 (by decide +kernel) (fun {T} => (List.forall_mem_cons.mpr ⟨cv1375 ghGd, (List.forall_mem_cons.mpr ⟨cv519 ghGd, (List.forall_mem_cons.mpr ⟨cv432 ghGd, (fun _ h => absurd h List.not_mem_nil)⟩)⟩)⟩)))
set_option maxRecDepth 1000000 in
theorem tuC1628 : tuGood 1628 := tuGood3 (tuSeg (J := 3) (sp := []) (cs := [ct1376, ct1378, ct1377]) (Or.inl rfl) 111 (by decide +kernel) (fun {T} => (List.forall_mem_cons.mpr ⟨cv1376 ghGd, (List.forall_mem_cons.mpr ⟨cv1378 ghGd, (List.forall_mem_cons.mpr ⟨cv1377 ghGd, (fun _ h => absurd h List.not_mem_nil)⟩)⟩)⟩)))
set_option maxRecDepth 1000000 in
theorem tuC1656 : tuGood 1656 := tuGood3 (tuSeg (J := 3) (sp := []) (cs := [ct1408, ct1409, ct1379]) (Or.inl rfl) 171 (by decide +kernel) (fun {T} => (List.forall_mem_cons.mpr ⟨cv1408 ghGd, (List.forall_mem_cons.mpr ⟨cv1409 ghGd, (List.forall_mem_cons.mpr ⟨cv1379 ghGd, (fun _ h => absurd h List.not_mem_nil)⟩)⟩)⟩)))
set_option maxRecDepth 1000000 in
theorem tuC1684 : tuGood 1684 := tuGood3 (tuSeg (J := 3) (sp := []) (cs := [ct1410, ct1411, ct1412]) (Or.inl rfl) 127 (by decide +kernel) (fun {T} => (List.forall_mem_cons.mpr ⟨cv1410 ghGd, (List.forall_mem_cons.mpr ⟨cv1411 ghGd, (List.forall_mem_cons.mpr ⟨cv1412 ghGd, (fun _ h => absurd h List.not_mem_nil)⟩)⟩)⟩)))
set_option maxRecDepth 1000000 in
theorem tuC1712 : tuGood 1712 := tuGood3 (tuSeg (J := 3) (sp := []) (cs := [ct1413, ct1416, ct1414, ct1415]) (Or.inl rfl) 170 (by decide +kernel) (fun {T} => (List.forall_mem_cons.mpr ⟨cv1413 ghGd, (List.forall_mem_cons.mpr ⟨cv1416 ghGd, (List.forall_mem_cons.mpr ⟨cv1414 ghGd, (List.forall_mem_cons.mpr ⟨cv1415 ghGd, (fun _ h => absurd h List.not_mem_nil)⟩)⟩)⟩)⟩)))
set_option maxRecDepth 1000000 in
theorem tuC1764 : tuGood 1764 := tuGood3 (tuSeg (J := 3) (sp := []) (cs := [ct1417, ct1419, ct1418]) (Or.inl rfl) 127 (by decide +kernel) (fun {T} => (List.forall_mem_cons.mpr ⟨cv1417 ghGd, (List.forall_mem_cons.mpr ⟨cv1419 ghGd, (List.forall_mem_cons.mpr ⟨cv1418 ghGd, (fun _ h => absurd h List.not_mem_nil)⟩)⟩)⟩)))
set_option maxRecDepth 1000000 in
theorem tuC1804 : tuGood 1804 := tuGood3 (tuSeg (J := 3) (sp := []) (cs := [ct1599, ct1425, ct1424]) (Or.inl rfl) 488 (by decide +kernel) (fun {T} => (List.forall_mem_cons.mpr ⟨cv1599 ghGd, (List.forall_mem_cons.mpr ⟨cv1425 ghGd, (List.forall_mem_cons.mpr ⟨cv1424 ghGd, (fun _ h => absurd h List.not_mem_nil)⟩)⟩)⟩)))
set_option maxRecDepth 1000000 in
theorem tuC1832 : tuGood 1832 := tuGood3 (tuSeg (J := 3) (sp := []) (cs := [ct1638, ct1640, ct1639]) (Or.inl rfl) 111 (by decide +kernel) (fun {T} => (List.forall_mem_cons.mpr ⟨cv1638 ghGd, (List.forall_mem_cons.mpr ⟨cv1640 ghGd, (List.forall_mem_cons.mpr ⟨cv1639 ghGd, (fun _ h => absurd h List.not_mem_nil)⟩)⟩)⟩)))
set_option maxRecDepth 1000000 in
theorem tuC1860 : tuGood 1860 := tuGood3 (tuSeg (J := 3) (sp := []) (cs := [ct1695, ct1697, ct1696]) (Or.inl rfl) 111 (by decide +kernel) (fun {T} => (List.forall_mem_cons.mpr ⟨cv1695 ghGd, (List.forall_mem_cons.mpr ⟨cv1697 ghGd, (List.forall_mem_cons.mpr ⟨cv1696 ghGd, (fun _ h => absurd h List.not_mem_nil)⟩)⟩)⟩)))
set_option maxRecDepth 1000000 in
theorem tuC1888 : tuGood 1888 := tuGood3 (tuSeg (J := 3) (sp := []) (cs := [ct1708, ct1709]) (Or.inl rfl) 83 (by decide +kernel) (fun {T} => (List.forall_mem_cons.mpr ⟨cv1708 ghGd, (List.forall_mem_cons.mpr ⟨cv1709 ghGd, (fun _ h => absurd h List.not_mem_nil)⟩)⟩)))
set_option maxRecDepth 1000000 in
theorem tuC1913 : tuGood 1913 := tuGood3 (tuSeg (J := 3) (sp := []) (cs := [ct1710, ct1712, ct1711]) (Or.inl rfl) 111 (by decide +kernel) (fun {T} => (List.forall_mem_cons.mpr ⟨cv1710 ghGd, (List.forall_mem_cons.mpr ⟨cv1712 ghGd, (List.forall_mem_cons.mpr ⟨cv1711 ghGd, (fun _ h => absurd h List.not_mem_nil)⟩)⟩)⟩)))
set_option maxRecDepth 1000000 in
theorem tuC1941 : tuGood 1941 := tuGood3 (tuSeg (J := 3) (sp := []) (cs := [ct1713, ct1714]) (Or.inl rfl) 73 (by decide +kernel) (fun {T} => (List.forall_mem_cons.mpr ⟨cv1713 ghGd, (List.forall_mem_cons.mpr ⟨cv1714 ghGd, (fun _ h => absurd h List.not_mem_nil)⟩)⟩)))
set_option maxRecDepth 1000000 in
theorem tuC1954 : tuGood 1954 := tuGood3 (tuSeg (J := 3) (sp := []) (cs := [ct1741, ct1742]) (Or.inl rfl) 73 (by decide +kernel) (fun {T} => (List.forall_mem_cons.mpr ⟨cv1741 ghGd, (List.forall_mem_cons.mpr ⟨cv1742 ghGd, (fun _ h => absurd h List.not_mem_nil)⟩)⟩)))
set_option maxRecDepth 1000000 in
theorem tuC1967 : tuGood 1967 := tuGood3 (tuSeg (J := 3) (sp := []) (cs := [ct1748, ct1750, ct400, ct402, ct1749, ct1747, ct1746, ct1745, ct1744]) (Or.inl rfl) 583 (by decide +kernel) (fun {T} => (List.forall_mem_cons.mpr ⟨cv1748 ghGd, (List.forall_mem_cons.mpr ⟨cv1750 ghGd, (List.forall_mem_cons.mpr ⟨cv400 ghGd, (List.forall_mem_cons.mpr ⟨cv402 ghGd, (List.forall_mem_cons.mpr ⟨cv1749 ghGd, (List.forall_mem_cons.mpr ⟨cv1747 ghGd, (List.forall_mem_cons.mpr ⟨cv1746 ghGd, (List.forall_mem_cons.mpr ⟨cv1745 ghGd, (List.forall_mem_cons.mpr ⟨cv1744 ghGd, (fun _ h => absurd h List.not_mem_nil)⟩)⟩)⟩)⟩)⟩)⟩)⟩)⟩)⟩)))
set_option maxRecDepth 1000000 in
theorem tuC2031 : tuGood 2031 := tuGood3 (tuSeg (J := 3) (sp := []) (cs := []) (Or.inl rfl) 2367 (by decide +kernel) (fun {T} => (fun _ h => absurd h List.not_mem_nil)))
set_option maxRecDepth 1000000 in
theorem tuC2044 : tuGood 2044 := tuGood3 (tuSeg (J := 3) (sp := []) (cs := []) (Or.inl rfl) 2140 (by decide +kernel) (fun {T} => (fun _ h => absurd h List.not_mem_nil)))
set_option maxRecDepth 1000000 in
theorem tuC2057 : tuGood 2057 := tuGood3 (tuSeg (J := 3) (sp := []) (cs := []) (Or.inl rfl) 183 (by decide +kernel) (fun {T} => (fun _ h => absurd h List.not_mem_nil)))
set_option maxRecDepth 1000000 in
theorem tuC2082 : tuGood 2082 := tuGood3 (tuSeg (J := 3) (sp := []) (cs := []) (Or.inl rfl) 177 (by decide +kernel) (fun {T} => (fun _ h => absurd h List.not_mem_nil)))
set_option maxRecDepth 1000000 in
theorem tuC2107 : tuGood 2107 := tuGood3 (tuSeg (J := 3) (sp := []) (cs := []) (Or.inl rfl) 64 (by decide +kernel) (fun {T} => (fun _ h => absurd h List.not_mem_nil)))
end SXL
