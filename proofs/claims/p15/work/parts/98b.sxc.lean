/-! SX: the law's turn, case by case, by program -/
section SXL
set_option maxRecDepth 1000000 in
theorem tuC1492 : tuGood 1492 := tuGood3 (tuSeg (J := 3) (sp := []) (cs := [ct526, ct528]) (Or.inl rfl) 871 (by decide +kernel) (fun {T} => (List.forall_mem_cons.mpr ⟨cv526 ghGd, (List.forall_mem_cons.mpr ⟨cv528 ghGd, (fun _ h => absurd h List.not_mem_nil)⟩)⟩)))
set_option maxRecDepth 1000000 in
theorem tuC1532 : tuGood 1532 := tuGood3 (tuSeg (J := 3) (sp := []) (cs := [ct1381, ct528, ct1382]) (Or.inl rfl) 474 (by decide +kernel) (fun {T} => (List.forall_mem_cons.mpr ⟨cv1381 ghGd, (List.forall_mem_cons.mpr ⟨cv528 ghGd, (List.forall_mem_cons.mpr ⟨cv1382 ghGd, (fun _ h => absurd h List.not_mem_nil)⟩)⟩)⟩)))
set_option maxRecDepth 1000000 in
theorem tuC1572 : tuGood 1572 := tuGood3 (tuSeg (J := 3) (sp := []) (cs := [ct1383, ct516, ct429]) (Or.inl rfl) 293 (by decide +kernel) (fun {T} => (List.forall_mem_cons.mpr ⟨cv1383 ghGd, (List.forall_mem_cons.mpr ⟨cv516 ghGd, (List.forall_mem_cons.mpr ⟨cv429 ghGd, (fun _ h => absurd h List.not_mem_nil)⟩)⟩)⟩)))
set_option maxRecDepth 1000000 in
theorem tuC1600 : tuGood 1600 := tuGood3 (tuSeg (J := 3) (sp := []) (cs := [ct1384, ct1386, ct1385]) (Or.inl rfl) 111 (by decide +kernel) (fun {T} => (List.forall_mem_cons.mpr ⟨cv1384 ghGd, (List.forall_mem_cons.mpr ⟨cv1386 ghGd, (List.forall_mem_cons.mpr ⟨cv1385 ghGd, (fun _ h => absurd h List.not_mem_nil)⟩)⟩)⟩)))
set_option maxRecDepth 1000000 in
theorem tuC1628 : tuGood 1628 := tuGood3 (tuSeg (J := 3) (sp := []) (cs := [ct1416, ct1417, ct1387]) (Or.inl rfl) 171 (by decide +kernel) (fun {T} => (List.forall_mem_cons.mpr ⟨cv1416 ghGd, (List.forall_mem_cons.mpr ⟨cv1417 ghGd, (List.forall_mem_cons.mpr ⟨cv1387 ghGd, (fun _ h => absurd h List.not_mem_nil)⟩)⟩)⟩)))
set_option maxRecDepth 1000000 in
theorem tuC1656 : tuGood 1656 := tuGood3 (tuSeg (J := 3) (sp := []) (cs := [ct1418, ct1419, ct1420]) (Or.inl rfl) 127 (by decide +kernel) (fun {T} => (List.forall_mem_cons.mpr ⟨cv1418 ghGd, (List.forall_mem_cons.mpr ⟨cv1419 ghGd, (List.forall_mem_cons.mpr ⟨cv1420 ghGd, (fun _ h => absurd h List.not_mem_nil)⟩)⟩)⟩)))
set_option maxRecDepth 1000000 in
theorem tuC1684 : tuGood 1684 := tuGood3 (tuSeg (J := 3) (sp := []) (cs := [ct1421, ct1424, ct1422, ct1423]) (Or.inl rfl) 170 (by decide +kernel) (fun {T} => (List.forall_mem_cons.mpr ⟨cv1421 ghGd, (List.forall_mem_cons.mpr ⟨cv1424 ghGd, (List.forall_mem_cons.mpr ⟨cv1422 ghGd, (List.forall_mem_cons.mpr ⟨cv1423 ghGd, (fun _ h => absurd h List.not_mem_nil)⟩)⟩)⟩)⟩)))
set_option maxRecDepth 1000000 in
theorem tuC1736 : tuGood 1736 := tuGood3 (tuSeg (J := 3) (sp := []) (cs := [ct1425, ct1427, ct1426]) (Or.inl rfl) 127 (by decide +kernel) (fun {T} => (List.forall_mem_cons.mpr ⟨cv1425 ghGd, (List.forall_mem_cons.mpr ⟨cv1427 ghGd, (List.forall_mem_cons.mpr ⟨cv1426 ghGd, (fun _ h => absurd h List.not_mem_nil)⟩)⟩)⟩)))
set_option maxRecDepth 1000000 in
theorem tuC1776 : tuGood 1776 := tuGood3 (tuSeg (J := 3) (sp := []) (cs := [ct1605, ct1433, ct1432]) (Or.inl rfl) 488 (by decide +kernel) (fun {T} => (List.forall_mem_cons.mpr ⟨cv1605 ghGd, (List.forall_mem_cons.mpr ⟨cv1433 ghGd, (List.forall_mem_cons.mpr ⟨cv1432 ghGd, (fun _ h => absurd h List.not_mem_nil)⟩)⟩)⟩)))
set_option maxRecDepth 1000000 in
theorem tuC1804 : tuGood 1804 := tuGood3 (tuSeg (J := 3) (sp := []) (cs := [ct1644, ct1646, ct1645]) (Or.inl rfl) 111 (by decide +kernel) (fun {T} => (List.forall_mem_cons.mpr ⟨cv1644 ghGd, (List.forall_mem_cons.mpr ⟨cv1646 ghGd, (List.forall_mem_cons.mpr ⟨cv1645 ghGd, (fun _ h => absurd h List.not_mem_nil)⟩)⟩)⟩)))
set_option maxRecDepth 1000000 in
theorem tuC1832 : tuGood 1832 := tuGood3 (tuSeg (J := 3) (sp := []) (cs := [ct1701, ct1703, ct1702]) (Or.inl rfl) 111 (by decide +kernel) (fun {T} => (List.forall_mem_cons.mpr ⟨cv1701 ghGd, (List.forall_mem_cons.mpr ⟨cv1703 ghGd, (List.forall_mem_cons.mpr ⟨cv1702 ghGd, (fun _ h => absurd h List.not_mem_nil)⟩)⟩)⟩)))
set_option maxRecDepth 1000000 in
theorem tuC1860 : tuGood 1860 := tuGood3 (tuSeg (J := 3) (sp := []) (cs := [ct1714, ct1715]) (Or.inl rfl) 83 (by decide +kernel) (fun {T} => (List.forall_mem_cons.mpr ⟨cv1714 ghGd, (List.forall_mem_cons.mpr ⟨cv1715 ghGd, (fun _ h => absurd h List.not_mem_nil)⟩)⟩)))
set_option maxRecDepth 1000000 in
theorem tuC1885 : tuGood 1885 := tuGood3 (tuSeg (J := 3) (sp := []) (cs := [ct1716, ct1718, ct1717]) (Or.inl rfl) 111 (by decide +kernel) (fun {T} => (List.forall_mem_cons.mpr ⟨cv1716 ghGd, (List.forall_mem_cons.mpr ⟨cv1718 ghGd, (List.forall_mem_cons.mpr ⟨cv1717 ghGd, (fun _ h => absurd h List.not_mem_nil)⟩)⟩)⟩)))
set_option maxRecDepth 1000000 in
theorem tuC1913 : tuGood 1913 := tuGood3 (tuSeg (J := 3) (sp := []) (cs := [ct1719, ct1720]) (Or.inl rfl) 73 (by decide +kernel) (fun {T} => (List.forall_mem_cons.mpr ⟨cv1719 ghGd, (List.forall_mem_cons.mpr ⟨cv1720 ghGd, (fun _ h => absurd h List.not_mem_nil)⟩)⟩)))
set_option maxRecDepth 1000000 in
theorem tuC1926 : tuGood 1926 := tuGood3 (tuSeg (J := 3) (sp := []) (cs := [ct1747, ct1748]) (Or.inl rfl) 73 (by decide +kernel) (fun {T} => (List.forall_mem_cons.mpr ⟨cv1747 ghGd, (List.forall_mem_cons.mpr ⟨cv1748 ghGd, (fun _ h => absurd h List.not_mem_nil)⟩)⟩)))
set_option maxRecDepth 1000000 in
theorem tuC1939 : tuGood 1939 := tuGood3 (tuSeg (J := 3) (sp := []) (cs := [ct1754, ct1756, ct397, ct399, ct1755, ct1753, ct1752, ct1751, ct1750]) (Or.inl rfl) 583 (by decide +kernel) (fun {T} => (List.forall_mem_cons.mpr ⟨cv1754 ghGd, (List.forall_mem_cons.mpr ⟨cv1756 ghGd, (List.forall_mem_cons.mpr ⟨cv397 ghGd, (List.forall_mem_cons.mpr ⟨cv399 ghGd, (List.forall_mem_cons.mpr ⟨cv1755 ghGd, (List.forall_mem_cons.mpr ⟨cv1753 ghGd, (List.forall_mem_cons.mpr ⟨cv1752 ghGd, (List.forall_mem_cons.mpr ⟨cv1751 ghGd, (List.forall_mem_cons.mpr ⟨cv1750 ghGd, (fun _ h => absurd h List.not_mem_nil)⟩)⟩)⟩)⟩)⟩)⟩)⟩)⟩)⟩)))
set_option maxRecDepth 1000000 in
theorem tuC2003 : tuGood 2003 := tuGood3 (tuSeg (J := 3) (sp := []) (cs := []) (Or.inl rfl) 2367 (by decide +kernel) (fun {T} => (fun _ h => absurd h List.not_mem_nil)))
set_option maxRecDepth 1000000 in
theorem tuC2016 : tuGood 2016 := tuGood3 (tuSeg (J := 3) (sp := []) (cs := []) (Or.inl rfl) 2140 (by decide +kernel) (fun {T} => (fun _ h => absurd h List.not_mem_nil)))
set_option maxRecDepth 1000000 in
theorem tuC2029 : tuGood 2029 := tuGood3 (tuSeg (J := 3) (sp := []) (cs := []) (Or.inl rfl) 183 (by decide +kernel) (fun {T} => (fun _ h => absurd h List.not_mem_nil)))
set_option maxRecDepth 1000000 in
theorem tuC2054 : tuGood 2054 := tuGood3 (tuSeg (J := 3) (sp := []) (cs := []) (Or.inl rfl) 177 (by decide +kernel) (fun {T} => (fun _ h => absurd h List.not_mem_nil)))
set_option maxRecDepth 1000000 in
theorem tuC2079 : tuGood 2079 := tuGood3 (tuSeg (J := 3) (sp := []) (cs := []) (Or.inl rfl) 64 (by decide +kernel) (fun {T} => (fun _ h => absurd h List.not_mem_nil)))
end SXL
