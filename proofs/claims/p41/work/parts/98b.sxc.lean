/-! SX: the law's turn, case by case, by program -/
section SXL
set_option maxRecDepth 1000000 in
theorem tuC1492 : tuGood 1492 := tuGood3 (tuSeg (J := 3) (sp := []) (cs := [ct529, ct531]) (Or.inl rfl) 871 (by decide +kernel) (fun {T} => (List.forall_mem_cons.mpr ⟨cv529 ghGd, (List.forall_mem_cons.mpr ⟨cv531 ghGd, (fun _ h => absurd h List.not_mem_nil)⟩)⟩)))
set_option maxRecDepth 1000000 in
theorem tuC1600 : tuGood 1600 := tuGood3 (tuSeg (J := 3) (sp := []) (cs := [ct1383, ct519, ct432]) (Or.inl rfl) 293 (by decide +kernel) (fun {T} => (List.forall_mem_cons.mpr ⟨cv1383 ghGd, (List.forall_mem_cons.mpr ⟨cv519 ghGd, (List.forall_mem_cons.mpr ⟨cv432 ghGd, (fun _ h => absurd h List.not_mem_nil)⟩)⟩)⟩)))
set_option maxRecDepth 1000000 in
theorem tuC1628 : tuGood 1628 := tuGood3 (tuSeg (J := 3) (sp := []) (cs := [ct1384, ct1386, ct1385]) (Or.inl rfl) 111 (by decide +kernel) (fun {T} => (List.forall_mem_cons.mpr ⟨cv1384 ghGd, (List.forall_mem_cons.mpr ⟨cv1386 ghGd, (List.forall_mem_cons.mpr ⟨cv1385 ghGd, (fun _ h => absurd h List.not_mem_nil)⟩)⟩)⟩)))
set_option maxRecDepth 1000000 in
theorem tuC1656 : tuGood 1656 := tuGood3 (tuSeg (J := 3) (sp := []) (cs := [ct1416, ct1417, ct1387]) (Or.inl rfl) 171 (by decide +kernel) (fun {T} => (List.forall_mem_cons.mpr ⟨cv1416 ghGd, (List.forall_mem_cons.mpr ⟨cv1417 ghGd, (List.forall_mem_cons.mpr ⟨cv1387 ghGd, (fun _ h => absurd h List.not_mem_nil)⟩)⟩)⟩)))
set_option maxRecDepth 1000000 in
theorem tuC1684 : tuGood 1684 := tuGood3 (tuSeg (J := 3) (sp := []) (cs := [ct1418, ct1419, ct1420]) (Or.inl rfl) 127 (by decide +kernel) (fun {T} => (List.forall_mem_cons.mpr ⟨cv1418 ghGd, (List.forall_mem_cons.mpr ⟨cv1419 ghGd, (List.forall_mem_cons.mpr ⟨cv1420 ghGd, (fun _ h => absurd h List.not_mem_nil)⟩)⟩)⟩)))
set_option maxRecDepth 1000000 in
theorem tuC1712 : tuGood 1712 := tuGood3 (tuSeg (J := 3) (sp := []) (cs := [ct1421, ct1424, ct1422, ct1423]) (Or.inl rfl) 170 (by decide +kernel) (fun {T} => (List.forall_mem_cons.mpr ⟨cv1421 ghGd, (List.forall_mem_cons.mpr ⟨cv1424 ghGd, (List.forall_mem_cons.mpr ⟨cv1422 ghGd, (List.forall_mem_cons.mpr ⟨cv1423 ghGd, (fun _ h => absurd h List.not_mem_nil)⟩)⟩)⟩)⟩)))
set_option maxRecDepth 1000000 in
theorem tuC1764 : tuGood 1764 := tuGood3 (tuSeg (J := 3) (sp := []) (cs := [ct1425, ct1427, ct1426]) (Or.inl rfl) 127 (by decide +kernel) (fun {T} => (List.forall_mem_cons.mpr ⟨cv1425 ghGd, (List.forall_mem_cons.mpr ⟨cv1427 ghGd, (List.forall_mem_cons.mpr ⟨cv1426 ghGd, (fun _ h => absurd h List.not_mem_nil)⟩)⟩)⟩)))
set_option maxRecDepth 1000000 in
theorem tuC1804 : tuGood 1804 := tuGood3 (tuSeg (J := 3) (sp := []) (cs := [ct1605, ct1433, ct1432]) (Or.inl rfl) 488 (by decide +kernel) (fun {T} => (List.forall_mem_cons.mpr ⟨cv1605 ghGd, (List.forall_mem_cons.mpr ⟨cv1433 ghGd, (List.forall_mem_cons.mpr ⟨cv1432 ghGd, (fun _ h => absurd h List.not_mem_nil)⟩)⟩)⟩)))
set_option maxRecDepth 1000000 in
theorem tuC1832 : tuGood 1832 := tuGood3 (tuSeg (J := 3) (sp := []) (cs := [ct1644, ct1646, ct1645]) (Or.inl rfl) 111 (by decide +kernel) (fun {T} => (List.forall_mem_cons.mpr ⟨cv1644 ghGd, (List.forall_mem_cons.mpr ⟨cv1646 ghGd, (List.forall_mem_cons.mpr ⟨cv1645 ghGd, (fun _ h => absurd h List.not_mem_nil)⟩)⟩)⟩)))
set_option maxRecDepth 1000000 in
theorem tuC1860 : tuGood 1860 := tuGood3 (tuSeg (J := 3) (sp := []) (cs := [ct1701, ct1703, ct1702]) (Or.inl rfl) 111 (by decide +kernel) (fun {T} => (List.forall_mem_cons.mpr ⟨cv1701 ghGd, (List.forall_mem_cons.mpr ⟨cv1703 ghGd, (List.forall_mem_cons.mpr ⟨cv1702 ghGd, (fun _ h => absurd h List.not_mem_nil)⟩)⟩)⟩)))
set_option maxRecDepth 1000000 in
theorem tuC1888 : tuGood 1888 := tuGood3 (tuSeg (J := 3) (sp := []) (cs := [ct1714, ct1715]) (Or.inl rfl) 83 (by decide +kernel) (fun {T} => (List.forall_mem_cons.mpr ⟨cv1714 ghGd, (List.forall_mem_cons.mpr ⟨cv1715 ghGd, (fun _ h => absurd h List.not_mem_nil)⟩)⟩)))
set_option maxRecDepth 1000000 in
theorem tuC1913 : tuGood 1913 := tuGood3 (tuSeg (J := 3) (sp := []) (cs := [ct1716, ct1718, ct1717]) (Or.inl rfl) 111 (by decide +kernel) (fun {T} => (List.forall_mem_cons.mpr ⟨cv1716 ghGd, (List.forall_mem_cons.mpr ⟨cv1718 ghGd, (List.forall_mem_cons.mpr ⟨cv1717 ghGd, (fun _ h => absurd h List.not_mem_nil)⟩)⟩)⟩)))
set_option maxRecDepth 1000000 in
theorem tuC1941 : tuGood 1941 := tuGood3 (tuSeg (J := 3) (sp := []) (cs := [ct1719, ct1720]) (Or.inl rfl) 73 (by decide +kernel) (fun {T} => (List.forall_mem_cons.mpr ⟨cv1719 ghGd, (List.forall_mem_cons.mpr ⟨cv1720 ghGd, (fun _ h => absurd h List.not_mem_nil)⟩)⟩)))
set_option maxRecDepth 1000000 in
theorem tuC1954 : tuGood 1954 := tuGood3 (tuSeg (J := 3) (sp := []) (cs := [ct1747, ct1748]) (Or.inl rfl) 73 (by decide +kernel) (fun {T} => (List.forall_mem_cons.mpr ⟨cv1747 ghGd, (List.forall_mem_cons.mpr ⟨cv1748 ghGd, (fun _ h => absurd h List.not_mem_nil)⟩)⟩)))
set_option maxRecDepth 1000000 in
theorem tuC1967 : tuGood 1967 := tuGood3 (tuSeg (J := 3) (sp := []) (cs := [ct1754, ct1756, ct400, ct402, ct1755, ct1753, ct1752, ct1751, ct1750]) (Or.inl rfl) 583 (by decide +kernel) (fun {T} => (List.forall_mem_cons.mpr ⟨cv1754 ghGd, (List.forall_mem_cons.mpr ⟨cv1756 ghGd, (List.forall_mem_cons.mpr ⟨cv400 ghGd, (List.forall_mem_cons.mpr ⟨cv402 ghGd, (List.forall_mem_cons.mpr ⟨cv1755 ghGd, (List.forall_mem_cons.mpr ⟨cv1753 ghGd, (List.forall_mem_cons.mpr ⟨cv1752 ghGd, (List.forall_mem_cons.mpr ⟨cv1751 ghGd, (List.forall_mem_cons.mpr ⟨cv1750 ghGd, (fun _ h => absurd h List.not_mem_nil)⟩)⟩)⟩)⟩)⟩)⟩)⟩)⟩)⟩)))
set_option maxRecDepth 1000000 in
theorem tuC2031 : tuGood 2031 := tuGood3 (tuSeg (J := 3) (sp := []) (cs := []) (Or.inl rfl) 2367 (by decide +kernel) (fun {T} => (fun _ h => absurd h List.not_mem_nil)))
set_option maxRecDepth 1000000 in
theorem tuC2044 : tuGood 2044 := tuGood3 (tuSeg (J := 3) (sp := []) (cs := []) (Or.inl rfl) 2140 (by decide +kernel) (fun {T} => (fun _ h => absurd h List.not_mem_nil)))
set_option maxRecDepth 1000000 in
theorem tuC2057 : tuGood 2057 := tuGood3 (tuSeg (J := 3) (sp := []) (cs := []) (Or.inl rfl) 183 (by decide +kernel) (fun {T} => (fun _ h => absurd h List.not_mem_nil)))
set_option maxRecDepth 1000000 in
theorem tuC2082 : tuGood 2082 := tuGood3 (tuSeg (J := 3) (sp := []) (cs := []) (Or.inl rfl) 177 (by decide +kernel) (fun {T} => (fun _ h => absurd h List.not_mem_nil)))
set_option maxRecDepth 1000000 in
theorem tuC2107 : tuGood 2107 := tuGood3 (tuSeg (J := 3) (sp := []) (cs := []) (Or.inl rfl) 64 (by decide +kernel) (fun {T} => (fun _ h => absurd h List.not_mem_nil)))
end SXL
