/-! SX: the law's turn, case by case, by program -/
section SXL
set_option maxRecDepth 1000000 in
theorem tuC1527 : tuGood 1527 := tuGood3 (tuSeg (J := 3) (sp := []) (cs := [ct525, ct527]) (Or.inl rfl) 871 (by decide +kernel) (fun {T} => (List.forall_mem_cons.mpr ⟨cv525 ghGd, (List.forall_mem_cons.mpr ⟨cv527 ghGd, (fun _ h => absurd h List.not_mem_nil)⟩)⟩)))
set_option maxRecDepth 1000000 in
theorem tuC1567 : tuGood 1567 := tuGood3 (tuSeg (J := 3) (sp := []) (cs := [ct1379, ct527, ct1380]) (Or.inl rfl) 474 (by decide +kernel) (fun {T} => (List.forall_mem_cons.mpr ⟨cv1379 ghGd, (List.forall_mem_cons.mpr ⟨cv527 ghGd, (List.forall_mem_cons.mpr ⟨cv1380 ghGd, (fun _ h => absurd h List.not_mem_nil)⟩)⟩)⟩)))
set_option maxRecDepth 1000000 in
theorem tuC1607 : tuGood 1607 := tuGood3 (tuSeg (J := 3) (sp := []) (cs := [ct1381, ct515, ct428]) (Or.inl rfl) 293 (by decide +kernel) (fun {T} => (List.forall_mem_cons.mpr ⟨cv1381 ghGd, (List.forall_mem_cons.mpr ⟨cv515 ghGd, (List.forall_mem_cons.mpr ⟨cv428 ghGd, (fun _ h => absurd h List.not_mem_nil)⟩)⟩)⟩)))
set_option maxRecDepth 1000000 in
theorem tuC1635 : tuGood 1635 := tuGood3 (tuSeg (J := 3) (sp := []) (cs := [ct1382, ct1384, ct1383]) (Or.inl rfl) 111 (by decide +kernel) (fun {T} => (List.forall_mem_cons.mpr ⟨cv1382 ghGd, (List.forall_mem_cons.mpr ⟨cv1384 ghGd, (List.forall_mem_cons.mpr ⟨cv1383 ghGd, (fun _ h => absurd h List.not_mem_nil)⟩)⟩)⟩)))
set_option maxRecDepth 1000000 in
theorem tuC1663 : tuGood 1663 := tuGood3 (tuSeg (J := 3) (sp := []) (cs := [ct1414, ct1415, ct1385]) (Or.inl rfl) 171 (by decide +kernel) (fun {T} => (List.forall_mem_cons.mpr ⟨cv1414 ghGd, (List.forall_mem_cons.mpr ⟨cv1415 ghGd, (List.forall_mem_cons.mpr ⟨cv1385 ghGd, (fun _ h => absurd h List.not_mem_nil)⟩)⟩)⟩)))
set_option maxRecDepth 1000000 in
theorem tuC1691 : tuGood 1691 := tuGood3 (tuSeg (J := 3) (sp := []) (cs := [ct1416, ct1417, ct1418]) (Or.inl rfl) 127 (by decide +kernel) (fun {T} => (List.forall_mem_cons.mpr ⟨cv1416 ghGd, (List.forall_mem_cons.mpr ⟨cv1417 ghGd, (List.forall_mem_cons.mpr ⟨cv1418 ghGd, (fun _ h => absurd h List.not_mem_nil)⟩)⟩)⟩)))
set_option maxRecDepth 1000000 in
theorem tuC1719 : tuGood 1719 := tuGood3 (tuSeg (J := 3) (sp := []) (cs := [ct1419, ct1422, ct1420, ct1421]) (Or.inl rfl) 170 (by decide +kernel) (fun {T} => (List.forall_mem_cons.mpr ⟨cv1419 ghGd, (List.forall_mem_cons.mpr ⟨cv1422 ghGd, (List.forall_mem_cons.mpr ⟨cv1420 ghGd, (List.forall_mem_cons.mpr ⟨cv1421 ghGd, (fun _ h => absurd h List.not_mem_nil)⟩)⟩)⟩)⟩)))
set_option maxRecDepth 1000000 in
theorem tuC1771 : tuGood 1771 := tuGood3 (tuSeg (J := 3) (sp := []) (cs := [ct1423, ct1425, ct1424]) (Or.inl rfl) 127 (by decide +kernel) (fun {T} => (List.forall_mem_cons.mpr ⟨cv1423 ghGd, (List.forall_mem_cons.mpr ⟨cv1425 ghGd, (List.forall_mem_cons.mpr ⟨cv1424 ghGd, (fun _ h => absurd h List.not_mem_nil)⟩)⟩)⟩)))
set_option maxRecDepth 1000000 in
theorem tuC1811 : tuGood 1811 := tuGood3 (tuSeg (J := 3) (sp := []) (cs := [ct1603, ct1431, ct1430]) (Or.inl rfl) 488 (by decide +kernel) (fun {T} => (List.forall_mem_cons.mpr ⟨cv1603 ghGd, (List.forall_mem_cons.mpr ⟨cv1431 ghGd, (List.forall_mem_cons.mpr ⟨cv1430 ghGd, (fun _ h => absurd h List.not_mem_nil)⟩)⟩)⟩)))
set_option maxRecDepth 1000000 in
theorem tuC1839 : tuGood 1839 := tuGood3 (tuSeg (J := 3) (sp := []) (cs := [ct1642, ct1644, ct1643]) (Or.inl rfl) 111 (by decide +kernel) (fun {T} => (List.forall_mem_cons.mpr ⟨cv1642 ghGd, (List.forall_mem_cons.mpr ⟨cv1644 ghGd, (List.forall_mem_cons.mpr ⟨cv1643 ghGd, (fun _ h => absurd h List.not_mem_nil)⟩)⟩)⟩)))
set_option maxRecDepth 1000000 in
theorem tuC1867 : tuGood 1867 := tuGood3 (tuSeg (J := 3) (sp := []) (cs := [ct1699, ct1701, ct1700]) (Or.inl rfl) 111 (by decide +kernel) (fun {T} => (List.forall_mem_cons.mpr ⟨cv1699 ghGd, (List.forall_mem_cons.mpr ⟨cv1701 ghGd, (List.forall_mem_cons.mpr ⟨cv1700 ghGd, (fun _ h => absurd h List.not_mem_nil)⟩)⟩)⟩)))
set_option maxRecDepth 1000000 in
theorem tuC1895 : tuGood 1895 := tuGood3 (tuSeg (J := 3) (sp := []) (cs := [ct1712, ct1713]) (Or.inl rfl) 83 (by decide +kernel) (fun {T} => (List.forall_mem_cons.mpr ⟨cv1712 ghGd, (List.forall_mem_cons.mpr ⟨cv1713 ghGd, (fun _ h => absurd h List.not_mem_nil)⟩)⟩)))
set_option maxRecDepth 1000000 in
theorem tuC1920 : tuGood 1920 := tuGood3 (tuSeg (J := 3) (sp := []) (cs := [ct1714, ct1716, ct1715]) (Or.inl rfl) 111 (by decide +kernel) (fun {T} => (List.forall_mem_cons.mpr ⟨cv1714 ghGd, (List.forall_mem_cons.mpr ⟨cv1716 ghGd, (List.forall_mem_cons.mpr ⟨cv1715 ghGd, (fun _ h => absurd h List.not_mem_nil)⟩)⟩)⟩)))
set_option maxRecDepth 1000000 in
theorem tuC1948 : tuGood 1948 := tuGood3 (tuSeg (J := 3) (sp := []) (cs := [ct1717, ct1718]) (Or.inl rfl) 73 (by decide +kernel) (fun {T} => (List.forall_mem_cons.mpr ⟨cv1717 ghGd, (List.forall_mem_cons.mpr ⟨cv1718 ghGd, (fun _ h => absurd h List.not_mem_nil)⟩)⟩)))
set_option maxRecDepth 1000000 in
theorem tuC1961 : tuGood 1961 := tuGood3 (tuSeg (J := 3) (sp := []) (cs := [ct1745, ct1746]) (Or.inl rfl) 73 (by decide +kernel) (fun {T} => (List.forall_mem_cons.mpr ⟨cv1745 ghGd, (List.forall_mem_cons.mpr ⟨cv1746 ghGd, (fun _ h => absurd h List.not_mem_nil)⟩)⟩)))
set_option maxRecDepth 1000000 in
theorem tuC1974 : tuGood 1974 := tuGood3 (tuSeg (J := 3) (sp := []) (cs := [ct1752, ct1754, ct396, ct398, ct1753, ct1751, ct1750, ct1749, ct1748]) (Or.inl rfl) 583 (by decide +kernel) (fun {T} => (List.forall_mem_cons.mpr ⟨cv1752 ghGd, (List.forall_mem_cons.mpr ⟨cv1754 ghGd, (List.forall_mem_cons.mpr ⟨cv396 ghGd, (List.forall_mem_cons.mpr ⟨cv398 ghGd, (List.forall_mem_cons.mpr ⟨cv1753 ghGd, (List.forall_mem_cons.mpr ⟨cv1751 ghGd, (List.forall_mem_cons.mpr ⟨cv1750 ghGd, (List.forall_mem_cons.mpr ⟨cv1749 ghGd, (List.forall_mem_cons.mpr ⟨cv1748 ghGd, (fun _ h => absurd h List.not_mem_nil)⟩)⟩)⟩)⟩)⟩)⟩)⟩)⟩)⟩)))
set_option maxRecDepth 1000000 in
theorem tuC2038 : tuGood 2038 := tuGood3 (tuSeg (J := 3) (sp := []) (cs := []) (Or.inl rfl) 2367 (by decide +kernel) (fun {T} => (fun _ h => absurd h List.not_mem_nil)))
set_option maxRecDepth 1000000 in
theorem tuC2051 : tuGood 2051 := tuGood3 (tuSeg (J := 3) (sp := []) (cs := []) (Or.inl rfl) 2140 (by decide +kernel) (fun {T} => (fun _ h => absurd h List.not_mem_nil)))
set_option maxRecDepth 1000000 in
theorem tuC2064 : tuGood 2064 := tuGood3 (tuSeg (J := 3) (sp := []) (cs := []) (Or.inl rfl) 183 (by decide +kernel) (fun {T} => (fun _ h => absurd h List.not_mem_nil)))
set_option maxRecDepth 1000000 in
theorem tuC2089 : tuGood 2089 := tuGood3 (tuSeg (J := 3) (sp := []) (cs := []) (Or.inl rfl) 177 (by decide +kernel) (fun {T} => (fun _ h => absurd h List.not_mem_nil)))
set_option maxRecDepth 1000000 in
theorem tuC2114 : tuGood 2114 := tuGood3 (tuSeg (J := 3) (sp := []) (cs := []) (Or.inl rfl) 64 (by decide +kernel) (fun {T} => (fun _ h => absurd h List.not_mem_nil)))
end SXL
