/-! SX: the law's turn, case by case, by program -/
section SXL
set_option maxRecDepth 1000000 in
theorem tuC1572 : tuGood 1572 := tuGood3 (tuSeg (J := 3) (sp := [(36200001, 583, 5201)]) (cs := [ct1356, ct459, ct372]) (Or.inl rfl) 323 (by decide +kernel) (fun {T} => (List.forall_mem_cons.mpr ⟨cv1356 ghGd, (List.forall_mem_cons.mpr ⟨cv459 ghGd, (List.forall_mem_cons.mpr ⟨cv372 ghGd, (fun _ h => absurd h List.not_mem_nil)⟩)⟩)⟩)))
set_option maxRecDepth 1000000 in
theorem tuC1600 : tuGood 1600 := tuGood3 (tuSeg (J := 3) (sp := [(36300001, 583, 5201)]) (cs := [ct1357, ct1358]) (Or.inl rfl) 272 (by decide +kernel) (fun {T} => (List.forall_mem_cons.mpr ⟨cv1357 ghGd, (List.forall_mem_cons.mpr ⟨cv1358 ghGd, (fun _ h => absurd h List.not_mem_nil)⟩)⟩)))
set_option maxRecDepth 1000000 in
theorem tuC1628 : tuGood 1628 := tuGood3 (tuSeg (J := 3) (sp := []) (cs := [ct1387, ct1388]) (Or.inl rfl) 266 (by decide +kernel) (fun {T} => (List.forall_mem_cons.mpr ⟨cv1387 ghGd, (List.forall_mem_cons.mpr ⟨cv1388 ghGd, (fun _ h => absurd h List.not_mem_nil)⟩)⟩)))
set_option maxRecDepth 1000000 in
theorem tuC1656 : tuGood 1656 := tuGood3 (tuSeg (J := 3) (sp := []) (cs := [ct512, ct912, ct951, ct947, ct820, ct855, ct728, ct763, ct636, ct671, ct1389]) (Or.inl rfl) 932 (by decide +kernel) (fun {T} => (List.forall_mem_cons.mpr ⟨cv512 ghGd, (List.forall_mem_cons.mpr ⟨cv912 ghGd, (List.forall_mem_cons.mpr ⟨cv951 ghGd, (List.forall_mem_cons.mpr ⟨cv947 ghGd, (List.forall_mem_cons.mpr ⟨cv820 ghGd, (List.forall_mem_cons.mpr ⟨cv855 ghGd, (List.forall_mem_cons.mpr ⟨cv728 ghGd, (List.forall_mem_cons.mpr ⟨cv763 ghGd, (List.forall_mem_cons.mpr ⟨cv636 ghGd, (List.forall_mem_cons.mpr ⟨cv671 ghGd, (List.forall_mem_cons.mpr ⟨cv1389 ghGd, (fun _ h => absurd h List.not_mem_nil)⟩)⟩)⟩)⟩)⟩)⟩)⟩)⟩)⟩)⟩)⟩)))
set_option maxRecDepth 1000000 in
theorem tuC1684 : tuGood 1684 := tuGood3 (tuSeg (J := 3) (sp := [(36600002, 587, 30201), (36600003, 583, 103), (36600004, 583, 6103)]) (cs := [ct1390, ct1391]) (Or.inl rfl) 1359 (by decide +kernel) (fun {T} => (List.forall_mem_cons.mpr ⟨cv1390 ghGd, (List.forall_mem_cons.mpr ⟨cv1391 ghGd, (fun _ h => absurd h List.not_mem_nil)⟩)⟩)))
set_option maxRecDepth 1000000 in
theorem tuC1736 : tuGood 1736 := tuGood3 (tuSeg (J := 3) (sp := [(36700001, 587, 30001), (36700002, 583, 5202)]) (cs := [ct1392, ct1393]) (Or.inl rfl) 927 (by decide +kernel) (fun {T} => (List.forall_mem_cons.mpr ⟨cv1392 ghGd, (List.forall_mem_cons.mpr ⟨cv1393 ghGd, (fun _ h => absurd h List.not_mem_nil)⟩)⟩)))
set_option maxRecDepth 1000000 in
theorem tuC1776 : tuGood 1776 := tuGood3 (tuSeg (J := 3) (sp := []) (cs := [ct1565, ct1570]) (Or.inl rfl) 670 (by decide +kernel) (fun {T} => (List.forall_mem_cons.mpr ⟨cv1565 ghGd, (List.forall_mem_cons.mpr ⟨cv1570 ghGd, (fun _ h => absurd h List.not_mem_nil)⟩)⟩)))
set_option maxRecDepth 1000000 in
theorem tuC1804 : tuGood 1804 := tuGood3 (tuSeg (J := 3) (sp := [(36900001, 583, 5201)]) (cs := [ct1609, ct1610]) (Or.inl rfl) 272 (by decide +kernel) (fun {T} => (List.forall_mem_cons.mpr ⟨cv1609 ghGd, (List.forall_mem_cons.mpr ⟨cv1610 ghGd, (fun _ h => absurd h List.not_mem_nil)⟩)⟩)))
set_option maxRecDepth 1000000 in
theorem tuC1832 : tuGood 1832 := tuGood3 (tuSeg (J := 3) (sp := [(37000001, 583, 201)]) (cs := [ct1665, ct1666]) (Or.inl rfl) 260 (by decide +kernel) (fun {T} => (List.forall_mem_cons.mpr ⟨cv1665 ghGd, (List.forall_mem_cons.mpr ⟨cv1666 ghGd, (fun _ h => absurd h List.not_mem_nil)⟩)⟩)))
set_option maxRecDepth 1000000 in
theorem tuC1860 : tuGood 1860 := tuGood3 (tuSeg (J := 3) (sp := []) (cs := [ct1677, ct1678]) (Or.inl rfl) 83 (by decide +kernel) (fun {T} => (List.forall_mem_cons.mpr ⟨cv1677 ghGd, (List.forall_mem_cons.mpr ⟨cv1678 ghGd, (fun _ h => absurd h List.not_mem_nil)⟩)⟩)))
set_option maxRecDepth 1000000 in
theorem tuC1885 : tuGood 1885 := tuGood3 (tuSeg (J := 3) (sp := [(37100001, 583, 5301)]) (cs := [ct1679, ct1680]) (Or.inl rfl) 260 (by decide +kernel) (fun {T} => (List.forall_mem_cons.mpr ⟨cv1679 ghGd, (List.forall_mem_cons.mpr ⟨cv1680 ghGd, (fun _ h => absurd h List.not_mem_nil)⟩)⟩)))
set_option maxRecDepth 1000000 in
theorem tuC1913 : tuGood 1913 := tuGood3 (tuSeg (J := 3) (sp := []) (cs := [ct1681, ct1682]) (Or.inl rfl) 73 (by decide +kernel) (fun {T} => (List.forall_mem_cons.mpr ⟨cv1681 ghGd, (List.forall_mem_cons.mpr ⟨cv1682 ghGd, (fun _ h => absurd h List.not_mem_nil)⟩)⟩)))
set_option maxRecDepth 1000000 in
theorem tuC1926 : tuGood 1926 := tuGood3 (tuSeg (J := 3) (sp := []) (cs := [ct1709, ct1710]) (Or.inl rfl) 73 (by decide +kernel) (fun {T} => (List.forall_mem_cons.mpr ⟨cv1709 ghGd, (List.forall_mem_cons.mpr ⟨cv1710 ghGd, (fun _ h => absurd h List.not_mem_nil)⟩)⟩)))
set_option maxRecDepth 1000000 in
theorem tuC1939 : tuGood 1939 := tuGood3 (tuSeg (J := 3) (sp := []) (cs := [ct1711, ct1713, ct340, ct342, ct1712]) (Or.inl rfl) 1521 (by decide +kernel) (fun {T} => (List.forall_mem_cons.mpr ⟨cv1711 ghGd, (List.forall_mem_cons.mpr ⟨cv1713 ghGd, (List.forall_mem_cons.mpr ⟨cv340 ghGd, (List.forall_mem_cons.mpr ⟨cv342 ghGd, (List.forall_mem_cons.mpr ⟨cv1712 ghGd, (fun _ h => absurd h List.not_mem_nil)⟩)⟩)⟩)⟩)⟩)))
set_option maxRecDepth 1000000 in
theorem tuC2003 : tuGood 2003 := tuGood3 (tuSeg (J := 3) (sp := []) (cs := []) (Or.inl rfl) 2367 (by decide +kernel) (fun {T} => (fun _ h => absurd h List.not_mem_nil)))
end SXL
