/-! SX: the law's turn, case by case, by program -/
section SXL
set_option maxRecDepth 1000000 in
theorem tuC1776 : tuGood 1776 := tuGood3 (tuSeg (J := 3) (sp := []) (cs := [ct1538, ct1543]) (Or.inl rfl) 670 (by decide +kernel) (fun {T} => (List.forall_mem_cons.mpr ⟨cv1538 ghGd, (List.forall_mem_cons.mpr ⟨cv1543 ghGd, (fun _ h => absurd h List.not_mem_nil)⟩)⟩)))
set_option maxRecDepth 1000000 in
theorem tuC1804 : tuGood 1804 := tuGood3 (tuSeg (J := 3) (sp := [(36900001, 583, 5201)]) (cs := [ct1582, ct1583]) (Or.inl rfl) 272 (by decide +kernel) (fun {T} => (List.forall_mem_cons.mpr ⟨cv1582 ghGd, (List.forall_mem_cons.mpr ⟨cv1583 ghGd, (fun _ h => absurd h List.not_mem_nil)⟩)⟩)))
set_option maxRecDepth 1000000 in
theorem tuC1832 : tuGood 1832 := tuGood3 (tuSeg (J := 3) (sp := [(37000001, 583, 201)]) (cs := [ct1638, ct1639]) (Or.inl rfl) 260 (by decide +kernel) (fun {T} => (List.forall_mem_cons.mpr ⟨cv1638 ghGd, (List.forall_mem_cons.mpr ⟨cv1639 ghGd, (fun _ h => absurd h List.not_mem_nil)⟩)⟩)))
set_option maxRecDepth 1000000 in
theorem tuC1860 : tuGood 1860 := tuGood3 (tuSeg (J := 3) (sp := []) (cs := [ct1650, ct1651]) (Or.inl rfl) 83 (by decide +kernel) (fun {T} => (List.forall_mem_cons.mpr ⟨cv1650 ghGd, (List.forall_mem_cons.mpr ⟨cv1651 ghGd, (fun _ h => absurd h List.not_mem_nil)⟩)⟩)))
set_option maxRecDepth 1000000 in
theorem tuC1885 : tuGood 1885 := tuGood3 (tuSeg (J := 3) (sp := [(37100001, 583, 5301)]) (cs := [ct1652, ct1653]) (Or.inl rfl) 260 (by decide +kernel) (fun {T} => (List.forall_mem_cons.mpr ⟨cv1652 ghGd, (List.forall_mem_cons.mpr ⟨cv1653 ghGd, (fun _ h => absurd h List.not_mem_nil)⟩)⟩)))
set_option maxRecDepth 1000000 in
theorem tuC1913 : tuGood 1913 := tuGood3 (tuSeg (J := 3) (sp := []) (cs := [ct1654, ct1655]) (Or.inl rfl) 73 (by decide +kernel) (fun {T} => (List.forall_mem_cons.mpr ⟨cv1654 ghGd, (List.forall_mem_cons.mpr ⟨cv1655 ghGd, (fun _ h => absurd h List.not_mem_nil)⟩)⟩)))
set_option maxRecDepth 1000000 in
theorem tuC1926 : tuGood 1926 := tuGood3 (tuSeg (J := 3) (sp := []) (cs := [ct1682, ct1683]) (Or.inl rfl) 73 (by decide +kernel) (fun {T} => (List.forall_mem_cons.mpr ⟨cv1682 ghGd, (List.forall_mem_cons.mpr ⟨cv1683 ghGd, (fun _ h => absurd h List.not_mem_nil)⟩)⟩)))
set_option maxRecDepth 1000000 in
theorem tuC1939 : tuGood 1939 := tuGood3 (tuSeg (J := 3) (sp := []) (cs := [ct1684, ct1686, ct338, ct340, ct1685]) (Or.inl rfl) 1521 (by decide +kernel) (fun {T} => (List.forall_mem_cons.mpr ⟨cv1684 ghGd, (List.forall_mem_cons.mpr ⟨cv1686 ghGd, (List.forall_mem_cons.mpr ⟨cv338 ghGd, (List.forall_mem_cons.mpr ⟨cv340 ghGd, (List.forall_mem_cons.mpr ⟨cv1685 ghGd, (fun _ h => absurd h List.not_mem_nil)⟩)⟩)⟩)⟩)⟩)))
set_option maxRecDepth 1000000 in
theorem tuC2003 : tuGood 2003 := tuGood3 (tuSeg (J := 3) (sp := []) (cs := []) (Or.inl rfl) 2367 (by decide +kernel) (fun {T} => (fun _ h => absurd h List.not_mem_nil)))
set_option maxRecDepth 1000000 in
theorem tuC2016 : tuGood 2016 := tuGood3 (tuSeg (J := 3) (sp := []) (cs := []) (Or.inl rfl) 2140 (by decide +kernel) (fun {T} => (fun _ h => absurd h List.not_mem_nil)))
set_option maxRecDepth 1000000 in
theorem tuC2029 : tuGood 2029 := tuGood3 (tuSeg (J := 3) (sp := [(17000017, 581, 1)]) (cs := []) (Or.inl rfl) 255 (by decide +kernel) (fun {T} => (fun _ h => absurd h List.not_mem_nil)))
set_option maxRecDepth 1000000 in
theorem tuC2054 : tuGood 2054 := tuGood3 (tuSeg (J := 3) (sp := []) (cs := []) (Or.inl rfl) 177 (by decide +kernel) (fun {T} => (fun _ h => absurd h List.not_mem_nil)))
set_option maxRecDepth 1000000 in
theorem tuC2079 : tuGood 2079 := tuGood3 (tuSeg (J := 3) (sp := []) (cs := []) (Or.inl rfl) 64 (by decide +kernel) (fun {T} => (fun _ h => absurd h List.not_mem_nil)))
end SXL
