/-! SX: the law's turn, case by case, by program -/
section SXL
set_option maxRecDepth 1000000 in
theorem tuC1913 : tuGood 1913 := tuGood3 (tuSeg (J := 3) (sp := []) (cs := [ct1715, ct1717, ct1716]) (Or.inl rfl) 111 (by decide +kernel) (fun {T} => (List.forall_mem_cons.mpr ⟨cv1715 ghGd, (List.forall_mem_cons.mpr ⟨cv1717 ghGd, (List.forall_mem_cons.mpr ⟨cv1716 ghGd, (fun _ h => absurd h List.not_mem_nil)⟩)⟩)⟩)))
set_option maxRecDepth 1000000 in
theorem tuC1941 : tuGood 1941 := tuGood3 (tuSeg (J := 3) (sp := []) (cs := [ct1718, ct1719]) (Or.inl rfl) 73 (by decide +kernel) (fun {T} => (List.forall_mem_cons.mpr ⟨cv1718 ghGd, (List.forall_mem_cons.mpr ⟨cv1719 ghGd, (fun _ h => absurd h List.not_mem_nil)⟩)⟩)))
set_option maxRecDepth 1000000 in
theorem tuC1954 : tuGood 1954 := tuGood3 (tuSeg (J := 3) (sp := []) (cs := [ct1746, ct1747]) (Or.inl rfl) 73 (by decide +kernel) (fun {T} => (List.forall_mem_cons.mpr ⟨cv1746 ghGd, (List.forall_mem_cons.mpr ⟨cv1747 ghGd, (fun _ h => absurd h List.not_mem_nil)⟩)⟩)))
set_option maxRecDepth 1000000 in
theorem tuC1967 : tuGood 1967 := tuGood3 (tuSeg (J := 3) (sp := []) (cs := [ct1753, ct1755, ct397, ct399, ct1754, ct1752, ct1751, ct1750, ct1749]) (Or.inl rfl) 583 (by decide +kernel) (fun {T} => (List.forall_mem_cons.mpr ⟨cv1753 ghGd, (List.forall_mem_cons.mpr ⟨cv1755 ghGd, (List.forall_mem_cons.mpr ⟨cv397 ghGd, (List.forall_mem_cons.mpr ⟨cv399 ghGd, (List.forall_mem_cons.mpr ⟨cv1754 ghGd, (List.forall_mem_cons.mpr ⟨cv1752 ghGd, (List.forall_mem_cons.mpr ⟨cv1751 ghGd, (List.forall_mem_cons.mpr ⟨cv1750 ghGd, (List.forall_mem_cons.mpr ⟨cv1749 ghGd, (fun _ h => absurd h List.not_mem_nil)⟩)⟩)⟩)⟩)⟩)⟩)⟩)⟩)⟩)))
set_option maxRecDepth 1000000 in
theorem tuC2031 : tuGood 2031 := tuGood3 (tuSeg (J := 3) (sp := []) (cs := []) (Or.inl rfl) 2367 (by decide +kernel) (fun {T} => (fun _ h => absurd h List.not_mem_nil)))
set_option maxRecDepth 1000000 in
theorem tuC2044 : tuGood 2044 := tuGood3 (tuSeg (J := 3) (sp := []) (cs := []) (Or.inl rfl) 2140 (by decide +kernel) (fun {T} => (fun _ h => absurd h List.not_mem_nil)))
set_option maxRecDepth 1000000 in
theorem tuC2057 : tuGood 2057 := tuGood3 (tuSeg (J := 3) (sp := []) (cs := []) (Or.inl rfl) 183 (by decide +kernel) (fun {T} => (fun _ h => absurd h List.not_mem_nil)))
set_option maxRecDepth 1000000 in
theorem tuC2082 : tuGood 2082 := tuGood3 (tuSeg (J := 3) (sp := []) (cs := []) (Or.inl rfl) 177 (by decide +kernel) (fun {T} => (fun _ h => absurd h List.not_mem_nil)))
set_option maxRecDepth 1000000 in
theorem tuC2107 : tuGood 2107 := tuGood3 (tuSeg (J := 3) (sp := []) (cs := []) (Or.inl rfl) 64 (by decide +kernel) (fun {T} => (fun _ h => absurd h List.not_mem_nil)))
end SXL
