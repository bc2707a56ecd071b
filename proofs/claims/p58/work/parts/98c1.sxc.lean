/-! SX: the law's turn, case by case, by program -/
section SXL
set_option maxRecDepth 1000000 in
theorem tuC1572 : tuGood 1572 := tuGood3 (tuSeg (J := 3) (sp := [(36200001, 583, 5201)]) (cs := [ct1327, ct457, ct370]) (Or.inl rfl) 323 (by decide +kernel) (fun {T} => (List.forall_mem_cons.mpr ⟨cv1327 ghGd, (List.forall_mem_cons.mpr ⟨cv457 ghGd, (List.forall_mem_cons.mpr ⟨cv370 ghGd, (fun _ h => absurd h List.not_mem_nil)⟩)⟩)⟩)))
set_option maxRecDepth 1000000 in
theorem tuC1600 : tuGood 1600 := tuGood3 (tuSeg (J := 3) (sp := [(36300001, 583, 5201)]) (cs := [ct1328, ct1329]) (Or.inl rfl) 272 (by decide +kernel) (fun {T} => (List.forall_mem_cons.mpr ⟨cv1328 ghGd, (List.forall_mem_cons.mpr ⟨cv1329 ghGd, (fun _ h => absurd h List.not_mem_nil)⟩)⟩)))
set_option maxRecDepth 1000000 in
theorem tuC1628 : tuGood 1628 := tuGood3 (tuSeg (J := 3) (sp := []) (cs := [ct1358, ct1359]) (Or.inl rfl) 266 (by decide +kernel) (fun {T} => (List.forall_mem_cons.mpr ⟨cv1358 ghGd, (List.forall_mem_cons.mpr ⟨cv1359 ghGd, (fun _ h => absurd h List.not_mem_nil)⟩)⟩)))
set_option maxRecDepth 1000000 in
theorem tuC1656 : tuGood 1656 := tuGood3 (tuSeg (J := 3) (sp := []) (cs := [ct910, ct945, ct818, ct853, ct726, ct949, ct761, ct634, ct669, ct510, ct1360]) (Or.inl rfl) 932 (by decide +kernel) (fun {T} => (List.forall_mem_cons.mpr ⟨cv910 ghGd, (List.forall_mem_cons.mpr ⟨cv945 ghGd, (List.forall_mem_cons.mpr ⟨cv818 ghGd, (List.forall_mem_cons.mpr ⟨cv853 ghGd, (List.forall_mem_cons.mpr ⟨cv726 ghGd, (List.forall_mem_cons.mpr ⟨cv949 ghGd, (List.forall_mem_cons.mpr ⟨cv761 ghGd, (List.forall_mem_cons.mpr ⟨cv634 ghGd, (List.forall_mem_cons.mpr ⟨cv669 ghGd, (List.forall_mem_cons.mpr ⟨cv510 ghGd, (List.forall_mem_cons.mpr ⟨cv1360 ghGd, (fun _ h => absurd h List.not_mem_nil)⟩)⟩)⟩)⟩)⟩)⟩)⟩)⟩)⟩)⟩)⟩)))
end SXL
