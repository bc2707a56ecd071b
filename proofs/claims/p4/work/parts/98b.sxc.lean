/-! SX: the law's turn, case by case, by program -/
section SXL
set_option maxRecDepth 1000000 in
theorem tuC1520 : tuGood 1520 := tuGood3 (tuSeg (J := 3) (sp := []) (cs := [ct385, ct387]) (Or.inl rfl) 871 (by decide +kernel) (fun {T} => (List.forall_mem_cons.mpr ⟨cv385 ghGd, (List.forall_mem_cons.mpr ⟨cv387 ghGd, (fun _ h => absurd h List.not_mem_nil)⟩)⟩)))
set_option maxRecDepth 1000000 in
theorem tuC1560 : tuGood 1560 := tuGood3 (tuSeg (J := 3) (sp := []) (cs := [ct1239, ct387, ct1240]) (Or.inl rfl) 474 (by decide +kernel) (fun {T} => (List.forall_mem_cons.mpr ⟨cv1239 ghGd, (List.forall_mem_cons.mpr ⟨cv387 ghGd, (List.forall_mem_cons.mpr ⟨cv1240 ghGd, (fun _ h => absurd h List.not_mem_nil)⟩)⟩)⟩)))
set_option maxRecDepth 1000000 in
theorem tuC1600 : tuGood 1600 := tuGood3 (tuSeg (J := 3) (sp := []) (cs := [ct1241, ct375, ct288]) (Or.inl rfl) 293 (by decide +kernel) (fun {T} => (List.forall_mem_cons.mpr ⟨cv1241 ghGd, (List.forall_mem_cons.mpr ⟨cv375 ghGd, (List.forall_mem_cons.mpr ⟨cv288 ghGd, (fun _ h => absurd h List.not_mem_nil)⟩)⟩)⟩)))
set_option maxRecDepth 1000000 in
theorem tuC1628 : tuGood 1628 := tuGood3 (tuSeg (J := 3) (sp := []) (cs := [ct1242, ct1244, ct1243]) (Or.inl rfl) 111 (by decide +kernel) (fun {T} => (List.forall_mem_cons.mpr ⟨cv1242 ghGd, (List.forall_mem_cons.mpr ⟨cv1244 ghGd, (List.forall_mem_cons.mpr ⟨cv1243 ghGd, (fun _ h => absurd h List.not_mem_nil)⟩)⟩)⟩)))
set_option maxRecDepth 1000000 in
theorem tuC1656 : tuGood 1656 := tuGood3 (tuSeg (J := 3) (sp := []) (cs := [ct1274, ct1275, ct1245]) (Or.inl rfl) 171 (by decide +kernel) (fun {T} => (List.forall_mem_cons.mpr ⟨cv1274 ghGd, (List.forall_mem_cons.mpr ⟨cv1275 ghGd, (List.forall_mem_cons.mpr ⟨cv1245 ghGd, (fun _ h => absurd h List.not_mem_nil)⟩)⟩)⟩)))
set_option maxRecDepth 1000000 in
theorem tuC1684 : tuGood 1684 := tuGood3 (tuSeg (J := 3) (sp := []) (cs := [ct1276, ct1277, ct1278]) (Or.inl rfl) 127 (by decide +kernel) (fun {T} => (List.forall_mem_cons.mpr ⟨cv1276 ghGd, (List.forall_mem_cons.mpr ⟨cv1277 ghGd, (List.forall_mem_cons.mpr ⟨cv1278 ghGd, (fun _ h => absurd h List.not_mem_nil)⟩)⟩)⟩)))
set_option maxRecDepth 1000000 in
theorem tuC1712 : tuGood 1712 := tuGood3 (tuSeg (J := 3) (sp := []) (cs := [ct1279, ct1282, ct1280, ct1281]) (Or.inl rfl) 170 (by decide +kernel) (fun {T} => (List.forall_mem_cons.mpr ⟨cv1279 ghGd, (List.forall_mem_cons.mpr ⟨cv1282 ghGd, (List.forall_mem_cons.mpr ⟨cv1280 ghGd, (List.forall_mem_cons.mpr ⟨cv1281 ghGd, (fun _ h => absurd h List.not_mem_nil)⟩)⟩)⟩)⟩)))
set_option maxRecDepth 1000000 in
theorem tuC1764 : tuGood 1764 := tuGood3 (tuSeg (J := 3) (sp := []) (cs := [ct1283, ct1285, ct1284]) (Or.inl rfl) 127 (by decide +kernel) (fun {T} => (List.forall_mem_cons.mpr ⟨cv1283 ghGd, (List.forall_mem_cons.mpr ⟨cv1285 ghGd, (List.forall_mem_cons.mpr ⟨cv1284 ghGd, (fun _ h => absurd h List.not_mem_nil)⟩)⟩)⟩)))
set_option maxRecDepth 1000000 in
theorem tuC1804 : tuGood 1804 := tuGood3 (tuSeg (J := 3) (sp := []) (cs := [ct1463, ct1291, ct1290]) (Or.inl rfl) 488 (by decide +kernel) (fun {T} => (List.forall_mem_cons.mpr ⟨cv1463 ghGd, (List.forall_mem_cons.mpr ⟨cv1291 ghGd, (List.forall_mem_cons.mpr ⟨cv1290 ghGd, (fun _ h => absurd h List.not_mem_nil)⟩)⟩)⟩)))
set_option maxRecDepth 1000000 in
theorem tuC1832 : tuGood 1832 := tuGood3 (tuSeg (J := 3) (sp := []) (cs := [ct1502, ct1504, ct1503]) (Or.inl rfl) 111 (by decide +kernel) (fun {T} => (List.forall_mem_cons.mpr ⟨cv1502 ghGd, (List.forall_mem_cons.mpr ⟨cv1504 ghGd, (List.forall_mem_cons.mpr ⟨cv1503 ghGd, (fun _ h => absurd h List.not_mem_nil)⟩)⟩)⟩)))
set_option maxRecDepth 1000000 in
theorem tuC1860 : tuGood 1860 := tuGood3 (tuSeg (J := 3) (sp := []) (cs := [ct1559, ct1561, ct1560]) (Or.inl rfl) 111 (by decide +kernel) (fun {T} => (List.forall_mem_cons.mpr ⟨cv1559 ghGd, (List.forall_mem_cons.mpr ⟨cv1561 ghGd, (List.forall_mem_cons.mpr ⟨cv1560 ghGd, (fun _ h => absurd h List.not_mem_nil)⟩)⟩)⟩)))
set_option maxRecDepth 1000000 in
theorem tuC1888 : tuGood 1888 := tuGood3 (tuSeg (J := 3) (sp := []) (cs := [ct1572, ct1573]) (Or.inl rfl) 83 (by decide +kernel) (fun {T} => (List.forall_mem_cons.mpr ⟨cv1572 ghGd, (List.forall_mem_cons.mpr ⟨cv1573 ghGd, (fun _ h => absurd h List.not_mem_nil)⟩)⟩)))
set_option maxRecDepth 1000000 in
theorem tuC1913 : tuGood 1913 := tuGood3 (tuSeg (J := 3) (sp := []) (cs := [ct1574, ct1576, ct1575]) (Or.inl rfl) 111 (by decide +kernel) (fun {T} => (List.forall_mem_cons.mpr ⟨cv1574 ghGd, (List.forall_mem_cons.mpr ⟨cv1576 ghGd, (List.forall_mem_cons.mpr ⟨cv1575 ghGd, (fun _ h => absurd h List.not_mem_nil)⟩)⟩)⟩)))
set_option maxRecDepth 1000000 in
theorem tuC1941 : tuGood 1941 := tuGood3 (tuSeg (J := 3) (sp := []) (cs := [ct1577, ct1578]) (Or.inl rfl) 73 (by decide +kernel) (fun {T} => (List.forall_mem_cons.mpr ⟨cv1577 ghGd, (List.forall_mem_cons.mpr ⟨cv1578 ghGd, (fun _ h => absurd h List.not_mem_nil)⟩)⟩)))
set_option maxRecDepth 1000000 in
theorem tuC1954 : tuGood 1954 := tuGood3 (tuSeg (J := 3) (sp := []) (cs := [ct1605, ct1606]) (Or.inl rfl) 73 (by decide +kernel) (fun {T} => (List.forall_mem_cons.mpr ⟨cv1605 ghGd, (List.forall_mem_cons.mpr ⟨cv1606 ghGd, (fun _ h => absurd h List.not_mem_nil)⟩)⟩)))
set_option maxRecDepth 1000000 in
theorem tuC1967 : tuGood 1967 := tuGood3 (tuSeg (J := 3) (sp := []) (cs := [ct1612, ct1614, ct256, ct258, ct1613, ct1611, ct1610, ct1609, ct1608]) (Or.inl rfl) 583 (by decide +kernel) (fun {T} => (List.forall_mem_cons.mpr ⟨cv1612 ghGd, (List.forall_mem_cons.mpr ⟨cv1614 ghGd, (List.forall_mem_cons.mpr ⟨cv256 ghGd, (List.forall_mem_cons.mpr ⟨cv258 ghGd, (List.forall_mem_cons.mpr ⟨cv1613 ghGd, (List.forall_mem_cons.mpr ⟨cv1611 ghGd, (List.forall_mem_cons.mpr ⟨cv1610 ghGd, (List.forall_mem_cons.mpr ⟨cv1609 ghGd, (List.forall_mem_cons.mpr ⟨cv1608 ghGd, (fun _ h => absurd h List.not_mem_nil)⟩)⟩)⟩)⟩)⟩)⟩)⟩)⟩)⟩)))
set_option maxRecDepth 1000000 in
theorem tuC2031 : tuGood 2031 := tuGood3 (tuSeg (J := 3) (sp := []) (cs := []) (Or.inl rfl) 2367 (by decide +kernel) (fun {T} => (fun _ h => absurd h List.not_mem_nil)))
set_option maxRecDepth 1000000 in
theorem tuC2044 : tuGood 2044 := tuGood3 (tuSeg (J := 3) (sp := []) (cs := []) (Or.inl rfl) 2140 (by decide +kernel) (fun {T} => (fun _ h => absurd h List.not_mem_nil)))
set_option maxRecDepth 1000000 in
theorem tuC2057 : tuGood 2057 := tuGood3 (tuSeg (J := 3) (sp := []) (cs := []) (Or.inl rfl) 183 (by decide +kernel) (fun {T} => (fun _ h => absurd h List.not_mem_nil)))
set_option maxRecDepth 1000000 in
theorem tuC2082 : tuGood 2082 := tuGood3 (tuSeg (J := 3) (sp := []) (cs := []) (Or.inl rfl) 177 (by decide +kernel) (fun {T} => (fun _ h => absurd h List.not_mem_nil)))
set_option maxRecDepth 1000000 in
theorem tuC2107 : tuGood 2107 := tuGood3 (tuSeg (J := 3) (sp := []) (cs := []) (Or.inl rfl) 64 (by decide +kernel) (fun {T} => (fun _ h => absurd h List.not_mem_nil)))
end SXL
