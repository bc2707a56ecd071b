/-! SX: the law's turn, case by case, by program -/
section SXL
set_option maxRecDepth 1000000 in
theorem tuC1359 : tuGood 1359 := tuGood3 (tuSeg (J := 3) (sp := []) (cs := [ct1228, ct1229]) (Or.inl rfl) 223 (by decide +kernel) (fun {T} => (List.forall_mem_cons.mpr ⟨cv1228 ghGd, (List.forall_mem_cons.mpr ⟨cv1229 ghGd, (fun _ h => absurd h List.not_mem_nil)⟩)⟩)))
set_option maxRecDepth 1000000 in
theorem tuC1396 : tuGood 1396 := tuGood3 (tuSeg (J := 3) (sp := []) (cs := [ct369, ct1241, ct1242]) (Or.inl rfl) 564 (by decide +kernel) (fun {T} => (List.forall_mem_cons.mpr ⟨cv369 ghGd, (List.forall_mem_cons.mpr ⟨cv1241 ghGd, (List.forall_mem_cons.mpr ⟨cv1242 ghGd, (fun _ h => absurd h List.not_mem_nil)⟩)⟩)⟩)))
set_option maxRecDepth 1000000 in
theorem tuC1436 : tuGood 1436 := tuGood3 (tuSeg (J := 3) (sp := [(35800001, 583, 201)]) (cs := [ct1292, ct1310]) (Or.inl rfl) 266 (by decide +kernel) (fun {T} => (List.forall_mem_cons.mpr ⟨cv1292 ghGd, (List.forall_mem_cons.mpr ⟨cv1310 ghGd, (fun _ h => absurd h List.not_mem_nil)⟩)⟩)))
set_option maxRecDepth 1000000 in
theorem tuC1464 : tuGood 1464 := tuGood3 (tuSeg (J := 3) (sp := [(35900001, 587, 30201)]) (cs := [ct1311, ct1312]) (Or.inl rfl) 278 (by decide +kernel) (fun {T} => (List.forall_mem_cons.mpr ⟨cv1311 ghGd, (List.forall_mem_cons.mpr ⟨cv1312 ghGd, (fun _ h => absurd h List.not_mem_nil)⟩)⟩)))
set_option maxRecDepth 1000000 in
theorem tuC1492 : tuGood 1492 := tuGood3 (tuSeg (J := 3) (sp := [(1492, 3, 2)]) (cs := [ct998, ct996, ct994, ct992, ct990, ct988, ct986, ct984, ct982, ct458, ct999, ct997, ct995, ct993, ct991, ct989, ct987, ct985, ct983, ct459]) (Or.inl rfl) 7315 (by decide +kernel) (fun {T} => (List.forall_mem_cons.mpr ⟨cv998 ghGd, (List.forall_mem_cons.mpr ⟨cv996 ghGd, (List.forall_mem_cons.mpr ⟨cv994 ghGd, (List.forall_mem_cons.mpr ⟨cv992 ghGd, (List.forall_mem_cons.mpr ⟨cv990 ghGd, (List.forall_mem_cons.mpr ⟨cv988 ghGd, (List.forall_mem_cons.mpr ⟨cv986 ghGd, (List.forall_mem_cons.mpr ⟨cv984 ghGd, (List.forall_mem_cons.mpr ⟨cv982 ghGd, (List.forall_mem_cons.mpr ⟨cv458 ghGd, (List.forall_mem_cons.mpr ⟨cv999 ghGd, (List.forall_mem_cons.mpr ⟨cv997 ghGd, (List.forall_mem_cons.mpr ⟨cv995 ghGd, (List.forall_mem_cons.mpr ⟨cv993 ghGd, (List.forall_mem_cons.mpr ⟨cv991 ghGd, (List.forall_mem_cons.mpr ⟨cv989 ghGd, (List.forall_mem_cons.mpr ⟨cv987 ghGd, (List.forall_mem_cons.mpr ⟨cv985 ghGd, (List.forall_mem_cons.mpr ⟨cv983 ghGd, (List.forall_mem_cons.mpr ⟨cv459 ghGd, (fun _ h => absurd h List.not_mem_nil)⟩)⟩)⟩)⟩)⟩)⟩)⟩)⟩)⟩)⟩)⟩)⟩)⟩)⟩)⟩)⟩)⟩)⟩)⟩)⟩)))
end SXL
