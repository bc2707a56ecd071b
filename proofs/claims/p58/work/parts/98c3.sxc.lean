/-! SX: the law's turn, case by case, by program -/
section SXL
set_option maxRecDepth 1000000 in
theorem tuC1736 : tuGood 1736 := tuGood3 (tuSeg (J := 3) (sp := []) (cs := [ct1362, ct1363, ct1364, ct1365, ct1366, ct1110, ct1115]) (Or.inl rfl) 13112 (by decide +kernel) (fun {T} => (List.forall_mem_cons.mpr ⟨cv1362 ghGd, (List.forall_mem_cons.mpr ⟨cv1363 ghGd, (List.forall_mem_cons.mpr ⟨cv1364 ghGd, (List.forall_mem_cons.mpr ⟨cv1365 ghGd, (List.forall_mem_cons.mpr ⟨cv1366 ghGd, (List.forall_mem_cons.mpr ⟨cv1110 ghGd, (List.forall_mem_cons.mpr ⟨cv1115 ghGd, (fun _ h => absurd h List.not_mem_nil)⟩)⟩)⟩)⟩)⟩)⟩)⟩)))
end SXL
