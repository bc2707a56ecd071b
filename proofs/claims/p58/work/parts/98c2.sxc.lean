/-! SX: the law's turn, case by case, by program -/
section SXL
set_option maxRecDepth 1000000 in
theorem tuC1684 : tuGood 1684 := tuGood3 (tuSeg (J := 3) (sp := [(36600001, 587, 30201), (36600002, 583, 103), (36600003, 583, 6103)]) (cs := [ct466, ct1228, ct1361]) (Or.inl rfl) 12526 (by decide +kernel) (fun {T} => (List.forall_mem_cons.mpr ⟨cv466 ghGd, (List.forall_mem_cons.mpr ⟨cv1228 ghGd, (List.forall_mem_cons.mpr ⟨cv1361 ghGd, (fun _ h => absurd h List.not_mem_nil)⟩)⟩)⟩)))
end SXL
