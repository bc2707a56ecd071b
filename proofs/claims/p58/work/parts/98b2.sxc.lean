/-! SX: the law's turn, case by case, by program -/
section SXL
set_option maxRecDepth 1000000 in
theorem tuC1307 : tuGood 1307 := tuGood3 (tuSeg (J := 3) (sp := [(35600001, 583, 501), (35600002, 583, 103), (35600003, 583, 6103)]) (cs := [ct466, ct322, ct1228, ct1230, ct460]) (Or.inl rfl) 12154 (by decide +kernel) (fun {T} => (List.forall_mem_cons.mpr ⟨cv466 ghGd, (List.forall_mem_cons.mpr ⟨cv322 ghGd, (List.forall_mem_cons.mpr ⟨cv1228 ghGd, (List.forall_mem_cons.mpr ⟨cv1230 ghGd, (List.forall_mem_cons.mpr ⟨cv460 ghGd, (fun _ h => absurd h List.not_mem_nil)⟩)⟩)⟩)⟩)⟩)))
end SXL
