/-! SX: the law's turn, case by case, by program -/
section SXL
set_option maxRecDepth 1000000 in
theorem tuC570 : tuGood 570 := tuGood3 (tuSeg (J := 3) (sp := []) (cs := []) (Or.inl rfl) 12578 (by decide +kernel) (fun {T} => (fun _ h => absurd h List.not_mem_nil)))
end SXL
