/-! SX: the law's turn, case by case, by program -/
section SXL
set_option maxRecDepth 1000000 in
theorem tuC2016 : tuGood 2016 := tuGood3 (tuSeg (J := 3) (sp := []) (cs := []) (Or.inl rfl) 2140 (by decide +kernel) (fun {T} => (fun _ h => absurd h List.not_mem_nil)))
set_option maxRecDepth 1000000 in
theorem tuC2029 : tuGood 2029 := tuGood3 (tuSeg (J := 3) (sp := [(17000017, 581, 1)]) (cs := []) (Or.inl rfl) 255 (by decide +kernel) (fun {T} => (fun _ h => absurd h List.not_mem_nil)))
set_option maxRecDepth 1000000 in
theorem tuC2054 : tuGood 2054 := tuGood3 (tuSeg (J := 3) (sp := []) (cs := []) (Or.inl rfl) 177 (by decide +kernel) (fun {T} => (fun _ h => absurd h List.not_mem_nil)))
set_option maxRecDepth 1000000 in
theorem tuC2079 : tuGood 2079 := tuGood3 (tuSeg (J := 3) (sp := []) (cs := []) (Or.inl rfl) 64 (by decide +kernel) (fun {T} => (fun _ h => absurd h List.not_mem_nil)))
end SXL
