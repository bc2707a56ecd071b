/-! SX: the law's turn, case by case, by program -/
section SXL
set_option maxRecDepth 1000000 in
theorem tuC2030 : tuGood 2030 := ⟨tuSeg (J := 3) (sp := []) (cs := []) (Or.inl rfl) 2367 (by decide +kernel) (fun {T} => (fun _ h => absurd h List.not_mem_nil)),
  tuSeg (J := 11) (sp := []) (cs := []) (Or.inr rfl) 2367 (by decide +kernel) (fun {T} => (fun _ h => absurd h List.not_mem_nil))⟩
set_option maxRecDepth 1000000 in
theorem tuC2043 : tuGood 2043 := ⟨tuSeg (J := 3) (sp := []) (cs := []) (Or.inl rfl) 2140 (by decide +kernel) (fun {T} => (fun _ h => absurd h List.not_mem_nil)),
  tuSeg (J := 11) (sp := []) (cs := []) (Or.inr rfl) 2140 (by decide +kernel) (fun {T} => (fun _ h => absurd h List.not_mem_nil))⟩
end SXL
