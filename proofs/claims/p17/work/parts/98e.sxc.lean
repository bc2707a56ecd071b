/-! SX: the law's turn, case by case, by program -/
section SXL
set_option maxRecDepth 1000000 in
theorem tuC2057 : tuGood 2057 := ⟨tuSeg (J := 3) (sp := []) (cs := []) (Or.inl rfl) 183 sorry (fun {T} => (fun _ h => absurd h List.not_mem_nil)),
  tuSeg (J := 11) (sp := []) (cs := []) (Or.inr rfl) 183 sorry (fun {T} => (fun _ h => absurd h List.not_mem_nil))⟩
set_option maxRecDepth 1000000 in
theorem tuC2082 : tuGood 2082 := ⟨tuSeg (J := 3) (sp := []) (cs := []) (Or.inl rfl) 177 sorry (fun {T} => (fun _ h => absurd h List.not_mem_nil)),
  tuSeg (J := 11) (sp := []) (cs := []) (Or.inr rfl) 177 sorry (fun {T} => (fun _ h => absurd h List.not_mem_nil))⟩
set_option maxRecDepth 1000000 in
theorem tuC2107 : tuGood 2107 := ⟨tuSeg (J := 3) (sp := []) (cs := []) (Or.inl rfl) 64 sorry (fun {T} => (fun _ h => absurd h List.not_mem_nil)),
  tuSeg (J := 11) (sp := []) (cs := []) (Or.inr rfl) 64 sorry (fun {T} => (fun _ h => absurd h List.not_mem_nil))⟩
end SXL
