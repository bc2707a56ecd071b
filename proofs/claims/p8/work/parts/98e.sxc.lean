/-! SX: the law's turn, case by case, by program -/
section SXL
set_option maxRecDepth 1000000 in
theorem tuC2056 : tuGood 2056 := ⟨tuSeg (J := 3) (sp := []) (cs := []) (Or.inl rfl) 183 (by decide +kernel) (fun {T} => (fun _ h => absurd h List.not_mem_nil)),
  tuSeg (J := 11) (sp := []) (cs := []) (Or.inr rfl) 183 (by decide +kernel) (fun {T} => (fun _ h => absurd h List.not_mem_nil))⟩
set_option maxRecDepth 1000000 in
theorem tuC2081 : tuGood 2081 := ⟨tuSeg (J := 3) (sp := []) (cs := []) (Or.inl rfl) 177 (by decide +kernel) (fun {T} => (fun _ h => absurd h List.not_mem_nil)),
  tuSeg (J := 11) (sp := []) (cs := []) (Or.inr rfl) 177 (by decide +kernel) (fun {T} => (fun _ h => absurd h List.not_mem_nil))⟩
set_option maxRecDepth 1000000 in
theorem tuC2106 : tuGood 2106 := ⟨tuSeg (J := 3) (sp := []) (cs := []) (Or.inl rfl) 64 (by decide +kernel) (fun {T} => (fun _ h => absurd h List.not_mem_nil)),
  tuSeg (J := 11) (sp := []) (cs := []) (Or.inr rfl) 64 (by decide +kernel) (fun {T} => (fun _ h => absurd h List.not_mem_nil))⟩
end SXL
