/-! SX: the law's turn, case by case, by program -/
section SXL
set_option maxRecDepth 1000000 in
theorem tuC610 : tuGood 610 := tuGood3 (tuSeg (J := 3) (sp := []) (cs := []) (Or.inl rfl) 1362 (by decide +kernel) (fun {T} => (fun _ h => absurd h List.not_mem_nil)))
set_option maxRecDepth 1000000 in
theorem tuC662 : tuGood 662 := tuGood3 (tuSeg (J := 3) (sp := []) (cs := [ct322, ct323]) (Or.inl rfl) 86 (by decide +kernel) (fun {T} => (List.forall_mem_cons.mpr ⟨cv322 ghGd, (List.forall_mem_cons.mpr ⟨cv323 ghGd, (fun _ h => absurd h List.not_mem_nil)⟩)⟩)))
set_option maxRecDepth 1000000 in
theorem tuC675 : tuGood 675 := tuGood3 (tuSeg (J := 3) (sp := []) (cs := [ct324, ct325]) (Or.inl rfl) 73 (by decide +kernel) (fun {T} => (List.forall_mem_cons.mpr ⟨cv324 ghGd, (List.forall_mem_cons.mpr ⟨cv325 ghGd, (fun _ h => absurd h List.not_mem_nil)⟩)⟩)))
set_option maxRecDepth 1000000 in
theorem tuC688 : tuGood 688 := tuGood3 (tuSeg (J := 3) (sp := []) (cs := [ct327, ct328]) (Or.inl rfl) 107 (by decide +kernel) (fun {T} => (List.forall_mem_cons.mpr ⟨cv327 ghGd, (List.forall_mem_cons.mpr ⟨cv328 ghGd, (fun _ h => absurd h List.not_mem_nil)⟩)⟩)))
set_option maxRecDepth 1000000 in
theorem tuC745 : tuGood 745 := tuGood3 (tuSeg (J := 3) (sp := []) (cs := []) (Or.inl rfl) 199 (by decide +kernel) (fun {T} => (fun _ h => absurd h List.not_mem_nil)))
set_option maxRecDepth 1000000 in
theorem tuC770 : tuGood 770 := tuGood3 (tuSeg (J := 3) (sp := []) (cs := []) (Or.inl rfl) 299 (by decide +kernel) (fun {T} => (fun _ h => absurd h List.not_mem_nil)))
set_option maxRecDepth 1000000 in
theorem tuC798 : tuGood 798 := tuGood3 (tuSeg (J := 3) (sp := [(798, 3, 0)]) (cs := []) (Or.inl rfl) 1639 (by decide +kernel) (fun {T} => (fun _ h => absurd h List.not_mem_nil)))
set_option maxRecDepth 1000000 in
theorem tuC826 : tuGood 826 := tuGood3 (tuSeg (J := 3) (sp := []) (cs := [ct368, ct369, ct457, ct370]) (Or.inl rfl) 464 (by decide +kernel) (fun {T} => (List.forall_mem_cons.mpr ⟨cv368 ghGd, (List.forall_mem_cons.mpr ⟨cv369 ghGd, (List.forall_mem_cons.mpr ⟨cv457 ghGd, (List.forall_mem_cons.mpr ⟨cv370 ghGd, (fun _ h => absurd h List.not_mem_nil)⟩)⟩)⟩)⟩)))
set_option maxRecDepth 1000000 in
theorem tuC854 : tuGood 854 := tuGood3 (tuSeg (J := 3) (sp := []) (cs := [ct368, ct457, ct370]) (Or.inl rfl) 2798 (by decide +kernel) (fun {T} => (List.forall_mem_cons.mpr ⟨cv368 ghGd, (List.forall_mem_cons.mpr ⟨cv457 ghGd, (List.forall_mem_cons.mpr ⟨cv370 ghGd, (fun _ h => absurd h List.not_mem_nil)⟩)⟩)⟩)))
set_option maxRecDepth 1000000 in
theorem tuC894 : tuGood 894 := tuGood3 (tuSeg (J := 3) (sp := []) (cs := [ct368, ct462, ct463, ct322, ct458, ct461, ct323, ct457, ct370, ct459, ct460]) (Or.inl rfl) 1676 (by decide +kernel) (fun {T} => (List.forall_mem_cons.mpr ⟨cv368 ghGd, (List.forall_mem_cons.mpr ⟨cv462 ghGd, (List.forall_mem_cons.mpr ⟨cv463 ghGd, (List.forall_mem_cons.mpr ⟨cv322 ghGd, (List.forall_mem_cons.mpr ⟨cv458 ghGd, (List.forall_mem_cons.mpr ⟨cv461 ghGd, (List.forall_mem_cons.mpr ⟨cv323 ghGd, (List.forall_mem_cons.mpr ⟨cv457 ghGd, (List.forall_mem_cons.mpr ⟨cv370 ghGd, (List.forall_mem_cons.mpr ⟨cv459 ghGd, (List.forall_mem_cons.mpr ⟨cv460 ghGd, (fun _ h => absurd h List.not_mem_nil)⟩)⟩)⟩)⟩)⟩)⟩)⟩)⟩)⟩)⟩)⟩)))
set_option maxRecDepth 1000000 in
theorem tuC922 : tuGood 922 := tuGood3 (tuSeg (J := 3) (sp := []) (cs := [ct467, ct468]) (Or.inl rfl) 73 (by decide +kernel) (fun {T} => (List.forall_mem_cons.mpr ⟨cv467 ghGd, (List.forall_mem_cons.mpr ⟨cv468 ghGd, (fun _ h => absurd h List.not_mem_nil)⟩)⟩)))
end SXL
