/-! SX: the law's turn, case by case, by program -/
section SXL
set_option maxRecDepth 1000000 in
theorem tuC389 : tuGood 389 := tuGood3 (tuSeg (J := 3) (sp := []) (cs := [ct148, ct110]) (Or.inl rfl) 129 (by decide +kernel) (fun {T} => (List.forall_mem_cons.mpr ⟨cv148 ghGd, (List.forall_mem_cons.mpr ⟨cv110 ghGd, (fun _ h => absurd h List.not_mem_nil)⟩)⟩)))
set_option maxRecDepth 1000000 in
theorem tuC417 : tuGood 417 := tuGood3 (tuSeg (J := 3) (sp := []) (cs := [(ctTng), ct268]) (Or.inl rfl) 135 (by decide +kernel) (fun {T} => (List.forall_mem_cons.mpr ⟨cvTng ghGd, (List.forall_mem_cons.mpr ⟨cv268 ghGd, (fun _ h => absurd h List.not_mem_nil)⟩)⟩)))
set_option maxRecDepth 1000000 in
theorem tuC445 : tuGood 445 := tuGood3 (tuSeg (J := 3) (sp := []) (cs := []) (Or.inl rfl) 80 (by decide +kernel) (fun {T} => (fun _ h => absurd h List.not_mem_nil)))
set_option maxRecDepth 1000000 in
theorem tuC458 : tuGood 458 := tuGood3 (tuSeg (J := 3) (sp := []) (cs := []) (Or.inl rfl) 578 (by decide +kernel) (fun {T} => (fun _ h => absurd h List.not_mem_nil)))
set_option maxRecDepth 1000000 in
theorem tuC486 : tuGood 486 := tuGood3 (tuSeg (J := 3) (sp := []) (cs := []) (Or.inl rfl) 315 (by decide +kernel) (fun {T} => (fun _ h => absurd h List.not_mem_nil)))
set_option maxRecDepth 1000000 in
theorem tuC514 : tuGood 514 := tuGood3 (tuSeg (J := 3) (sp := []) (cs := []) (Or.inl rfl) 299 (by decide +kernel) (fun {T} => (fun _ h => absurd h List.not_mem_nil)))
set_option maxRecDepth 1000000 in
theorem tuC542 : tuGood 542 := tuGood3 (tuSeg (J := 3) (sp := []) (cs := []) (Or.inl rfl) 300 (by decide +kernel) (fun {T} => (fun _ h => absurd h List.not_mem_nil)))
set_option maxRecDepth 1000000 in
theorem tuC570 : tuGood 570 := tuGood3 (tuSegF (J := 3) (sp := [(12300031, 579, 300), (25000049, 579, 300), (25000050, 579, 301), (25000067, 579, 301), (25000082, 579, 301), (25000097, 579, 301), (25000107, 579, 301), (25000111, 579, 301)]) (cs := []) (Or.inl rfl) 6774 (by decide +kernel) (fun {T} => (fun _ h => absurd h List.not_mem_nil)))
set_option maxRecDepth 1000000 in
theorem tuC638 : tuGood 638 := tuGood3 (tuSeg (J := 3) (sp := []) (cs := [ct380, ct379, ct378, ct377]) (Or.inl rfl) 508 (by decide +kernel) (fun {T} => (List.forall_mem_cons.mpr ⟨cv380 ghGd, (List.forall_mem_cons.mpr ⟨cv379 ghGd, (List.forall_mem_cons.mpr ⟨cv378 ghGd, (List.forall_mem_cons.mpr ⟨cv377 ghGd, (fun _ h => absurd h List.not_mem_nil)⟩)⟩)⟩)⟩)))
set_option maxRecDepth 1000000 in
theorem tuC690 : tuGood 690 := tuGood3 (tuSeg (J := 3) (sp := []) (cs := [ct381, ct382]) (Or.inl rfl) 86 (by decide +kernel) (fun {T} => (List.forall_mem_cons.mpr ⟨cv381 ghGd, (List.forall_mem_cons.mpr ⟨cv382 ghGd, (fun _ h => absurd h List.not_mem_nil)⟩)⟩)))
set_option maxRecDepth 1000000 in
theorem tuC703 : tuGood 703 := tuGood3 (tuSeg (J := 3) (sp := []) (cs := [ct383, ct384]) (Or.inl rfl) 73 (by decide +kernel) (fun {T} => (List.forall_mem_cons.mpr ⟨cv383 ghGd, (List.forall_mem_cons.mpr ⟨cv384 ghGd, (fun _ h => absurd h List.not_mem_nil)⟩)⟩)))
set_option maxRecDepth 1000000 in
theorem tuC716 : tuGood 716 := tuGood3 (tuSeg (J := 3) (sp := []) (cs := [ct386, ct387]) (Or.inl rfl) 107 (by decide +kernel) (fun {T} => (List.forall_mem_cons.mpr ⟨cv386 ghGd, (List.forall_mem_cons.mpr ⟨cv387 ghGd, (fun _ h => absurd h List.not_mem_nil)⟩)⟩)))
set_option maxRecDepth 1000000 in
theorem tuC773 : tuGood 773 := tuGood3 (tuSeg (J := 3) (sp := []) (cs := []) (Or.inl rfl) 199 (by decide +kernel) (fun {T} => (fun _ h => absurd h List.not_mem_nil)))
end SXL
