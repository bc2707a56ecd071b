/-! SX: the law's turn, case by case, by program -/
section SXL
set_option maxRecDepth 1000000 in
theorem tuC389 : tuGood 389 := tuGood3 (tuSeg (J := 3) (sp := []) (cs := [ct57, ct2, ct58, ct59, ct94, ct0, ct95]) (Or.inl rfl) 1067 (by decide +kernel) (fun {T} => (List.forall_mem_cons.mpr ⟨cv57 ghGd, (List.forall_mem_cons.mpr ⟨cv2 ghGd, (List.forall_mem_cons.mpr ⟨cv58 ghGd, (List.forall_mem_cons.mpr ⟨cv59 ghGd, (List.forall_mem_cons.mpr ⟨cv94 ghGd, (List.forall_mem_cons.mpr ⟨cv0 ghGd, (List.forall_mem_cons.mpr ⟨cv95 ghGd, (fun _ h => absurd h List.not_mem_nil)⟩)⟩)⟩)⟩)⟩)⟩)⟩)))
set_option maxRecDepth 1000000 in
theorem tuC417 : tuGood 417 := tuGood3 (tuSeg (J := 3) (sp := []) (cs := [ct2, ct321, ct162, ct271, (ctTng)]) (Or.inl rfl) 885 (by decide +kernel) (fun {T} => (List.forall_mem_cons.mpr ⟨cv2 ghGd, (List.forall_mem_cons.mpr ⟨cv321 ghGd, (List.forall_mem_cons.mpr ⟨cv162 ghGd, (List.forall_mem_cons.mpr ⟨cv271 ghGd, (List.forall_mem_cons.mpr ⟨cvTng ghGd, (fun _ h => absurd h List.not_mem_nil)⟩)⟩)⟩)⟩)⟩)))
set_option maxRecDepth 1000000 in
theorem tuC445 : tuGood 445 := tuGood3 (tuSeg (J := 3) (sp := []) (cs := []) (Or.inl rfl) 80 (by decide +kernel) (fun {T} => (fun _ h => absurd h List.not_mem_nil)))
set_option maxRecDepth 1000000 in
theorem tuC458 : tuGood 458 := tuGood3 (tuSeg (J := 3) (sp := []) (cs := []) (Or.inl rfl) 578 (by decide +kernel) (fun {T} => (fun _ h => absurd h List.not_mem_nil)))
set_option maxRecDepth 1000000 in
theorem tuC486 : tuGood 486 := tuGood3 (tuSeg (J := 3) (sp := []) (cs := []) (Or.inl rfl) 315 (by decide +kernel) (fun {T} => (fun _ h => absurd h List.not_mem_nil)))
set_option maxRecDepth 1000000 in
theorem tuC514 : tuGood 514 := tuGood3 (tuSeg (J := 3) (sp := []) (cs := []) (Or.inl rfl) 299 (by decide +kernel) (fun {T} => (fun _ h => absurd h List.not_mem_nil)))
set_option maxRecDepth 1000000 in
theorem tuC542 : tuGood 542 := tuGood3 (tuSeg (J := 3) (sp := []) (cs := []) (Or.inl rfl) 300 (by decide +kernel) (fun {T} => (fun _ h => absurd h List.not_mem_nil)))
end SXL
