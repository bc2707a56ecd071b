/-! SX: the law's turn, case by case, by program -/
section SXL
set_option maxRecDepth 1000000 in
theorem tuC389 : tuGood 389 := tuGood3 (tuSeg (J := 3) (sp := []) (cs := [ct57, ct2, ct58, ct59, ct94, ct0, ct95]) (Or.inl rfl) 1067 (by decide +kernel) (fun {T} => (List.forall_mem_cons.mpr ⟨cv57 ghGd, (List.forall_mem_cons.mpr ⟨cv2 ghGd, (List.forall_mem_cons.mpr ⟨cv58 ghGd, (List.forall_mem_cons.mpr ⟨cv59 ghGd, (List.forall_mem_cons.mpr ⟨cv94 ghGd, (List.forall_mem_cons.mpr ⟨cv0 ghGd, (List.forall_mem_cons.mpr ⟨cv95 ghGd, (fun _ h => absurd h List.not_mem_nil)⟩)⟩)⟩)⟩)⟩)⟩)⟩)))
set_option maxRecDepth 1000000 in
theorem tuC417 : tuGood 417 := tuGood3 (tuSeg (J := 3) (sp := []) (cs := [ct2, ct321, ct162, ct271, (ctTng)]) (Or.inl rfl) 885 (by decide +kernel) (fun {T} => (List.forall_mem_cons.mpr ⟨cv2 ghGd, (List.forall_mem_cons.mpr ⟨cv321 ghGd, (List.forall_mem_cons.mpr ⟨cv162 ghGd, (List.forall_mem_cons.mpr ⟨cv271 ghGd, (List.forall_mem_cons.mpr ⟨cvTng ghGd, (fun _ h => absurd h List.not_mem_nil)⟩)⟩)⟩)⟩)⟩)))
set_option maxRecDepth 1000000 in
theorem tuC445 : tuGood 445 := tuGood3 (tuSeg (J := 3) (sp := []) (cs := []) (Or.inl rfl) 80 (by decide +kernel) (fun {T} => (fun _ h => absurd h List.not_mem_nil)))
set_option maxRecDepth 1000000 in
theorem tuC458 : tuGood 458 := tuGood3 (tuSeg (J := 3) (sp := []) (cs := []) (Or.inl rfl) 578 (by decide +kernel) (fun {T} => (fun _ h => absurd h List.not_mem_nil)))
set_option maxRecDepth 1000000 in
theorem tuC486 : tuGood 486 := tuGood3 (tuSeg (J := 3) (sp := []) (cs := []) (Or.inl rfl) 315 (by decide +kernel) (fun {T} => (fun _ h => absurd h List.not_mem_nil)))
set_option maxRecDepth 1000000 in
theorem tuC514 : tuGood 514 := tuGood3 (tuSeg (J := 3) (sp := []) (cs := []) (Or.inl rfl) 299 (by decide +kernel) (fun {T} => (fun _ h => absurd h List.not_mem_nil)))
set_option maxRecDepth 1000000 in
theorem tuC542 : tuGood 542 := tuGood3 (tuSeg (J := 3) (sp := []) (cs := []) (Or.inl rfl) 300 (by decide +kernel) (fun {T} => (fun _ h => absurd h List.not_mem_nil)))
set_option maxRecDepth 1000000 in
theorem tuC570 : tuGood 570 := tuGood3 (tuSeg (J := 3) (sp := [(33700001, 587, 30201), (33700002, 587, 30202)]) (cs := [ct322, ct323]) (Or.inl rfl) 951 (by decide +kernel) (fun {T} => (List.forall_mem_cons.mpr ⟨cv322 ghGd, (List.forall_mem_cons.mpr ⟨cv323 ghGd, (fun _ h => absurd h List.not_mem_nil)⟩)⟩)))
set_option maxRecDepth 1000000 in
theorem tuC610 : tuGood 610 := tuGood3 (tuSeg (J := 3) (sp := []) (cs := []) (Or.inl rfl) 1362 (by decide +kernel) (fun {T} => (fun _ h => absurd h List.not_mem_nil)))
set_option maxRecDepth 1000000 in
theorem tuC662 : tuGood 662 := tuGood3 (tuSeg (J := 3) (sp := []) (cs := [ct324, ct325]) (Or.inl rfl) 86 (by decide +kernel) (fun {T} => (List.forall_mem_cons.mpr ⟨cv324 ghGd, (List.forall_mem_cons.mpr ⟨cv325 ghGd, (fun _ h => absurd h List.not_mem_nil)⟩)⟩)))
set_option maxRecDepth 1000000 in
theorem tuC675 : tuGood 675 := tuGood3 (tuSeg (J := 3) (sp := []) (cs := [ct326, ct327]) (Or.inl rfl) 73 (by decide +kernel) (fun {T} => (List.forall_mem_cons.mpr ⟨cv326 ghGd, (List.forall_mem_cons.mpr ⟨cv327 ghGd, (fun _ h => absurd h List.not_mem_nil)⟩)⟩)))
set_option maxRecDepth 1000000 in
theorem tuC688 : tuGood 688 := tuGood3 (tuSeg (J := 3) (sp := []) (cs := [ct329, ct330]) (Or.inl rfl) 107 (by decide +kernel) (fun {T} => (List.forall_mem_cons.mpr ⟨cv329 ghGd, (List.forall_mem_cons.mpr ⟨cv330 ghGd, (fun _ h => absurd h List.not_mem_nil)⟩)⟩)))
set_option maxRecDepth 1000000 in
theorem tuC745 : tuGood 745 := tuGood3 (tuSeg (J := 3) (sp := []) (cs := []) (Or.inl rfl) 199 (by decide +kernel) (fun {T} => (fun _ h => absurd h List.not_mem_nil)))
set_option maxRecDepth 1000000 in
theorem tuC770 : tuGood 770 := tuGood3 (tuSeg (J := 3) (sp := []) (cs := []) (Or.inl rfl) 299 (by decide +kernel) (fun {T} => (fun _ h => absurd h List.not_mem_nil)))
set_option maxRecDepth 1000000 in
theorem tuC798 : tuGood 798 := tuGood3 (tuSeg (J := 3) (sp := [(798, 3, 0)]) (cs := []) (Or.inl rfl) 1639 (by decide +kernel) (fun {T} => (fun _ h => absurd h List.not_mem_nil)))
set_option maxRecDepth 1000000 in
theorem tuC826 : tuGood 826 := tuGood3 (tuSeg (J := 3) (sp := []) (cs := [ct370, ct371, ct459, ct372]) (Or.inl rfl) 464 (by decide +kernel) (fun {T} => (List.forall_mem_cons.mpr ⟨cv370 ghGd, (List.forall_mem_cons.mpr ⟨cv371 ghGd, (List.forall_mem_cons.mpr ⟨cv459 ghGd, (List.forall_mem_cons.mpr ⟨cv372 ghGd, (fun _ h => absurd h List.not_mem_nil)⟩)⟩)⟩)⟩)))
end SXL
