/-! SX: the law's turn, case by case, by program -/
section SXL
set_option maxRecDepth 1000000 in
theorem tuC389 : tuGood 389 := ⟨tuSeg (J := 3) (sp := []) (cs := [ct148, ct110]) (Or.inl rfl) 129 (by decide +kernel) (fun {T} => (List.forall_mem_cons.mpr ⟨cv148 ghGd, (List.forall_mem_cons.mpr ⟨cv110 ghGd, (fun _ h => absurd h List.not_mem_nil)⟩)⟩)),
  tuSeg (J := 11) (sp := []) (cs := [ct148, ct110]) (Or.inr rfl) 129 (by decide +kernel) (fun {T} => (List.forall_mem_cons.mpr ⟨cv148 ghGd, (List.forall_mem_cons.mpr ⟨cv110 ghGd, (fun _ h => absurd h List.not_mem_nil)⟩)⟩))⟩
set_option maxRecDepth 1000000 in
theorem tuC417 : tuGood 417 := ⟨tuSeg (J := 3) (sp := []) (cs := [(ctTng), ct268]) (Or.inl rfl) 135 (by decide +kernel) (fun {T} => (List.forall_mem_cons.mpr ⟨cvTng ghGd, (List.forall_mem_cons.mpr ⟨cv268 ghGd, (fun _ h => absurd h List.not_mem_nil)⟩)⟩)),
  tuSeg (J := 11) (sp := []) (cs := [(ctTng), ct268]) (Or.inr rfl) 135 (by decide +kernel) (fun {T} => (List.forall_mem_cons.mpr ⟨cvTng ghGd, (List.forall_mem_cons.mpr ⟨cv268 ghGd, (fun _ h => absurd h List.not_mem_nil)⟩)⟩))⟩
set_option maxRecDepth 1000000 in
theorem tuC445 : tuGood 445 := ⟨tuSeg (J := 3) (sp := []) (cs := []) (Or.inl rfl) 80 (by decide +kernel) (fun {T} => (fun _ h => absurd h List.not_mem_nil)),
  tuSeg (J := 11) (sp := []) (cs := []) (Or.inr rfl) 80 (by decide +kernel) (fun {T} => (fun _ h => absurd h List.not_mem_nil))⟩
set_option maxRecDepth 1000000 in
theorem tuC458 : tuGood 458 := ⟨tuSeg (J := 3) (sp := []) (cs := []) (Or.inl rfl) 578 (by decide +kernel) (fun {T} => (fun _ h => absurd h List.not_mem_nil)),
  tuSeg (J := 11) (sp := []) (cs := []) (Or.inr rfl) 578 (by decide +kernel) (fun {T} => (fun _ h => absurd h List.not_mem_nil))⟩
set_option maxRecDepth 1000000 in
theorem tuC486 : tuGood 486 := ⟨tuSegF (J := 3) (sp := [(12000014, 579, 300), (24700035, 579, 300)]) (cs := []) (Or.inl rfl) 348 (by decide +kernel) (fun {T} => (fun _ h => absurd h List.not_mem_nil)),
  tuSegF (J := 11) (sp := [(12000014, 579, 300), (24700035, 579, 300)]) (cs := []) (Or.inr rfl) 348 (by decide +kernel) (fun {T} => (fun _ h => absurd h List.not_mem_nil))⟩
set_option maxRecDepth 1000000 in
theorem tuC541 : tuGood 541 := ⟨tuSeg (J := 3) (sp := []) (cs := []) (Or.inl rfl) 299 (by decide +kernel) (fun {T} => (fun _ h => absurd h List.not_mem_nil)),
  tuSeg (J := 11) (sp := []) (cs := []) (Or.inr rfl) 299 (by decide +kernel) (fun {T} => (fun _ h => absurd h List.not_mem_nil))⟩
set_option maxRecDepth 1000000 in
theorem tuC569 : tuGood 569 := ⟨tuSeg (J := 3) (sp := []) (cs := []) (Or.inl rfl) 300 (by decide +kernel) (fun {T} => (fun _ h => absurd h List.not_mem_nil)),
  tuSeg (J := 11) (sp := []) (cs := []) (Or.inr rfl) 300 (by decide +kernel) (fun {T} => (fun _ h => absurd h List.not_mem_nil))⟩
set_option maxRecDepth 1000000 in
theorem tuC597 : tuGood 597 := ⟨tuSeg (J := 3) (sp := []) (cs := [ct377, ct379, ct378]) (Or.inl rfl) 127 (by decide +kernel) (fun {T} => (List.forall_mem_cons.mpr ⟨cv377 ghGd, (List.forall_mem_cons.mpr ⟨cv379 ghGd, (List.forall_mem_cons.mpr ⟨cv378 ghGd, (fun _ h => absurd h List.not_mem_nil)⟩)⟩)⟩)),
  tuSeg (J := 11) (sp := []) (cs := [ct377, ct379, ct378]) (Or.inr rfl) 127 (by decide +kernel) (fun {T} => (List.forall_mem_cons.mpr ⟨cv377 ghGd, (List.forall_mem_cons.mpr ⟨cv379 ghGd, (List.forall_mem_cons.mpr ⟨cv378 ghGd, (fun _ h => absurd h List.not_mem_nil)⟩)⟩)⟩))⟩
set_option maxRecDepth 1000000 in
theorem tuC637 : tuGood 637 := ⟨tuSeg (J := 3) (sp := []) (cs := [ct383, ct382, ct381, ct380]) (Or.inl rfl) 508 (by decide +kernel) (fun {T} => (List.forall_mem_cons.mpr ⟨cv383 ghGd, (List.forall_mem_cons.mpr ⟨cv382 ghGd, (List.forall_mem_cons.mpr ⟨cv381 ghGd, (List.forall_mem_cons.mpr ⟨cv380 ghGd, (fun _ h => absurd h List.not_mem_nil)⟩)⟩)⟩)⟩)),
  tuSeg (J := 11) (sp := []) (cs := [ct383, ct382, ct381, ct380]) (Or.inr rfl) 508 (by decide +kernel) (fun {T} => (List.forall_mem_cons.mpr ⟨cv383 ghGd, (List.forall_mem_cons.mpr ⟨cv382 ghGd, (List.forall_mem_cons.mpr ⟨cv381 ghGd, (List.forall_mem_cons.mpr ⟨cv380 ghGd, (fun _ h => absurd h List.not_mem_nil)⟩)⟩)⟩)⟩))⟩
set_option maxRecDepth 1000000 in
theorem tuC689 : tuGood 689 := ⟨tuSeg (J := 3) (sp := []) (cs := [ct384, ct385]) (Or.inl rfl) 86 (by decide +kernel) (fun {T} => (List.forall_mem_cons.mpr ⟨cv384 ghGd, (List.forall_mem_cons.mpr ⟨cv385 ghGd, (fun _ h => absurd h List.not_mem_nil)⟩)⟩)),
  tuSeg (J := 11) (sp := []) (cs := [ct386, ct385]) (Or.inr rfl) 86 (by decide +kernel) (fun {T} => (List.forall_mem_cons.mpr ⟨cv386 ghGd, (List.forall_mem_cons.mpr ⟨cv385 ghGd, (fun _ h => absurd h List.not_mem_nil)⟩)⟩))⟩
set_option maxRecDepth 1000000 in
theorem tuC702 : tuGood 702 := ⟨tuSeg (J := 3) (sp := []) (cs := [ct387, ct388]) (Or.inl rfl) 73 (by decide +kernel) (fun {T} => (List.forall_mem_cons.mpr ⟨cv387 ghGd, (List.forall_mem_cons.mpr ⟨cv388 ghGd, (fun _ h => absurd h List.not_mem_nil)⟩)⟩)),
  tuSeg (J := 11) (sp := []) (cs := [ct387, ct388]) (Or.inr rfl) 73 (by decide +kernel) (fun {T} => (List.forall_mem_cons.mpr ⟨cv387 ghGd, (List.forall_mem_cons.mpr ⟨cv388 ghGd, (fun _ h => absurd h List.not_mem_nil)⟩)⟩))⟩
set_option maxRecDepth 1000000 in
theorem tuC715 : tuGood 715 := ⟨tuSeg (J := 3) (sp := []) (cs := [ct390, ct391]) (Or.inl rfl) 107 (by decide +kernel) (fun {T} => (List.forall_mem_cons.mpr ⟨cv390 ghGd, (List.forall_mem_cons.mpr ⟨cv391 ghGd, (fun _ h => absurd h List.not_mem_nil)⟩)⟩)),
  tuSeg (J := 11) (sp := []) (cs := [ct390, ct391]) (Or.inr rfl) 107 (by decide +kernel) (fun {T} => (List.forall_mem_cons.mpr ⟨cv390 ghGd, (List.forall_mem_cons.mpr ⟨cv391 ghGd, (fun _ h => absurd h List.not_mem_nil)⟩)⟩))⟩
set_option maxRecDepth 1000000 in
theorem tuC772 : tuGood 772 := ⟨tuSeg (J := 3) (sp := []) (cs := []) (Or.inl rfl) 199 (by decide +kernel) (fun {T} => (fun _ h => absurd h List.not_mem_nil)),
  tuSeg (J := 11) (sp := []) (cs := []) (Or.inr rfl) 199 (by decide +kernel) (fun {T} => (fun _ h => absurd h List.not_mem_nil))⟩
set_option maxRecDepth 1000000 in
theorem tuC797 : tuGood 797 := ⟨tuSeg (J := 3) (sp := []) (cs := []) (Or.inl rfl) 299 (by decide +kernel) (fun {T} => (fun _ h => absurd h List.not_mem_nil)),
  tuSeg (J := 11) (sp := []) (cs := []) (Or.inr rfl) 299 (by decide +kernel) (fun {T} => (fun _ h => absurd h List.not_mem_nil))⟩
set_option maxRecDepth 1000000 in
theorem tuC825 : tuGood 825 := ⟨tuSeg (J := 3) (sp := [(825, 3, 0)]) (cs := []) (Or.inl rfl) 1639 (by decide +kernel) (fun {T} => (fun _ h => absurd h List.not_mem_nil)),
  tuSeg (J := 11) (sp := [(825, 11, 0)]) (cs := []) (Or.inr rfl) 1639 (by decide +kernel) (fun {T} => (fun _ h => absurd h List.not_mem_nil))⟩
set_option maxRecDepth 1000000 in
theorem tuC853 : tuGood 853 := ⟨tuSeg (J := 3) (sp := []) (cs := [ct521, ct522, ct610, ct523]) (Or.inl rfl) 464 (by decide +kernel) (fun {T} => (List.forall_mem_cons.mpr ⟨cv521 ghGd, (List.forall_mem_cons.mpr ⟨cv522 ghGd, (List.forall_mem_cons.mpr ⟨cv610 ghGd, (List.forall_mem_cons.mpr ⟨cv523 ghGd, (fun _ h => absurd h List.not_mem_nil)⟩)⟩)⟩)⟩)),
  tuSeg (J := 11) (sp := []) (cs := [ct521, ct522, ct610, ct523]) (Or.inr rfl) 464 (by decide +kernel) (fun {T} => (List.forall_mem_cons.mpr ⟨cv521 ghGd, (List.forall_mem_cons.mpr ⟨cv522 ghGd, (List.forall_mem_cons.mpr ⟨cv610 ghGd, (List.forall_mem_cons.mpr ⟨cv523 ghGd, (fun _ h => absurd h List.not_mem_nil)⟩)⟩)⟩)⟩))⟩
set_option maxRecDepth 1000000 in
theorem tuC881 : tuGood 881 := ⟨tuSeg (J := 3) (sp := []) (cs := [ct611, ct614, ct612, ct613]) (Or.inl rfl) 149 (by decide +kernel) (fun {T} => (List.forall_mem_cons.mpr ⟨cv611 ghGd, (List.forall_mem_cons.mpr ⟨cv614 ghGd, (List.forall_mem_cons.mpr ⟨cv612 ghGd, (List.forall_mem_cons.mpr ⟨cv613 ghGd, (fun _ h => absurd h List.not_mem_nil)⟩)⟩)⟩)⟩)),
  tuSeg (J := 11) (sp := []) (cs := [ct611, ct614, ct612, ct613]) (Or.inr rfl) 149 (by decide +kernel) (fun {T} => (List.forall_mem_cons.mpr ⟨cv611 ghGd, (List.forall_mem_cons.mpr ⟨cv614 ghGd, (List.forall_mem_cons.mpr ⟨cv612 ghGd, (List.forall_mem_cons.mpr ⟨cv613 ghGd, (fun _ h => absurd h List.not_mem_nil)⟩)⟩)⟩)⟩))⟩
end SXL
