/-! SX: the law's turn, case by case, by program -/
section SXL
set_option maxRecDepth 1000000 in
theorem tuC389 : tuGood 389 := tuGood3 (tuSeg (J := 3) (sp := []) (cs := [ct148, ct110]) (Or.inl rfl) 129 (by decide +kernel) (fun {T} => (List.forall_mem_cons.mpr ⟨cv148 ghGd, (List.forall_mem_cons.mpr ⟨cv110 ghGd, (fun _ h => absurd h List.not_mem_nil)⟩)⟩)))
set_option maxRecDepth 1000000 in
theorem tuC417 : tuGood 417 := tuGood3 (tuSeg (J := 3) (sp := []) (cs := [(ctTng), ct268]) (Or.inl rfl) 135 (by decide +kernel) (fun {T} => (List.forall_mem_cons.mpr ⟨cvTng ghGd, (List.forall_mem_cons.mpr ⟨cv268 ghGd, (fun _ h => absurd h List.not_mem_nil)⟩)⟩)))
set_option maxRecDepth 1000000 in
theorem tuC445 : tuGood 445 := tuGood3 (tuSeg (J := 3) (sp := []) (cs := []) (Or.inl rfl) 80 (by decide +kernel) (fun {T} => (fun _ h => absurd h List.not_mem_nil)))
set_option maxRecDepth 1000000 in
theorem tuC458 : tuGood 458 := tuGood3 (tuSeg (J := 3) (sp := []) (cs := []) (Or.inl rfl) 578 (by decide +kernel) (fun {T} => (fun _ h => absurd h List.not_mem_nil)))
set_option maxRecDepth 1000000 in
theorem tuC486 : tuGood 486 := tuGood3 (tuSeg (J := 3) (sp := []) (cs := []) (Or.inl rfl) 315 (by decide +kernel) (fun {T} => (fun _ h => absurd h List.not_mem_nil)))
set_option maxRecDepth 1000000 in
theorem tuC514 : tuGood 514 := tuGood3 (tuSeg (J := 3) (sp := []) (cs := []) (Or.inl rfl) 299 (by decide +kernel) (fun {T} => (fun _ h => absurd h List.not_mem_nil)))
set_option maxRecDepth 1000000 in
theorem tuC542 : tuGood 542 := tuGood3 (tuSeg (J := 3) (sp := []) (cs := []) (Or.inl rfl) 300 (by decide +kernel) (fun {T} => (fun _ h => absurd h List.not_mem_nil)))
set_option maxRecDepth 1000000 in
theorem tuC570 : tuGood 570 := tuGood3 (tuSeg (J := 3) (sp := []) (cs := [ct377, ct379, ct378]) (Or.inl rfl) 127 (by decide +kernel) (fun {T} => (List.forall_mem_cons.mpr ⟨cv377 ghGd, (List.forall_mem_cons.mpr ⟨cv379 ghGd, (List.forall_mem_cons.mpr ⟨cv378 ghGd, (fun _ h => absurd h List.not_mem_nil)⟩)⟩)⟩)))
set_option maxRecDepth 1000000 in
theorem tuC610 : tuGood 610 := tuGood3 (tuSeg (J := 3) (sp := []) (cs := [ct383, ct382, ct381, ct380]) (Or.inl rfl) 508 (by decide +kernel) (fun {T} => (List.forall_mem_cons.mpr ⟨cv383 ghGd, (List.forall_mem_cons.mpr ⟨cv382 ghGd, (List.forall_mem_cons.mpr ⟨cv381 ghGd, (List.forall_mem_cons.mpr ⟨cv380 ghGd, (fun _ h => absurd h List.not_mem_nil)⟩)⟩)⟩)⟩)))
set_option maxRecDepth 1000000 in
theorem tuC662 : tuGood 662 := tuGood3 (tuSeg (J := 3) (sp := []) (cs := [ct384, ct385]) (Or.inl rfl) 86 (by decide +kernel) (fun {T} => (List.forall_mem_cons.mpr ⟨cv384 ghGd, (List.forall_mem_cons.mpr ⟨cv385 ghGd, (fun _ h => absurd h List.not_mem_nil)⟩)⟩)))
set_option maxRecDepth 1000000 in
theorem tuC675 : tuGood 675 := tuGood3 (tuSeg (J := 3) (sp := []) (cs := [ct386, ct387]) (Or.inl rfl) 73 (by decide +kernel) (fun {T} => (List.forall_mem_cons.mpr ⟨cv386 ghGd, (List.forall_mem_cons.mpr ⟨cv387 ghGd, (fun _ h => absurd h List.not_mem_nil)⟩)⟩)))
set_option maxRecDepth 1000000 in
theorem tuC688 : tuGood 688 := tuGood3 (tuSeg (J := 3) (sp := []) (cs := [ct389, ct390]) (Or.inl rfl) 107 (by decide +kernel) (fun {T} => (List.forall_mem_cons.mpr ⟨cv389 ghGd, (List.forall_mem_cons.mpr ⟨cv390 ghGd, (fun _ h => absurd h List.not_mem_nil)⟩)⟩)))
set_option maxRecDepth 1000000 in
theorem tuC745 : tuGood 745 := tuGood3 (tuSeg (J := 3) (sp := []) (cs := []) (Or.inl rfl) 199 (by decide +kernel) (fun {T} => (fun _ h => absurd h List.not_mem_nil)))
set_option maxRecDepth 1000000 in
theorem tuC770 : tuGood 770 := tuGood3 (tuSeg (J := 3) (sp := []) (cs := []) (Or.inl rfl) 299 (by decide +kernel) (fun {T} => (fun _ h => absurd h List.not_mem_nil)))
set_option maxRecDepth 1000000 in
theorem tuC798 : tuGood 798 := tuGood3 (tuSeg (J := 3) (sp := [(798, 3, 0)]) (cs := []) (Or.inl rfl) 1639 (by decide +kernel) (fun {T} => (fun _ h => absurd h List.not_mem_nil)))
set_option maxRecDepth 1000000 in
theorem tuC826 : tuGood 826 := tuGood3 (tuSeg (J := 3) (sp := []) (cs := [ct430, ct431, ct519, ct432]) (Or.inl rfl) 464 (by decide +kernel) (fun {T} => (List.forall_mem_cons.mpr ⟨cv430 ghGd, (List.forall_mem_cons.mpr ⟨cv431 ghGd, (List.forall_mem_cons.mpr ⟨cv519 ghGd, (List.forall_mem_cons.mpr ⟨cv432 ghGd, (fun _ h => absurd h List.not_mem_nil)⟩)⟩)⟩)⟩)))
set_option maxRecDepth 1000000 in
theorem tuC854 : tuGood 854 := tuGood3 (tuSeg (J := 3) (sp := []) (cs := [ct520, ct523, ct521, ct522]) (Or.inl rfl) 149 (by decide +kernel) (fun {T} => (List.forall_mem_cons.mpr ⟨cv520 ghGd, (List.forall_mem_cons.mpr ⟨cv523 ghGd, (List.forall_mem_cons.mpr ⟨cv521 ghGd, (List.forall_mem_cons.mpr ⟨cv522 ghGd, (fun _ h => absurd h List.not_mem_nil)⟩)⟩)⟩)⟩)))
set_option maxRecDepth 1000000 in
theorem tuC894 : tuGood 894 := tuGood3 (tuSeg (J := 3) (sp := []) (cs := [ct530, ct534, ct533]) (Or.inl rfl) 111 (by decide +kernel) (fun {T} => (List.forall_mem_cons.mpr ⟨cv530 ghGd, (List.forall_mem_cons.mpr ⟨cv534 ghGd, (List.forall_mem_cons.mpr ⟨cv533 ghGd, (fun _ h => absurd h List.not_mem_nil)⟩)⟩)⟩)))
set_option maxRecDepth 1000000 in
theorem tuC922 : tuGood 922 := tuGood3 (tuSeg (J := 3) (sp := []) (cs := [ct538, ct539]) (Or.inl rfl) 73 (by decide +kernel) (fun {T} => (List.forall_mem_cons.mpr ⟨cv538 ghGd, (List.forall_mem_cons.mpr ⟨cv539 ghGd, (fun _ h => absurd h List.not_mem_nil)⟩)⟩)))
set_option maxRecDepth 1000000 in
theorem tuC935 : tuGood 935 := tuGood3 (tuSeg (J := 3) (sp := []) (cs := [ct752, ct873, ct874]) (Or.inl rfl) 128 (by decide +kernel) (fun {T} => (List.forall_mem_cons.mpr ⟨cv752 ghGd, (List.forall_mem_cons.mpr ⟨cv873 ghGd, (List.forall_mem_cons.mpr ⟨cv874 ghGd, (fun _ h => absurd h List.not_mem_nil)⟩)⟩)⟩)))
set_option maxRecDepth 1000000 in
theorem tuC963 : tuGood 963 := tuGood3 (tuSeg (J := 3) (sp := []) (cs := [ct742, ct743, ct744, ct745, ct746, ct747, ct748, ct749, ct750, ct751, ct897, ct899, ct900, ct901, ct902, ct898, ct876, ct875]) (Or.inl rfl) 568 (by decide +kernel) (fun {T} => (List.forall_mem_cons.mpr ⟨cv742 ghGd, (List.forall_mem_cons.mpr ⟨cv743 ghGd, (List.forall_mem_cons.mpr ⟨cv744 ghGd, (List.forall_mem_cons.mpr ⟨cv745 ghGd, (List.forall_mem_cons.mpr ⟨cv746 ghGd, (List.forall_mem_cons.mpr ⟨cv747 ghGd, (List.forall_mem_cons.mpr ⟨cv748 ghGd, (List.forall_mem_cons.mpr ⟨cv749 ghGd, (List.forall_mem_cons.mpr ⟨cv750 ghGd, (List.forall_mem_cons.mpr ⟨cv751 ghGd, (List.forall_mem_cons.mpr ⟨cv897 ghGd, (List.forall_mem_cons.mpr ⟨cv899 ghGd, (List.forall_mem_cons.mpr ⟨cv900 ghGd, (List.forall_mem_cons.mpr ⟨cv901 ghGd, (List.forall_mem_cons.mpr ⟨cv902 ghGd, (List.forall_mem_cons.mpr ⟨cv898 ghGd, (List.forall_mem_cons.mpr ⟨cv876 ghGd, (List.forall_mem_cons.mpr ⟨cv875 ghGd, (fun _ h => absurd h List.not_mem_nil)⟩)⟩)⟩)⟩)⟩)⟩)⟩)⟩)⟩)⟩)⟩)⟩)⟩)⟩)⟩)⟩)⟩)⟩)))
set_option maxRecDepth 1000000 in
theorem tuC991 : tuGood 991 := tuGood3 (tuSeg (J := 3) (sp := []) (cs := [ct909, ct910]) (Or.inl rfl) 95 (by decide +kernel) (fun {T} => (List.forall_mem_cons.mpr ⟨cv909 ghGd, (List.forall_mem_cons.mpr ⟨cv910 ghGd, (fun _ h => absurd h List.not_mem_nil)⟩)⟩)))
set_option maxRecDepth 1000000 in
theorem tuC1007 : tuGood 1007 := tuGood3 (tuSeg (J := 3) (sp := []) (cs := [ct529, ct531]) (Or.inl rfl) 1253 (by decide +kernel) (fun {T} => (List.forall_mem_cons.mpr ⟨cv529 ghGd, (List.forall_mem_cons.mpr ⟨cv531 ghGd, (fun _ h => absurd h List.not_mem_nil)⟩)⟩)))
set_option maxRecDepth 1000000 in
theorem tuC1115 : tuGood 1115 := tuGood3 (tuSeg (J := 3) (sp := []) (cs := [ct963, ct990, ct991, ct962]) (Or.inl rfl) 197 (by decide +kernel) (fun {T} => (List.forall_mem_cons.mpr ⟨cv963 ghGd, (List.forall_mem_cons.mpr ⟨cv990 ghGd, (List.forall_mem_cons.mpr ⟨cv991 ghGd, (List.forall_mem_cons.mpr ⟨cv962 ghGd, (fun _ h => absurd h List.not_mem_nil)⟩)⟩)⟩)⟩)))
set_option maxRecDepth 1000000 in
theorem tuC1155 : tuGood 1155 := tuGood3 (tuSeg (J := 3) (sp := []) (cs := [ct963, ct1022, ct1023, ct1017]) (Or.inl rfl) 177 (by decide +kernel) (fun {T} => (List.forall_mem_cons.mpr ⟨cv963 ghGd, (List.forall_mem_cons.mpr ⟨cv1022 ghGd, (List.forall_mem_cons.mpr ⟨cv1023 ghGd, (List.forall_mem_cons.mpr ⟨cv1017 ghGd, (fun _ h => absurd h List.not_mem_nil)⟩)⟩)⟩)⟩)))
set_option maxRecDepth 1000000 in
theorem tuC1183 : tuGood 1183 := tuGood3 (tuSeg (J := 3) (sp := []) (cs := [ct1024, ct1032, ct1031]) (Or.inl rfl) 127 (by decide +kernel) (fun {T} => (List.forall_mem_cons.mpr ⟨cv1024 ghGd, (List.forall_mem_cons.mpr ⟨cv1032 ghGd, (List.forall_mem_cons.mpr ⟨cv1031 ghGd, (fun _ h => absurd h List.not_mem_nil)⟩)⟩)⟩)))
set_option maxRecDepth 1000000 in
theorem tuC1223 : tuGood 1223 := tuGood3 (tuSeg (J := 3) (sp := []) (cs := [ct1069, ct1071, ct1070]) (Or.inl rfl) 111 (by decide +kernel) (fun {T} => (List.forall_mem_cons.mpr ⟨cv1069 ghGd, (List.forall_mem_cons.mpr ⟨cv1071 ghGd, (List.forall_mem_cons.mpr ⟨cv1070 ghGd, (fun _ h => absurd h List.not_mem_nil)⟩)⟩)⟩)))
set_option maxRecDepth 1000000 in
theorem tuC1251 : tuGood 1251 := tuGood3 (tuSeg (J := 3) (sp := []) (cs := [ct1098, ct1115, ct1114]) (Or.inl rfl) 111 (by decide +kernel) (fun {T} => (List.forall_mem_cons.mpr ⟨cv1098 ghGd, (List.forall_mem_cons.mpr ⟨cv1115 ghGd, (List.forall_mem_cons.mpr ⟨cv1114 ghGd, (fun _ h => absurd h List.not_mem_nil)⟩)⟩)⟩)))
set_option maxRecDepth 1000000 in
theorem tuC1279 : tuGood 1279 := tuGood3 (tuSeg (J := 3) (sp := []) (cs := [ct1083, ct1097, ct1113]) (Or.inl rfl) 555 (by decide +kernel) (fun {T} => (List.forall_mem_cons.mpr ⟨cv1083 ghGd, (List.forall_mem_cons.mpr ⟨cv1097 ghGd, (List.forall_mem_cons.mpr ⟨cv1113 ghGd, (fun _ h => absurd h List.not_mem_nil)⟩)⟩)⟩)))
set_option maxRecDepth 1000000 in
theorem tuC1307 : tuGood 1307 := tuGood3 (tuSeg (J := 3) (sp := []) (cs := [ct384, ct742, ct743, ct744, ct745, ct746, ct747, ct748, ct749, ct750, ct751, ct1284, ct1174, ct1229, ct1118, ct1119, ct1283, ct1228, ct1173, ct1117, ct1116]) (Or.inl rfl) 605 (by decide +kernel) (fun {T} => (List.forall_mem_cons.mpr ⟨cv384 ghGd, (List.forall_mem_cons.mpr ⟨cv742 ghGd, (List.forall_mem_cons.mpr ⟨cv743 ghGd, (List.forall_mem_cons.mpr ⟨cv744 ghGd, (List.forall_mem_cons.mpr ⟨cv745 ghGd, (List.forall_mem_cons.mpr ⟨cv746 ghGd, (List.forall_mem_cons.mpr ⟨cv747 ghGd, (List.forall_mem_cons.mpr ⟨cv748 ghGd, (List.forall_mem_cons.mpr ⟨cv749 ghGd, (List.forall_mem_cons.mpr ⟨cv750 ghGd, (List.forall_mem_cons.mpr ⟨cv751 ghGd, (List.forall_mem_cons.mpr ⟨cv1284 ghGd, (List.forall_mem_cons.mpr ⟨cv1174 ghGd, (List.forall_mem_cons.mpr ⟨cv1229 ghGd, (List.forall_mem_cons.mpr ⟨cv1118 ghGd, (List.forall_mem_cons.mpr ⟨cv1119 ghGd, (List.forall_mem_cons.mpr ⟨cv1283 ghGd, (List.forall_mem_cons.mpr ⟨cv1228 ghGd, (List.forall_mem_cons.mpr ⟨cv1173 ghGd, (List.forall_mem_cons.mpr ⟨cv1117 ghGd, (List.forall_mem_cons.mpr ⟨cv1116 ghGd, (fun _ h => absurd h List.not_mem_nil)⟩)⟩)⟩)⟩)⟩)⟩)⟩)⟩)⟩)⟩)⟩)⟩)⟩)⟩)⟩)⟩)⟩)⟩)⟩)⟩)⟩)))
set_option maxRecDepth 1000000 in
theorem tuC1335 : tuGood 1335 := tuGood3 (tuSeg (J := 3) (sp := []) (cs := [ct1286, ct1289, ct1288]) (Or.inl rfl) 143 (by decide +kernel) (fun {T} => (List.forall_mem_cons.mpr ⟨cv1286 ghGd, (List.forall_mem_cons.mpr ⟨cv1289 ghGd, (List.forall_mem_cons.mpr ⟨cv1288 ghGd, (fun _ h => absurd h List.not_mem_nil)⟩)⟩)⟩)))
set_option maxRecDepth 1000000 in
theorem tuC1387 : tuGood 1387 := tuGood3 (tuSeg (J := 3) (sp := []) (cs := [ct1285, ct1287]) (Or.inl rfl) 223 (by decide +kernel) (fun {T} => (List.forall_mem_cons.mpr ⟨cv1285 ghGd, (List.forall_mem_cons.mpr ⟨cv1287 ghGd, (fun _ h => absurd h List.not_mem_nil)⟩)⟩)))
set_option maxRecDepth 1000000 in
theorem tuC1424 : tuGood 1424 := tuGood3 (tuSeg (J := 3) (sp := []) (cs := [ct431, ct1300, ct1301]) (Or.inl rfl) 564 (by decide +kernel) (fun {T} => (List.forall_mem_cons.mpr ⟨cv431 ghGd, (List.forall_mem_cons.mpr ⟨cv1300 ghGd, (List.forall_mem_cons.mpr ⟨cv1301 ghGd, (fun _ h => absurd h List.not_mem_nil)⟩)⟩)⟩)))
set_option maxRecDepth 1000000 in
theorem tuC1464 : tuGood 1464 := tuGood3 (tuSeg (J := 3) (sp := []) (cs := [ct1350, ct1369, ct1368]) (Or.inl rfl) 111 (by decide +kernel) (fun {T} => (List.forall_mem_cons.mpr ⟨cv1350 ghGd, (List.forall_mem_cons.mpr ⟨cv1369 ghGd, (List.forall_mem_cons.mpr ⟨cv1368 ghGd, (fun _ h => absurd h List.not_mem_nil)⟩)⟩)⟩)))
set_option maxRecDepth 1000000 in
theorem tuC1492 : tuGood 1492 := tuGood3 (tuSeg (J := 3) (sp := []) (cs := [ct1370, ct1372, ct1371]) (Or.inl rfl) 111 (by decide +kernel) (fun {T} => (List.forall_mem_cons.mpr ⟨cv1370 ghGd, (List.forall_mem_cons.mpr ⟨cv1372 ghGd, (List.forall_mem_cons.mpr ⟨cv1371 ghGd, (fun _ h => absurd h List.not_mem_nil)⟩)⟩)⟩)))
end SXL
