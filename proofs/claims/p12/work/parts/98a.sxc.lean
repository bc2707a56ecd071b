/-! SX: the law's turn, case by case, by program -/
section SXL
set_option maxRecDepth 1000000 in
theorem tuC389 : tuGood 389 := tuGood3 (tuSeg (J := 3) (sp := []) (cs := [ct148, ct110]) (Or.inl rfl) 129 (by decide +kernel) (fun {T} => (List.forall_mem_cons.mpr ⟨cv148 ghGd, (List.forall_mem_cons.mpr ⟨cv110 ghGd, (fun _ h => absurd h List.not_mem_nil)⟩)⟩)))
set_option maxRecDepth 1000000 in
theorem tuC417 : tuGood 417 := tuGood3 (tuSeg (J := 3) (sp := []) (cs := [(ctTng), ct268]) (Or.inl rfl) 135 (by decide +kernel) (fun {T} => (List.forall_mem_cons.mpr ⟨cvTng ghGd, (List.forall_mem_cons.mpr ⟨cv268 ghGd, (fun _ h => absurd h List.not_mem_nil)⟩)⟩)))
set_option maxRecDepth 1000000 in
theorem tuC445 : tuGood 445 := tuGood3 (tuSeg (J := 3) (sp := []) (cs := []) (Or.inl rfl) 80 (by decide +kernel) (fun {T} => (fun _ h => absurd h List.not_mem_nil)))
set_option maxRecDepth 1000000 in
theorem tuC458 : tuGood 458 := tuGood3 (tuSeg (J := 3) (sp := []) (cs := []) (Or.inl rfl) 578 (by decide +kernel) (fun {T} => (fun _ h => absurd h List.not_mem_nil)))
set_option maxRecDepth 1000000 in
theorem tuC486 : tuGood 486 := tuGood3 (tuSeg (J := 3) (sp := []) (cs := []) (Or.inl rfl) 315 (by decide +kernel) (fun {T} => (fun _ h => absurd h List.not_mem_nil)))
set_option maxRecDepth 1000000 in
theorem tuC514 : tuGood 514 := tuGood3 (tuSeg (J := 3) (sp := []) (cs := []) (Or.inl rfl) 299 (by decide +kernel) (fun {T} => (fun _ h => absurd h List.not_mem_nil)))
set_option maxRecDepth 1000000 in
theorem tuC542 : tuGood 542 := tuGood3 (tuSeg (J := 3) (sp := []) (cs := []) (Or.inl rfl) 300 (by decide +kernel) (fun {T} => (fun _ h => absurd h List.not_mem_nil)))
set_option maxRecDepth 1000000 in
theorem tuC570 : tuGood 570 := tuGood3 (tuSeg (J := 3) (sp := []) (cs := [ct377, ct379, ct378]) (Or.inl rfl) 127 (by decide +kernel) (fun {T} => (List.forall_mem_cons.mpr ⟨cv377 ghGd, (List.forall_mem_cons.mpr ⟨cv379 ghGd, (List.forall_mem_cons.mpr ⟨cv378 ghGd, (fun _ h => absurd h List.not_mem_nil)⟩)⟩)⟩)))
set_option maxRecDepth 1000000 in
theorem tuC697 : tuGood 697 := tuGood3 (tuSeg (J := 3) (sp := []) (cs := [ct380, ct381]) (Or.inl rfl) 86 (by decide +kernel) (fun {T} => (List.forall_mem_cons.mpr ⟨cv380 ghGd, (List.forall_mem_cons.mpr ⟨cv381 ghGd, (fun _ h => absurd h List.not_mem_nil)⟩)⟩)))
set_option maxRecDepth 1000000 in
theorem tuC710 : tuGood 710 := tuGood3 (tuSeg (J := 3) (sp := []) (cs := [ct382, ct383]) (Or.inl rfl) 73 (by decide +kernel) (fun {T} => (List.forall_mem_cons.mpr ⟨cv382 ghGd, (List.forall_mem_cons.mpr ⟨cv383 ghGd, (fun _ h => absurd h List.not_mem_nil)⟩)⟩)))
set_option maxRecDepth 1000000 in
theorem tuC723 : tuGood 723 := tuGood3 (tuSeg (J := 3) (sp := []) (cs := [ct385, ct386]) (Or.inl rfl) 107 (by decide +kernel) (fun {T} => (List.forall_mem_cons.mpr ⟨cv385 ghGd, (List.forall_mem_cons.mpr ⟨cv386 ghGd, (fun _ h => absurd h List.not_mem_nil)⟩)⟩)))
set_option maxRecDepth 1000000 in
theorem tuC780 : tuGood 780 := tuGood3 (tuSeg (J := 3) (sp := []) (cs := []) (Or.inl rfl) 199 (by decide +kernel) (fun {T} => (fun _ h => absurd h List.not_mem_nil)))
set_option maxRecDepth 1000000 in
theorem tuC805 : tuGood 805 := tuGood3 (tuSeg (J := 3) (sp := []) (cs := []) (Or.inl rfl) 299 (by decide +kernel) (fun {T} => (fun _ h => absurd h List.not_mem_nil)))
set_option maxRecDepth 1000000 in
theorem tuC833 : tuGood 833 := tuGood3 (tuSeg (J := 3) (sp := [(833, 3, 0)]) (cs := []) (Or.inl rfl) 1639 (by decide +kernel) (fun {T} => (fun _ h => absurd h List.not_mem_nil)))
set_option maxRecDepth 1000000 in
theorem tuC861 : tuGood 861 := tuGood3 (tuSeg (J := 3) (sp := []) (cs := [ct426, ct427, ct515, ct428]) (Or.inl rfl) 464 (by decide +kernel) (fun {T} => (List.forall_mem_cons.mpr ⟨cv426 ghGd, (List.forall_mem_cons.mpr ⟨cv427 ghGd, (List.forall_mem_cons.mpr ⟨cv515 ghGd, (List.forall_mem_cons.mpr ⟨cv428 ghGd, (fun _ h => absurd h List.not_mem_nil)⟩)⟩)⟩)⟩)))
set_option maxRecDepth 1000000 in
theorem tuC889 : tuGood 889 := tuGood3 (tuSeg (J := 3) (sp := []) (cs := [ct516, ct519, ct517, ct518]) (Or.inl rfl) 149 (by decide +kernel) (fun {T} => (List.forall_mem_cons.mpr ⟨cv516 ghGd, (List.forall_mem_cons.mpr ⟨cv519 ghGd, (List.forall_mem_cons.mpr ⟨cv517 ghGd, (List.forall_mem_cons.mpr ⟨cv518 ghGd, (fun _ h => absurd h List.not_mem_nil)⟩)⟩)⟩)⟩)))
set_option maxRecDepth 1000000 in
theorem tuC929 : tuGood 929 := tuGood3 (tuSeg (J := 3) (sp := []) (cs := [ct526, ct530, ct529]) (Or.inl rfl) 111 (by decide +kernel) (fun {T} => (List.forall_mem_cons.mpr ⟨cv526 ghGd, (List.forall_mem_cons.mpr ⟨cv530 ghGd, (List.forall_mem_cons.mpr ⟨cv529 ghGd, (fun _ h => absurd h List.not_mem_nil)⟩)⟩)⟩)))
set_option maxRecDepth 1000000 in
theorem tuC957 : tuGood 957 := tuGood3 (tuSeg (J := 3) (sp := []) (cs := [ct534, ct535]) (Or.inl rfl) 73 (by decide +kernel) (fun {T} => (List.forall_mem_cons.mpr ⟨cv534 ghGd, (List.forall_mem_cons.mpr ⟨cv535 ghGd, (fun _ h => absurd h List.not_mem_nil)⟩)⟩)))
set_option maxRecDepth 1000000 in
theorem tuC970 : tuGood 970 := tuGood3 (tuSeg (J := 3) (sp := []) (cs := [ct748, ct869, ct870]) (Or.inl rfl) 128 (by decide +kernel) (fun {T} => (List.forall_mem_cons.mpr ⟨cv748 ghGd, (List.forall_mem_cons.mpr ⟨cv869 ghGd, (List.forall_mem_cons.mpr ⟨cv870 ghGd, (fun _ h => absurd h List.not_mem_nil)⟩)⟩)⟩)))
set_option maxRecDepth 1000000 in
theorem tuC998 : tuGood 998 := tuGood3 (tuSeg (J := 3) (sp := []) (cs := [ct738, ct739, ct740, ct741, ct742, ct743, ct744, ct745, ct746, ct747, ct896, ct897, ct898, ct893, ct895, ct894, ct872, ct871]) (Or.inl rfl) 568 (by decide +kernel) (fun {T} => (List.forall_mem_cons.mpr ⟨cv738 ghGd, (List.forall_mem_cons.mpr ⟨cv739 ghGd, (List.forall_mem_cons.mpr ⟨cv740 ghGd, (List.forall_mem_cons.mpr ⟨cv741 ghGd, (List.forall_mem_cons.mpr ⟨cv742 ghGd, (List.forall_mem_cons.mpr ⟨cv743 ghGd, (List.forall_mem_cons.mpr ⟨cv744 ghGd, (List.forall_mem_cons.mpr ⟨cv745 ghGd, (List.forall_mem_cons.mpr ⟨cv746 ghGd, (List.forall_mem_cons.mpr ⟨cv747 ghGd, (List.forall_mem_cons.mpr ⟨cv896 ghGd, (List.forall_mem_cons.mpr ⟨cv897 ghGd, (List.forall_mem_cons.mpr ⟨cv898 ghGd, (List.forall_mem_cons.mpr ⟨cv893 ghGd, (List.forall_mem_cons.mpr ⟨cv895 ghGd, (List.forall_mem_cons.mpr ⟨cv894 ghGd, (List.forall_mem_cons.mpr ⟨cv872 ghGd, (List.forall_mem_cons.mpr ⟨cv871 ghGd, (fun _ h => absurd h List.not_mem_nil)⟩)⟩)⟩)⟩)⟩)⟩)⟩)⟩)⟩)⟩)⟩)⟩)⟩)⟩)⟩)⟩)⟩)⟩)))
set_option maxRecDepth 1000000 in
theorem tuC1026 : tuGood 1026 := tuGood3 (tuSeg (J := 3) (sp := []) (cs := [ct905, ct906]) (Or.inl rfl) 95 (by decide +kernel) (fun {T} => (List.forall_mem_cons.mpr ⟨cv905 ghGd, (List.forall_mem_cons.mpr ⟨cv906 ghGd, (fun _ h => absurd h List.not_mem_nil)⟩)⟩)))
set_option maxRecDepth 1000000 in
theorem tuC1042 : tuGood 1042 := tuGood3 (tuSeg (J := 3) (sp := []) (cs := [ct525, ct527]) (Or.inl rfl) 1253 (by decide +kernel) (fun {T} => (List.forall_mem_cons.mpr ⟨cv525 ghGd, (List.forall_mem_cons.mpr ⟨cv527 ghGd, (fun _ h => absurd h List.not_mem_nil)⟩)⟩)))
set_option maxRecDepth 1000000 in
theorem tuC1082 : tuGood 1082 := tuGood3 (tuSeg (J := 3) (sp := []) (cs := [ct943, ct1023, ct1022]) (Or.inl rfl) 127 (by decide +kernel) (fun {T} => (List.forall_mem_cons.mpr ⟨cv943 ghGd, (List.forall_mem_cons.mpr ⟨cv1023 ghGd, (List.forall_mem_cons.mpr ⟨cv1022 ghGd, (fun _ h => absurd h List.not_mem_nil)⟩)⟩)⟩)))
set_option maxRecDepth 1000000 in
theorem tuC1122 : tuGood 1122 := tuGood3 (tuSeg (J := 3) (sp := []) (cs := [ct942, ct1025, ct1026, ct1024]) (Or.inl rfl) 197 (by decide +kernel) (fun {T} => (List.forall_mem_cons.mpr ⟨cv942 ghGd, (List.forall_mem_cons.mpr ⟨cv1025 ghGd, (List.forall_mem_cons.mpr ⟨cv1026 ghGd, (List.forall_mem_cons.mpr ⟨cv1024 ghGd, (fun _ h => absurd h List.not_mem_nil)⟩)⟩)⟩)⟩)))
set_option maxRecDepth 1000000 in
theorem tuC1162 : tuGood 1162 := tuGood3 (tuSeg (J := 3) (sp := []) (cs := [ct942, ct1028, ct1029, ct1027]) (Or.inl rfl) 177 (by decide +kernel) (fun {T} => (List.forall_mem_cons.mpr ⟨cv942 ghGd, (List.forall_mem_cons.mpr ⟨cv1028 ghGd, (List.forall_mem_cons.mpr ⟨cv1029 ghGd, (List.forall_mem_cons.mpr ⟨cv1027 ghGd, (fun _ h => absurd h List.not_mem_nil)⟩)⟩)⟩)⟩)))
set_option maxRecDepth 1000000 in
theorem tuC1190 : tuGood 1190 := tuGood3 (tuSeg (J := 3) (sp := []) (cs := [ct1030, ct1038, ct1037]) (Or.inl rfl) 127 (by decide +kernel) (fun {T} => (List.forall_mem_cons.mpr ⟨cv1030 ghGd, (List.forall_mem_cons.mpr ⟨cv1038 ghGd, (List.forall_mem_cons.mpr ⟨cv1037 ghGd, (fun _ h => absurd h List.not_mem_nil)⟩)⟩)⟩)))
set_option maxRecDepth 1000000 in
theorem tuC1230 : tuGood 1230 := tuGood3 (tuSeg (J := 3) (sp := []) (cs := [ct1075, ct1077, ct1076]) (Or.inl rfl) 111 (by decide +kernel) (fun {T} => (List.forall_mem_cons.mpr ⟨cv1075 ghGd, (List.forall_mem_cons.mpr ⟨cv1077 ghGd, (List.forall_mem_cons.mpr ⟨cv1076 ghGd, (fun _ h => absurd h List.not_mem_nil)⟩)⟩)⟩)))
set_option maxRecDepth 1000000 in
theorem tuC1258 : tuGood 1258 := tuGood3 (tuSeg (J := 3) (sp := []) (cs := [ct1104, ct1121, ct1120]) (Or.inl rfl) 111 (by decide +kernel) (fun {T} => (List.forall_mem_cons.mpr ⟨cv1104 ghGd, (List.forall_mem_cons.mpr ⟨cv1121 ghGd, (List.forall_mem_cons.mpr ⟨cv1120 ghGd, (fun _ h => absurd h List.not_mem_nil)⟩)⟩)⟩)))
set_option maxRecDepth 1000000 in
theorem tuC1286 : tuGood 1286 := tuGood3 (tuSeg (J := 3) (sp := []) (cs := [ct1089, ct1103, ct1119]) (Or.inl rfl) 555 (by decide +kernel) (fun {T} => (List.forall_mem_cons.mpr ⟨cv1089 ghGd, (List.forall_mem_cons.mpr ⟨cv1103 ghGd, (List.forall_mem_cons.mpr ⟨cv1119 ghGd, (fun _ h => absurd h List.not_mem_nil)⟩)⟩)⟩)))
set_option maxRecDepth 1000000 in
theorem tuC1314 : tuGood 1314 := tuGood3 (tuSeg (J := 3) (sp := []) (cs := [ct380, ct738, ct739, ct740, ct741, ct742, ct743, ct744, ct745, ct746, ct747, ct1290, ct1180, ct1235, ct1124, ct1125, ct1289, ct1234, ct1179, ct1123, ct1122]) (Or.inl rfl) 605 (by decide +kernel) (fun {T} => (List.forall_mem_cons.mpr ⟨cv380 ghGd, (List.forall_mem_cons.mpr ⟨cv738 ghGd, (List.forall_mem_cons.mpr ⟨cv739 ghGd, (List.forall_mem_cons.mpr ⟨cv740 ghGd, (List.forall_mem_cons.mpr ⟨cv741 ghGd, (List.forall_mem_cons.mpr ⟨cv742 ghGd, (List.forall_mem_cons.mpr ⟨cv743 ghGd, (List.forall_mem_cons.mpr ⟨cv744 ghGd, (List.forall_mem_cons.mpr ⟨cv745 ghGd, (List.forall_mem_cons.mpr ⟨cv746 ghGd, (List.forall_mem_cons.mpr ⟨cv747 ghGd, (List.forall_mem_cons.mpr ⟨cv1290 ghGd, (List.forall_mem_cons.mpr ⟨cv1180 ghGd, (List.forall_mem_cons.mpr ⟨cv1235 ghGd, (List.forall_mem_cons.mpr ⟨cv1124 ghGd, (List.forall_mem_cons.mpr ⟨cv1125 ghGd, (List.forall_mem_cons.mpr ⟨cv1289 ghGd, (List.forall_mem_cons.mpr ⟨cv1234 ghGd, (List.forall_mem_cons.mpr ⟨cv1179 ghGd, (List.forall_mem_cons.mpr ⟨cv1123 ghGd, (List.forall_mem_cons.mpr ⟨cv1122 ghGd, (fun _ h => absurd h List.not_mem_nil)⟩)⟩)⟩)⟩)⟩)⟩)⟩)⟩)⟩)⟩)⟩)⟩)⟩)⟩)⟩)⟩)⟩)⟩)⟩)⟩)⟩)))
set_option maxRecDepth 1000000 in
theorem tuC1342 : tuGood 1342 := tuGood3 (tuSeg (J := 3) (sp := []) (cs := [ct1292, ct1295, ct1294]) (Or.inl rfl) 143 (by decide +kernel) (fun {T} => (List.forall_mem_cons.mpr ⟨cv1292 ghGd, (List.forall_mem_cons.mpr ⟨cv1295 ghGd, (List.forall_mem_cons.mpr ⟨cv1294 ghGd, (fun _ h => absurd h List.not_mem_nil)⟩)⟩)⟩)))
set_option maxRecDepth 1000000 in
theorem tuC1394 : tuGood 1394 := tuGood3 (tuSeg (J := 3) (sp := []) (cs := [ct1291, ct1293]) (Or.inl rfl) 223 (by decide +kernel) (fun {T} => (List.forall_mem_cons.mpr ⟨cv1291 ghGd, (List.forall_mem_cons.mpr ⟨cv1293 ghGd, (fun _ h => absurd h List.not_mem_nil)⟩)⟩)))
set_option maxRecDepth 1000000 in
theorem tuC1431 : tuGood 1431 := tuGood3 (tuSeg (J := 3) (sp := []) (cs := [ct427, ct1306, ct1307]) (Or.inl rfl) 564 (by decide +kernel) (fun {T} => (List.forall_mem_cons.mpr ⟨cv427 ghGd, (List.forall_mem_cons.mpr ⟨cv1306 ghGd, (List.forall_mem_cons.mpr ⟨cv1307 ghGd, (fun _ h => absurd h List.not_mem_nil)⟩)⟩)⟩)))
set_option maxRecDepth 1000000 in
theorem tuC1471 : tuGood 1471 := tuGood3 (tuSeg (J := 3) (sp := []) (cs := [ct1356, ct1375, ct1374]) (Or.inl rfl) 111 (by decide +kernel) (fun {T} => (List.forall_mem_cons.mpr ⟨cv1356 ghGd, (List.forall_mem_cons.mpr ⟨cv1375 ghGd, (List.forall_mem_cons.mpr ⟨cv1374 ghGd, (fun _ h => absurd h List.not_mem_nil)⟩)⟩)⟩)))
set_option maxRecDepth 1000000 in
theorem tuC1499 : tuGood 1499 := tuGood3 (tuSeg (J := 3) (sp := []) (cs := [ct1376, ct1378, ct1377]) (Or.inl rfl) 111 (by decide +kernel) (fun {T} => (List.forall_mem_cons.mpr ⟨cv1376 ghGd, (List.forall_mem_cons.mpr ⟨cv1378 ghGd, (List.forall_mem_cons.mpr ⟨cv1377 ghGd, (fun _ h => absurd h List.not_mem_nil)⟩)⟩)⟩)))
end SXL
