/-! SX: the law's turn, case by case, by program -/
section SXL
set_option maxRecDepth 1000000 in
theorem tuC798 : tuGood 798 := tuGood3 (tuSeg (J := 3) (sp := []) (cs := []) (Or.inl rfl) 299 (by decide +kernel) (fun {T} => (fun _ h => absurd h List.not_mem_nil)))
set_option maxRecDepth 1000000 in
theorem tuC826 : tuGood 826 := tuGood3 (tuSeg (J := 3) (sp := [(826, 3, 0)]) (cs := []) (Or.inl rfl) 1639 (by decide +kernel) (fun {T} => (fun _ h => absurd h List.not_mem_nil)))
set_option maxRecDepth 1000000 in
theorem tuC854 : tuGood 854 := tuGood3 (tuSeg (J := 3) (sp := []) (cs := [ct427, ct428, ct516, ct429]) (Or.inl rfl) 464 (by decide +kernel) (fun {T} => (List.forall_mem_cons.mpr ⟨cv427 ghGd, (List.forall_mem_cons.mpr ⟨cv428 ghGd, (List.forall_mem_cons.mpr ⟨cv516 ghGd, (List.forall_mem_cons.mpr ⟨cv429 ghGd, (fun _ h => absurd h List.not_mem_nil)⟩)⟩)⟩)⟩)))
set_option maxRecDepth 1000000 in
theorem tuC882 : tuGood 882 := tuGood3 (tuSeg (J := 3) (sp := []) (cs := [ct517, ct520, ct518, ct519]) (Or.inl rfl) 149 (by decide +kernel) (fun {T} => (List.forall_mem_cons.mpr ⟨cv517 ghGd, (List.forall_mem_cons.mpr ⟨cv520 ghGd, (List.forall_mem_cons.mpr ⟨cv518 ghGd, (List.forall_mem_cons.mpr ⟨cv519 ghGd, (fun _ h => absurd h List.not_mem_nil)⟩)⟩)⟩)⟩)))
set_option maxRecDepth 1000000 in
theorem tuC922 : tuGood 922 := tuGood3 (tuSeg (J := 3) (sp := []) (cs := [ct527, ct531, ct530]) (Or.inl rfl) 111 (by decide +kernel) (fun {T} => (List.forall_mem_cons.mpr ⟨cv527 ghGd, (List.forall_mem_cons.mpr ⟨cv531 ghGd, (List.forall_mem_cons.mpr ⟨cv530 ghGd, (fun _ h => absurd h List.not_mem_nil)⟩)⟩)⟩)))
set_option maxRecDepth 1000000 in
theorem tuC950 : tuGood 950 := tuGood3 (tuSeg (J := 3) (sp := []) (cs := [ct535, ct536]) (Or.inl rfl) 73 (by decide +kernel) (fun {T} => (List.forall_mem_cons.mpr ⟨cv535 ghGd, (List.forall_mem_cons.mpr ⟨cv536 ghGd, (fun _ h => absurd h List.not_mem_nil)⟩)⟩)))
set_option maxRecDepth 1000000 in
theorem tuC963 : tuGood 963 := tuGood3 (tuSeg (J := 3) (sp := []) (cs := [ct749, ct870, ct871]) (Or.inl rfl) 128 (by decide +kernel) (fun {T} => (List.forall_mem_cons.mpr ⟨cv749 ghGd, (List.forall_mem_cons.mpr ⟨cv870 ghGd, (List.forall_mem_cons.mpr ⟨cv871 ghGd, (fun _ h => absurd h List.not_mem_nil)⟩)⟩)⟩)))
set_option maxRecDepth 1000000 in
theorem tuC991 : tuGood 991 := tuGood3 (tuSeg (J := 3) (sp := []) (cs := [ct739, ct740, ct741, ct742, ct743, ct744, ct745, ct746, ct747, ct748, ct896, ct897, ct898, ct899, ct894, ct895, ct873, ct872]) (Or.inl rfl) 568 (by decide +kernel) (fun {T} => (List.forall_mem_cons.mpr ⟨cv739 ghGd, (List.forall_mem_cons.mpr ⟨cv740 ghGd, (List.forall_mem_cons.mpr ⟨cv741 ghGd, (List.forall_mem_cons.mpr ⟨cv742 ghGd, (List.forall_mem_cons.mpr ⟨cv743 ghGd, (List.forall_mem_cons.mpr ⟨cv744 ghGd, (List.forall_mem_cons.mpr ⟨cv745 ghGd, (List.forall_mem_cons.mpr ⟨cv746 ghGd, (List.forall_mem_cons.mpr ⟨cv747 ghGd, (List.forall_mem_cons.mpr ⟨cv748 ghGd, (List.forall_mem_cons.mpr ⟨cv896 ghGd, (List.forall_mem_cons.mpr ⟨cv897 ghGd, (List.forall_mem_cons.mpr ⟨cv898 ghGd, (List.forall_mem_cons.mpr ⟨cv899 ghGd, (List.forall_mem_cons.mpr ⟨cv894 ghGd, (List.forall_mem_cons.mpr ⟨cv895 ghGd, (List.forall_mem_cons.mpr ⟨cv873 ghGd, (List.forall_mem_cons.mpr ⟨cv872 ghGd, (fun _ h => absurd h List.not_mem_nil)⟩)⟩)⟩)⟩)⟩)⟩)⟩)⟩)⟩)⟩)⟩)⟩)⟩)⟩)⟩)⟩)⟩)⟩)))
set_option maxRecDepth 1000000 in
theorem tuC1019 : tuGood 1019 := tuGood3 (tuSeg (J := 3) (sp := []) (cs := [ct906, ct907]) (Or.inl rfl) 95 (by decide +kernel) (fun {T} => (List.forall_mem_cons.mpr ⟨cv906 ghGd, (List.forall_mem_cons.mpr ⟨cv907 ghGd, (fun _ h => absurd h List.not_mem_nil)⟩)⟩)))
set_option maxRecDepth 1000000 in
theorem tuC1035 : tuGood 1035 := tuGood3 (tuSeg (J := 3) (sp := []) (cs := [ct526, ct528]) (Or.inl rfl) 1253 (by decide +kernel) (fun {T} => (List.forall_mem_cons.mpr ⟨cv526 ghGd, (List.forall_mem_cons.mpr ⟨cv528 ghGd, (fun _ h => absurd h List.not_mem_nil)⟩)⟩)))
set_option maxRecDepth 1000000 in
theorem tuC1075 : tuGood 1075 := tuGood3 (tuSeg (J := 3) (sp := []) (cs := [ct944, ct1024, ct1023]) (Or.inl rfl) 127 (by decide +kernel) (fun {T} => (List.forall_mem_cons.mpr ⟨cv944 ghGd, (List.forall_mem_cons.mpr ⟨cv1024 ghGd, (List.forall_mem_cons.mpr ⟨cv1023 ghGd, (fun _ h => absurd h List.not_mem_nil)⟩)⟩)⟩)))
set_option maxRecDepth 1000000 in
theorem tuC1115 : tuGood 1115 := tuGood3 (tuSeg (J := 3) (sp := []) (cs := [ct943, ct1026, ct1027, ct1025]) (Or.inl rfl) 197 (by decide +kernel) (fun {T} => (List.forall_mem_cons.mpr ⟨cv943 ghGd, (List.forall_mem_cons.mpr ⟨cv1026 ghGd, (List.forall_mem_cons.mpr ⟨cv1027 ghGd, (List.forall_mem_cons.mpr ⟨cv1025 ghGd, (fun _ h => absurd h List.not_mem_nil)⟩)⟩)⟩)⟩)))
set_option maxRecDepth 1000000 in
theorem tuC1155 : tuGood 1155 := tuGood3 (tuSeg (J := 3) (sp := []) (cs := [ct943, ct1029, ct1030, ct1028]) (Or.inl rfl) 177 (by decide +kernel) (fun {T} => (List.forall_mem_cons.mpr ⟨cv943 ghGd, (List.forall_mem_cons.mpr ⟨cv1029 ghGd, (List.forall_mem_cons.mpr ⟨cv1030 ghGd, (List.forall_mem_cons.mpr ⟨cv1028 ghGd, (fun _ h => absurd h List.not_mem_nil)⟩)⟩)⟩)⟩)))
set_option maxRecDepth 1000000 in
theorem tuC1183 : tuGood 1183 := tuGood3 (tuSeg (J := 3) (sp := []) (cs := [ct1031, ct1039, ct1038]) (Or.inl rfl) 127 (by decide +kernel) (fun {T} => (List.forall_mem_cons.mpr ⟨cv1031 ghGd, (List.forall_mem_cons.mpr ⟨cv1039 ghGd, (List.forall_mem_cons.mpr ⟨cv1038 ghGd, (fun _ h => absurd h List.not_mem_nil)⟩)⟩)⟩)))
set_option maxRecDepth 1000000 in
theorem tuC1223 : tuGood 1223 := tuGood3 (tuSeg (J := 3) (sp := []) (cs := [ct1076, ct1078, ct1077]) (Or.inl rfl) 111 (by decide +kernel) (fun {T} => (List.forall_mem_cons.mpr ⟨cv1076 ghGd, (List.forall_mem_cons.mpr ⟨cv1078 ghGd, (List.forall_mem_cons.mpr ⟨cv1077 ghGd, (fun _ h => absurd h List.not_mem_nil)⟩)⟩)⟩)))
set_option maxRecDepth 1000000 in
theorem tuC1251 : tuGood 1251 := tuGood3 (tuSeg (J := 3) (sp := []) (cs := [ct1105, ct1122, ct1121]) (Or.inl rfl) 111 (by decide +kernel) (fun {T} => (List.forall_mem_cons.mpr ⟨cv1105 ghGd, (List.forall_mem_cons.mpr ⟨cv1122 ghGd, (List.forall_mem_cons.mpr ⟨cv1121 ghGd, (fun _ h => absurd h List.not_mem_nil)⟩)⟩)⟩)))
set_option maxRecDepth 1000000 in
theorem tuC1279 : tuGood 1279 := tuGood3 (tuSeg (J := 3) (sp := []) (cs := [ct1090, ct1104, ct1120]) (Or.inl rfl) 555 (by decide +kernel) (fun {T} => (List.forall_mem_cons.mpr ⟨cv1090 ghGd, (List.forall_mem_cons.mpr ⟨cv1104 ghGd, (List.forall_mem_cons.mpr ⟨cv1120 ghGd, (fun _ h => absurd h List.not_mem_nil)⟩)⟩)⟩)))
set_option maxRecDepth 1000000 in
theorem tuC1307 : tuGood 1307 := tuGood3 (tuSeg (J := 3) (sp := []) (cs := [ct381, ct739, ct740, ct741, ct742, ct743, ct744, ct745, ct746, ct747, ct748, ct1291, ct1181, ct1236, ct1125, ct1126, ct1290, ct1235, ct1180, ct1124, ct1123]) (Or.inl rfl) 605 (by decide +kernel) (fun {T} => (List.forall_mem_cons.mpr ⟨cv381 ghGd, (List.forall_mem_cons.mpr ⟨cv739 ghGd, (List.forall_mem_cons.mpr ⟨cv740 ghGd, (List.forall_mem_cons.mpr ⟨cv741 ghGd, (List.forall_mem_cons.mpr ⟨cv742 ghGd, (List.forall_mem_cons.mpr ⟨cv743 ghGd, (List.forall_mem_cons.mpr ⟨cv744 ghGd, (List.forall_mem_cons.mpr ⟨cv745 ghGd, (List.forall_mem_cons.mpr ⟨cv746 ghGd, (List.forall_mem_cons.mpr ⟨cv747 ghGd, (List.forall_mem_cons.mpr ⟨cv748 ghGd, (List.forall_mem_cons.mpr ⟨cv1291 ghGd, (List.forall_mem_cons.mpr ⟨cv1181 ghGd, (List.forall_mem_cons.mpr ⟨cv1236 ghGd, (List.forall_mem_cons.mpr ⟨cv1125 ghGd, (List.forall_mem_cons.mpr ⟨cv1126 ghGd, (List.forall_mem_cons.mpr ⟨cv1290 ghGd, (List.forall_mem_cons.mpr ⟨cv1235 ghGd, (List.forall_mem_cons.mpr ⟨cv1180 ghGd, (List.forall_mem_cons.mpr ⟨cv1124 ghGd, (List.forall_mem_cons.mpr ⟨cv1123 ghGd, (fun _ h => absurd h List.not_mem_nil)⟩)⟩)⟩)⟩)⟩)⟩)⟩)⟩)⟩)⟩)⟩)⟩)⟩)⟩)⟩)⟩)⟩)⟩)⟩)⟩)⟩)))
set_option maxRecDepth 1000000 in
theorem tuC1335 : tuGood 1335 := tuGood3 (tuSeg (J := 3) (sp := []) (cs := [ct1293, ct1296, ct1295]) (Or.inl rfl) 143 (by decide +kernel) (fun {T} => (List.forall_mem_cons.mpr ⟨cv1293 ghGd, (List.forall_mem_cons.mpr ⟨cv1296 ghGd, (List.forall_mem_cons.mpr ⟨cv1295 ghGd, (fun _ h => absurd h List.not_mem_nil)⟩)⟩)⟩)))
set_option maxRecDepth 1000000 in
theorem tuC1387 : tuGood 1387 := tuGood3 (tuSeg (J := 3) (sp := []) (cs := [ct1292, ct1294]) (Or.inl rfl) 223 (by decide +kernel) (fun {T} => (List.forall_mem_cons.mpr ⟨cv1292 ghGd, (List.forall_mem_cons.mpr ⟨cv1294 ghGd, (fun _ h => absurd h List.not_mem_nil)⟩)⟩)))
set_option maxRecDepth 1000000 in
theorem tuC1424 : tuGood 1424 := tuGood3 (tuSeg (J := 3) (sp := []) (cs := [ct428, ct1307, ct1308]) (Or.inl rfl) 564 (by decide +kernel) (fun {T} => (List.forall_mem_cons.mpr ⟨cv428 ghGd, (List.forall_mem_cons.mpr ⟨cv1307 ghGd, (List.forall_mem_cons.mpr ⟨cv1308 ghGd, (fun _ h => absurd h List.not_mem_nil)⟩)⟩)⟩)))
set_option maxRecDepth 1000000 in
theorem tuC1464 : tuGood 1464 := tuGood3 (tuSeg (J := 3) (sp := []) (cs := [ct1357, ct1376, ct1375]) (Or.inl rfl) 111 (by decide +kernel) (fun {T} => (List.forall_mem_cons.mpr ⟨cv1357 ghGd, (List.forall_mem_cons.mpr ⟨cv1376 ghGd, (List.forall_mem_cons.mpr ⟨cv1375 ghGd, (fun _ h => absurd h List.not_mem_nil)⟩)⟩)⟩)))
set_option maxRecDepth 1000000 in
theorem tuC1492 : tuGood 1492 := tuGood3 (tuSeg (J := 3) (sp := []) (cs := [ct1377, ct1379, ct1378]) (Or.inl rfl) 111 (by decide +kernel) (fun {T} => (List.forall_mem_cons.mpr ⟨cv1377 ghGd, (List.forall_mem_cons.mpr ⟨cv1379 ghGd, (List.forall_mem_cons.mpr ⟨cv1378 ghGd, (fun _ h => absurd h List.not_mem_nil)⟩)⟩)⟩)))
set_option maxRecDepth 1000000 in
theorem tuC1520 : tuGood 1520 := tuGood3 (tuSeg (J := 3) (sp := []) (cs := [ct526, ct528]) (Or.inl rfl) 871 (by decide +kernel) (fun {T} => (List.forall_mem_cons.mpr ⟨cv526 ghGd, (List.forall_mem_cons.mpr ⟨cv528 ghGd, (fun _ h => absurd h List.not_mem_nil)⟩)⟩)))
set_option maxRecDepth 1000000 in
theorem tuC1560 : tuGood 1560 := tuGood3 (tuSeg (J := 3) (sp := []) (cs := [ct1380, ct528, ct1381]) (Or.inl rfl) 474 (by decide +kernel) (fun {T} => (List.forall_mem_cons.mpr ⟨cv1380 ghGd, (List.forall_mem_cons.mpr ⟨cv528 ghGd, (List.forall_mem_cons.mpr ⟨cv1381 ghGd, (fun _ h => absurd h List.not_mem_nil)⟩)⟩)⟩)))
set_option maxRecDepth 1000000 in
theorem tuC1600 : tuGood 1600 := tuGood3 (tuSeg (J := 3) (sp := []) (cs := [ct1382, ct516, ct429]) (Or.inl rfl) 293 (by decide +kernel) (fun {T} => (List.forall_mem_cons.mpr ⟨cv1382 ghGd, (List.forall_mem_cons.mpr ⟨cv516 ghGd, (List.forall_mem_cons.mpr ⟨cv429 ghGd, (fun _ h => absurd h List.not_mem_nil)⟩)⟩)⟩)))
set_option maxRecDepth 1000000 in
theorem tuC1628 : tuGood 1628 := tuGood3 (tuSeg (J := 3) (sp := []) (cs := [ct1383, ct1385, ct1384]) (Or.inl rfl) 111 (by decide +kernel) (fun {T} => (List.forall_mem_cons.mpr ⟨cv1383 ghGd, (List.forall_mem_cons.mpr ⟨cv1385 ghGd, (List.forall_mem_cons.mpr ⟨cv1384 ghGd, (fun _ h => absurd h List.not_mem_nil)⟩)⟩)⟩)))
set_option maxRecDepth 1000000 in
theorem tuC1656 : tuGood 1656 := tuGood3 (tuSeg (J := 3) (sp := []) (cs := [ct1415, ct1416, ct1386]) (Or.inl rfl) 171 (by decide +kernel) (fun {T} => (List.forall_mem_cons.mpr ⟨cv1415 ghGd, (List.forall_mem_cons.mpr ⟨cv1416 ghGd, (List.forall_mem_cons.mpr ⟨cv1386 ghGd, (fun _ h => absurd h List.not_mem_nil)⟩)⟩)⟩)))
set_option maxRecDepth 1000000 in
theorem tuC1684 : tuGood 1684 := tuGood3 (tuSeg (J := 3) (sp := []) (cs := [ct1417, ct1418, ct1419]) (Or.inl rfl) 127 (by decide +kernel) (fun {T} => (List.forall_mem_cons.mpr ⟨cv1417 ghGd, (List.forall_mem_cons.mpr ⟨cv1418 ghGd, (List.forall_mem_cons.mpr ⟨cv1419 ghGd, (fun _ h => absurd h List.not_mem_nil)⟩)⟩)⟩)))
set_option maxRecDepth 1000000 in
theorem tuC1712 : tuGood 1712 := tuGood3 (tuSeg (J := 3) (sp := []) (cs := [ct1420, ct1423, ct1421, ct1422]) (Or.inl rfl) 170 (by decide +kernel) (fun {T} => (List.forall_mem_cons.mpr ⟨cv1420 ghGd, (List.forall_mem_cons.mpr ⟨cv1423 ghGd, (List.forall_mem_cons.mpr ⟨cv1421 ghGd, (List.forall_mem_cons.mpr ⟨cv1422 ghGd, (fun _ h => absurd h List.not_mem_nil)⟩)⟩)⟩)⟩)))
set_option maxRecDepth 1000000 in
theorem tuC1764 : tuGood 1764 := tuGood3 (tuSeg (J := 3) (sp := []) (cs := [ct1424, ct1426, ct1425]) (Or.inl rfl) 127 (by decide +kernel) (fun {T} => (List.forall_mem_cons.mpr ⟨cv1424 ghGd, (List.forall_mem_cons.mpr ⟨cv1426 ghGd, (List.forall_mem_cons.mpr ⟨cv1425 ghGd, (fun _ h => absurd h List.not_mem_nil)⟩)⟩)⟩)))
set_option maxRecDepth 1000000 in
theorem tuC1804 : tuGood 1804 := tuGood3 (tuSeg (J := 3) (sp := []) (cs := [ct1604, ct1432, ct1431]) (Or.inl rfl) 488 (by decide +kernel) (fun {T} => (List.forall_mem_cons.mpr ⟨cv1604 ghGd, (List.forall_mem_cons.mpr ⟨cv1432 ghGd, (List.forall_mem_cons.mpr ⟨cv1431 ghGd, (fun _ h => absurd h List.not_mem_nil)⟩)⟩)⟩)))
set_option maxRecDepth 1000000 in
theorem tuC1832 : tuGood 1832 := tuGood3 (tuSeg (J := 3) (sp := []) (cs := [ct1643, ct1645, ct1644]) (Or.inl rfl) 111 (by decide +kernel) (fun {T} => (List.forall_mem_cons.mpr ⟨cv1643 ghGd, (List.forall_mem_cons.mpr ⟨cv1645 ghGd, (List.forall_mem_cons.mpr ⟨cv1644 ghGd, (fun _ h => absurd h List.not_mem_nil)⟩)⟩)⟩)))
set_option maxRecDepth 1000000 in
theorem tuC1860 : tuGood 1860 := tuGood3 (tuSeg (J := 3) (sp := []) (cs := [ct1700, ct1702, ct1701]) (Or.inl rfl) 111 (by decide +kernel) (fun {T} => (List.forall_mem_cons.mpr ⟨cv1700 ghGd, (List.forall_mem_cons.mpr ⟨cv1702 ghGd, (List.forall_mem_cons.mpr ⟨cv1701 ghGd, (fun _ h => absurd h List.not_mem_nil)⟩)⟩)⟩)))
set_option maxRecDepth 1000000 in
theorem tuC1888 : tuGood 1888 := tuGood3 (tuSeg (J := 3) (sp := []) (cs := [ct1713, ct1714]) (Or.inl rfl) 83 (by decide +kernel) (fun {T} => (List.forall_mem_cons.mpr ⟨cv1713 ghGd, (List.forall_mem_cons.mpr ⟨cv1714 ghGd, (fun _ h => absurd h List.not_mem_nil)⟩)⟩)))
end SXL
