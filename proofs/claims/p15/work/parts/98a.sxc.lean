/-! SX: the law's turn, case by case, by program -/
section SXL
set_option maxRecDepth 1000000 in
theorem tuC389 : tuGood 389 := tuGood3 (tuSeg (J := 3) (sp := []) (cs := [ct148, ct110]) (Or.inl rfl) 129 (by decide +kernel) (fun {T} => (List.forall_mem_cons.mpr ⟨cv148 ghGd, (List.forall_mem_cons.mpr ⟨cv110 ghGd, (fun _ h => absurd h List.not_mem_nil)⟩)⟩)))
set_option maxRecDepth 1000000 in
theorem tuC417 : tuGood 417 := tuGood3 (tuSeg (J := 3) (sp := []) (cs := [(ctTng), ct268]) (Or.inl rfl) 135 (by decide +kernel) (fun {T} => (List.forall_mem_cons.mpr ⟨cvTng ghGd, (List.forall_mem_cons.mpr ⟨cv268 ghGd, (fun _ h => absurd h List.not_mem_nil)⟩)⟩)))
set_option maxRecDepth 1000000 in
theorem tuC445 : tuGood 445 := tuGood3 (tuSeg (J := 3) (sp := []) (cs := []) (Or.inl rfl) 80 (by decide +kernel) (fun {T} => (fun _ h => absurd h List.not_mem_nil)))
set_option maxRecDepth 1000000 in
theorem tuC458 : tuGood 458 := tuGood3 (tuSeg (J := 3) (sp := []) (cs := []) (Or.inl rfl) 578 (by decide +kernel) (fun {T} => (fun _ h => absurd h List.not_mem_nil)))
set_option maxRecDepth 1000000 in
theorem tuC486 : tuGood 486 := tuGood3 (tuSeg (J := 3) (sp := []) (cs := []) (Or.inl rfl) 315 (by decide +kernel) (fun {T} => (fun _ h => absurd h List.not_mem_nil)))
set_option maxRecDepth 1000000 in
theorem tuC514 : tuGood 514 := tuGood3 (tuSeg (J := 3) (sp := []) (cs := []) (Or.inl rfl) 299 (by decide +kernel) (fun {T} => (fun _ h => absurd h List.not_mem_nil)))
set_option maxRecDepth 1000000 in
theorem tuC542 : tuGood 542 := tuGood3 (tuSeg (J := 3) (sp := []) (cs := []) (Or.inl rfl) 300 (by decide +kernel) (fun {T} => (fun _ h => absurd h List.not_mem_nil)))
set_option maxRecDepth 1000000 in
theorem tuC570 : tuGood 570 := tuGood3 (tuSeg (J := 3) (sp := []) (cs := [ct377, ct379, ct378]) (Or.inl rfl) 127 (by decide +kernel) (fun {T} => (List.forall_mem_cons.mpr ⟨cv377 ghGd, (List.forall_mem_cons.mpr ⟨cv379 ghGd, (List.forall_mem_cons.mpr ⟨cv378 ghGd, (fun _ h => absurd h List.not_mem_nil)⟩)⟩)⟩)))
set_option maxRecDepth 1000000 in
theorem tuC610 : tuGood 610 := tuGood3 (tuSeg (J := 3) (sp := []) (cs := [ct383, ct382, ct381, ct380]) (Or.inl rfl) 508 (by decide +kernel) (fun {T} => (List.forall_mem_cons.mpr ⟨cv383 ghGd, (List.forall_mem_cons.mpr ⟨cv382 ghGd, (List.forall_mem_cons.mpr ⟨cv381 ghGd, (List.forall_mem_cons.mpr ⟨cv380 ghGd, (fun _ h => absurd h List.not_mem_nil)⟩)⟩)⟩)⟩)))
set_option maxRecDepth 1000000 in
theorem tuC662 : tuGood 662 := tuGood3 (tuSeg (J := 3) (sp := []) (cs := [ct384, ct385]) (Or.inl rfl) 86 (by decide +kernel) (fun {T} => (List.forall_mem_cons.mpr ⟨cv384 ghGd, (List.forall_mem_cons.mpr ⟨cv385 ghGd, (fun _ h => absurd h List.not_mem_nil)⟩)⟩)))
set_option maxRecDepth 1000000 in
theorem tuC675 : tuGood 675 := tuGood3 (tuSeg (J := 3) (sp := []) (cs := [ct386, ct387]) (Or.inl rfl) 73 (by decide +kernel) (fun {T} => (List.forall_mem_cons.mpr ⟨cv386 ghGd, (List.forall_mem_cons.mpr ⟨cv387 ghGd, (fun _ h => absurd h List.not_mem_nil)⟩)⟩)))
set_option maxRecDepth 1000000 in
theorem tuC745 : tuGood 745 := tuGood3 (tuSeg (J := 3) (sp := []) (cs := []) (Or.inl rfl) 199 (by decide +kernel) (fun {T} => (fun _ h => absurd h List.not_mem_nil)))
set_option maxRecDepth 1000000 in
theorem tuC770 : tuGood 770 := tuGood3 (tuSeg (J := 3) (sp := []) (cs := []) (Or.inl rfl) 299 (by decide +kernel) (fun {T} => (fun _ h => absurd h List.not_mem_nil)))
set_option maxRecDepth 1000000 in
theorem tuC798 : tuGood 798 := tuGood3 (tuSeg (J := 3) (sp := [(798, 3, 0)]) (cs := []) (Or.inl rfl) 1639 (by decide +kernel) (fun {T} => (fun _ h => absurd h List.not_mem_nil)))
set_option maxRecDepth 1000000 in
theorem tuC826 : tuGood 826 := tuGood3 (tuSeg (J := 3) (sp := []) (cs := [ct427, ct428, ct516, ct429]) (Or.inl rfl) 464 (by decide +kernel) (fun {T} => (List.forall_mem_cons.mpr ⟨cv427 ghGd, (List.forall_mem_cons.mpr ⟨cv428 ghGd, (List.forall_mem_cons.mpr ⟨cv516 ghGd, (List.forall_mem_cons.mpr ⟨cv429 ghGd, (fun _ h => absurd h List.not_mem_nil)⟩)⟩)⟩)⟩)))
set_option maxRecDepth 1000000 in
theorem tuC854 : tuGood 854 := tuGood3 (tuSeg (J := 3) (sp := []) (cs := [ct517, ct520, ct518, ct519]) (Or.inl rfl) 149 (by decide +kernel) (fun {T} => (List.forall_mem_cons.mpr ⟨cv517 ghGd, (List.forall_mem_cons.mpr ⟨cv520 ghGd, (List.forall_mem_cons.mpr ⟨cv518 ghGd, (List.forall_mem_cons.mpr ⟨cv519 ghGd, (fun _ h => absurd h List.not_mem_nil)⟩)⟩)⟩)⟩)))
set_option maxRecDepth 1000000 in
theorem tuC894 : tuGood 894 := tuGood3 (tuSeg (J := 3) (sp := []) (cs := [ct527, ct531, ct530]) (Or.inl rfl) 111 (by decide +kernel) (fun {T} => (List.forall_mem_cons.mpr ⟨cv527 ghGd, (List.forall_mem_cons.mpr ⟨cv531 ghGd, (List.forall_mem_cons.mpr ⟨cv530 ghGd, (fun _ h => absurd h List.not_mem_nil)⟩)⟩)⟩)))
set_option maxRecDepth 1000000 in
theorem tuC922 : tuGood 922 := tuGood3 (tuSeg (J := 3) (sp := []) (cs := [ct535, ct536]) (Or.inl rfl) 73 (by decide +kernel) (fun {T} => (List.forall_mem_cons.mpr ⟨cv535 ghGd, (List.forall_mem_cons.mpr ⟨cv536 ghGd, (fun _ h => absurd h List.not_mem_nil)⟩)⟩)))
set_option maxRecDepth 1000000 in
theorem tuC935 : tuGood 935 := tuGood3 (tuSeg (J := 3) (sp := []) (cs := [ct749, ct870, ct871]) (Or.inl rfl) 128 (by decide +kernel) (fun {T} => (List.forall_mem_cons.mpr ⟨cv749 ghGd, (List.forall_mem_cons.mpr ⟨cv870 ghGd, (List.forall_mem_cons.mpr ⟨cv871 ghGd, (fun _ h => absurd h List.not_mem_nil)⟩)⟩)⟩)))
set_option maxRecDepth 1000000 in
theorem tuC963 : tuGood 963 := tuGood3 (tuSeg (J := 3) (sp := []) (cs := [ct739, ct740, ct741, ct742, ct743, ct744, ct745, ct746, ct747, ct748, ct896, ct897, ct898, ct899, ct894, ct895, ct873, ct872]) (Or.inl rfl) 568 (by decide +kernel) (fun {T} => (List.forall_mem_cons.mpr ⟨cv739 ghGd, (List.forall_mem_cons.mpr ⟨cv740 ghGd, (List.forall_mem_cons.mpr ⟨cv741 ghGd, (List.forall_mem_cons.mpr ⟨cv742 ghGd, (List.forall_mem_cons.mpr ⟨cv743 ghGd, (List.forall_mem_cons.mpr ⟨cv744 ghGd, (List.forall_mem_cons.mpr ⟨cv745 ghGd, (List.forall_mem_cons.mpr ⟨cv746 ghGd, (List.forall_mem_cons.mpr ⟨cv747 ghGd, (List.forall_mem_cons.mpr ⟨cv748 ghGd, (List.forall_mem_cons.mpr ⟨cv896 ghGd, (List.forall_mem_cons.mpr ⟨cv897 ghGd, (List.forall_mem_cons.mpr ⟨cv898 ghGd, (List.forall_mem_cons.mpr ⟨cv899 ghGd, (List.forall_mem_cons.mpr ⟨cv894 ghGd, (List.forall_mem_cons.mpr ⟨cv895 ghGd, (List.forall_mem_cons.mpr ⟨cv873 ghGd, (List.forall_mem_cons.mpr ⟨cv872 ghGd, (fun _ h => absurd h List.not_mem_nil)⟩)⟩)⟩)⟩)⟩)⟩)⟩)⟩)⟩)⟩)⟩)⟩)⟩)⟩)⟩)⟩)⟩)⟩)))
set_option maxRecDepth 1000000 in
theorem tuC991 : tuGood 991 := tuGood3 (tuSeg (J := 3) (sp := []) (cs := [ct907, ct908]) (Or.inl rfl) 95 (by decide +kernel) (fun {T} => (List.forall_mem_cons.mpr ⟨cv907 ghGd, (List.forall_mem_cons.mpr ⟨cv908 ghGd, (fun _ h => absurd h List.not_mem_nil)⟩)⟩)))
set_option maxRecDepth 1000000 in
theorem tuC1007 : tuGood 1007 := tuGood3 (tuSeg (J := 3) (sp := []) (cs := [ct526, ct528]) (Or.inl rfl) 1253 (by decide +kernel) (fun {T} => (List.forall_mem_cons.mpr ⟨cv526 ghGd, (List.forall_mem_cons.mpr ⟨cv528 ghGd, (fun _ h => absurd h List.not_mem_nil)⟩)⟩)))
set_option maxRecDepth 1000000 in
theorem tuC1047 : tuGood 1047 := tuGood3 (tuSeg (J := 3) (sp := []) (cs := [ct945, ct1025, ct1024]) (Or.inl rfl) 127 (by decide +kernel) (fun {T} => (List.forall_mem_cons.mpr ⟨cv945 ghGd, (List.forall_mem_cons.mpr ⟨cv1025 ghGd, (List.forall_mem_cons.mpr ⟨cv1024 ghGd, (fun _ h => absurd h List.not_mem_nil)⟩)⟩)⟩)))
set_option maxRecDepth 1000000 in
theorem tuC1087 : tuGood 1087 := tuGood3 (tuSeg (J := 3) (sp := []) (cs := [ct944, ct1027, ct1028, ct1026]) (Or.inl rfl) 197 (by decide +kernel) (fun {T} => (List.forall_mem_cons.mpr ⟨cv944 ghGd, (List.forall_mem_cons.mpr ⟨cv1027 ghGd, (List.forall_mem_cons.mpr ⟨cv1028 ghGd, (List.forall_mem_cons.mpr ⟨cv1026 ghGd, (fun _ h => absurd h List.not_mem_nil)⟩)⟩)⟩)⟩)))
set_option maxRecDepth 1000000 in
theorem tuC1127 : tuGood 1127 := tuGood3 (tuSeg (J := 3) (sp := []) (cs := [ct944, ct1030, ct1031, ct1029]) (Or.inl rfl) 177 (by decide +kernel) (fun {T} => (List.forall_mem_cons.mpr ⟨cv944 ghGd, (List.forall_mem_cons.mpr ⟨cv1030 ghGd, (List.forall_mem_cons.mpr ⟨cv1031 ghGd, (List.forall_mem_cons.mpr ⟨cv1029 ghGd, (fun _ h => absurd h List.not_mem_nil)⟩)⟩)⟩)⟩)))
set_option maxRecDepth 1000000 in
theorem tuC1155 : tuGood 1155 := tuGood3 (tuSeg (J := 3) (sp := []) (cs := [ct1032, ct1040, ct1039]) (Or.inl rfl) 127 (by decide +kernel) (fun {T} => (List.forall_mem_cons.mpr ⟨cv1032 ghGd, (List.forall_mem_cons.mpr ⟨cv1040 ghGd, (List.forall_mem_cons.mpr ⟨cv1039 ghGd, (fun _ h => absurd h List.not_mem_nil)⟩)⟩)⟩)))
set_option maxRecDepth 1000000 in
theorem tuC1195 : tuGood 1195 := tuGood3 (tuSeg (J := 3) (sp := []) (cs := [ct1077, ct1079, ct1078]) (Or.inl rfl) 111 (by decide +kernel) (fun {T} => (List.forall_mem_cons.mpr ⟨cv1077 ghGd, (List.forall_mem_cons.mpr ⟨cv1079 ghGd, (List.forall_mem_cons.mpr ⟨cv1078 ghGd, (fun _ h => absurd h List.not_mem_nil)⟩)⟩)⟩)))
set_option maxRecDepth 1000000 in
theorem tuC1223 : tuGood 1223 := tuGood3 (tuSeg (J := 3) (sp := []) (cs := [ct1106, ct1123, ct1122]) (Or.inl rfl) 111 (by decide +kernel) (fun {T} => (List.forall_mem_cons.mpr ⟨cv1106 ghGd, (List.forall_mem_cons.mpr ⟨cv1123 ghGd, (List.forall_mem_cons.mpr ⟨cv1122 ghGd, (fun _ h => absurd h List.not_mem_nil)⟩)⟩)⟩)))
set_option maxRecDepth 1000000 in
theorem tuC1251 : tuGood 1251 := tuGood3 (tuSeg (J := 3) (sp := []) (cs := [ct1091, ct1105, ct1121]) (Or.inl rfl) 555 (by decide +kernel) (fun {T} => (List.forall_mem_cons.mpr ⟨cv1091 ghGd, (List.forall_mem_cons.mpr ⟨cv1105 ghGd, (List.forall_mem_cons.mpr ⟨cv1121 ghGd, (fun _ h => absurd h List.not_mem_nil)⟩)⟩)⟩)))
set_option maxRecDepth 1000000 in
theorem tuC1279 : tuGood 1279 := tuGood3 (tuSeg (J := 3) (sp := []) (cs := [ct384, ct739, ct740, ct741, ct742, ct743, ct744, ct745, ct746, ct747, ct748, ct1292, ct1182, ct1237, ct1126, ct1127, ct1291, ct1236, ct1181, ct1125, ct1124]) (Or.inl rfl) 605 (by decide +kernel) (fun {T} => (List.forall_mem_cons.mpr ⟨cv384 ghGd, (List.forall_mem_cons.mpr ⟨cv739 ghGd, (List.forall_mem_cons.mpr ⟨cv740 ghGd, (List.forall_mem_cons.mpr ⟨cv741 ghGd, (List.forall_mem_cons.mpr ⟨cv742 ghGd, (List.forall_mem_cons.mpr ⟨cv743 ghGd, (List.forall_mem_cons.mpr ⟨cv744 ghGd, (List.forall_mem_cons.mpr ⟨cv745 ghGd, (List.forall_mem_cons.mpr ⟨cv746 ghGd, (List.forall_mem_cons.mpr ⟨cv747 ghGd, (List.forall_mem_cons.mpr ⟨cv748 ghGd, (List.forall_mem_cons.mpr ⟨cv1292 ghGd, (List.forall_mem_cons.mpr ⟨cv1182 ghGd, (List.forall_mem_cons.mpr ⟨cv1237 ghGd, (List.forall_mem_cons.mpr ⟨cv1126 ghGd, (List.forall_mem_cons.mpr ⟨cv1127 ghGd, (List.forall_mem_cons.mpr ⟨cv1291 ghGd, (List.forall_mem_cons.mpr ⟨cv1236 ghGd, (List.forall_mem_cons.mpr ⟨cv1181 ghGd, (List.forall_mem_cons.mpr ⟨cv1125 ghGd, (List.forall_mem_cons.mpr ⟨cv1124 ghGd, (fun _ h => absurd h List.not_mem_nil)⟩)⟩)⟩)⟩)⟩)⟩)⟩)⟩)⟩)⟩)⟩)⟩)⟩)⟩)⟩)⟩)⟩)⟩)⟩)⟩)⟩)))
set_option maxRecDepth 1000000 in
theorem tuC1307 : tuGood 1307 := tuGood3 (tuSeg (J := 3) (sp := []) (cs := [ct1294, ct1297, ct1296]) (Or.inl rfl) 143 (by decide +kernel) (fun {T} => (List.forall_mem_cons.mpr ⟨cv1294 ghGd, (List.forall_mem_cons.mpr ⟨cv1297 ghGd, (List.forall_mem_cons.mpr ⟨cv1296 ghGd, (fun _ h => absurd h List.not_mem_nil)⟩)⟩)⟩)))
set_option maxRecDepth 1000000 in
theorem tuC1359 : tuGood 1359 := tuGood3 (tuSeg (J := 3) (sp := []) (cs := [ct1293, ct1295]) (Or.inl rfl) 223 (by decide +kernel) (fun {T} => (List.forall_mem_cons.mpr ⟨cv1293 ghGd, (List.forall_mem_cons.mpr ⟨cv1295 ghGd, (fun _ h => absurd h List.not_mem_nil)⟩)⟩)))
set_option maxRecDepth 1000000 in
theorem tuC1396 : tuGood 1396 := tuGood3 (tuSeg (J := 3) (sp := []) (cs := [ct428, ct1308, ct1309]) (Or.inl rfl) 564 (by decide +kernel) (fun {T} => (List.forall_mem_cons.mpr ⟨cv428 ghGd, (List.forall_mem_cons.mpr ⟨cv1308 ghGd, (List.forall_mem_cons.mpr ⟨cv1309 ghGd, (fun _ h => absurd h List.not_mem_nil)⟩)⟩)⟩)))
set_option maxRecDepth 1000000 in
theorem tuC1436 : tuGood 1436 := tuGood3 (tuSeg (J := 3) (sp := []) (cs := [ct1358, ct1377, ct1376]) (Or.inl rfl) 111 (by decide +kernel) (fun {T} => (List.forall_mem_cons.mpr ⟨cv1358 ghGd, (List.forall_mem_cons.mpr ⟨cv1377 ghGd, (List.forall_mem_cons.mpr ⟨cv1376 ghGd, (fun _ h => absurd h List.not_mem_nil)⟩)⟩)⟩)))
set_option maxRecDepth 1000000 in
theorem tuC1464 : tuGood 1464 := tuGood3 (tuSeg (J := 3) (sp := []) (cs := [ct1378, ct1380, ct1379]) (Or.inl rfl) 111 (by decide +kernel) (fun {T} => (List.forall_mem_cons.mpr ⟨cv1378 ghGd, (List.forall_mem_cons.mpr ⟨cv1380 ghGd, (List.forall_mem_cons.mpr ⟨cv1379 ghGd, (fun _ h => absurd h List.not_mem_nil)⟩)⟩)⟩)))
end SXL
