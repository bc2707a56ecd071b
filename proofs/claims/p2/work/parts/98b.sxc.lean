/-! SX: the law's turn, case by case, by program -/
section SXL
set_option maxRecDepth 1000000 in
theorem lwC1251 : lwGood 1251 := lwSeg (cs := [ct1368, ct1331, ct1326]) 1033 (by decide +kernel) (List.forall_mem_cons.mpr ⟨cv1368 ghGd, (List.forall_mem_cons.mpr ⟨cv1331 ghGd, (List.forall_mem_cons.mpr ⟨cv1326 ghGd, (fun _ h => absurd h List.not_mem_nil)⟩)⟩)⟩)
set_option maxRecDepth 1000000 in
theorem lwC1279 : lwGood 1279 := lwSeg (cs := [ct260, ct388, ct899, ct900, ct1043, ct1044, ct1045, ct1046, ct1047, ct1048, ct1049, ct1050, ct1051, ct1052, ct1053, ct1054, ct935, ct936, ct971, ct972, ct1007, ct1008, ct1159, ct1160, ct1325, ct1215, ct1270, ct1324, ct1269, ct1214, ct1158, ct1157]) 1067 (by decide +kernel) (List.forall_mem_cons.mpr ⟨cv260 ghGd, (List.forall_mem_cons.mpr ⟨cv388 ghGd, (List.forall_mem_cons.mpr ⟨cv899 ghGd, (List.forall_mem_cons.mpr ⟨cv900 ghGd, (List.forall_mem_cons.mpr ⟨cv1043 ghGd, (List.forall_mem_cons.mpr ⟨cv1044 ghGd, (List.forall_mem_cons.mpr ⟨cv1045 ghGd, (List.forall_mem_cons.mpr ⟨cv1046 ghGd, (List.forall_mem_cons.mpr ⟨cv1047 ghGd, (List.forall_mem_cons.mpr ⟨cv1048 ghGd, (List.forall_mem_cons.mpr ⟨cv1049 ghGd, (List.forall_mem_cons.mpr ⟨cv1050 ghGd, (List.forall_mem_cons.mpr ⟨cv1051 ghGd, (List.forall_mem_cons.mpr ⟨cv1052 ghGd, (List.forall_mem_cons.mpr ⟨cv1053 ghGd, (List.forall_mem_cons.mpr ⟨cv1054 ghGd, (List.forall_mem_cons.mpr ⟨cv935 ghGd, (List.forall_mem_cons.mpr ⟨cv936 ghGd, (List.forall_mem_cons.mpr ⟨cv971 ghGd, (List.forall_mem_cons.mpr ⟨cv972 ghGd, (List.forall_mem_cons.mpr ⟨cv1007 ghGd, (List.forall_mem_cons.mpr ⟨cv1008 ghGd, (List.forall_mem_cons.mpr ⟨cv1159 ghGd, (List.forall_mem_cons.mpr ⟨cv1160 ghGd, (List.forall_mem_cons.mpr ⟨cv1325 ghGd, (List.forall_mem_cons.mpr ⟨cv1215 ghGd, (List.forall_mem_cons.mpr ⟨cv1270 ghGd, (List.forall_mem_cons.mpr ⟨cv1324 ghGd, (List.forall_mem_cons.mpr ⟨cv1269 ghGd, (List.forall_mem_cons.mpr ⟨cv1214 ghGd, (List.forall_mem_cons.mpr ⟨cv1158 ghGd, (List.forall_mem_cons.mpr ⟨cv1157 ghGd, (fun _ h => absurd h List.not_mem_nil)⟩)⟩)⟩)⟩)⟩)⟩)⟩)⟩)⟩)⟩)⟩)⟩)⟩)⟩)⟩)⟩)⟩)⟩)⟩)⟩)⟩)⟩)⟩)⟩)⟩)⟩)⟩)⟩)⟩)⟩)⟩)⟩)
set_option maxRecDepth 1000000 in
theorem lwC1307 : lwGood 1307 := lwSeg (cs := [ct1154, ct1156, ct1155]) 143 (by decide +kernel) (List.forall_mem_cons.mpr ⟨cv1154 ghGd, (List.forall_mem_cons.mpr ⟨cv1156 ghGd, (List.forall_mem_cons.mpr ⟨cv1155 ghGd, (fun _ h => absurd h List.not_mem_nil)⟩)⟩)⟩)
set_option maxRecDepth 1000000 in
theorem lwC1359 : lwGood 1359 := lwSeg (cs := [ct791, ct793]) 388 (by decide +kernel) (List.forall_mem_cons.mpr ⟨cv791 ghGd, (List.forall_mem_cons.mpr ⟨cv793 ghGd, (fun _ h => absurd h List.not_mem_nil)⟩)⟩)
set_option maxRecDepth 1000000 in
theorem lwC1396 : lwGood 1396 := lwSeg (cs := [ct540, ct420, ct545]) 564 (by decide +kernel) (List.forall_mem_cons.mpr ⟨cv540 ghGd, (List.forall_mem_cons.mpr ⟨cv420 ghGd, (List.forall_mem_cons.mpr ⟨cv545 ghGd, (fun _ h => absurd h List.not_mem_nil)⟩)⟩)⟩)
set_option maxRecDepth 1000000 in
theorem lwC1436 : lwGood 1436 := lwSeg (cs := [ct1151, ct1153, ct1152]) 111 (by decide +kernel) (List.forall_mem_cons.mpr ⟨cv1151 ghGd, (List.forall_mem_cons.mpr ⟨cv1153 ghGd, (List.forall_mem_cons.mpr ⟨cv1152 ghGd, (fun _ h => absurd h List.not_mem_nil)⟩)⟩)⟩)
set_option maxRecDepth 1000000 in
theorem lwC1464 : lwGood 1464 := lwSeg (cs := [ct1148, ct1150, ct1149]) 111 (by decide +kernel) (List.forall_mem_cons.mpr ⟨cv1148 ghGd, (List.forall_mem_cons.mpr ⟨cv1150 ghGd, (List.forall_mem_cons.mpr ⟨cv1149 ghGd, (fun _ h => absurd h List.not_mem_nil)⟩)⟩)⟩)
set_option maxRecDepth 1000000 in
theorem lwC1492 : lwGood 1492 := lwSeg (cs := [ct542, ct543, ct1146]) 1659 (by decide +kernel) (List.forall_mem_cons.mpr ⟨cv542 ghGd, (List.forall_mem_cons.mpr ⟨cv543 ghGd, (List.forall_mem_cons.mpr ⟨cv1146 ghGd, (fun _ h => absurd h List.not_mem_nil)⟩)⟩)⟩)
set_option maxRecDepth 1000000 in
theorem lwC1532 : lwGood 1532 := lwSeg (cs := [ct1145, ct1146, ct1147]) 474 (by decide +kernel) (List.forall_mem_cons.mpr ⟨cv1145 ghGd, (List.forall_mem_cons.mpr ⟨cv1146 ghGd, (List.forall_mem_cons.mpr ⟨cv1147 ghGd, (fun _ h => absurd h List.not_mem_nil)⟩)⟩)⟩)
set_option maxRecDepth 1000000 in
theorem lwC1572 : lwGood 1572 := lwSeg (cs := [ct1144, ct235, ct392]) 293 (by decide +kernel) (List.forall_mem_cons.mpr ⟨cv1144 ghGd, (List.forall_mem_cons.mpr ⟨cv235 ghGd, (List.forall_mem_cons.mpr ⟨cv392 ghGd, (fun _ h => absurd h List.not_mem_nil)⟩)⟩)⟩)
set_option maxRecDepth 1000000 in
theorem lwC1600 : lwGood 1600 := lwSeg (cs := [ct1141, ct1143, ct1142]) 111 (by decide +kernel) (List.forall_mem_cons.mpr ⟨cv1141 ghGd, (List.forall_mem_cons.mpr ⟨cv1143 ghGd, (List.forall_mem_cons.mpr ⟨cv1142 ghGd, (fun _ h => absurd h List.not_mem_nil)⟩)⟩)⟩)
set_option maxRecDepth 1000000 in
theorem lwC1628 : lwGood 1628 := lwSeg (cs := [ct1138, ct1140, ct1139, ct1109]) 195 (by decide +kernel) (List.forall_mem_cons.mpr ⟨cv1138 ghGd, (List.forall_mem_cons.mpr ⟨cv1140 ghGd, (List.forall_mem_cons.mpr ⟨cv1139 ghGd, (List.forall_mem_cons.mpr ⟨cv1109 ghGd, (fun _ h => absurd h List.not_mem_nil)⟩)⟩)⟩)⟩)
set_option maxRecDepth 1000000 in
theorem lwC1656 : lwGood 1656 := lwSeg (cs := [ct1055, ct1107, ct1108]) 127 (by decide +kernel) (List.forall_mem_cons.mpr ⟨cv1055 ghGd, (List.forall_mem_cons.mpr ⟨cv1107 ghGd, (List.forall_mem_cons.mpr ⟨cv1108 ghGd, (fun _ h => absurd h List.not_mem_nil)⟩)⟩)⟩)
set_option maxRecDepth 1000000 in
theorem lwC1684 : lwGood 1684 := lwSeg (cs := [ct792, ct796, ct794, ct795]) 170 (by decide +kernel) (List.forall_mem_cons.mpr ⟨cv792 ghGd, (List.forall_mem_cons.mpr ⟨cv796 ghGd, (List.forall_mem_cons.mpr ⟨cv794 ghGd, (List.forall_mem_cons.mpr ⟨cv795 ghGd, (fun _ h => absurd h List.not_mem_nil)⟩)⟩)⟩)⟩)
set_option maxRecDepth 1000000 in
theorem lwC1736 : lwGood 1736 := lwSeg (cs := [ct788, ct790, ct789]) 127 (by decide +kernel) (List.forall_mem_cons.mpr ⟨cv788 ghGd, (List.forall_mem_cons.mpr ⟨cv790 ghGd, (List.forall_mem_cons.mpr ⟨cv789 ghGd, (fun _ h => absurd h List.not_mem_nil)⟩)⟩)⟩)
set_option maxRecDepth 1000000 in
theorem lwC1776 : lwGood 1776 := lwSeg (cs := [ct787, ct615, ct614]) 867 (by decide +kernel) (List.forall_mem_cons.mpr ⟨cv787 ghGd, (List.forall_mem_cons.mpr ⟨cv615 ghGd, (List.forall_mem_cons.mpr ⟨cv614 ghGd, (fun _ h => absurd h List.not_mem_nil)⟩)⟩)⟩)
set_option maxRecDepth 1000000 in
theorem lwC1804 : lwGood 1804 := lwSeg (cs := [ct603, ct609, ct608]) 111 (by decide +kernel) (List.forall_mem_cons.mpr ⟨cv603 ghGd, (List.forall_mem_cons.mpr ⟨cv609 ghGd, (List.forall_mem_cons.mpr ⟨cv608 ghGd, (fun _ h => absurd h List.not_mem_nil)⟩)⟩)⟩)
set_option maxRecDepth 1000000 in
theorem lwC1832 : lwGood 1832 := lwSeg (cs := [ct544, ct564, ct563]) 111 (by decide +kernel) (List.forall_mem_cons.mpr ⟨cv544 ghGd, (List.forall_mem_cons.mpr ⟨cv564 ghGd, (List.forall_mem_cons.mpr ⟨cv563 ghGd, (fun _ h => absurd h List.not_mem_nil)⟩)⟩)⟩)
set_option maxRecDepth 1000000 in
theorem lwC1860 : lwGood 1860 := lwSeg (cs := [ct408, ct409]) 83 (by decide +kernel) (List.forall_mem_cons.mpr ⟨cv408 ghGd, (List.forall_mem_cons.mpr ⟨cv409 ghGd, (fun _ h => absurd h List.not_mem_nil)⟩)⟩)
set_option maxRecDepth 1000000 in
theorem lwC1885 : lwGood 1885 := lwSeg (cs := [ct395, ct397, ct396]) 111 (by decide +kernel) (List.forall_mem_cons.mpr ⟨cv395 ghGd, (List.forall_mem_cons.mpr ⟨cv397 ghGd, (List.forall_mem_cons.mpr ⟨cv396 ghGd, (fun _ h => absurd h List.not_mem_nil)⟩)⟩)⟩)
set_option maxRecDepth 1000000 in
theorem lwC1913 : lwGood 1913 := lwSeg (cs := [ct391, ct394]) 73 (by decide +kernel) (List.forall_mem_cons.mpr ⟨cv391 ghGd, (List.forall_mem_cons.mpr ⟨cv394 ghGd, (fun _ h => absurd h List.not_mem_nil)⟩)⟩)
set_option maxRecDepth 1000000 in
theorem lwC1926 : lwGood 1926 := lwSeg (cs := [ct86, ct259]) 73 (by decide +kernel) (List.forall_mem_cons.mpr ⟨cv86 ghGd, (List.forall_mem_cons.mpr ⟨cv259 ghGd, (fun _ h => absurd h List.not_mem_nil)⟩)⟩)
set_option maxRecDepth 1000000 in
theorem lwC1939 : lwGood 1939 := lwSeg (cs := [ct32, ct33, ct25, ct30, ct28, ct31, ct29, ct23, ct22, ct21, ct20]) 1024 (by decide +kernel) (List.forall_mem_cons.mpr ⟨cv32 ghGd, (List.forall_mem_cons.mpr ⟨cv33 ghGd, (List.forall_mem_cons.mpr ⟨cv25 ghGd, (List.forall_mem_cons.mpr ⟨cv30 ghGd, (List.forall_mem_cons.mpr ⟨cv28 ghGd, (List.forall_mem_cons.mpr ⟨cv31 ghGd, (List.forall_mem_cons.mpr ⟨cv29 ghGd, (List.forall_mem_cons.mpr ⟨cv23 ghGd, (List.forall_mem_cons.mpr ⟨cv22 ghGd, (List.forall_mem_cons.mpr ⟨cv21 ghGd, (List.forall_mem_cons.mpr ⟨cv20 ghGd, (fun _ h => absurd h List.not_mem_nil)⟩)⟩)⟩)⟩)⟩)⟩)⟩)⟩)⟩)⟩)⟩)
set_option maxRecDepth 1000000 in
theorem lwC2003 : lwGood 2003 := lwSeg (cs := [ct6, ct7, ct8, ct1, ct2, ct3]) 426 (by decide +kernel) (List.forall_mem_cons.mpr ⟨cv6 ghGd, (List.forall_mem_cons.mpr ⟨cv7 ghGd, (List.forall_mem_cons.mpr ⟨cv8 ghGd, (List.forall_mem_cons.mpr ⟨cv1 ghGd, (List.forall_mem_cons.mpr ⟨cv2 ghGd, (List.forall_mem_cons.mpr ⟨cv3 ghGd, (fun _ h => absurd h List.not_mem_nil)⟩)⟩)⟩)⟩)⟩)⟩)
set_option maxRecDepth 1000000 in
theorem lwC2016 : lwGood 2016 := lwSeg (cs := [ct0, ct4, ct5, ct1, ct2, ct3]) 361 (by decide +kernel) (List.forall_mem_cons.mpr ⟨cv0 ghGd, (List.forall_mem_cons.mpr ⟨cv4 ghGd, (List.forall_mem_cons.mpr ⟨cv5 ghGd, (List.forall_mem_cons.mpr ⟨cv1 ghGd, (List.forall_mem_cons.mpr ⟨cv2 ghGd, (List.forall_mem_cons.mpr ⟨cv3 ghGd, (fun _ h => absurd h List.not_mem_nil)⟩)⟩)⟩)⟩)⟩)⟩)
set_option maxRecDepth 1000000 in
theorem lwC2029 : lwGood 2029 := lwSeg (cs := []) 183 (by decide +kernel) (fun _ h => absurd h List.not_mem_nil)
set_option maxRecDepth 1000000 in
theorem lwC2054 : lwGood 2054 := lwSeg (cs := []) 171 (by decide +kernel) (fun _ h => absurd h List.not_mem_nil)
set_option maxRecDepth 1000000 in
theorem lwC2079 : lwGood 2079 := lwSeg (cs := []) 64 (by decide +kernel) (fun _ h => absurd h List.not_mem_nil)
end SXL
