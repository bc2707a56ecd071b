/-! SX: the law's turn, case by case, by program -/
section SXL
set_option maxRecDepth 1000000 in
theorem lwC288 : lwGood 288 := lwSeg (cs := [ct2160, ct2161]) 154 (by decide +kernel) (List.forall_mem_cons.mpr ⟨cv2160 ghGd, (List.forall_mem_cons.mpr ⟨cv2161 ghGd, (fun _ h => absurd h List.not_mem_nil)⟩)⟩)
set_option maxRecDepth 1000000 in
theorem lwC361 : lwGood 361 := lwSeg (cs := [ct2159, ct2117]) 129 (by decide +kernel) (List.forall_mem_cons.mpr ⟨cv2159 ghGd, (List.forall_mem_cons.mpr ⟨cv2117 ghGd, (fun _ h => absurd h List.not_mem_nil)⟩)⟩)
set_option maxRecDepth 1000000 in
theorem lwC389 : lwGood 389 := lwSeg (cs := [ct1969, ct1932]) 129 (by decide +kernel) (List.forall_mem_cons.mpr ⟨cv1969 ghGd, (List.forall_mem_cons.mpr ⟨cv1932 ghGd, (fun _ h => absurd h List.not_mem_nil)⟩)⟩)
set_option maxRecDepth 1000000 in
theorem lwC417 : lwGood 417 := lwSeg (cs := [(ctTng), ct1716]) 135 (by decide +kernel) (List.forall_mem_cons.mpr ⟨cvTng ghGd, (List.forall_mem_cons.mpr ⟨cv1716 ghGd, (fun _ h => absurd h List.not_mem_nil)⟩)⟩)
set_option maxRecDepth 1000000 in
theorem lwC445 : lwGood 445 := lwSeg (cs := []) 80 (by decide +kernel) (fun _ h => absurd h List.not_mem_nil)
set_option maxRecDepth 1000000 in
theorem lwC458 : lwGood 458 := lwSeg (cs := []) 802 (by decide +kernel) (fun _ h => absurd h List.not_mem_nil)
set_option maxRecDepth 1000000 in
theorem lwC486 : lwGood 486 := lwSeg (cs := []) 605 (by decide +kernel) (fun _ h => absurd h List.not_mem_nil)
set_option maxRecDepth 1000000 in
theorem lwC514 : lwGood 514 := lwSeg (cs := []) 576 (by decide +kernel) (fun _ h => absurd h List.not_mem_nil)
set_option maxRecDepth 1000000 in
theorem lwC542 : lwGood 542 := lwSeg (cs := []) 360 (by decide +kernel) (fun _ h => absurd h List.not_mem_nil)
set_option maxRecDepth 1000000 in
theorem lwC570 : lwGood 570 := lwSeg (cs := [ct1593, ct1595, ct1594]) 127 (by decide +kernel) (List.forall_mem_cons.mpr ⟨cv1593 ghGd, (List.forall_mem_cons.mpr ⟨cv1595 ghGd, (List.forall_mem_cons.mpr ⟨cv1594 ghGd, (fun _ h => absurd h List.not_mem_nil)⟩)⟩)⟩)
set_option maxRecDepth 1000000 in
theorem lwC610 : lwGood 610 := lwSeg (cs := [ct1592, ct1591, ct1590, ct1589]) 885 (by decide +kernel) (List.forall_mem_cons.mpr ⟨cv1592 ghGd, (List.forall_mem_cons.mpr ⟨cv1591 ghGd, (List.forall_mem_cons.mpr ⟨cv1590 ghGd, (List.forall_mem_cons.mpr ⟨cv1589 ghGd, (fun _ h => absurd h List.not_mem_nil)⟩)⟩)⟩)⟩)
set_option maxRecDepth 1000000 in
theorem lwC662 : lwGood 662 := lwSeg (cs := [ct260, ct388, ct393]) 108 (by decide +kernel) (List.forall_mem_cons.mpr ⟨cv260 ghGd, (List.forall_mem_cons.mpr ⟨cv388 ghGd, (List.forall_mem_cons.mpr ⟨cv393 ghGd, (fun _ h => absurd h List.not_mem_nil)⟩)⟩)⟩)
set_option maxRecDepth 1000000 in
theorem lwC675 : lwGood 675 := lwSeg (cs := [ct1587, ct1588]) 73 (by decide +kernel) (List.forall_mem_cons.mpr ⟨cv1587 ghGd, (List.forall_mem_cons.mpr ⟨cv1588 ghGd, (fun _ h => absurd h List.not_mem_nil)⟩)⟩)
set_option maxRecDepth 1000000 in
theorem lwC688 : lwGood 688 := lwSeg (cs := [ct1585, ct1586]) 107 (by decide +kernel) (List.forall_mem_cons.mpr ⟨cv1585 ghGd, (List.forall_mem_cons.mpr ⟨cv1586 ghGd, (fun _ h => absurd h List.not_mem_nil)⟩)⟩)
set_option maxRecDepth 1000000 in
theorem lwC745 : lwGood 745 := lwSeg (cs := []) 343 (by decide +kernel) (fun _ h => absurd h List.not_mem_nil)
set_option maxRecDepth 1000000 in
theorem lwC770 : lwGood 770 := lwSeg (cs := []) 299 (by decide +kernel) (fun _ h => absurd h List.not_mem_nil)
set_option maxRecDepth 1000000 in
theorem lwC798 : lwGood 798 := lwSeg (cs := [ct1584, ct1583]) 268 (by decide +kernel) (List.forall_mem_cons.mpr ⟨cv1584 ghGd, (List.forall_mem_cons.mpr ⟨cv1583 ghGd, (fun _ h => absurd h List.not_mem_nil)⟩)⟩)
set_option maxRecDepth 1000000 in
theorem lwC826 : lwGood 826 := lwSeg (cs := [ct386, ct540, ct235, ct392]) 684 (by decide +kernel) (List.forall_mem_cons.mpr ⟨cv386 ghGd, (List.forall_mem_cons.mpr ⟨cv540 ghGd, (List.forall_mem_cons.mpr ⟨cv235 ghGd, (List.forall_mem_cons.mpr ⟨cv392 ghGd, (fun _ h => absurd h List.not_mem_nil)⟩)⟩)⟩)⟩)
set_option maxRecDepth 1000000 in
theorem lwC854 : lwGood 854 := lwSeg (cs := [ct1579, ct1582, ct1580, ct1581]) 149 (by decide +kernel) (List.forall_mem_cons.mpr ⟨cv1579 ghGd, (List.forall_mem_cons.mpr ⟨cv1582 ghGd, (List.forall_mem_cons.mpr ⟨cv1580 ghGd, (List.forall_mem_cons.mpr ⟨cv1581 ghGd, (fun _ h => absurd h List.not_mem_nil)⟩)⟩)⟩)⟩)
set_option maxRecDepth 1000000 in
theorem lwC894 : lwGood 894 := lwSeg (cs := [ct1576, ct1578, ct1577]) 111 (by decide +kernel) (List.forall_mem_cons.mpr ⟨cv1576 ghGd, (List.forall_mem_cons.mpr ⟨cv1578 ghGd, (List.forall_mem_cons.mpr ⟨cv1577 ghGd, (fun _ h => absurd h List.not_mem_nil)⟩)⟩)⟩)
set_option maxRecDepth 1000000 in
theorem lwC922 : lwGood 922 := lwSeg (cs := [ct1573, ct1574]) 73 (by decide +kernel) (List.forall_mem_cons.mpr ⟨cv1573 ghGd, (List.forall_mem_cons.mpr ⟨cv1574 ghGd, (fun _ h => absurd h List.not_mem_nil)⟩)⟩)
set_option maxRecDepth 1000000 in
theorem lwC935 : lwGood 935 := lwSeg (cs := [ct1570, ct1571, ct1572]) 128 (by decide +kernel) (List.forall_mem_cons.mpr ⟨cv1570 ghGd, (List.forall_mem_cons.mpr ⟨cv1571 ghGd, (List.forall_mem_cons.mpr ⟨cv1572 ghGd, (fun _ h => absurd h List.not_mem_nil)⟩)⟩)⟩)
set_option maxRecDepth 1000000 in
theorem lwC963 : lwGood 963 := lwSeg (cs := [ct899, ct900, ct1043, ct1044, ct1045, ct1046, ct1047, ct1048, ct1049, ct1050, ct1051, ct1052, ct1053, ct1054, ct935, ct936, ct971, ct972, ct1007, ct1008, ct1549, ct1551, ct1552, ct1553, ct1554, ct1550, ct1548, ct1547]) 1027 (by decide +kernel) (List.forall_mem_cons.mpr ⟨cv899 ghGd, (List.forall_mem_cons.mpr ⟨cv900 ghGd, (List.forall_mem_cons.mpr ⟨cv1043 ghGd, (List.forall_mem_cons.mpr ⟨cv1044 ghGd, (List.forall_mem_cons.mpr ⟨cv1045 ghGd, (List.forall_mem_cons.mpr ⟨cv1046 ghGd, (List.forall_mem_cons.mpr ⟨cv1047 ghGd, (List.forall_mem_cons.mpr ⟨cv1048 ghGd, (List.forall_mem_cons.mpr ⟨cv1049 ghGd, (List.forall_mem_cons.mpr ⟨cv1050 ghGd, (List.forall_mem_cons.mpr ⟨cv1051 ghGd, (List.forall_mem_cons.mpr ⟨cv1052 ghGd, (List.forall_mem_cons.mpr ⟨cv1053 ghGd, (List.forall_mem_cons.mpr ⟨cv1054 ghGd, (List.forall_mem_cons.mpr ⟨cv935 ghGd, (List.forall_mem_cons.mpr ⟨cv936 ghGd, (List.forall_mem_cons.mpr ⟨cv971 ghGd, (List.forall_mem_cons.mpr ⟨cv972 ghGd, (List.forall_mem_cons.mpr ⟨cv1007 ghGd, (List.forall_mem_cons.mpr ⟨cv1008 ghGd, (List.forall_mem_cons.mpr ⟨cv1549 ghGd, (List.forall_mem_cons.mpr ⟨cv1551 ghGd, (List.forall_mem_cons.mpr ⟨cv1552 ghGd, (List.forall_mem_cons.mpr ⟨cv1553 ghGd, (List.forall_mem_cons.mpr ⟨cv1554 ghGd, (List.forall_mem_cons.mpr ⟨cv1550 ghGd, (List.forall_mem_cons.mpr ⟨cv1548 ghGd, (List.forall_mem_cons.mpr ⟨cv1547 ghGd, (fun _ h => absurd h List.not_mem_nil)⟩)⟩)⟩)⟩)⟩)⟩)⟩)⟩)⟩)⟩)⟩)⟩)⟩)⟩)⟩)⟩)⟩)⟩)⟩)⟩)⟩)⟩)⟩)⟩)⟩)⟩)⟩)⟩)
set_option maxRecDepth 1000000 in
theorem lwC991 : lwGood 991 := lwSeg (cs := [ct1545, ct1546]) 95 (by decide +kernel) (List.forall_mem_cons.mpr ⟨cv1545 ghGd, (List.forall_mem_cons.mpr ⟨cv1546 ghGd, (fun _ h => absurd h List.not_mem_nil)⟩)⟩)
set_option maxRecDepth 1000000 in
theorem lwC1007 : lwGood 1007 := lwSeg (cs := [ct542, ct543, ct1146]) 2423 (by decide +kernel) (List.forall_mem_cons.mpr ⟨cv542 ghGd, (List.forall_mem_cons.mpr ⟨cv543 ghGd, (List.forall_mem_cons.mpr ⟨cv1146 ghGd, (fun _ h => absurd h List.not_mem_nil)⟩)⟩)⟩)
set_option maxRecDepth 1000000 in
theorem lwC1047 : lwGood 1047 := lwSeg (cs := [ct1534, ct1538, ct1537]) 127 (by decide +kernel) (List.forall_mem_cons.mpr ⟨cv1534 ghGd, (List.forall_mem_cons.mpr ⟨cv1538 ghGd, (List.forall_mem_cons.mpr ⟨cv1537 ghGd, (fun _ h => absurd h List.not_mem_nil)⟩)⟩)⟩)
set_option maxRecDepth 1000000 in
theorem lwC1087 : lwGood 1087 := lwSeg (cs := [ct1474, ct1471, ct1528, ct1529, ct1501]) 231 (by decide +kernel) (List.forall_mem_cons.mpr ⟨cv1474 ghGd, (List.forall_mem_cons.mpr ⟨cv1471 ghGd, (List.forall_mem_cons.mpr ⟨cv1528 ghGd, (List.forall_mem_cons.mpr ⟨cv1529 ghGd, (List.forall_mem_cons.mpr ⟨cv1501 ghGd, (fun _ h => absurd h List.not_mem_nil)⟩)⟩)⟩)⟩)⟩)
set_option maxRecDepth 1000000 in
theorem lwC1127 : lwGood 1127 := lwSeg (cs := [ct1474, ct1471, ct1472, ct1473, ct1470]) 207 (by decide +kernel) (List.forall_mem_cons.mpr ⟨cv1474 ghGd, (List.forall_mem_cons.mpr ⟨cv1471 ghGd, (List.forall_mem_cons.mpr ⟨cv1472 ghGd, (List.forall_mem_cons.mpr ⟨cv1473 ghGd, (List.forall_mem_cons.mpr ⟨cv1470 ghGd, (fun _ h => absurd h List.not_mem_nil)⟩)⟩)⟩)⟩)⟩)
set_option maxRecDepth 1000000 in
theorem lwC1155 : lwGood 1155 := lwSeg (cs := [ct1439, ct1443, ct1442]) 127 (by decide +kernel) (List.forall_mem_cons.mpr ⟨cv1439 ghGd, (List.forall_mem_cons.mpr ⟨cv1443 ghGd, (List.forall_mem_cons.mpr ⟨cv1442 ghGd, (fun _ h => absurd h List.not_mem_nil)⟩)⟩)⟩)
set_option maxRecDepth 1000000 in
theorem lwC1195 : lwGood 1195 := lwSeg (cs := [ct1436, ct1438, ct1437]) 111 (by decide +kernel) (List.forall_mem_cons.mpr ⟨cv1436 ghGd, (List.forall_mem_cons.mpr ⟨cv1438 ghGd, (List.forall_mem_cons.mpr ⟨cv1437 ghGd, (fun _ h => absurd h List.not_mem_nil)⟩)⟩)⟩)
set_option maxRecDepth 1000000 in
theorem lwC1223 : lwGood 1223 := lwSeg (cs := [ct1383, ct1399, ct1398]) 111 (by decide +kernel) (List.forall_mem_cons.mpr ⟨cv1383 ghGd, (List.forall_mem_cons.mpr ⟨cv1399 ghGd, (List.forall_mem_cons.mpr ⟨cv1398 ghGd, (fun _ h => absurd h List.not_mem_nil)⟩)⟩)⟩)
end SXL
