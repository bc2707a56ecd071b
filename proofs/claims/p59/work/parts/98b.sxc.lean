/-! SX: the law's turn, case by case, by program -/
section SXL
set_option maxRecDepth 1000000 in
theorem tuC1251 : tuGood 1251 := tuSeg (cs := [ct1275, ct1289, ct1305]) 1033 (by decide +kernel) (fun {T} => (List.forall_mem_cons.mpr ⟨cv1275 ghGd, (List.forall_mem_cons.mpr ⟨cv1289 ghGd, (List.forall_mem_cons.mpr ⟨cv1305 ghGd, (fun _ h => absurd h List.not_mem_nil)⟩)⟩)⟩))
set_option maxRecDepth 1000000 in
theorem tuC1279 : tuGood 1279 := tuSeg (cs := [ct384, ct386, ct896, ct897, ct772, ct898, ct899, ct900, ct776, ct901, ct902, ct903, ct811, ct815, ct850, ct854, ct733, ct737, ct889, ct893, ct894, ct895, ct1421, ct1310, ct1311, ct1476, ct1366, ct1475, ct1420, ct1365, ct1309, ct1308]) 1067 (by decide +kernel) (fun {T} => (List.forall_mem_cons.mpr ⟨cv384 ghGd, (List.forall_mem_cons.mpr ⟨cv386 ghGd, (List.forall_mem_cons.mpr ⟨cv896 ghGd, (List.forall_mem_cons.mpr ⟨cv897 ghGd, (List.forall_mem_cons.mpr ⟨cv772 ghGd, (List.forall_mem_cons.mpr ⟨cv898 ghGd, (List.forall_mem_cons.mpr ⟨cv899 ghGd, (List.forall_mem_cons.mpr ⟨cv900 ghGd, (List.forall_mem_cons.mpr ⟨cv776 ghGd, (List.forall_mem_cons.mpr ⟨cv901 ghGd, (List.forall_mem_cons.mpr ⟨cv902 ghGd, (List.forall_mem_cons.mpr ⟨cv903 ghGd, (List.forall_mem_cons.mpr ⟨cv811 ghGd, (List.forall_mem_cons.mpr ⟨cv815 ghGd, (List.forall_mem_cons.mpr ⟨cv850 ghGd, (List.forall_mem_cons.mpr ⟨cv854 ghGd, (List.forall_mem_cons.mpr ⟨cv733 ghGd, (List.forall_mem_cons.mpr ⟨cv737 ghGd, (List.forall_mem_cons.mpr ⟨cv889 ghGd, (List.forall_mem_cons.mpr ⟨cv893 ghGd, (List.forall_mem_cons.mpr ⟨cv894 ghGd, (List.forall_mem_cons.mpr ⟨cv895 ghGd, (List.forall_mem_cons.mpr ⟨cv1421 ghGd, (List.forall_mem_cons.mpr ⟨cv1310 ghGd, (List.forall_mem_cons.mpr ⟨cv1311 ghGd, (List.forall_mem_cons.mpr ⟨cv1476 ghGd, (List.forall_mem_cons.mpr ⟨cv1366 ghGd, (List.forall_mem_cons.mpr ⟨cv1475 ghGd, (List.forall_mem_cons.mpr ⟨cv1420 ghGd, (List.forall_mem_cons.mpr ⟨cv1365 ghGd, (List.forall_mem_cons.mpr ⟨cv1309 ghGd, (List.forall_mem_cons.mpr ⟨cv1308 ghGd, (fun _ h => absurd h List.not_mem_nil)⟩)⟩)⟩)⟩)⟩)⟩)⟩)⟩)⟩)⟩)⟩)⟩)⟩)⟩)⟩)⟩)⟩)⟩)⟩)⟩)⟩)⟩)⟩)⟩)⟩)⟩)⟩)⟩)⟩)⟩)⟩)⟩))
set_option maxRecDepth 1000000 in
theorem tuC1307 : tuGood 1307 := tuSeg (cs := [ct1478, ct1481, ct1480]) 143 (by decide +kernel) (fun {T} => (List.forall_mem_cons.mpr ⟨cv1478 ghGd, (List.forall_mem_cons.mpr ⟨cv1481 ghGd, (List.forall_mem_cons.mpr ⟨cv1480 ghGd, (fun _ h => absurd h List.not_mem_nil)⟩)⟩)⟩))
set_option maxRecDepth 1000000 in
theorem tuC1359 : tuGood 1359 := tuSeg (cs := [ct1477, ct1479]) 388 (by decide +kernel) (fun {T} => (List.forall_mem_cons.mpr ⟨cv1477 ghGd, (List.forall_mem_cons.mpr ⟨cv1479 ghGd, (fun _ h => absurd h List.not_mem_nil)⟩)⟩))
set_option maxRecDepth 1000000 in
theorem tuC1396 : tuGood 1396 := tuSeg (cs := [ct524, ct1492, ct1493]) 564 (by decide +kernel) (fun {T} => (List.forall_mem_cons.mpr ⟨cv524 ghGd, (List.forall_mem_cons.mpr ⟨cv1492 ghGd, (List.forall_mem_cons.mpr ⟨cv1493 ghGd, (fun _ h => absurd h List.not_mem_nil)⟩)⟩)⟩))
set_option maxRecDepth 1000000 in
theorem tuC1436 : tuGood 1436 := tuSeg (cs := [ct1542, ct1561, ct1560]) 111 (by decide +kernel) (fun {T} => (List.forall_mem_cons.mpr ⟨cv1542 ghGd, (List.forall_mem_cons.mpr ⟨cv1561 ghGd, (List.forall_mem_cons.mpr ⟨cv1560 ghGd, (fun _ h => absurd h List.not_mem_nil)⟩)⟩)⟩))
set_option maxRecDepth 1000000 in
theorem tuC1464 : tuGood 1464 := tuSeg (cs := [ct1562, ct1564, ct1563]) 111 (by decide +kernel) (fun {T} => (List.forall_mem_cons.mpr ⟨cv1562 ghGd, (List.forall_mem_cons.mpr ⟨cv1564 ghGd, (List.forall_mem_cons.mpr ⟨cv1563 ghGd, (fun _ h => absurd h List.not_mem_nil)⟩)⟩)⟩))
set_option maxRecDepth 1000000 in
theorem tuC1492 : tuGood 1492 := tuSeg (cs := [ct617, ct621, ct623]) 1659 (by decide +kernel) (fun {T} => (List.forall_mem_cons.mpr ⟨cv617 ghGd, (List.forall_mem_cons.mpr ⟨cv621 ghGd, (List.forall_mem_cons.mpr ⟨cv623 ghGd, (fun _ h => absurd h List.not_mem_nil)⟩)⟩)⟩))
set_option maxRecDepth 1000000 in
theorem tuC1532 : tuGood 1532 := tuSeg (cs := [ct1565, ct623, ct1566]) 474 (by decide +kernel) (fun {T} => (List.forall_mem_cons.mpr ⟨cv1565 ghGd, (List.forall_mem_cons.mpr ⟨cv623 ghGd, (List.forall_mem_cons.mpr ⟨cv1566 ghGd, (fun _ h => absurd h List.not_mem_nil)⟩)⟩)⟩))
set_option maxRecDepth 1000000 in
theorem tuC1572 : tuGood 1572 := tuSeg (cs := [ct1567, ct612, ct525]) 293 (by decide +kernel) (fun {T} => (List.forall_mem_cons.mpr ⟨cv1567 ghGd, (List.forall_mem_cons.mpr ⟨cv612 ghGd, (List.forall_mem_cons.mpr ⟨cv525 ghGd, (fun _ h => absurd h List.not_mem_nil)⟩)⟩)⟩))
set_option maxRecDepth 1000000 in
theorem tuC1600 : tuGood 1600 := tuSeg (cs := [ct1568, ct1570, ct1569]) 111 (by decide +kernel) (fun {T} => (List.forall_mem_cons.mpr ⟨cv1568 ghGd, (List.forall_mem_cons.mpr ⟨cv1570 ghGd, (List.forall_mem_cons.mpr ⟨cv1569 ghGd, (fun _ h => absurd h List.not_mem_nil)⟩)⟩)⟩))
set_option maxRecDepth 1000000 in
theorem tuC1628 : tuGood 1628 := tuSeg (cs := [ct1600, ct1602, ct1601, ct1571]) 195 (by decide +kernel) (fun {T} => (List.forall_mem_cons.mpr ⟨cv1600 ghGd, (List.forall_mem_cons.mpr ⟨cv1602 ghGd, (List.forall_mem_cons.mpr ⟨cv1601 ghGd, (List.forall_mem_cons.mpr ⟨cv1571 ghGd, (fun _ h => absurd h List.not_mem_nil)⟩)⟩)⟩)⟩))
set_option maxRecDepth 1000000 in
theorem tuC1656 : tuGood 1656 := tuSeg (cs := [ct1603, ct1604, ct1605]) 127 (by decide +kernel) (fun {T} => (List.forall_mem_cons.mpr ⟨cv1603 ghGd, (List.forall_mem_cons.mpr ⟨cv1604 ghGd, (List.forall_mem_cons.mpr ⟨cv1605 ghGd, (fun _ h => absurd h List.not_mem_nil)⟩)⟩)⟩))
set_option maxRecDepth 1000000 in
theorem tuC1684 : tuGood 1684 := tuSeg (cs := [ct1606, ct1609, ct1607, ct1608]) 170 (by decide +kernel) (fun {T} => (List.forall_mem_cons.mpr ⟨cv1606 ghGd, (List.forall_mem_cons.mpr ⟨cv1609 ghGd, (List.forall_mem_cons.mpr ⟨cv1607 ghGd, (List.forall_mem_cons.mpr ⟨cv1608 ghGd, (fun _ h => absurd h List.not_mem_nil)⟩)⟩)⟩)⟩))
set_option maxRecDepth 1000000 in
theorem tuC1736 : tuGood 1736 := tuSeg (cs := [ct1610, ct1612, ct1611]) 127 (by decide +kernel) (fun {T} => (List.forall_mem_cons.mpr ⟨cv1610 ghGd, (List.forall_mem_cons.mpr ⟨cv1612 ghGd, (List.forall_mem_cons.mpr ⟨cv1611 ghGd, (fun _ h => absurd h List.not_mem_nil)⟩)⟩)⟩))
set_option maxRecDepth 1000000 in
theorem tuC1776 : tuGood 1776 := tuSeg (cs := [ct1790, ct1618, ct1617]) 867 (by decide +kernel) (fun {T} => (List.forall_mem_cons.mpr ⟨cv1790 ghGd, (List.forall_mem_cons.mpr ⟨cv1618 ghGd, (List.forall_mem_cons.mpr ⟨cv1617 ghGd, (fun _ h => absurd h List.not_mem_nil)⟩)⟩)⟩))
set_option maxRecDepth 1000000 in
theorem tuC1804 : tuGood 1804 := tuSeg (cs := [ct1829, ct1831, ct1830]) 111 (by decide +kernel) (fun {T} => (List.forall_mem_cons.mpr ⟨cv1829 ghGd, (List.forall_mem_cons.mpr ⟨cv1831 ghGd, (List.forall_mem_cons.mpr ⟨cv1830 ghGd, (fun _ h => absurd h List.not_mem_nil)⟩)⟩)⟩))
set_option maxRecDepth 1000000 in
theorem tuC1832 : tuGood 1832 := tuSeg (cs := [ct1904, ct1906, ct1905]) 111 (by decide +kernel) (fun {T} => (List.forall_mem_cons.mpr ⟨cv1904 ghGd, (List.forall_mem_cons.mpr ⟨cv1906 ghGd, (List.forall_mem_cons.mpr ⟨cv1905 ghGd, (fun _ h => absurd h List.not_mem_nil)⟩)⟩)⟩))
set_option maxRecDepth 1000000 in
theorem tuC1860 : tuGood 1860 := tuSeg (cs := [ct1917, ct1918]) 83 (by decide +kernel) (fun {T} => (List.forall_mem_cons.mpr ⟨cv1917 ghGd, (List.forall_mem_cons.mpr ⟨cv1918 ghGd, (fun _ h => absurd h List.not_mem_nil)⟩)⟩))
set_option maxRecDepth 1000000 in
theorem tuC1885 : tuGood 1885 := tuSeg (cs := [ct1919, ct1921, ct1920]) 111 (by decide +kernel) (fun {T} => (List.forall_mem_cons.mpr ⟨cv1919 ghGd, (List.forall_mem_cons.mpr ⟨cv1921 ghGd, (List.forall_mem_cons.mpr ⟨cv1920 ghGd, (fun _ h => absurd h List.not_mem_nil)⟩)⟩)⟩))
set_option maxRecDepth 1000000 in
theorem tuC1913 : tuGood 1913 := tuSeg (cs := [ct1922, ct1923]) 73 (by decide +kernel) (fun {T} => (List.forall_mem_cons.mpr ⟨cv1922 ghGd, (List.forall_mem_cons.mpr ⟨cv1923 ghGd, (fun _ h => absurd h List.not_mem_nil)⟩)⟩))
set_option maxRecDepth 1000000 in
theorem tuC1926 : tuGood 1926 := tuSeg (cs := [ct1950, ct1951]) 73 (by decide +kernel) (fun {T} => (List.forall_mem_cons.mpr ⟨cv1950 ghGd, (List.forall_mem_cons.mpr ⟨cv1951 ghGd, (fun _ h => absurd h List.not_mem_nil)⟩)⟩))
set_option maxRecDepth 1000000 in
theorem tuC1939 : tuGood 1939 := tuSeg (cs := [ct1957, ct1959, ct1960, ct1961, ct403, ct405, ct1958, ct1956, ct1955, ct1954, ct1953]) 1024 (by decide +kernel) (fun {T} => (List.forall_mem_cons.mpr ⟨cv1957 ghGd, (List.forall_mem_cons.mpr ⟨cv1959 ghGd, (List.forall_mem_cons.mpr ⟨cv1960 ghGd, (List.forall_mem_cons.mpr ⟨cv1961 ghGd, (List.forall_mem_cons.mpr ⟨cv403 ghGd, (List.forall_mem_cons.mpr ⟨cv405 ghGd, (List.forall_mem_cons.mpr ⟨cv1958 ghGd, (List.forall_mem_cons.mpr ⟨cv1956 ghGd, (List.forall_mem_cons.mpr ⟨cv1955 ghGd, (List.forall_mem_cons.mpr ⟨cv1954 ghGd, (List.forall_mem_cons.mpr ⟨cv1953 ghGd, (fun _ h => absurd h List.not_mem_nil)⟩)⟩)⟩)⟩)⟩)⟩)⟩)⟩)⟩)⟩)⟩))
set_option maxRecDepth 1000000 in
theorem tuC2003 : tuGood 2003 := tuSeg (cs := [ct1962, ct1964, ct1966, ct1963, ct1965, ct1967]) 234 (by decide +kernel) (fun {T} => (List.forall_mem_cons.mpr ⟨cv1962 ghGd, (List.forall_mem_cons.mpr ⟨cv1964 ghGd, (List.forall_mem_cons.mpr ⟨cv1966 ghGd, (List.forall_mem_cons.mpr ⟨cv1963 ghGd, (List.forall_mem_cons.mpr ⟨cv1965 ghGd, (List.forall_mem_cons.mpr ⟨cv1967 ghGd, (fun _ h => absurd h List.not_mem_nil)⟩)⟩)⟩)⟩)⟩)⟩))
set_option maxRecDepth 1000000 in
theorem tuC2016 : tuGood 2016 := tuSeg (cs := [ct1968, ct1969, ct1970, ct1963, ct1965, ct1967]) 217 (by decide +kernel) (fun {T} => (List.forall_mem_cons.mpr ⟨cv1968 ghGd, (List.forall_mem_cons.mpr ⟨cv1969 ghGd, (List.forall_mem_cons.mpr ⟨cv1970 ghGd, (List.forall_mem_cons.mpr ⟨cv1963 ghGd, (List.forall_mem_cons.mpr ⟨cv1965 ghGd, (List.forall_mem_cons.mpr ⟨cv1967 ghGd, (fun _ h => absurd h List.not_mem_nil)⟩)⟩)⟩)⟩)⟩)⟩))
set_option maxRecDepth 1000000 in
theorem tuC2029 : tuGood 2029 := tuSeg (cs := []) 183 (by decide +kernel) (fun {T} => (fun _ h => absurd h List.not_mem_nil))
set_option maxRecDepth 1000000 in
theorem tuC2054 : tuGood 2054 := tuSeg (cs := []) 169 (by decide +kernel) (fun {T} => (fun _ h => absurd h List.not_mem_nil))
set_option maxRecDepth 1000000 in
theorem tuC2079 : tuGood 2079 := tuSeg (cs := []) 64 (by decide +kernel) (fun {T} => (fun _ h => absurd h List.not_mem_nil))
end SXL
