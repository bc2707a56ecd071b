/-! SX: the law's turn, case by case, by program -/
section SXL
set_option maxRecDepth 1000000 in
theorem tuC1520 : tuGood 1520 := ⟨tuSeg (J := 3) (sp := []) (cs := [ct619, ct621]) (Or.inl rfl) 871 sorry (fun {T} => (List.forall_mem_cons.mpr ⟨cv619 ghGd, (List.forall_mem_cons.mpr ⟨cv621 ghGd, (fun _ h => absurd h List.not_mem_nil)⟩)⟩)),
  tuSeg (J := 11) (sp := []) (cs := [ct615, ct621]) (Or.inr rfl) 871 sorry (fun {T} => (List.forall_mem_cons.mpr ⟨cv615 ghGd, (List.forall_mem_cons.mpr ⟨cv621 ghGd, (fun _ h => absurd h List.not_mem_nil)⟩)⟩))⟩
set_option maxRecDepth 1000000 in
theorem tuC1560 : tuGood 1560 := ⟨tuSeg (J := 3) (sp := []) (cs := [ct1563, ct621, ct1564]) (Or.inl rfl) 474 sorry (fun {T} => (List.forall_mem_cons.mpr ⟨cv1563 ghGd, (List.forall_mem_cons.mpr ⟨cv621 ghGd, (List.forall_mem_cons.mpr ⟨cv1564 ghGd, (fun _ h => absurd h List.not_mem_nil)⟩)⟩)⟩)),
  tuSeg (J := 11) (sp := []) (cs := [ct1563, ct621, ct1564]) (Or.inr rfl) 474 sorry (fun {T} => (List.forall_mem_cons.mpr ⟨cv1563 ghGd, (List.forall_mem_cons.mpr ⟨cv621 ghGd, (List.forall_mem_cons.mpr ⟨cv1564 ghGd, (fun _ h => absurd h List.not_mem_nil)⟩)⟩)⟩))⟩
set_option maxRecDepth 1000000 in
theorem tuC1600 : tuGood 1600 := ⟨tuSeg (J := 3) (sp := []) (cs := [ct1565, ct610, ct523]) (Or.inl rfl) 293 sorry (fun {T} => (List.forall_mem_cons.mpr ⟨cv1565 ghGd, (List.forall_mem_cons.mpr ⟨cv610 ghGd, (List.forall_mem_cons.mpr ⟨cv523 ghGd, (fun _ h => absurd h List.not_mem_nil)⟩)⟩)⟩)),
  tuSeg (J := 11) (sp := []) (cs := [ct1565, ct610, ct523]) (Or.inr rfl) 293 sorry (fun {T} => (List.forall_mem_cons.mpr ⟨cv1565 ghGd, (List.forall_mem_cons.mpr ⟨cv610 ghGd, (List.forall_mem_cons.mpr ⟨cv523 ghGd, (fun _ h => absurd h List.not_mem_nil)⟩)⟩)⟩))⟩
set_option maxRecDepth 1000000 in
theorem tuC1628 : tuGood 1628 := ⟨tuSeg (J := 3) (sp := []) (cs := [ct1566, ct1568, ct1567]) (Or.inl rfl) 111 sorry (fun {T} => (List.forall_mem_cons.mpr ⟨cv1566 ghGd, (List.forall_mem_cons.mpr ⟨cv1568 ghGd, (List.forall_mem_cons.mpr ⟨cv1567 ghGd, (fun _ h => absurd h List.not_mem_nil)⟩)⟩)⟩)),
  tuSeg (J := 11) (sp := []) (cs := [ct1566, ct1568, ct1567]) (Or.inr rfl) 111 sorry (fun {T} => (List.forall_mem_cons.mpr ⟨cv1566 ghGd, (List.forall_mem_cons.mpr ⟨cv1568 ghGd, (List.forall_mem_cons.mpr ⟨cv1567 ghGd, (fun _ h => absurd h List.not_mem_nil)⟩)⟩)⟩))⟩
set_option maxRecDepth 1000000 in
theorem tuC1656 : tuGood 1656 := ⟨tuSeg (J := 3) (sp := []) (cs := [ct1598, ct1599, ct1569]) (Or.inl rfl) 171 sorry (fun {T} => (List.forall_mem_cons.mpr ⟨cv1598 ghGd, (List.forall_mem_cons.mpr ⟨cv1599 ghGd, (List.forall_mem_cons.mpr ⟨cv1569 ghGd, (fun _ h => absurd h List.not_mem_nil)⟩)⟩)⟩)),
  tuSeg (J := 11) (sp := []) (cs := [ct1600, ct1599, ct1569]) (Or.inr rfl) 171 sorry (fun {T} => (List.forall_mem_cons.mpr ⟨cv1600 ghGd, (List.forall_mem_cons.mpr ⟨cv1599 ghGd, (List.forall_mem_cons.mpr ⟨cv1569 ghGd, (fun _ h => absurd h List.not_mem_nil)⟩)⟩)⟩))⟩
set_option maxRecDepth 1000000 in
theorem tuC1684 : tuGood 1684 := ⟨tuSeg (J := 3) (sp := []) (cs := [ct1601, ct1602, ct1603]) (Or.inl rfl) 127 sorry (fun {T} => (List.forall_mem_cons.mpr ⟨cv1601 ghGd, (List.forall_mem_cons.mpr ⟨cv1602 ghGd, (List.forall_mem_cons.mpr ⟨cv1603 ghGd, (fun _ h => absurd h List.not_mem_nil)⟩)⟩)⟩)),
  tuSeg (J := 11) (sp := []) (cs := [ct1601, ct1602, ct1603]) (Or.inr rfl) 127 sorry (fun {T} => (List.forall_mem_cons.mpr ⟨cv1601 ghGd, (List.forall_mem_cons.mpr ⟨cv1602 ghGd, (List.forall_mem_cons.mpr ⟨cv1603 ghGd, (fun _ h => absurd h List.not_mem_nil)⟩)⟩)⟩))⟩
set_option maxRecDepth 1000000 in
theorem tuC1712 : tuGood 1712 := ⟨tuSeg (J := 3) (sp := []) (cs := [ct1604, ct1607, ct1605, ct1606]) (Or.inl rfl) 170 sorry (fun {T} => (List.forall_mem_cons.mpr ⟨cv1604 ghGd, (List.forall_mem_cons.mpr ⟨cv1607 ghGd, (List.forall_mem_cons.mpr ⟨cv1605 ghGd, (List.forall_mem_cons.mpr ⟨cv1606 ghGd, (fun _ h => absurd h List.not_mem_nil)⟩)⟩)⟩)⟩)),
  tuSeg (J := 11) (sp := []) (cs := [ct1604, ct1607, ct1605, ct1606]) (Or.inr rfl) 170 sorry (fun {T} => (List.forall_mem_cons.mpr ⟨cv1604 ghGd, (List.forall_mem_cons.mpr ⟨cv1607 ghGd, (List.forall_mem_cons.mpr ⟨cv1605 ghGd, (List.forall_mem_cons.mpr ⟨cv1606 ghGd, (fun _ h => absurd h List.not_mem_nil)⟩)⟩)⟩)⟩))⟩
set_option maxRecDepth 1000000 in
theorem tuC1764 : tuGood 1764 := ⟨tuSeg (J := 3) (sp := []) (cs := [ct1608, ct1610, ct1609]) (Or.inl rfl) 127 sorry (fun {T} => (List.forall_mem_cons.mpr ⟨cv1608 ghGd, (List.forall_mem_cons.mpr ⟨cv1610 ghGd, (List.forall_mem_cons.mpr ⟨cv1609 ghGd, (fun _ h => absurd h List.not_mem_nil)⟩)⟩)⟩)),
  tuSeg (J := 11) (sp := []) (cs := [ct1608, ct1610, ct1609]) (Or.inr rfl) 127 sorry (fun {T} => (List.forall_mem_cons.mpr ⟨cv1608 ghGd, (List.forall_mem_cons.mpr ⟨cv1610 ghGd, (List.forall_mem_cons.mpr ⟨cv1609 ghGd, (fun _ h => absurd h List.not_mem_nil)⟩)⟩)⟩))⟩
set_option maxRecDepth 1000000 in
theorem tuC1804 : tuGood 1804 := ⟨tuSeg (J := 3) (sp := []) (cs := [ct1788, ct1616, ct1615]) (Or.inl rfl) 488 sorry (fun {T} => (List.forall_mem_cons.mpr ⟨cv1788 ghGd, (List.forall_mem_cons.mpr ⟨cv1616 ghGd, (List.forall_mem_cons.mpr ⟨cv1615 ghGd, (fun _ h => absurd h List.not_mem_nil)⟩)⟩)⟩)),
  tuSeg (J := 11) (sp := []) (cs := [ct1788, ct1616, ct1615]) (Or.inr rfl) 488 sorry (fun {T} => (List.forall_mem_cons.mpr ⟨cv1788 ghGd, (List.forall_mem_cons.mpr ⟨cv1616 ghGd, (List.forall_mem_cons.mpr ⟨cv1615 ghGd, (fun _ h => absurd h List.not_mem_nil)⟩)⟩)⟩))⟩
set_option maxRecDepth 1000000 in
theorem tuC1832 : tuGood 1832 := ⟨tuSeg (J := 3) (sp := []) (cs := [ct1827, ct1829, ct1828]) (Or.inl rfl) 111 sorry (fun {T} => (List.forall_mem_cons.mpr ⟨cv1827 ghGd, (List.forall_mem_cons.mpr ⟨cv1829 ghGd, (List.forall_mem_cons.mpr ⟨cv1828 ghGd, (fun _ h => absurd h List.not_mem_nil)⟩)⟩)⟩)),
  tuSeg (J := 11) (sp := []) (cs := [ct1827, ct1829, ct1828]) (Or.inr rfl) 111 sorry (fun {T} => (List.forall_mem_cons.mpr ⟨cv1827 ghGd, (List.forall_mem_cons.mpr ⟨cv1829 ghGd, (List.forall_mem_cons.mpr ⟨cv1828 ghGd, (fun _ h => absurd h List.not_mem_nil)⟩)⟩)⟩))⟩
set_option maxRecDepth 1000000 in
theorem tuC1860 : tuGood 1860 := ⟨tuSeg (J := 3) (sp := []) (cs := [ct1902, ct1904, ct1903]) (Or.inl rfl) 111 sorry (fun {T} => (List.forall_mem_cons.mpr ⟨cv1902 ghGd, (List.forall_mem_cons.mpr ⟨cv1904 ghGd, (List.forall_mem_cons.mpr ⟨cv1903 ghGd, (fun _ h => absurd h List.not_mem_nil)⟩)⟩)⟩)),
  tuSeg (J := 11) (sp := []) (cs := [ct1902, ct1904, ct1903]) (Or.inr rfl) 111 sorry (fun {T} => (List.forall_mem_cons.mpr ⟨cv1902 ghGd, (List.forall_mem_cons.mpr ⟨cv1904 ghGd, (List.forall_mem_cons.mpr ⟨cv1903 ghGd, (fun _ h => absurd h List.not_mem_nil)⟩)⟩)⟩))⟩
set_option maxRecDepth 1000000 in
theorem tuC1888 : tuGood 1888 := ⟨tuSeg (J := 3) (sp := []) (cs := [ct1915, ct1916]) (Or.inl rfl) 83 sorry (fun {T} => (List.forall_mem_cons.mpr ⟨cv1915 ghGd, (List.forall_mem_cons.mpr ⟨cv1916 ghGd, (fun _ h => absurd h List.not_mem_nil)⟩)⟩)),
  tuSeg (J := 11) (sp := []) (cs := [ct1915, ct1916]) (Or.inr rfl) 83 sorry (fun {T} => (List.forall_mem_cons.mpr ⟨cv1915 ghGd, (List.forall_mem_cons.mpr ⟨cv1916 ghGd, (fun _ h => absurd h List.not_mem_nil)⟩)⟩))⟩
set_option maxRecDepth 1000000 in
theorem tuC1913 : tuGood 1913 := ⟨tuSeg (J := 3) (sp := []) (cs := [ct1917, ct1919, ct1918]) (Or.inl rfl) 111 sorry (fun {T} => (List.forall_mem_cons.mpr ⟨cv1917 ghGd, (List.forall_mem_cons.mpr ⟨cv1919 ghGd, (List.forall_mem_cons.mpr ⟨cv1918 ghGd, (fun _ h => absurd h List.not_mem_nil)⟩)⟩)⟩)),
  tuSeg (J := 11) (sp := []) (cs := [ct1917, ct1919, ct1918]) (Or.inr rfl) 111 sorry (fun {T} => (List.forall_mem_cons.mpr ⟨cv1917 ghGd, (List.forall_mem_cons.mpr ⟨cv1919 ghGd, (List.forall_mem_cons.mpr ⟨cv1918 ghGd, (fun _ h => absurd h List.not_mem_nil)⟩)⟩)⟩))⟩
set_option maxRecDepth 1000000 in
theorem tuC1941 : tuGood 1941 := ⟨tuSeg (J := 3) (sp := []) (cs := [ct1920, ct1921]) (Or.inl rfl) 73 sorry (fun {T} => (List.forall_mem_cons.mpr ⟨cv1920 ghGd, (List.forall_mem_cons.mpr ⟨cv1921 ghGd, (fun _ h => absurd h List.not_mem_nil)⟩)⟩)),
  tuSeg (J := 11) (sp := []) (cs := [ct1920, ct1921]) (Or.inr rfl) 73 sorry (fun {T} => (List.forall_mem_cons.mpr ⟨cv1920 ghGd, (List.forall_mem_cons.mpr ⟨cv1921 ghGd, (fun _ h => absurd h List.not_mem_nil)⟩)⟩))⟩
set_option maxRecDepth 1000000 in
theorem tuC1954 : tuGood 1954 := ⟨tuSeg (J := 3) (sp := []) (cs := [ct1948, ct1949]) (Or.inl rfl) 73 sorry (fun {T} => (List.forall_mem_cons.mpr ⟨cv1948 ghGd, (List.forall_mem_cons.mpr ⟨cv1949 ghGd, (fun _ h => absurd h List.not_mem_nil)⟩)⟩)),
  tuSeg (J := 11) (sp := []) (cs := [ct1948, ct1949]) (Or.inr rfl) 73 sorry (fun {T} => (List.forall_mem_cons.mpr ⟨cv1948 ghGd, (List.forall_mem_cons.mpr ⟨cv1949 ghGd, (fun _ h => absurd h List.not_mem_nil)⟩)⟩))⟩
set_option maxRecDepth 1000000 in
theorem tuC1967 : tuGood 1967 := ⟨tuSeg (J := 3) (sp := []) (cs := [ct1955, ct1957, ct401, ct403, ct1956, ct1954, ct1953, ct1952, ct1951]) (Or.inl rfl) 583 sorry (fun {T} => (List.forall_mem_cons.mpr ⟨cv1955 ghGd, (List.forall_mem_cons.mpr ⟨cv1957 ghGd, (List.forall_mem_cons.mpr ⟨cv401 ghGd, (List.forall_mem_cons.mpr ⟨cv403 ghGd, (List.forall_mem_cons.mpr ⟨cv1956 ghGd, (List.forall_mem_cons.mpr ⟨cv1954 ghGd, (List.forall_mem_cons.mpr ⟨cv1953 ghGd, (List.forall_mem_cons.mpr ⟨cv1952 ghGd, (List.forall_mem_cons.mpr ⟨cv1951 ghGd, (fun _ h => absurd h List.not_mem_nil)⟩)⟩)⟩)⟩)⟩)⟩)⟩)⟩)⟩)),
  tuSeg (J := 11) (sp := []) (cs := [ct1958, ct1959, ct401, ct403, ct1956, ct1954, ct1953, ct1952, ct1951]) (Or.inr rfl) 583 sorry (fun {T} => (List.forall_mem_cons.mpr ⟨cv1958 ghGd, (List.forall_mem_cons.mpr ⟨cv1959 ghGd, (List.forall_mem_cons.mpr ⟨cv401 ghGd, (List.forall_mem_cons.mpr ⟨cv403 ghGd, (List.forall_mem_cons.mpr ⟨cv1956 ghGd, (List.forall_mem_cons.mpr ⟨cv1954 ghGd, (List.forall_mem_cons.mpr ⟨cv1953 ghGd, (List.forall_mem_cons.mpr ⟨cv1952 ghGd, (List.forall_mem_cons.mpr ⟨cv1951 ghGd, (fun _ h => absurd h List.not_mem_nil)⟩)⟩)⟩)⟩)⟩)⟩)⟩)⟩)⟩))⟩
end SXL
