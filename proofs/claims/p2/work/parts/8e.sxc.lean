/-! SX: contracts, by program -/
section SXC
/-- LotBeliefs.Tape.isWord -/
def ct1601 : sxCt := (85, 0, (1, [], [], [(0, .inl 1), (1, .inl 1000018)], [], [], []), [], [
  (1, [], [], [], [.inr (false, (0, .ofNat 0))], [], []), 
  (1, [], [], [], [.inr (false, (0, .ofNat 1))], [], [])], [], 0, 0)
def cu1601 : List sxCu := []
set_option maxRecDepth 1000000 in
theorem cv1601 {gh : sxGh} (hg : sxGd sxKw gh) : sxCtV sxKw gh ct1601 := sxMeB_ok (cts := []) (cuts := cu1601) (sp := []) 204 (by decide +kernel) hg (by decide) (by decide) (fun _ h => absurd h List.not_mem_nil)
/-- LotBeliefs.Tape.isWord -/
def ct1602 : sxCt := (85, 0, (1, [], [], [(0, .inl 1), (1, .inl 1000019)], [], [], []), [], [
  (1, [], [], [], [.inr (false, (0, .ofNat 0))], [], []), 
  (1, [], [], [], [.inr (false, (0, .ofNat 1))], [], [])], [], 0, 0)
def cu1602 : List sxCu := []
set_option maxRecDepth 1000000 in
theorem cv1602 {gh : sxGh} (hg : sxGd sxKw gh) : sxCtV sxKw gh ct1602 := sxMeB_ok (cts := []) (cuts := cu1602) (sp := []) 204 (by decide +kernel) hg (by decide) (by decide) (fun _ h => absurd h List.not_mem_nil)
/-- LotBeliefs.Tape.isWord -/
def ct1603 : sxCt := (85, 0, (1, [], [], [(0, .inl 1), (1, .inl 1000020)], [], [], []), [], [
  (1, [], [], [], [.inr (false, (0, .ofNat 0))], [], []), 
  (1, [], [], [], [.inr (false, (0, .ofNat 1))], [], [])], [], 0, 0)
def cu1603 : List sxCu := []
set_option maxRecDepth 1000000 in
theorem cv1603 {gh : sxGh} (hg : sxGd sxKw gh) : sxCtV sxKw gh ct1603 := sxMeB_ok (cts := []) (cuts := cu1603) (sp := []) 204 (by decide +kernel) hg (by decide) (by decide) (fun _ h => absurd h List.not_mem_nil)
/-- LotBeliefs.Tape.isWord -/
def ct1604 : sxCt := (85, 0, (1, [], [], [(0, .inl 1), (1, .inl 1000021)], [], [], []), [], [
  (1, [], [], [], [.inr (false, (0, .ofNat 0))], [], []), 
  (1, [], [], [], [.inr (false, (0, .ofNat 1))], [], [])], [], 0, 0)
def cu1604 : List sxCu := []
set_option maxRecDepth 1000000 in
theorem cv1604 {gh : sxGh} (hg : sxGd sxKw gh) : sxCtV sxKw gh ct1604 := sxMeB_ok (cts := []) (cuts := cu1604) (sp := []) 204 (by decide +kernel) hg (by decide) (by decide) (fun _ h => absurd h List.not_mem_nil)
/-- LotBeliefs.Tape.isWord -/
def ct1605 : sxCt := (85, 0, (1, [], [], [(0, .inl 1), (1, .inl 1000022)], [], [], []), [], [
  (1, [], [], [], [.inr (false, (0, .ofNat 0))], [], []), 
  (1, [], [], [], [.inr (false, (0, .ofNat 1))], [], [])], [], 0, 0)
def cu1605 : List sxCu := []
set_option maxRecDepth 1000000 in
theorem cv1605 {gh : sxGh} (hg : sxGd sxKw gh) : sxCtV sxKw gh ct1605 := sxMeB_ok (cts := []) (cuts := cu1605) (sp := []) 204 (by decide +kernel) hg (by decide) (by decide) (fun _ h => absurd h List.not_mem_nil)
/-- LotBeliefs.Tape.isWord -/
def ct1606 : sxCt := (85, 0, (1, [], [], [(0, .inl 1), (1, .inl 1000023)], [], [], []), [], [
  (1, [], [], [], [.inr (false, (0, .ofNat 0))], [], []), 
  (1, [], [], [], [.inr (false, (0, .ofNat 1))], [], [])], [], 0, 0)
def cu1606 : List sxCu := []
set_option maxRecDepth 1000000 in
theorem cv1606 {gh : sxGh} (hg : sxGd sxKw gh) : sxCtV sxKw gh ct1606 := sxMeB_ok (cts := []) (cuts := cu1606) (sp := []) 204 (by decide +kernel) hg (by decide) (by decide) (fun _ h => absurd h List.not_mem_nil)
/-- LotBeliefs.Tape.isWord -/
def ct1607 : sxCt := (85, 0, (1, [], [], [(0, .inl 1), (1, .inl 1000024)], [], [], []), [], [
  (1, [], [], [], [.inr (false, (0, .ofNat 0))], [], []), 
  (1, [], [], [], [.inr (false, (0, .ofNat 1))], [], [])], [], 0, 0)
def cu1607 : List sxCu := []
set_option maxRecDepth 1000000 in
theorem cv1607 {gh : sxGh} (hg : sxGd sxKw gh) : sxCtV sxKw gh ct1607 := sxMeB_ok (cts := []) (cuts := cu1607) (sp := []) 204 (by decide +kernel) hg (by decide) (by decide) (fun _ h => absurd h List.not_mem_nil)
/-- LotBeliefs.Tape.isWord -/
def ct1608 : sxCt := (85, 0, (1, [], [], [(0, .inl 1), (1, .inl 1000025)], [], [], []), [], [
  (1, [], [], [], [.inr (false, (0, .ofNat 0))], [], []), 
  (1, [], [], [], [.inr (false, (0, .ofNat 1))], [], [])], [], 0, 0)
def cu1608 : List sxCu := []
set_option maxRecDepth 1000000 in
theorem cv1608 {gh : sxGh} (hg : sxGd sxKw gh) : sxCtV sxKw gh ct1608 := sxMeB_ok (cts := []) (cuts := cu1608) (sp := []) 264 (by decide +kernel) hg (by decide) (by decide) (fun _ h => absurd h List.not_mem_nil)
/-- LotBeliefs.TongueReader.quantityHere -/
def ct1609 : sxCt := (111, 1, (1, [], [], [(0, .inl 1)], [], [], []), [], [
  (2, [(1, .negSucc 0, .ofNat 9)], [], [], [.inr (false, (1, .ofNat 0))], [], [])], [], 0, 0)
def cu1609 : List sxCu := []
set_option maxRecDepth 1000000 in
theorem cv1609 {gh : sxGh} (hg : sxGd sxKw gh) : sxCtV sxKw gh ct1609 := sxMeB_ok (cts := [ct1600, ct1601, ct1602, ct1603, ct1604, ct1605, ct1606, ct1607, ct1608, ct1599]) (cuts := cu1609) (sp := []) 143 (by decide +kernel) hg (by decide) (by decide) (List.forall_mem_cons.mpr ⟨cv1600 hg, (List.forall_mem_cons.mpr ⟨cv1601 hg, (List.forall_mem_cons.mpr ⟨cv1602 hg, (List.forall_mem_cons.mpr ⟨cv1603 hg, (List.forall_mem_cons.mpr ⟨cv1604 hg, (List.forall_mem_cons.mpr ⟨cv1605 hg, (List.forall_mem_cons.mpr ⟨cv1606 hg, (List.forall_mem_cons.mpr ⟨cv1607 hg, (List.forall_mem_cons.mpr ⟨cv1608 hg, (List.forall_mem_cons.mpr ⟨cv1599 hg, (fun _ h => absurd h List.not_mem_nil)⟩)⟩)⟩)⟩)⟩)⟩)⟩)⟩)⟩)⟩)
/-- LotBeliefs.TongueReader.readValue -/
def ct1610 : sxCt := (110, 2, (1, [], [], [(0, .inl 1), (1, .inl 23)], [], [(1, (0, .ofNat 7), .inr (false, (0, .ofNat 6)))], []), [(1, 4), (1, 5), (1, 6), (1, 7), (1, 9), (1, 10), (23, 3), (24, 0)], [
  (2, [(1, .ofNat 0, .ofNat 4)], [], [], [], [(1, (0, .ofNat 3), .inr (false, (1, .ofNat 0))), (1, (0, .ofNat 7), .inr (false, (0, .ofNat 6)))], [])], [], 0, 0)
def cu1610 : List sxCu := []
set_option maxRecDepth 1000000 in
theorem cv1610 {gh : sxGh} (hg : sxGd sxKw gh) : sxCtV sxKw gh ct1610 := sxMeB_ok (cts := [ct1596, ct1609]) (cuts := cu1610) (sp := []) 476 (by decide +kernel) hg (by decide) (by decide) (List.forall_mem_cons.mpr ⟨cv1596 hg, (List.forall_mem_cons.mpr ⟨cv1609 hg, (fun _ h => absurd h List.not_mem_nil)⟩)⟩)
/-- LotBeliefs.TongueReader.readProduct -/
def ct1611 : sxCt := (109, 3, (1, [], [], [(0, .inl 1), (1, .inl 23)], [], [(1, (0, .ofNat 7), .inr (false, (0, .ofNat 6)))], []), [(1, 4), (1, 5), (1, 6), (1, 7), (1, 9), (1, 10), (23, 3), (24, 0)], [
  (2, [(1, .ofNat 0, .ofNat 4)], [], [], [], [(1, (0, .ofNat 3), .inr (false, (1, .ofNat 0))), (1, (0, .ofNat 7), .inr (false, (0, .ofNat 6)))], [])], [], 0, 0)
def cu1611 : List sxCu := [
  (7, (3, [(1, .ofNat 0, .ofNat 200), (2, .ofNat 0, .ofNat 4)], [], [(0, .inl 1), (1, .inl 23), (2, .inr (false, (1, .ofNat 0)))], [], [(1, (0, .ofNat 3), .inr (false, (2, .ofNat 0))), (1, (0, .ofNat 7), .inr (false, (0, .ofNat 6)))], []), ((0, 1, .ofNat 200), (0, 0, .ofNat 0), (0, 0, .ofNat 0)), 0, 0)]
set_option maxRecDepth 1000000 in
theorem cv1611 {gh : sxGh} (hg : sxGd sxKw gh) : sxCtV sxKw gh ct1611 := sxMeB_ok (cts := [ct1596, ct1610]) (cuts := cu1611) (sp := []) 127 (by decide +kernel) hg (by decide) (by decide) (List.forall_mem_cons.mpr ⟨cv1596 hg, (List.forall_mem_cons.mpr ⟨cv1610 hg, (fun _ h => absurd h List.not_mem_nil)⟩)⟩)
/-- LotBeliefs.TongueReader.readSum -/
def ct1612 : sxCt := (108, 4, (1, [], [], [(0, .inl 1), (1, .inl 23)], [], [(1, (0, .ofNat 7), .inr (false, (0, .ofNat 6)))], []), [(1, 4), (1, 5), (1, 6), (1, 7), (1, 9), (1, 10), (23, 3), (24, 0)], [
  (2, [(1, .ofNat 0, .ofNat 4)], [], [], [], [(1, (0, .ofNat 3), .inr (false, (1, .ofNat 0))), (1, (0, .ofNat 7), .inr (false, (0, .ofNat 6)))], [])], [], 0, 0)
def cu1612 : List sxCu := [
  (7, (3, [(1, .ofNat 0, .ofNat 200), (2, .ofNat 0, .ofNat 4)], [], [(0, .inl 1), (1, .inl 23), (2, .inr (false, (1, .ofNat 0)))], [], [(1, (0, .ofNat 3), .inr (false, (2, .ofNat 0))), (1, (0, .ofNat 7), .inr (false, (0, .ofNat 6)))], []), ((0, 1, .ofNat 200), (0, 0, .ofNat 0), (0, 0, .ofNat 0)), 0, 0)]
set_option maxRecDepth 1000000 in
theorem cv1612 {gh : sxGh} (hg : sxGd sxKw gh) : sxCtV sxKw gh ct1612 := sxMeB_ok (cts := [ct1596, ct1611]) (cuts := cu1612) (sp := []) 285 (by decide +kernel) hg (by decide) (by decide) (List.forall_mem_cons.mpr ⟨cv1596 hg, (List.forall_mem_cons.mpr ⟨cv1611 hg, (fun _ h => absurd h List.not_mem_nil)⟩)⟩)
/-- LotBeliefs.TongueReader.readRelation -/
def ct1613 : sxCt := (107, 5, (1, [], [], [(0, .inl 1), (1, .inl 23)], [], [(1, (0, .ofNat 7), .inr (false, (0, .ofNat 6)))], []), [(1, 4), (1, 5), (1, 6), (1, 7), (1, 9), (1, 10), (23, 3), (24, 0)], [
  (3, [(1, .ofNat 0, .ofNat 4), (2, .ofNat 1, .ofNat 201)], [], [], [], [(1, (0, .ofNat 3), .inr (false, (1, .ofNat 0))), (1, (0, .ofNat 7), .inr (false, (0, .ofNat 6))), (23, (0, .ofNat 2), .inr (false, (2, .ofNat 0)))], [])], [], 0, 0)
def cu1613 : List sxCu := []
set_option maxRecDepth 1000000 in
theorem cv1613 {gh : sxGh} (hg : sxGd sxKw gh) : sxCtV sxKw gh ct1613 := sxMeB_ok (cts := [ct1596, ct1612]) (cuts := cu1613) (sp := []) 617 (by decide +kernel) hg (by decide) (by decide) (List.forall_mem_cons.mpr ⟨cv1596 hg, (List.forall_mem_cons.mpr ⟨cv1612 hg, (fun _ h => absurd h List.not_mem_nil)⟩)⟩)
/-- LotBeliefs.TongueReader.readPart -/
def ct1614 : sxCt := (106, 6, (1, [], [], [(0, .inl 1), (1, .inl 23)], [], [(1, (0, .ofNat 7), .inr (false, (0, .ofNat 6)))], []), [(1, 4), (1, 5), (1, 6), (1, 7), (1, 9), (1, 10), (23, 3), (24, 0)], [
  (2, [(1, .ofNat 0, .ofNat 4)], [], [], [], [(1, (0, .ofNat 3), .inr (false, (1, .ofNat 0))), (1, (0, .ofNat 7), .inr (false, (0, .ofNat 6)))], [])], [], 0, 0)
def cu1614 : List sxCu := []
set_option maxRecDepth 1000000 in
theorem cv1614 {gh : sxGh} (hg : sxGd sxKw gh) : sxCtV sxKw gh ct1614 := sxMeB_ok (cts := [ct1598, ct1613]) (cuts := cu1614) (sp := []) 158 (by decide +kernel) hg (by decide) (by decide) (List.forall_mem_cons.mpr ⟨cv1598 hg, (List.forall_mem_cons.mpr ⟨cv1613 hg, (fun _ h => absurd h List.not_mem_nil)⟩)⟩)
/-- LotBeliefs.Tape.isWord -/
def ct1615 : sxCt := (85, 0, (1, [], [], [(0, .inl 1), (1, .inl 1000026)], [], [], []), [], [
  (1, [], [], [], [.inr (false, (0, .ofNat 0))], [], []), 
  (1, [], [], [], [.inr (false, (0, .ofNat 1))], [], [])], [], 0, 0)
def cu1615 : List sxCu := []
set_option maxRecDepth 1000000 in
theorem cv1615 {gh : sxGh} (hg : sxGd sxKw gh) : sxCtV sxKw gh ct1615 := sxMeB_ok (cts := []) (cuts := cu1615) (sp := []) 174 (by decide +kernel) hg (by decide) (by decide) (fun _ h => absurd h List.not_mem_nil)
/-- LotBeliefs.TongueReader.readEach -/
def ct1616 : sxCt := (105, 7, (1, [], [], [(0, .inl 1), (1, .inl 23)], [], [(1, (0, .ofNat 7), .inr (false, (0, .ofNat 6)))], []), [(1, 4), (1, 5), (1, 6), (1, 7), (1, 9), (1, 10), (23, 3), (24, 0)], [
  (2, [(1, .ofNat 0, .ofNat 4)], [], [], [], [(1, (0, .ofNat 3), .inr (false, (1, .ofNat 0))), (1, (0, .ofNat 7), .inr (false, (0, .ofNat 6)))], [])], [], 0, 0)
def cu1616 : List sxCu := [
  (7, (3, [(1, .ofNat 0, .ofNat 200), (2, .ofNat 0, .ofNat 4)], [], [(0, .inl 1), (1, .inl 23), (2, .inr (false, (1, .ofNat 0)))], [], [(1, (0, .ofNat 3), .inr (false, (2, .ofNat 0))), (1, (0, .ofNat 7), .inr (false, (0, .ofNat 6)))], []), ((0, 1, .ofNat 200), (0, 0, .ofNat 0), (0, 0, .ofNat 0)), 0, 0)]
set_option maxRecDepth 1000000 in
theorem cv1616 {gh : sxGh} (hg : sxGd sxKw gh) : sxCtV sxKw gh ct1616 := sxMeB_ok (cts := [ct1596, ct1615, ct1614]) (cuts := cu1616) (sp := []) 111 (by decide +kernel) hg (by decide) (by decide) (List.forall_mem_cons.mpr ⟨cv1596 hg, (List.forall_mem_cons.mpr ⟨cv1615 hg, (List.forall_mem_cons.mpr ⟨cv1614 hg, (fun _ h => absurd h List.not_mem_nil)⟩)⟩)⟩)
/-- LotBeliefs.Tape.isWord -/
def ct1617 : sxCt := (85, 0, (1, [], [], [(0, .inl 1), (1, .inl 1000027)], [], [], []), [], [
  (1, [], [], [], [.inr (false, (0, .ofNat 0))], [], []), 
  (1, [], [], [], [.inr (false, (0, .ofNat 1))], [], [])], [], 0, 0)
def cu1617 : List sxCu := []
set_option maxRecDepth 1000000 in
theorem cv1617 {gh : sxGh} (hg : sxGd sxKw gh) : sxCtV sxKw gh ct1617 := sxMeB_ok (cts := []) (cuts := cu1617) (sp := []) 144 (by decide +kernel) hg (by decide) (by decide) (fun _ h => absurd h List.not_mem_nil)
/-- LotBeliefs.TongueReader.readEither -/
def ct1618 : sxCt := (104, 8, (1, [], [], [(0, .inl 1), (1, .inl 23)], [], [(1, (0, .ofNat 7), .inr (false, (0, .ofNat 6)))], []), [(1, 4), (1, 5), (1, 6), (1, 7), (1, 9), (1, 10), (23, 3), (24, 0)], [
  (2, [(1, .ofNat 0, .ofNat 4)], [], [], [], [(1, (0, .ofNat 3), .inr (false, (1, .ofNat 0))), (1, (0, .ofNat 7), .inr (false, (0, .ofNat 6)))], [])], [], 0, 0)
def cu1618 : List sxCu := [
  (7, (3, [(1, .ofNat 0, .ofNat 200), (2, .ofNat 0, .ofNat 4)], [], [(0, .inl 1), (1, .inl 23), (2, .inr (false, (1, .ofNat 0)))], [], [(1, (0, .ofNat 3), .inr (false, (2, .ofNat 0))), (1, (0, .ofNat 7), .inr (false, (0, .ofNat 6)))], []), ((0, 1, .ofNat 200), (0, 0, .ofNat 0), (0, 0, .ofNat 0)), 0, 0)]
set_option maxRecDepth 1000000 in
theorem cv1618 {gh : sxGh} (hg : sxGd sxKw gh) : sxCtV sxKw gh ct1618 := sxMeB_ok (cts := [ct1596, ct1617, ct1616]) (cuts := cu1618) (sp := []) 111 (by decide +kernel) hg (by decide) (by decide) (List.forall_mem_cons.mpr ⟨cv1596 hg, (List.forall_mem_cons.mpr ⟨cv1617 hg, (List.forall_mem_cons.mpr ⟨cv1616 hg, (fun _ h => absurd h List.not_mem_nil)⟩)⟩)⟩)
/-- LotBeliefs.TongueReader.readValue -/
def ct1619 : sxCt := (110, 5, (1, [], [], [(0, .inl 1), (1, .inl 23)], [], [(1, (0, .ofNat 7), .inr (false, (0, .ofNat 5)))], []), [(1, 4), (1, 5), (1, 6), (1, 7), (1, 8), (1, 9), (1, 10), (23, 3), (24, 0)], [
  (2, [(1, .ofNat 0, .ofNat 4)], [], [], [], [(1, (0, .ofNat 3), .inr (false, (1, .ofNat 0))), (1, (0, .ofNat 7), .inr (false, (0, .ofNat 5)))], [])], [], 0, 0)
def cu1619 : List sxCu := []
set_option maxRecDepth 1000000 in
theorem cv1619 {gh : sxGh} (hg : sxGd sxKw gh) : sxCtV sxKw gh ct1619 := sxMeB_ok (cts := [ct1596, ct1612, ct1609]) (cuts := cu1619) (sp := []) 583 (by decide +kernel) hg (by decide) (by decide) (List.forall_mem_cons.mpr ⟨cv1596 hg, (List.forall_mem_cons.mpr ⟨cv1612 hg, (List.forall_mem_cons.mpr ⟨cv1609 hg, (fun _ h => absurd h List.not_mem_nil)⟩)⟩)⟩)
/-- LotBeliefs.TongueReader.readProduct -/
def ct1620 : sxCt := (109, 6, (1, [], [], [(0, .inl 1), (1, .inl 23)], [], [(1, (0, .ofNat 7), .inr (false, (0, .ofNat 5)))], []), [(1, 4), (1, 5), (1, 6), (1, 7), (1, 8), (1, 9), (1, 10), (23, 3), (24, 0)], [
  (2, [(1, .ofNat 0, .ofNat 4)], [], [], [], [(1, (0, .ofNat 3), .inr (false, (1, .ofNat 0))), (1, (0, .ofNat 7), .inr (false, (0, .ofNat 5)))], [])], [], 0, 0)
def cu1620 : List sxCu := [
  (7, (3, [(1, .ofNat 0, .ofNat 200), (2, .ofNat 0, .ofNat 4)], [], [(0, .inl 1), (1, .inl 23), (2, .inr (false, (1, .ofNat 0)))], [], [(1, (0, .ofNat 3), .inr (false, (2, .ofNat 0))), (1, (0, .ofNat 7), .inr (false, (0, .ofNat 5)))], []), ((0, 1, .ofNat 200), (0, 0, .ofNat 0), (0, 0, .ofNat 0)), 0, 0)]
set_option maxRecDepth 1000000 in
theorem cv1620 {gh : sxGh} (hg : sxGd sxKw gh) : sxCtV sxKw gh ct1620 := sxMeB_ok (cts := [ct1596, ct1619]) (cuts := cu1620) (sp := []) 127 (by decide +kernel) hg (by decide) (by decide) (List.forall_mem_cons.mpr ⟨cv1596 hg, (List.forall_mem_cons.mpr ⟨cv1619 hg, (fun _ h => absurd h List.not_mem_nil)⟩)⟩)
/-- LotBeliefs.TongueReader.readSum -/
def ct1621 : sxCt := (108, 7, (1, [], [], [(0, .inl 1), (1, .inl 23)], [], [(1, (0, .ofNat 7), .inr (false, (0, .ofNat 5)))], []), [(1, 4), (1, 5), (1, 6), (1, 7), (1, 8), (1, 9), (1, 10), (23, 3), (24, 0)], [
  (2, [(1, .ofNat 0, .ofNat 4)], [], [], [], [(1, (0, .ofNat 3), .inr (false, (1, .ofNat 0))), (1, (0, .ofNat 7), .inr (false, (0, .ofNat 5)))], [])], [], 0, 0)
def cu1621 : List sxCu := [
  (7, (3, [(1, .ofNat 0, .ofNat 200), (2, .ofNat 0, .ofNat 4)], [], [(0, .inl 1), (1, .inl 23), (2, .inr (false, (1, .ofNat 0)))], [], [(1, (0, .ofNat 3), .inr (false, (2, .ofNat 0))), (1, (0, .ofNat 7), .inr (false, (0, .ofNat 5)))], []), ((0, 1, .ofNat 200), (0, 0, .ofNat 0), (0, 0, .ofNat 0)), 0, 0)]
set_option maxRecDepth 1000000 in
theorem cv1621 {gh : sxGh} (hg : sxGd sxKw gh) : sxCtV sxKw gh ct1621 := sxMeB_ok (cts := [ct1596, ct1620]) (cuts := cu1621) (sp := []) 285 (by decide +kernel) hg (by decide) (by decide) (List.forall_mem_cons.mpr ⟨cv1596 hg, (List.forall_mem_cons.mpr ⟨cv1620 hg, (fun _ h => absurd h List.not_mem_nil)⟩)⟩)
/-- LotBeliefs.TongueReader.readRelation -/
def ct1622 : sxCt := (107, 8, (1, [], [], [(0, .inl 1), (1, .inl 23)], [], [(1, (0, .ofNat 7), .inr (false, (0, .ofNat 5)))], []), [(1, 4), (1, 5), (1, 6), (1, 7), (1, 8), (1, 9), (1, 10), (23, 3), (24, 0)], [
  (3, [(1, .ofNat 0, .ofNat 4), (2, .ofNat 1, .ofNat 201)], [], [], [], [(1, (0, .ofNat 3), .inr (false, (1, .ofNat 0))), (1, (0, .ofNat 7), .inr (false, (0, .ofNat 5))), (23, (0, .ofNat 2), .inr (false, (2, .ofNat 0)))], [])], [], 0, 0)
def cu1622 : List sxCu := []
set_option maxRecDepth 1000000 in
theorem cv1622 {gh : sxGh} (hg : sxGd sxKw gh) : sxCtV sxKw gh ct1622 := sxMeB_ok (cts := [ct1596, ct1621]) (cuts := cu1622) (sp := []) 617 (by decide +kernel) hg (by decide) (by decide) (List.forall_mem_cons.mpr ⟨cv1596 hg, (List.forall_mem_cons.mpr ⟨cv1621 hg, (fun _ h => absurd h List.not_mem_nil)⟩)⟩)
/-- LotBeliefs.TongueReader.readPart -/
def ct1623 : sxCt := (106, 9, (1, [], [], [(0, .inl 1), (1, .inl 23)], [], [(1, (0, .ofNat 7), .inr (false, (0, .ofNat 5)))], []), [(1, 4), (1, 5), (1, 6), (1, 7), (1, 8), (1, 9), (1, 10), (23, 3), (24, 0)], [
  (2, [(1, .ofNat 0, .ofNat 4)], [], [], [], [(1, (0, .ofNat 3), .inr (false, (1, .ofNat 0))), (1, (0, .ofNat 7), .inr (false, (0, .ofNat 5)))], [])], [], 0, 0)
def cu1623 : List sxCu := []
set_option maxRecDepth 1000000 in
theorem cv1623 {gh : sxGh} (hg : sxGd sxKw gh) : sxCtV sxKw gh ct1623 := sxMeB_ok (cts := [ct1596, ct1598, ct1618, ct1614, ct1622]) (cuts := cu1623) (sp := []) 290 (by decide +kernel) hg (by decide) (by decide) (List.forall_mem_cons.mpr ⟨cv1596 hg, (List.forall_mem_cons.mpr ⟨cv1598 hg, (List.forall_mem_cons.mpr ⟨cv1618 hg, (List.forall_mem_cons.mpr ⟨cv1614 hg, (List.forall_mem_cons.mpr ⟨cv1622 hg, (fun _ h => absurd h List.not_mem_nil)⟩)⟩)⟩)⟩)⟩)
/-- LotBeliefs.TongueReader.readEach -/
def ct1624 : sxCt := (105, 10, (1, [], [], [(0, .inl 1), (1, .inl 23)], [], [(1, (0, .ofNat 7), .inr (false, (0, .ofNat 5)))], []), [(1, 4), (1, 5), (1, 6), (1, 7), (1, 8), (1, 9), (1, 10), (23, 3), (24, 0)], [
  (2, [(1, .ofNat 0, .ofNat 4)], [], [], [], [(1, (0, .ofNat 3), .inr (false, (1, .ofNat 0))), (1, (0, .ofNat 7), .inr (false, (0, .ofNat 5)))], [])], [], 0, 0)
def cu1624 : List sxCu := [
  (7, (3, [(1, .ofNat 0, .ofNat 200), (2, .ofNat 0, .ofNat 4)], [], [(0, .inl 1), (1, .inl 23), (2, .inr (false, (1, .ofNat 0)))], [], [(1, (0, .ofNat 3), .inr (false, (2, .ofNat 0))), (1, (0, .ofNat 7), .inr (false, (0, .ofNat 5)))], []), ((0, 1, .ofNat 200), (0, 0, .ofNat 0), (0, 0, .ofNat 0)), 0, 0)]
set_option maxRecDepth 1000000 in
theorem cv1624 {gh : sxGh} (hg : sxGd sxKw gh) : sxCtV sxKw gh ct1624 := sxMeB_ok (cts := [ct1596, ct1615, ct1623]) (cuts := cu1624) (sp := []) 111 (by decide +kernel) hg (by decide) (by decide) (List.forall_mem_cons.mpr ⟨cv1596 hg, (List.forall_mem_cons.mpr ⟨cv1615 hg, (List.forall_mem_cons.mpr ⟨cv1623 hg, (fun _ h => absurd h List.not_mem_nil)⟩)⟩)⟩)
/-- LotBeliefs.TongueReader.readEither -/
def ct1625 : sxCt := (104, 11, (1, [], [], [(0, .inl 1), (1, .inl 23)], [], [(1, (0, .ofNat 7), .inr (false, (0, .ofNat 5)))], []), [(1, 4), (1, 5), (1, 6), (1, 7), (1, 8), (1, 9), (1, 10), (23, 3), (24, 0)], [
  (2, [(1, .ofNat 0, .ofNat 4)], [], [], [], [(1, (0, .ofNat 3), .inr (false, (1, .ofNat 0))), (1, (0, .ofNat 7), .inr (false, (0, .ofNat 5)))], [])], [], 0, 0)
def cu1625 : List sxCu := [
  (7, (3, [(1, .ofNat 0, .ofNat 200), (2, .ofNat 0, .ofNat 4)], [], [(0, .inl 1), (1, .inl 23), (2, .inr (false, (1, .ofNat 0)))], [], [(1, (0, .ofNat 3), .inr (false, (2, .ofNat 0))), (1, (0, .ofNat 7), .inr (false, (0, .ofNat 5)))], []), ((0, 1, .ofNat 200), (0, 0, .ofNat 0), (0, 0, .ofNat 0)), 0, 0)]
set_option maxRecDepth 1000000 in
theorem cv1625 {gh : sxGh} (hg : sxGd sxKw gh) : sxCtV sxKw gh ct1625 := sxMeB_ok (cts := [ct1596, ct1617, ct1624]) (cuts := cu1625) (sp := []) 111 (by decide +kernel) hg (by decide) (by decide) (List.forall_mem_cons.mpr ⟨cv1596 hg, (List.forall_mem_cons.mpr ⟨cv1617 hg, (List.forall_mem_cons.mpr ⟨cv1624 hg, (fun _ h => absurd h List.not_mem_nil)⟩)⟩)⟩)
/-- LotBeliefs.TongueReader.readValue -/
def ct1626 : sxCt := (110, 8, (1, [], [], [(0, .inl 1), (1, .inl 23)], [], [(1, (0, .ofNat 7), .inr (false, (0, .ofNat 4)))], []), [(1, 4), (1, 5), (1, 6), (1, 7), (1, 8), (1, 9), (1, 10), (23, 3), (24, 0)], [
  (2, [(1, .ofNat 0, .ofNat 4)], [], [], [], [(1, (0, .ofNat 3), .inr (false, (1, .ofNat 0))), (1, (0, .ofNat 7), .inr (false, (0, .ofNat 4)))], [])], [], 0, 0)
def cu1626 : List sxCu := []
set_option maxRecDepth 1000000 in
theorem cv1626 {gh : sxGh} (hg : sxGd sxKw gh) : sxCtV sxKw gh ct1626 := sxMeB_ok (cts := [ct1596, ct1621, ct1609]) (cuts := cu1626) (sp := []) 583 (by decide +kernel) hg (by decide) (by decide) (List.forall_mem_cons.mpr ⟨cv1596 hg, (List.forall_mem_cons.mpr ⟨cv1621 hg, (List.forall_mem_cons.mpr ⟨cv1609 hg, (fun _ h => absurd h List.not_mem_nil)⟩)⟩)⟩)
/-- LotBeliefs.TongueReader.readProduct -/
def ct1627 : sxCt := (109, 9, (1, [], [], [(0, .inl 1), (1, .inl 23)], [], [(1, (0, .ofNat 7), .inr (false, (0, .ofNat 4)))], []), [(1, 4), (1, 5), (1, 6), (1, 7), (1, 8), (1, 9), (1, 10), (23, 3), (24, 0)], [
  (2, [(1, .ofNat 0, .ofNat 4)], [], [], [], [(1, (0, .ofNat 3), .inr (false, (1, .ofNat 0))), (1, (0, .ofNat 7), .inr (false, (0, .ofNat 4)))], [])], [], 0, 0)
def cu1627 : List sxCu := [
  (7, (3, [(1, .ofNat 0, .ofNat 200), (2, .ofNat 0, .ofNat 4)], [], [(0, .inl 1), (1, .inl 23), (2, .inr (false, (1, .ofNat 0)))], [], [(1, (0, .ofNat 3), .inr (false, (2, .ofNat 0))), (1, (0, .ofNat 7), .inr (false, (0, .ofNat 4)))], []), ((0, 1, .ofNat 200), (0, 0, .ofNat 0), (0, 0, .ofNat 0)), 0, 0)]
set_option maxRecDepth 1000000 in
theorem cv1627 {gh : sxGh} (hg : sxGd sxKw gh) : sxCtV sxKw gh ct1627 := sxMeB_ok (cts := [ct1596, ct1626]) (cuts := cu1627) (sp := []) 127 (by decide +kernel) hg (by decide) (by decide) (List.forall_mem_cons.mpr ⟨cv1596 hg, (List.forall_mem_cons.mpr ⟨cv1626 hg, (fun _ h => absurd h List.not_mem_nil)⟩)⟩)
/-- LotBeliefs.TongueReader.readSum -/
def ct1628 : sxCt := (108, 10, (1, [], [], [(0, .inl 1), (1, .inl 23)], [], [(1, (0, .ofNat 7), .inr (false, (0, .ofNat 4)))], []), [(1, 4), (1, 5), (1, 6), (1, 7), (1, 8), (1, 9), (1, 10), (23, 3), (24, 0)], [
  (2, [(1, .ofNat 0, .ofNat 4)], [], [], [], [(1, (0, .ofNat 3), .inr (false, (1, .ofNat 0))), (1, (0, .ofNat 7), .inr (false, (0, .ofNat 4)))], [])], [], 0, 0)
def cu1628 : List sxCu := [
  (7, (3, [(1, .ofNat 0, .ofNat 200), (2, .ofNat 0, .ofNat 4)], [], [(0, .inl 1), (1, .inl 23), (2, .inr (false, (1, .ofNat 0)))], [], [(1, (0, .ofNat 3), .inr (false, (2, .ofNat 0))), (1, (0, .ofNat 7), .inr (false, (0, .ofNat 4)))], []), ((0, 1, .ofNat 200), (0, 0, .ofNat 0), (0, 0, .ofNat 0)), 0, 0)]
set_option maxRecDepth 1000000 in
theorem cv1628 {gh : sxGh} (hg : sxGd sxKw gh) : sxCtV sxKw gh ct1628 := sxMeB_ok (cts := [ct1596, ct1627]) (cuts := cu1628) (sp := []) 285 (by decide +kernel) hg (by decide) (by decide) (List.forall_mem_cons.mpr ⟨cv1596 hg, (List.forall_mem_cons.mpr ⟨cv1627 hg, (fun _ h => absurd h List.not_mem_nil)⟩)⟩)
/-- LotBeliefs.TongueReader.readRelation -/
def ct1629 : sxCt := (107, 11, (1, [], [], [(0, .inl 1), (1, .inl 23)], [], [(1, (0, .ofNat 7), .inr (false, (0, .ofNat 4)))], []), [(1, 4), (1, 5), (1, 6), (1, 7), (1, 8), (1, 9), (1, 10), (23, 3), (24, 0)], [
  (3, [(1, .ofNat 0, .ofNat 4), (2, .ofNat 1, .ofNat 201)], [], [], [], [(1, (0, .ofNat 3), .inr (false, (1, .ofNat 0))), (1, (0, .ofNat 7), .inr (false, (0, .ofNat 4))), (23, (0, .ofNat 2), .inr (false, (2, .ofNat 0)))], [])], [], 0, 0)
def cu1629 : List sxCu := []
set_option maxRecDepth 1000000 in
theorem cv1629 {gh : sxGh} (hg : sxGd sxKw gh) : sxCtV sxKw gh ct1629 := sxMeB_ok (cts := [ct1596, ct1628]) (cuts := cu1629) (sp := []) 617 (by decide +kernel) hg (by decide) (by decide) (List.forall_mem_cons.mpr ⟨cv1596 hg, (List.forall_mem_cons.mpr ⟨cv1628 hg, (fun _ h => absurd h List.not_mem_nil)⟩)⟩)
/-- LotBeliefs.TongueReader.readPart -/
def ct1630 : sxCt := (106, 12, (1, [], [], [(0, .inl 1), (1, .inl 23)], [], [(1, (0, .ofNat 7), .inr (false, (0, .ofNat 4)))], []), [(1, 4), (1, 5), (1, 6), (1, 7), (1, 8), (1, 9), (1, 10), (23, 3), (24, 0)], [
  (2, [(1, .ofNat 0, .ofNat 4)], [], [], [], [(1, (0, .ofNat 3), .inr (false, (1, .ofNat 0))), (1, (0, .ofNat 7), .inr (false, (0, .ofNat 4)))], [])], [], 0, 0)
def cu1630 : List sxCu := []
set_option maxRecDepth 1000000 in
theorem cv1630 {gh : sxGh} (hg : sxGd sxKw gh) : sxCtV sxKw gh ct1630 := sxMeB_ok (cts := [ct1596, ct1598, ct1625, ct1623, ct1629]) (cuts := cu1630) (sp := []) 290 (by decide +kernel) hg (by decide) (by decide) (List.forall_mem_cons.mpr ⟨cv1596 hg, (List.forall_mem_cons.mpr ⟨cv1598 hg, (List.forall_mem_cons.mpr ⟨cv1625 hg, (List.forall_mem_cons.mpr ⟨cv1623 hg, (List.forall_mem_cons.mpr ⟨cv1629 hg, (fun _ h => absurd h List.not_mem_nil)⟩)⟩)⟩)⟩)⟩)
/-- LotBeliefs.TongueReader.readEach -/
def ct1631 : sxCt := (105, 13, (1, [], [], [(0, .inl 1), (1, .inl 23)], [], [(1, (0, .ofNat 7), .inr (false, (0, .ofNat 4)))], []), [(1, 4), (1, 5), (1, 6), (1, 7), (1, 8), (1, 9), (1, 10), (23, 3), (24, 0)], [
  (2, [(1, .ofNat 0, .ofNat 4)], [], [], [], [(1, (0, .ofNat 3), .inr (false, (1, .ofNat 0))), (1, (0, .ofNat 7), .inr (false, (0, .ofNat 4)))], [])], [], 0, 0)
def cu1631 : List sxCu := [
  (7, (3, [(1, .ofNat 0, .ofNat 200), (2, .ofNat 0, .ofNat 4)], [], [(0, .inl 1), (1, .inl 23), (2, .inr (false, (1, .ofNat 0)))], [], [(1, (0, .ofNat 3), .inr (false, (2, .ofNat 0))), (1, (0, .ofNat 7), .inr (false, (0, .ofNat 4)))], []), ((0, 1, .ofNat 200), (0, 0, .ofNat 0), (0, 0, .ofNat 0)), 0, 0)]
set_option maxRecDepth 1000000 in
theorem cv1631 {gh : sxGh} (hg : sxGd sxKw gh) : sxCtV sxKw gh ct1631 := sxMeB_ok (cts := [ct1596, ct1615, ct1630]) (cuts := cu1631) (sp := []) 111 (by decide +kernel) hg (by decide) (by decide) (List.forall_mem_cons.mpr ⟨cv1596 hg, (List.forall_mem_cons.mpr ⟨cv1615 hg, (List.forall_mem_cons.mpr ⟨cv1630 hg, (fun _ h => absurd h List.not_mem_nil)⟩)⟩)⟩)
/-- LotBeliefs.TongueReader.readEither -/
def ct1632 : sxCt := (104, 14, (1, [], [], [(0, .inl 1), (1, .inl 23)], [], [(1, (0, .ofNat 7), .inr (false, (0, .ofNat 4)))], []), [(1, 4), (1, 5), (1, 6), (1, 7), (1, 8), (1, 9), (1, 10), (23, 3), (24, 0)], [
  (2, [(1, .ofNat 0, .ofNat 4)], [], [], [], [(1, (0, .ofNat 3), .inr (false, (1, .ofNat 0))), (1, (0, .ofNat 7), .inr (false, (0, .ofNat 4)))], [])], [], 0, 0)
def cu1632 : List sxCu := [
  (7, (3, [(1, .ofNat 0, .ofNat 200), (2, .ofNat 0, .ofNat 4)], [], [(0, .inl 1), (1, .inl 23), (2, .inr (false, (1, .ofNat 0)))], [], [(1, (0, .ofNat 3), .inr (false, (2, .ofNat 0))), (1, (0, .ofNat 7), .inr (false, (0, .ofNat 4)))], []), ((0, 1, .ofNat 200), (0, 0, .ofNat 0), (0, 0, .ofNat 0)), 0, 0)]
set_option maxRecDepth 1000000 in
theorem cv1632 {gh : sxGh} (hg : sxGd sxKw gh) : sxCtV sxKw gh ct1632 := sxMeB_ok (cts := [ct1596, ct1617, ct1631]) (cuts := cu1632) (sp := []) 111 (by decide +kernel) hg (by decide) (by decide) (List.forall_mem_cons.mpr ⟨cv1596 hg, (List.forall_mem_cons.mpr ⟨cv1617 hg, (List.forall_mem_cons.mpr ⟨cv1631 hg, (fun _ h => absurd h List.not_mem_nil)⟩)⟩)⟩)
/-- LotBeliefs.TongueReader.readValue -/
def ct1633 : sxCt := (110, 11, (1, [], [], [(0, .inl 1), (1, .inl 23)], [], [(1, (0, .ofNat 7), .inr (false, (0, .ofNat 3)))], []), [(1, 4), (1, 5), (1, 6), (1, 7), (1, 8), (1, 9), (1, 10), (23, 3), (24, 0)], [
  (2, [(1, .ofNat 0, .ofNat 4)], [], [], [], [(1, (0, .ofNat 3), .inr (false, (1, .ofNat 0))), (1, (0, .ofNat 7), .inr (false, (0, .ofNat 3)))], [])], [], 0, 0)
def cu1633 : List sxCu := []
set_option maxRecDepth 1000000 in
theorem cv1633 {gh : sxGh} (hg : sxGd sxKw gh) : sxCtV sxKw gh ct1633 := sxMeB_ok (cts := [ct1596, ct1628, ct1609]) (cuts := cu1633) (sp := []) 583 (by decide +kernel) hg (by decide) (by decide) (List.forall_mem_cons.mpr ⟨cv1596 hg, (List.forall_mem_cons.mpr ⟨cv1628 hg, (List.forall_mem_cons.mpr ⟨cv1609 hg, (fun _ h => absurd h List.not_mem_nil)⟩)⟩)⟩)
/-- LotBeliefs.TongueReader.readProduct -/
def ct1634 : sxCt := (109, 12, (1, [], [], [(0, .inl 1), (1, .inl 23)], [], [(1, (0, .ofNat 7), .inr (false, (0, .ofNat 3)))], []), [(1, 4), (1, 5), (1, 6), (1, 7), (1, 8), (1, 9), (1, 10), (23, 3), (24, 0)], [
  (2, [(1, .ofNat 0, .ofNat 4)], [], [], [], [(1, (0, .ofNat 3), .inr (false, (1, .ofNat 0))), (1, (0, .ofNat 7), .inr (false, (0, .ofNat 3)))], [])], [], 0, 0)
def cu1634 : List sxCu := [
  (7, (3, [(1, .ofNat 0, .ofNat 200), (2, .ofNat 0, .ofNat 4)], [], [(0, .inl 1), (1, .inl 23), (2, .inr (false, (1, .ofNat 0)))], [], [(1, (0, .ofNat 3), .inr (false, (2, .ofNat 0))), (1, (0, .ofNat 7), .inr (false, (0, .ofNat 3)))], []), ((0, 1, .ofNat 200), (0, 0, .ofNat 0), (0, 0, .ofNat 0)), 0, 0)]
set_option maxRecDepth 1000000 in
theorem cv1634 {gh : sxGh} (hg : sxGd sxKw gh) : sxCtV sxKw gh ct1634 := sxMeB_ok (cts := [ct1596, ct1633]) (cuts := cu1634) (sp := []) 127 (by decide +kernel) hg (by decide) (by decide) (List.forall_mem_cons.mpr ⟨cv1596 hg, (List.forall_mem_cons.mpr ⟨cv1633 hg, (fun _ h => absurd h List.not_mem_nil)⟩)⟩)
/-- LotBeliefs.TongueReader.readSum -/
def ct1635 : sxCt := (108, 13, (1, [], [], [(0, .inl 1), (1, .inl 23)], [], [(1, (0, .ofNat 7), .inr (false, (0, .ofNat 3)))], []), [(1, 4), (1, 5), (1, 6), (1, 7), (1, 8), (1, 9), (1, 10), (23, 3), (24, 0)], [
  (2, [(1, .ofNat 0, .ofNat 4)], [], [], [], [(1, (0, .ofNat 3), .inr (false, (1, .ofNat 0))), (1, (0, .ofNat 7), .inr (false, (0, .ofNat 3)))], [])], [], 0, 0)
def cu1635 : List sxCu := [
  (7, (3, [(1, .ofNat 0, .ofNat 200), (2, .ofNat 0, .ofNat 4)], [], [(0, .inl 1), (1, .inl 23), (2, .inr (false, (1, .ofNat 0)))], [], [(1, (0, .ofNat 3), .inr (false, (2, .ofNat 0))), (1, (0, .ofNat 7), .inr (false, (0, .ofNat 3)))], []), ((0, 1, .ofNat 200), (0, 0, .ofNat 0), (0, 0, .ofNat 0)), 0, 0)]
set_option maxRecDepth 1000000 in
theorem cv1635 {gh : sxGh} (hg : sxGd sxKw gh) : sxCtV sxKw gh ct1635 := sxMeB_ok (cts := [ct1596, ct1634]) (cuts := cu1635) (sp := []) 285 (by decide +kernel) hg (by decide) (by decide) (List.forall_mem_cons.mpr ⟨cv1596 hg, (List.forall_mem_cons.mpr ⟨cv1634 hg, (fun _ h => absurd h List.not_mem_nil)⟩)⟩)
/-- LotBeliefs.TongueReader.readRelation -/
def ct1636 : sxCt := (107, 14, (1, [], [], [(0, .inl 1), (1, .inl 23)], [], [(1, (0, .ofNat 7), .inr (false, (0, .ofNat 3)))], []), [(1, 4), (1, 5), (1, 6), (1, 7), (1, 8), (1, 9), (1, 10), (23, 3), (24, 0)], [
  (3, [(1, .ofNat 0, .ofNat 4), (2, .ofNat 1, .ofNat 201)], [], [], [], [(1, (0, .ofNat 3), .inr (false, (1, .ofNat 0))), (1, (0, .ofNat 7), .inr (false, (0, .ofNat 3))), (23, (0, .ofNat 2), .inr (false, (2, .ofNat 0)))], [])], [], 0, 0)
def cu1636 : List sxCu := []
set_option maxRecDepth 1000000 in
theorem cv1636 {gh : sxGh} (hg : sxGd sxKw gh) : sxCtV sxKw gh ct1636 := sxMeB_ok (cts := [ct1596, ct1635]) (cuts := cu1636) (sp := []) 617 (by decide +kernel) hg (by decide) (by decide) (List.forall_mem_cons.mpr ⟨cv1596 hg, (List.forall_mem_cons.mpr ⟨cv1635 hg, (fun _ h => absurd h List.not_mem_nil)⟩)⟩)
/-- LotBeliefs.TongueReader.readPart -/
def ct1637 : sxCt := (106, 15, (1, [], [], [(0, .inl 1), (1, .inl 23)], [], [(1, (0, .ofNat 7), .inr (false, (0, .ofNat 3)))], []), [(1, 4), (1, 5), (1, 6), (1, 7), (1, 8), (1, 9), (1, 10), (23, 3), (24, 0)], [
  (2, [(1, .ofNat 0, .ofNat 4)], [], [], [], [(1, (0, .ofNat 3), .inr (false, (1, .ofNat 0))), (1, (0, .ofNat 7), .inr (false, (0, .ofNat 3)))], [])], [], 0, 0)
def cu1637 : List sxCu := []
set_option maxRecDepth 1000000 in
theorem cv1637 {gh : sxGh} (hg : sxGd sxKw gh) : sxCtV sxKw gh ct1637 := sxMeB_ok (cts := [ct1596, ct1598, ct1632, ct1630, ct1636]) (cuts := cu1637) (sp := []) 290 (by decide +kernel) hg (by decide) (by decide) (List.forall_mem_cons.mpr ⟨cv1596 hg, (List.forall_mem_cons.mpr ⟨cv1598 hg, (List.forall_mem_cons.mpr ⟨cv1632 hg, (List.forall_mem_cons.mpr ⟨cv1630 hg, (List.forall_mem_cons.mpr ⟨cv1636 hg, (fun _ h => absurd h List.not_mem_nil)⟩)⟩)⟩)⟩)⟩)
/-- LotBeliefs.TongueReader.readEach -/
def ct1638 : sxCt := (105, 16, (1, [], [], [(0, .inl 1), (1, .inl 23)], [], [(1, (0, .ofNat 7), .inr (false, (0, .ofNat 3)))], []), [(1, 4), (1, 5), (1, 6), (1, 7), (1, 8), (1, 9), (1, 10), (23, 3), (24, 0)], [
  (2, [(1, .ofNat 0, .ofNat 4)], [], [], [], [(1, (0, .ofNat 3), .inr (false, (1, .ofNat 0))), (1, (0, .ofNat 7), .inr (false, (0, .ofNat 3)))], [])], [], 0, 0)
def cu1638 : List sxCu := [
  (7, (3, [(1, .ofNat 0, .ofNat 200), (2, .ofNat 0, .ofNat 4)], [], [(0, .inl 1), (1, .inl 23), (2, .inr (false, (1, .ofNat 0)))], [], [(1, (0, .ofNat 3), .inr (false, (2, .ofNat 0))), (1, (0, .ofNat 7), .inr (false, (0, .ofNat 3)))], []), ((0, 1, .ofNat 200), (0, 0, .ofNat 0), (0, 0, .ofNat 0)), 0, 0)]
set_option maxRecDepth 1000000 in
theorem cv1638 {gh : sxGh} (hg : sxGd sxKw gh) : sxCtV sxKw gh ct1638 := sxMeB_ok (cts := [ct1596, ct1615, ct1637]) (cuts := cu1638) (sp := []) 111 (by decide +kernel) hg (by decide) (by decide) (List.forall_mem_cons.mpr ⟨cv1596 hg, (List.forall_mem_cons.mpr ⟨cv1615 hg, (List.forall_mem_cons.mpr ⟨cv1637 hg, (fun _ h => absurd h List.not_mem_nil)⟩)⟩)⟩)
/-- LotBeliefs.TongueReader.readEither -/
def ct1639 : sxCt := (104, 17, (1, [], [], [(0, .inl 1), (1, .inl 23)], [], [(1, (0, .ofNat 7), .inr (false, (0, .ofNat 3)))], []), [(1, 4), (1, 5), (1, 6), (1, 7), (1, 8), (1, 9), (1, 10), (23, 3), (24, 0)], [
  (2, [(1, .ofNat 0, .ofNat 4)], [], [], [], [(1, (0, .ofNat 3), .inr (false, (1, .ofNat 0))), (1, (0, .ofNat 7), .inr (false, (0, .ofNat 3)))], [])], [], 0, 0)
def cu1639 : List sxCu := [
  (7, (3, [(1, .ofNat 0, .ofNat 200), (2, .ofNat 0, .ofNat 4)], [], [(0, .inl 1), (1, .inl 23), (2, .inr (false, (1, .ofNat 0)))], [], [(1, (0, .ofNat 3), .inr (false, (2, .ofNat 0))), (1, (0, .ofNat 7), .inr (false, (0, .ofNat 3)))], []), ((0, 1, .ofNat 200), (0, 0, .ofNat 0), (0, 0, .ofNat 0)), 0, 0)]
set_option maxRecDepth 1000000 in
theorem cv1639 {gh : sxGh} (hg : sxGd sxKw gh) : sxCtV sxKw gh ct1639 := sxMeB_ok (cts := [ct1596, ct1617, ct1638]) (cuts := cu1639) (sp := []) 111 (by decide +kernel) hg (by decide) (by decide) (List.forall_mem_cons.mpr ⟨cv1596 hg, (List.forall_mem_cons.mpr ⟨cv1617 hg, (List.forall_mem_cons.mpr ⟨cv1638 hg, (fun _ h => absurd h List.not_mem_nil)⟩)⟩)⟩)
/-- LotBeliefs.TongueReader.readValue -/
def ct1640 : sxCt := (110, 14, (1, [], [], [(0, .inl 1), (1, .inl 23)], [], [(1, (0, .ofNat 7), .inr (false, (0, .ofNat 2)))], []), [(1, 4), (1, 5), (1, 6), (1, 7), (1, 8), (1, 9), (1, 10), (23, 3), (24, 0)], [
  (2, [(1, .ofNat 0, .ofNat 4)], [], [], [], [(1, (0, .ofNat 3), .inr (false, (1, .ofNat 0))), (1, (0, .ofNat 7), .inr (false, (0, .ofNat 2)))], [])], [], 0, 0)
def cu1640 : List sxCu := []
set_option maxRecDepth 1000000 in
theorem cv1640 {gh : sxGh} (hg : sxGd sxKw gh) : sxCtV sxKw gh ct1640 := sxMeB_ok (cts := [ct1596, ct1635, ct1609]) (cuts := cu1640) (sp := []) 583 (by decide +kernel) hg (by decide) (by decide) (List.forall_mem_cons.mpr ⟨cv1596 hg, (List.forall_mem_cons.mpr ⟨cv1635 hg, (List.forall_mem_cons.mpr ⟨cv1609 hg, (fun _ h => absurd h List.not_mem_nil)⟩)⟩)⟩)
/-- LotBeliefs.TongueReader.readProduct -/
def ct1641 : sxCt := (109, 15, (1, [], [], [(0, .inl 1), (1, .inl 23)], [], [(1, (0, .ofNat 7), .inr (false, (0, .ofNat 2)))], []), [(1, 4), (1, 5), (1, 6), (1, 7), (1, 8), (1, 9), (1, 10), (23, 3), (24, 0)], [
  (2, [(1, .ofNat 0, .ofNat 4)], [], [], [], [(1, (0, .ofNat 3), .inr (false, (1, .ofNat 0))), (1, (0, .ofNat 7), .inr (false, (0, .ofNat 2)))], [])], [], 0, 0)
def cu1641 : List sxCu := [
  (7, (3, [(1, .ofNat 0, .ofNat 200), (2, .ofNat 0, .ofNat 4)], [], [(0, .inl 1), (1, .inl 23), (2, .inr (false, (1, .ofNat 0)))], [], [(1, (0, .ofNat 3), .inr (false, (2, .ofNat 0))), (1, (0, .ofNat 7), .inr (false, (0, .ofNat 2)))], []), ((0, 1, .ofNat 200), (0, 0, .ofNat 0), (0, 0, .ofNat 0)), 0, 0)]
set_option maxRecDepth 1000000 in
theorem cv1641 {gh : sxGh} (hg : sxGd sxKw gh) : sxCtV sxKw gh ct1641 := sxMeB_ok (cts := [ct1596, ct1640]) (cuts := cu1641) (sp := []) 127 (by decide +kernel) hg (by decide) (by decide) (List.forall_mem_cons.mpr ⟨cv1596 hg, (List.forall_mem_cons.mpr ⟨cv1640 hg, (fun _ h => absurd h List.not_mem_nil)⟩)⟩)
/-- LotBeliefs.TongueReader.readSum -/
def ct1642 : sxCt := (108, 16, (1, [], [], [(0, .inl 1), (1, .inl 23)], [], [(1, (0, .ofNat 7), .inr (false, (0, .ofNat 2)))], []), [(1, 4), (1, 5), (1, 6), (1, 7), (1, 8), (1, 9), (1, 10), (23, 3), (24, 0)], [
  (2, [(1, .ofNat 0, .ofNat 4)], [], [], [], [(1, (0, .ofNat 3), .inr (false, (1, .ofNat 0))), (1, (0, .ofNat 7), .inr (false, (0, .ofNat 2)))], [])], [], 0, 0)
def cu1642 : List sxCu := [
  (7, (3, [(1, .ofNat 0, .ofNat 200), (2, .ofNat 0, .ofNat 4)], [], [(0, .inl 1), (1, .inl 23), (2, .inr (false, (1, .ofNat 0)))], [], [(1, (0, .ofNat 3), .inr (false, (2, .ofNat 0))), (1, (0, .ofNat 7), .inr (false, (0, .ofNat 2)))], []), ((0, 1, .ofNat 200), (0, 0, .ofNat 0), (0, 0, .ofNat 0)), 0, 0)]
set_option maxRecDepth 1000000 in
theorem cv1642 {gh : sxGh} (hg : sxGd sxKw gh) : sxCtV sxKw gh ct1642 := sxMeB_ok (cts := [ct1596, ct1641]) (cuts := cu1642) (sp := []) 285 (by decide +kernel) hg (by decide) (by decide) (List.forall_mem_cons.mpr ⟨cv1596 hg, (List.forall_mem_cons.mpr ⟨cv1641 hg, (fun _ h => absurd h List.not_mem_nil)⟩)⟩)
/-- LotBeliefs.TongueReader.readRelation -/
def ct1643 : sxCt := (107, 17, (1, [], [], [(0, .inl 1), (1, .inl 23)], [], [(1, (0, .ofNat 7), .inr (false, (0, .ofNat 2)))], []), [(1, 4), (1, 5), (1, 6), (1, 7), (1, 8), (1, 9), (1, 10), (23, 3), (24, 0)], [
  (3, [(1, .ofNat 0, .ofNat 4), (2, .ofNat 1, .ofNat 201)], [], [], [], [(1, (0, .ofNat 3), .inr (false, (1, .ofNat 0))), (1, (0, .ofNat 7), .inr (false, (0, .ofNat 2))), (23, (0, .ofNat 2), .inr (false, (2, .ofNat 0)))], [])], [], 0, 0)
def cu1643 : List sxCu := []
set_option maxRecDepth 1000000 in
theorem cv1643 {gh : sxGh} (hg : sxGd sxKw gh) : sxCtV sxKw gh ct1643 := sxMeB_ok (cts := [ct1596, ct1642]) (cuts := cu1643) (sp := []) 617 (by decide +kernel) hg (by decide) (by decide) (List.forall_mem_cons.mpr ⟨cv1596 hg, (List.forall_mem_cons.mpr ⟨cv1642 hg, (fun _ h => absurd h List.not_mem_nil)⟩)⟩)
/-- LotBeliefs.TongueReader.readPart -/
def ct1644 : sxCt := (106, 18, (1, [], [], [(0, .inl 1), (1, .inl 23)], [], [(1, (0, .ofNat 7), .inr (false, (0, .ofNat 2)))], []), [(1, 4), (1, 5), (1, 6), (1, 7), (1, 8), (1, 9), (1, 10), (23, 3), (24, 0)], [
  (2, [(1, .ofNat 0, .ofNat 4)], [], [], [], [(1, (0, .ofNat 3), .inr (false, (1, .ofNat 0))), (1, (0, .ofNat 7), .inr (false, (0, .ofNat 2)))], [])], [], 0, 0)
def cu1644 : List sxCu := []
set_option maxRecDepth 1000000 in
theorem cv1644 {gh : sxGh} (hg : sxGd sxKw gh) : sxCtV sxKw gh ct1644 := sxMeB_ok (cts := [ct1596, ct1598, ct1639, ct1637, ct1643]) (cuts := cu1644) (sp := []) 290 (by decide +kernel) hg (by decide) (by decide) (List.forall_mem_cons.mpr ⟨cv1596 hg, (List.forall_mem_cons.mpr ⟨cv1598 hg, (List.forall_mem_cons.mpr ⟨cv1639 hg, (List.forall_mem_cons.mpr ⟨cv1637 hg, (List.forall_mem_cons.mpr ⟨cv1643 hg, (fun _ h => absurd h List.not_mem_nil)⟩)⟩)⟩)⟩)⟩)
/-- LotBeliefs.TongueReader.readEach -/
def ct1645 : sxCt := (105, 19, (1, [], [], [(0, .inl 1), (1, .inl 23)], [], [(1, (0, .ofNat 7), .inr (false, (0, .ofNat 2)))], []), [(1, 4), (1, 5), (1, 6), (1, 7), (1, 8), (1, 9), (1, 10), (23, 3), (24, 0)], [
  (2, [(1, .ofNat 0, .ofNat 4)], [], [], [], [(1, (0, .ofNat 3), .inr (false, (1, .ofNat 0))), (1, (0, .ofNat 7), .inr (false, (0, .ofNat 2)))], [])], [], 0, 0)
def cu1645 : List sxCu := [
  (7, (3, [(1, .ofNat 0, .ofNat 200), (2, .ofNat 0, .ofNat 4)], [], [(0, .inl 1), (1, .inl 23), (2, .inr (false, (1, .ofNat 0)))], [], [(1, (0, .ofNat 3), .inr (false, (2, .ofNat 0))), (1, (0, .ofNat 7), .inr (false, (0, .ofNat 2)))], []), ((0, 1, .ofNat 200), (0, 0, .ofNat 0), (0, 0, .ofNat 0)), 0, 0)]
set_option maxRecDepth 1000000 in
theorem cv1645 {gh : sxGh} (hg : sxGd sxKw gh) : sxCtV sxKw gh ct1645 := sxMeB_ok (cts := [ct1596, ct1615, ct1644]) (cuts := cu1645) (sp := []) 111 (by decide +kernel) hg (by decide) (by decide) (List.forall_mem_cons.mpr ⟨cv1596 hg, (List.forall_mem_cons.mpr ⟨cv1615 hg, (List.forall_mem_cons.mpr ⟨cv1644 hg, (fun _ h => absurd h List.not_mem_nil)⟩)⟩)⟩)
/-- LotBeliefs.TongueReader.readEither -/
def ct1646 : sxCt := (104, 20, (1, [], [], [(0, .inl 1), (1, .inl 23)], [], [(1, (0, .ofNat 7), .inr (false, (0, .ofNat 2)))], []), [(1, 4), (1, 5), (1, 6), (1, 7), (1, 8), (1, 9), (1, 10), (23, 3), (24, 0)], [
  (2, [(1, .ofNat 0, .ofNat 4)], [], [], [], [(1, (0, .ofNat 3), .inr (false, (1, .ofNat 0))), (1, (0, .ofNat 7), .inr (false, (0, .ofNat 2)))], [])], [], 0, 0)
def cu1646 : List sxCu := [
  (7, (3, [(1, .ofNat 0, .ofNat 200), (2, .ofNat 0, .ofNat 4)], [], [(0, .inl 1), (1, .inl 23), (2, .inr (false, (1, .ofNat 0)))], [], [(1, (0, .ofNat 3), .inr (false, (2, .ofNat 0))), (1, (0, .ofNat 7), .inr (false, (0, .ofNat 2)))], []), ((0, 1, .ofNat 200), (0, 0, .ofNat 0), (0, 0, .ofNat 0)), 0, 0)]
set_option maxRecDepth 1000000 in
theorem cv1646 {gh : sxGh} (hg : sxGd sxKw gh) : sxCtV sxKw gh ct1646 := sxMeB_ok (cts := [ct1596, ct1617, ct1645]) (cuts := cu1646) (sp := []) 111 (by decide +kernel) hg (by decide) (by decide) (List.forall_mem_cons.mpr ⟨cv1596 hg, (List.forall_mem_cons.mpr ⟨cv1617 hg, (List.forall_mem_cons.mpr ⟨cv1645 hg, (fun _ h => absurd h List.not_mem_nil)⟩)⟩)⟩)
/-- LotBeliefs.TongueReader.readValue -/
def ct1647 : sxCt := (110, 17, (1, [], [], [(0, .inl 1), (1, .inl 23)], [], [(1, (0, .ofNat 7), .inr (false, (0, .ofNat 1)))], []), [(1, 4), (1, 5), (1, 6), (1, 7), (1, 8), (1, 9), (1, 10), (23, 3), (24, 0)], [
  (2, [(1, .ofNat 0, .ofNat 4)], [], [], [], [(1, (0, .ofNat 3), .inr (false, (1, .ofNat 0))), (1, (0, .ofNat 7), .inr (false, (0, .ofNat 1)))], [])], [], 0, 0)
def cu1647 : List sxCu := []
set_option maxRecDepth 1000000 in
theorem cv1647 {gh : sxGh} (hg : sxGd sxKw gh) : sxCtV sxKw gh ct1647 := sxMeB_ok (cts := [ct1596, ct1642, ct1609]) (cuts := cu1647) (sp := []) 583 (by decide +kernel) hg (by decide) (by decide) (List.forall_mem_cons.mpr ⟨cv1596 hg, (List.forall_mem_cons.mpr ⟨cv1642 hg, (List.forall_mem_cons.mpr ⟨cv1609 hg, (fun _ h => absurd h List.not_mem_nil)⟩)⟩)⟩)
/-- LotBeliefs.TongueReader.readProduct -/
def ct1648 : sxCt := (109, 18, (1, [], [], [(0, .inl 1), (1, .inl 23)], [], [(1, (0, .ofNat 7), .inr (false, (0, .ofNat 1)))], []), [(1, 4), (1, 5), (1, 6), (1, 7), (1, 8), (1, 9), (1, 10), (23, 3), (24, 0)], [
  (2, [(1, .ofNat 0, .ofNat 4)], [], [], [], [(1, (0, .ofNat 3), .inr (false, (1, .ofNat 0))), (1, (0, .ofNat 7), .inr (false, (0, .ofNat 1)))], [])], [], 0, 0)
def cu1648 : List sxCu := [
  (7, (3, [(1, .ofNat 0, .ofNat 200), (2, .ofNat 0, .ofNat 4)], [], [(0, .inl 1), (1, .inl 23), (2, .inr (false, (1, .ofNat 0)))], [], [(1, (0, .ofNat 3), .inr (false, (2, .ofNat 0))), (1, (0, .ofNat 7), .inr (false, (0, .ofNat 1)))], []), ((0, 1, .ofNat 200), (0, 0, .ofNat 0), (0, 0, .ofNat 0)), 0, 0)]
set_option maxRecDepth 1000000 in
theorem cv1648 {gh : sxGh} (hg : sxGd sxKw gh) : sxCtV sxKw gh ct1648 := sxMeB_ok (cts := [ct1596, ct1647]) (cuts := cu1648) (sp := []) 127 (by decide +kernel) hg (by decide) (by decide) (List.forall_mem_cons.mpr ⟨cv1596 hg, (List.forall_mem_cons.mpr ⟨cv1647 hg, (fun _ h => absurd h List.not_mem_nil)⟩)⟩)
/-- LotBeliefs.TongueReader.readSum -/
def ct1649 : sxCt := (108, 19, (1, [], [], [(0, .inl 1), (1, .inl 23)], [], [(1, (0, .ofNat 7), .inr (false, (0, .ofNat 1)))], []), [(1, 4), (1, 5), (1, 6), (1, 7), (1, 8), (1, 9), (1, 10), (23, 3), (24, 0)], [
  (2, [(1, .ofNat 0, .ofNat 4)], [], [], [], [(1, (0, .ofNat 3), .inr (false, (1, .ofNat 0))), (1, (0, .ofNat 7), .inr (false, (0, .ofNat 1)))], [])], [], 0, 0)
def cu1649 : List sxCu := [
  (7, (3, [(1, .ofNat 0, .ofNat 200), (2, .ofNat 0, .ofNat 4)], [], [(0, .inl 1), (1, .inl 23), (2, .inr (false, (1, .ofNat 0)))], [], [(1, (0, .ofNat 3), .inr (false, (2, .ofNat 0))), (1, (0, .ofNat 7), .inr (false, (0, .ofNat 1)))], []), ((0, 1, .ofNat 200), (0, 0, .ofNat 0), (0, 0, .ofNat 0)), 0, 0)]
set_option maxRecDepth 1000000 in
theorem cv1649 {gh : sxGh} (hg : sxGd sxKw gh) : sxCtV sxKw gh ct1649 := sxMeB_ok (cts := [ct1596, ct1648]) (cuts := cu1649) (sp := []) 285 (by decide +kernel) hg (by decide) (by decide) (List.forall_mem_cons.mpr ⟨cv1596 hg, (List.forall_mem_cons.mpr ⟨cv1648 hg, (fun _ h => absurd h List.not_mem_nil)⟩)⟩)
/-- LotBeliefs.TongueReader.readRelation -/
def ct1650 : sxCt := (107, 20, (1, [], [], [(0, .inl 1), (1, .inl 23)], [], [(1, (0, .ofNat 7), .inr (false, (0, .ofNat 1)))], []), [(1, 4), (1, 5), (1, 6), (1, 7), (1, 8), (1, 9), (1, 10), (23, 3), (24, 0)], [
  (3, [(1, .ofNat 0, .ofNat 4), (2, .ofNat 1, .ofNat 201)], [], [], [], [(1, (0, .ofNat 3), .inr (false, (1, .ofNat 0))), (1, (0, .ofNat 7), .inr (false, (0, .ofNat 1))), (23, (0, .ofNat 2), .inr (false, (2, .ofNat 0)))], [])], [], 0, 0)
def cu1650 : List sxCu := []
set_option maxRecDepth 1000000 in
theorem cv1650 {gh : sxGh} (hg : sxGd sxKw gh) : sxCtV sxKw gh ct1650 := sxMeB_ok (cts := [ct1596, ct1649]) (cuts := cu1650) (sp := []) 617 (by decide +kernel) hg (by decide) (by decide) (List.forall_mem_cons.mpr ⟨cv1596 hg, (List.forall_mem_cons.mpr ⟨cv1649 hg, (fun _ h => absurd h List.not_mem_nil)⟩)⟩)
/-- LotBeliefs.TongueReader.readPart -/
def ct1651 : sxCt := (106, 21, (1, [], [], [(0, .inl 1), (1, .inl 23)], [], [(1, (0, .ofNat 7), .inr (false, (0, .ofNat 1)))], []), [(1, 4), (1, 5), (1, 6), (1, 7), (1, 8), (1, 9), (1, 10), (23, 3), (24, 0)], [
  (2, [(1, .ofNat 0, .ofNat 4)], [], [], [], [(1, (0, .ofNat 3), .inr (false, (1, .ofNat 0))), (1, (0, .ofNat 7), .inr (false, (0, .ofNat 1)))], [])], [], 0, 0)
def cu1651 : List sxCu := []
set_option maxRecDepth 1000000 in
theorem cv1651 {gh : sxGh} (hg : sxGd sxKw gh) : sxCtV sxKw gh ct1651 := sxMeB_ok (cts := [ct1596, ct1598, ct1646, ct1644, ct1650]) (cuts := cu1651) (sp := []) 290 (by decide +kernel) hg (by decide) (by decide) (List.forall_mem_cons.mpr ⟨cv1596 hg, (List.forall_mem_cons.mpr ⟨cv1598 hg, (List.forall_mem_cons.mpr ⟨cv1646 hg, (List.forall_mem_cons.mpr ⟨cv1644 hg, (List.forall_mem_cons.mpr ⟨cv1650 hg, (fun _ h => absurd h List.not_mem_nil)⟩)⟩)⟩)⟩)⟩)
/-- LotBeliefs.TongueReader.readEach -/
def ct1652 : sxCt := (105, 22, (1, [], [], [(0, .inl 1), (1, .inl 23)], [], [(1, (0, .ofNat 7), .inr (false, (0, .ofNat 1)))], []), [(1, 4), (1, 5), (1, 6), (1, 7), (1, 8), (1, 9), (1, 10), (23, 3), (24, 0)], [
  (2, [(1, .ofNat 0, .ofNat 4)], [], [], [], [(1, (0, .ofNat 3), .inr (false, (1, .ofNat 0))), (1, (0, .ofNat 7), .inr (false, (0, .ofNat 1)))], [])], [], 0, 0)
def cu1652 : List sxCu := [
  (7, (3, [(1, .ofNat 0, .ofNat 200), (2, .ofNat 0, .ofNat 4)], [], [(0, .inl 1), (1, .inl 23), (2, .inr (false, (1, .ofNat 0)))], [], [(1, (0, .ofNat 3), .inr (false, (2, .ofNat 0))), (1, (0, .ofNat 7), .inr (false, (0, .ofNat 1)))], []), ((0, 1, .ofNat 200), (0, 0, .ofNat 0), (0, 0, .ofNat 0)), 0, 0)]
set_option maxRecDepth 1000000 in
theorem cv1652 {gh : sxGh} (hg : sxGd sxKw gh) : sxCtV sxKw gh ct1652 := sxMeB_ok (cts := [ct1596, ct1615, ct1651]) (cuts := cu1652) (sp := []) 111 (by decide +kernel) hg (by decide) (by decide) (List.forall_mem_cons.mpr ⟨cv1596 hg, (List.forall_mem_cons.mpr ⟨cv1615 hg, (List.forall_mem_cons.mpr ⟨cv1651 hg, (fun _ h => absurd h List.not_mem_nil)⟩)⟩)⟩)
/-- LotBeliefs.TongueReader.readEither -/
def ct1653 : sxCt := (104, 23, (1, [], [], [(0, .inl 1), (1, .inl 23)], [], [(1, (0, .ofNat 7), .inr (false, (0, .ofNat 1)))], []), [(1, 4), (1, 5), (1, 6), (1, 7), (1, 8), (1, 9), (1, 10), (23, 3), (24, 0)], [
  (2, [(1, .ofNat 0, .ofNat 4)], [], [], [], [(1, (0, .ofNat 3), .inr (false, (1, .ofNat 0))), (1, (0, .ofNat 7), .inr (false, (0, .ofNat 1)))], [])], [], 0, 0)
def cu1653 : List sxCu := [
  (7, (3, [(1, .ofNat 0, .ofNat 200), (2, .ofNat 0, .ofNat 4)], [], [(0, .inl 1), (1, .inl 23), (2, .inr (false, (1, .ofNat 0)))], [], [(1, (0, .ofNat 3), .inr (false, (2, .ofNat 0))), (1, (0, .ofNat 7), .inr (false, (0, .ofNat 1)))], []), ((0, 1, .ofNat 200), (0, 0, .ofNat 0), (0, 0, .ofNat 0)), 0, 0)]
set_option maxRecDepth 1000000 in
theorem cv1653 {gh : sxGh} (hg : sxGd sxKw gh) : sxCtV sxKw gh ct1653 := sxMeB_ok (cts := [ct1596, ct1617, ct1652]) (cuts := cu1653) (sp := []) 111 (by decide +kernel) hg (by decide) (by decide) (List.forall_mem_cons.mpr ⟨cv1596 hg, (List.forall_mem_cons.mpr ⟨cv1617 hg, (List.forall_mem_cons.mpr ⟨cv1652 hg, (fun _ h => absurd h List.not_mem_nil)⟩)⟩)⟩)
/-- LotBeliefs.TongueReader.readValue -/
def ct1654 : sxCt := (110, 20, (1, [], [], [(0, .inl 1), (1, .inl 23)], [], [(1, (0, .ofNat 7), .inr (false, (0, .ofNat 0)))], []), [(1, 4), (1, 5), (1, 6), (1, 7), (1, 8), (1, 9), (1, 10), (23, 3), (24, 0)], [
  (2, [(1, .ofNat 0, .ofNat 4)], [], [], [], [(1, (0, .ofNat 3), .inr (false, (1, .ofNat 0))), (1, (0, .ofNat 7), .inr (false, (0, .ofNat 0)))], [])], [], 0, 0)
def cu1654 : List sxCu := []
set_option maxRecDepth 1000000 in
theorem cv1654 {gh : sxGh} (hg : sxGd sxKw gh) : sxCtV sxKw gh ct1654 := sxMeB_ok (cts := [ct1596, ct1649, ct1609]) (cuts := cu1654) (sp := []) 583 (by decide +kernel) hg (by decide) (by decide) (List.forall_mem_cons.mpr ⟨cv1596 hg, (List.forall_mem_cons.mpr ⟨cv1649 hg, (List.forall_mem_cons.mpr ⟨cv1609 hg, (fun _ h => absurd h List.not_mem_nil)⟩)⟩)⟩)
/-- LotBeliefs.TongueReader.readProduct -/
def ct1655 : sxCt := (109, 21, (1, [], [], [(0, .inl 1), (1, .inl 23)], [], [(1, (0, .ofNat 7), .inr (false, (0, .ofNat 0)))], []), [(1, 4), (1, 5), (1, 6), (1, 7), (1, 8), (1, 9), (1, 10), (23, 3), (24, 0)], [
  (2, [(1, .ofNat 0, .ofNat 4)], [], [], [], [(1, (0, .ofNat 3), .inr (false, (1, .ofNat 0))), (1, (0, .ofNat 7), .inr (false, (0, .ofNat 0)))], [])], [], 0, 0)
def cu1655 : List sxCu := [
  (7, (3, [(1, .ofNat 0, .ofNat 200), (2, .ofNat 0, .ofNat 4)], [], [(0, .inl 1), (1, .inl 23), (2, .inr (false, (1, .ofNat 0)))], [], [(1, (0, .ofNat 3), .inr (false, (2, .ofNat 0))), (1, (0, .ofNat 7), .inr (false, (0, .ofNat 0)))], []), ((0, 1, .ofNat 200), (0, 0, .ofNat 0), (0, 0, .ofNat 0)), 0, 0)]
set_option maxRecDepth 1000000 in
theorem cv1655 {gh : sxGh} (hg : sxGd sxKw gh) : sxCtV sxKw gh ct1655 := sxMeB_ok (cts := [ct1596, ct1654]) (cuts := cu1655) (sp := []) 127 (by decide +kernel) hg (by decide) (by decide) (List.forall_mem_cons.mpr ⟨cv1596 hg, (List.forall_mem_cons.mpr ⟨cv1654 hg, (fun _ h => absurd h List.not_mem_nil)⟩)⟩)
/-- LotBeliefs.TongueReader.readSum -/
def ct1656 : sxCt := (108, 22, (1, [], [], [(0, .inl 1), (1, .inl 23)], [], [(1, (0, .ofNat 7), .inr (false, (0, .ofNat 0)))], []), [(1, 4), (1, 5), (1, 6), (1, 7), (1, 8), (1, 9), (1, 10), (23, 3), (24, 0)], [
  (2, [(1, .ofNat 0, .ofNat 4)], [], [], [], [(1, (0, .ofNat 3), .inr (false, (1, .ofNat 0))), (1, (0, .ofNat 7), .inr (false, (0, .ofNat 0)))], [])], [], 0, 0)
def cu1656 : List sxCu := [
  (7, (3, [(1, .ofNat 0, .ofNat 200), (2, .ofNat 0, .ofNat 4)], [], [(0, .inl 1), (1, .inl 23), (2, .inr (false, (1, .ofNat 0)))], [], [(1, (0, .ofNat 3), .inr (false, (2, .ofNat 0))), (1, (0, .ofNat 7), .inr (false, (0, .ofNat 0)))], []), ((0, 1, .ofNat 200), (0, 0, .ofNat 0), (0, 0, .ofNat 0)), 0, 0)]
set_option maxRecDepth 1000000 in
theorem cv1656 {gh : sxGh} (hg : sxGd sxKw gh) : sxCtV sxKw gh ct1656 := sxMeB_ok (cts := [ct1596, ct1655]) (cuts := cu1656) (sp := []) 285 (by decide +kernel) hg (by decide) (by decide) (List.forall_mem_cons.mpr ⟨cv1596 hg, (List.forall_mem_cons.mpr ⟨cv1655 hg, (fun _ h => absurd h List.not_mem_nil)⟩)⟩)
/-- LotBeliefs.TongueReader.readRelation -/
def ct1657 : sxCt := (107, 23, (1, [], [], [(0, .inl 1), (1, .inl 23)], [], [(1, (0, .ofNat 7), .inr (false, (0, .ofNat 0)))], []), [(1, 4), (1, 5), (1, 6), (1, 7), (1, 8), (1, 9), (1, 10), (23, 3), (24, 0)], [
  (3, [(1, .ofNat 0, .ofNat 4), (2, .ofNat 1, .ofNat 201)], [], [], [], [(1, (0, .ofNat 3), .inr (false, (1, .ofNat 0))), (1, (0, .ofNat 7), .inr (false, (0, .ofNat 0))), (23, (0, .ofNat 2), .inr (false, (2, .ofNat 0)))], [])], [], 0, 0)
def cu1657 : List sxCu := []
set_option maxRecDepth 1000000 in
theorem cv1657 {gh : sxGh} (hg : sxGd sxKw gh) : sxCtV sxKw gh ct1657 := sxMeB_ok (cts := [ct1596, ct1656]) (cuts := cu1657) (sp := []) 617 (by decide +kernel) hg (by decide) (by decide) (List.forall_mem_cons.mpr ⟨cv1596 hg, (List.forall_mem_cons.mpr ⟨cv1656 hg, (fun _ h => absurd h List.not_mem_nil)⟩)⟩)
/-- LotBeliefs.TongueReader.readPart -/
def ct1658 : sxCt := (106, 24, (1, [], [], [(0, .inl 1), (1, .inl 23)], [], [(1, (0, .ofNat 7), .inr (false, (0, .ofNat 0)))], []), [(1, 4), (1, 5), (1, 6), (1, 7), (1, 8), (1, 9), (1, 10), (23, 3), (24, 0)], [
  (2, [(1, .ofNat 0, .ofNat 4)], [], [], [], [(1, (0, .ofNat 3), .inr (false, (1, .ofNat 0))), (1, (0, .ofNat 7), .inr (false, (0, .ofNat 0)))], [])], [], 0, 0)
def cu1658 : List sxCu := []
set_option maxRecDepth 1000000 in
theorem cv1658 {gh : sxGh} (hg : sxGd sxKw gh) : sxCtV sxKw gh ct1658 := sxMeB_ok (cts := [ct1596, ct1598, ct1653, ct1651, ct1657]) (cuts := cu1658) (sp := []) 290 (by decide +kernel) hg (by decide) (by decide) (List.forall_mem_cons.mpr ⟨cv1596 hg, (List.forall_mem_cons.mpr ⟨cv1598 hg, (List.forall_mem_cons.mpr ⟨cv1653 hg, (List.forall_mem_cons.mpr ⟨cv1651 hg, (List.forall_mem_cons.mpr ⟨cv1657 hg, (fun _ h => absurd h List.not_mem_nil)⟩)⟩)⟩)⟩)⟩)
/-- LotBeliefs.TongueReader.readEach -/
def ct1659 : sxCt := (105, 25, (1, [], [], [(0, .inl 1), (1, .inl 23)], [], [(1, (0, .ofNat 7), .inr (false, (0, .ofNat 0)))], []), [(1, 4), (1, 5), (1, 6), (1, 7), (1, 8), (1, 9), (1, 10), (23, 3), (24, 0)], [
  (2, [(1, .ofNat 0, .ofNat 4)], [], [], [], [(1, (0, .ofNat 3), .inr (false, (1, .ofNat 0))), (1, (0, .ofNat 7), .inr (false, (0, .ofNat 0)))], [])], [], 0, 0)
def cu1659 : List sxCu := [
  (7, (3, [(1, .ofNat 0, .ofNat 200), (2, .ofNat 0, .ofNat 4)], [], [(0, .inl 1), (1, .inl 23), (2, .inr (false, (1, .ofNat 0)))], [], [(1, (0, .ofNat 3), .inr (false, (2, .ofNat 0))), (1, (0, .ofNat 7), .inr (false, (0, .ofNat 0)))], []), ((0, 1, .ofNat 200), (0, 0, .ofNat 0), (0, 0, .ofNat 0)), 0, 0)]
set_option maxRecDepth 1000000 in
theorem cv1659 {gh : sxGh} (hg : sxGd sxKw gh) : sxCtV sxKw gh ct1659 := sxMeB_ok (cts := [ct1596, ct1615, ct1658]) (cuts := cu1659) (sp := []) 111 (by decide +kernel) hg (by decide) (by decide) (List.forall_mem_cons.mpr ⟨cv1596 hg, (List.forall_mem_cons.mpr ⟨cv1615 hg, (List.forall_mem_cons.mpr ⟨cv1658 hg, (fun _ h => absurd h List.not_mem_nil)⟩)⟩)⟩)
/-- LotBeliefs.TongueReader.readEither -/
def ct1660 : sxCt := (104, 26, (1, [], [], [(0, .inl 1), (1, .inl 23)], [], [(1, (0, .ofNat 7), .inr (false, (0, .ofNat 0)))], []), [(1, 4), (1, 5), (1, 6), (1, 7), (1, 8), (1, 9), (1, 10), (23, 3), (24, 0)], [
  (2, [(1, .ofNat 0, .ofNat 4)], [], [], [], [(1, (0, .ofNat 3), .inr (false, (1, .ofNat 0))), (1, (0, .ofNat 7), .inr (false, (0, .ofNat 0)))], [])], [], 0, 0)
def cu1660 : List sxCu := [
  (7, (3, [(1, .ofNat 0, .ofNat 200), (2, .ofNat 0, .ofNat 4)], [], [(0, .inl 1), (1, .inl 23), (2, .inr (false, (1, .ofNat 0)))], [], [(1, (0, .ofNat 3), .inr (false, (2, .ofNat 0))), (1, (0, .ofNat 7), .inr (false, (0, .ofNat 0)))], []), ((0, 1, .ofNat 200), (0, 0, .ofNat 0), (0, 0, .ofNat 0)), 0, 0)]
set_option maxRecDepth 1000000 in
theorem cv1660 {gh : sxGh} (hg : sxGd sxKw gh) : sxCtV sxKw gh ct1660 := sxMeB_ok (cts := [ct1596, ct1617, ct1659]) (cuts := cu1660) (sp := []) 111 (by decide +kernel) hg (by decide) (by decide) (List.forall_mem_cons.mpr ⟨cv1596 hg, (List.forall_mem_cons.mpr ⟨cv1617 hg, (List.forall_mem_cons.mpr ⟨cv1659 hg, (fun _ h => absurd h List.not_mem_nil)⟩)⟩)⟩)
/-- LotBeliefs.Tape.isWord -/
def ct1661 : sxCt := (85, 0, (1, [], [], [(0, .inl 1), (1, .inl 1000013)], [], [], []), [], [
  (1, [], [], [], [.inr (false, (0, .ofNat 0))], [], []), 
  (1, [], [], [], [.inr (false, (0, .ofNat 1))], [], [])], [], 0, 0)
def cu1661 : List sxCu := []
set_option maxRecDepth 1000000 in
theorem cv1661 {gh : sxGh} (hg : sxGd sxKw gh) : sxCtV sxKw gh ct1661 := sxMeB_ok (cts := []) (cuts := cu1661) (sp := []) 174 (by decide +kernel) hg (by decide) (by decide) (fun _ h => absurd h List.not_mem_nil)
/-- LotBeliefs.Tape.isWord -/
def ct1662 : sxCt := (85, 0, (1, [], [], [(0, .inl 1), (1, .inl 1000014)], [], [], []), [], [
  (1, [], [], [], [.inr (false, (0, .ofNat 0))], [], []), 
  (1, [], [], [], [.inr (false, (0, .ofNat 1))], [], [])], [], 0, 0)
def cu1662 : List sxCu := []
set_option maxRecDepth 1000000 in
theorem cv1662 {gh : sxGh} (hg : sxGd sxKw gh) : sxCtV sxKw gh ct1662 := sxMeB_ok (cts := []) (cuts := cu1662) (sp := []) 174 (by decide +kernel) hg (by decide) (by decide) (fun _ h => absurd h List.not_mem_nil)
/-- LotBeliefs.TongueReader.read -/
def ct1663 : sxCt := (102, 27, (1, [], [], [(0, .inl 1), (1, .inl 23)], [], [(1, (0, .ofNat 7), .inr (false, (0, .ofNat 0)))], []), [(1, 4), (1, 5), (1, 6), (1, 7), (1, 8), (1, 9), (1, 10), (23, 1), (23, 3), (24, 0)], [
  (3, [(1, .ofNat 0, .ofNat 10), (2, .ofNat 0, .ofNat 201)], [(2, 1, .ofNat 200)], [], [], [(1, (0, .ofNat 7), .inr (false, (0, .ofNat 0))), (23, (0, .ofNat 0), .inr (false, (1, .ofNat 0))), (23, (0, .ofNat 2), .inr (false, (2, .ofNat 0)))], [])], [], 0, 0)
def cu1663 : List sxCu := [
  (6, (4, [(1, .ofNat 0, .ofNat 200), (2, .ofNat 0, .ofNat 10), (3, .ofNat 0, .ofNat 201)], [(2, 1, .ofNat 0), (3, 1, .ofNat 200), (3, 2, .ofNat 200)], [(0, .inl 1), (1, .inl 23), (2, .inr (false, (1, .ofNat 0)))], [], [(1, (0, .ofNat 7), .inr (false, (0, .ofNat 0))), (23, (0, .ofNat 0), .inr (false, (2, .ofNat 0))), (23, (0, .ofNat 2), .inr (false, (3, .ofNat 0)))], []), ((0, 1, .ofNat 200), (0, 0, .ofNat 0), (0, 0, .ofNat 0)), 0, 0)]
set_option maxRecDepth 1000000 in
theorem cv1663 {gh : sxGh} (hg : sxGd sxKw gh) : sxCtV sxKw gh ct1663 := sxMeB_ok (cts := [ct1596, ct1661, ct1597, ct1662, ct1660]) (cuts := cu1663) (sp := []) 957 (by decide +kernel) hg (by decide) (by decide) (List.forall_mem_cons.mpr ⟨cv1596 hg, (List.forall_mem_cons.mpr ⟨cv1661 hg, (List.forall_mem_cons.mpr ⟨cv1597 hg, (List.forall_mem_cons.mpr ⟨cv1662 hg, (List.forall_mem_cons.mpr ⟨cv1660 hg, (fun _ h => absurd h List.not_mem_nil)⟩)⟩)⟩)⟩)⟩)
/-- LotBeliefs.forgetSurveys -/
def ct1664 : sxCt := (191, 0, (1, [], [], [(0, .inl 0)], [], [], []), [(58, 2), (62, 2), (66, 2), (70, 2), (74, 2)], [
  (1, [], [], [], [], [], [])], [], 0, 0)
def cu1664 : List sxCu := [
  (2, (2, [(1, .ofNat 0, .ofNat 5)], [], [(0, .inl 0), (1, .inr (false, (1, .ofNat 0)))], [], [], []), ((0, 1, .ofNat 5), (0, 0, .ofNat 0), (0, 0, .ofNat 0)), 0, 0)]
set_option maxRecDepth 1000000 in
theorem cv1664 {gh : sxGh} (hg : sxGd sxKw gh) : sxCtV sxKw gh ct1664 := sxMeB_ok (cts := []) (cuts := cu1664) (sp := []) 92 (by decide +kernel) hg (by decide) (by decide) (fun _ h => absurd h List.not_mem_nil)
/-- LotBeliefs.TongueReader.readValue -/
def ct1665 : sxCt := (110, 2, (1, [], [], [(0, .inl 1), (1, .inl 19)], [], [(1, (0, .ofNat 7), .inr (false, (0, .ofNat 6)))], []), [(1, 4), (1, 5), (1, 6), (1, 7), (1, 9), (1, 10), (19, 3), (20, 0)], [
  (2, [(1, .ofNat 0, .ofNat 4)], [], [], [], [(1, (0, .ofNat 3), .inr (false, (1, .ofNat 0))), (1, (0, .ofNat 7), .inr (false, (0, .ofNat 6)))], [])], [], 0, 0)
def cu1665 : List sxCu := []
set_option maxRecDepth 1000000 in
theorem cv1665 {gh : sxGh} (hg : sxGd sxKw gh) : sxCtV sxKw gh ct1665 := sxMeB_ok (cts := [ct1596, ct1609]) (cuts := cu1665) (sp := []) 476 (by decide +kernel) hg (by decide) (by decide) (List.forall_mem_cons.mpr ⟨cv1596 hg, (List.forall_mem_cons.mpr ⟨cv1609 hg, (fun _ h => absurd h List.not_mem_nil)⟩)⟩)
/-- LotBeliefs.TongueReader.readProduct -/
def ct1666 : sxCt := (109, 3, (1, [], [], [(0, .inl 1), (1, .inl 19)], [], [(1, (0, .ofNat 7), .inr (false, (0, .ofNat 6)))], []), [(1, 4), (1, 5), (1, 6), (1, 7), (1, 9), (1, 10), (19, 3), (20, 0)], [
  (2, [(1, .ofNat 0, .ofNat 4)], [], [], [], [(1, (0, .ofNat 3), .inr (false, (1, .ofNat 0))), (1, (0, .ofNat 7), .inr (false, (0, .ofNat 6)))], [])], [], 0, 0)
def cu1666 : List sxCu := [
  (7, (3, [(1, .ofNat 0, .ofNat 200), (2, .ofNat 0, .ofNat 4)], [], [(0, .inl 1), (1, .inl 19), (2, .inr (false, (1, .ofNat 0)))], [], [(1, (0, .ofNat 3), .inr (false, (2, .ofNat 0))), (1, (0, .ofNat 7), .inr (false, (0, .ofNat 6)))], []), ((0, 1, .ofNat 200), (0, 0, .ofNat 0), (0, 0, .ofNat 0)), 0, 0)]
set_option maxRecDepth 1000000 in
theorem cv1666 {gh : sxGh} (hg : sxGd sxKw gh) : sxCtV sxKw gh ct1666 := sxMeB_ok (cts := [ct1596, ct1665]) (cuts := cu1666) (sp := []) 127 (by decide +kernel) hg (by decide) (by decide) (List.forall_mem_cons.mpr ⟨cv1596 hg, (List.forall_mem_cons.mpr ⟨cv1665 hg, (fun _ h => absurd h List.not_mem_nil)⟩)⟩)
/-- LotBeliefs.TongueReader.readSum -/
def ct1667 : sxCt := (108, 4, (1, [], [], [(0, .inl 1), (1, .inl 19)], [], [(1, (0, .ofNat 7), .inr (false, (0, .ofNat 6)))], []), [(1, 4), (1, 5), (1, 6), (1, 7), (1, 9), (1, 10), (19, 3), (20, 0)], [
  (2, [(1, .ofNat 0, .ofNat 4)], [], [], [], [(1, (0, .ofNat 3), .inr (false, (1, .ofNat 0))), (1, (0, .ofNat 7), .inr (false, (0, .ofNat 6)))], [])], [], 0, 0)
def cu1667 : List sxCu := [
  (7, (3, [(1, .ofNat 0, .ofNat 200), (2, .ofNat 0, .ofNat 4)], [], [(0, .inl 1), (1, .inl 19), (2, .inr (false, (1, .ofNat 0)))], [], [(1, (0, .ofNat 3), .inr (false, (2, .ofNat 0))), (1, (0, .ofNat 7), .inr (false, (0, .ofNat 6)))], []), ((0, 1, .ofNat 200), (0, 0, .ofNat 0), (0, 0, .ofNat 0)), 0, 0)]
set_option maxRecDepth 1000000 in
theorem cv1667 {gh : sxGh} (hg : sxGd sxKw gh) : sxCtV sxKw gh ct1667 := sxMeB_ok (cts := [ct1596, ct1666]) (cuts := cu1667) (sp := []) 285 (by decide +kernel) hg (by decide) (by decide) (List.forall_mem_cons.mpr ⟨cv1596 hg, (List.forall_mem_cons.mpr ⟨cv1666 hg, (fun _ h => absurd h List.not_mem_nil)⟩)⟩)
/-- LotBeliefs.TongueReader.readRelation -/
def ct1668 : sxCt := (107, 5, (1, [], [], [(0, .inl 1), (1, .inl 19)], [], [(1, (0, .ofNat 7), .inr (false, (0, .ofNat 6)))], []), [(1, 4), (1, 5), (1, 6), (1, 7), (1, 9), (1, 10), (19, 3), (20, 0)], [
  (3, [(1, .ofNat 0, .ofNat 4), (2, .ofNat 1, .ofNat 201)], [], [], [], [(1, (0, .ofNat 3), .inr (false, (1, .ofNat 0))), (1, (0, .ofNat 7), .inr (false, (0, .ofNat 6))), (19, (0, .ofNat 2), .inr (false, (2, .ofNat 0)))], [])], [], 0, 0)
def cu1668 : List sxCu := []
set_option maxRecDepth 1000000 in
theorem cv1668 {gh : sxGh} (hg : sxGd sxKw gh) : sxCtV sxKw gh ct1668 := sxMeB_ok (cts := [ct1596, ct1667]) (cuts := cu1668) (sp := []) 617 (by decide +kernel) hg (by decide) (by decide) (List.forall_mem_cons.mpr ⟨cv1596 hg, (List.forall_mem_cons.mpr ⟨cv1667 hg, (fun _ h => absurd h List.not_mem_nil)⟩)⟩)
/-- LotBeliefs.TongueReader.readPart -/
def ct1669 : sxCt := (106, 6, (1, [], [], [(0, .inl 1), (1, .inl 19)], [], [(1, (0, .ofNat 7), .inr (false, (0, .ofNat 6)))], []), [(1, 4), (1, 5), (1, 6), (1, 7), (1, 9), (1, 10), (19, 3), (20, 0)], [
  (2, [(1, .ofNat 0, .ofNat 4)], [], [], [], [(1, (0, .ofNat 3), .inr (false, (1, .ofNat 0))), (1, (0, .ofNat 7), .inr (false, (0, .ofNat 6)))], [])], [], 0, 0)
def cu1669 : List sxCu := []
set_option maxRecDepth 1000000 in
theorem cv1669 {gh : sxGh} (hg : sxGd sxKw gh) : sxCtV sxKw gh ct1669 := sxMeB_ok (cts := [ct1598, ct1668]) (cuts := cu1669) (sp := []) 158 (by decide +kernel) hg (by decide) (by decide) (List.forall_mem_cons.mpr ⟨cv1598 hg, (List.forall_mem_cons.mpr ⟨cv1668 hg, (fun _ h => absurd h List.not_mem_nil)⟩)⟩)
/-- LotBeliefs.TongueReader.readEach -/
def ct1670 : sxCt := (105, 7, (1, [], [], [(0, .inl 1), (1, .inl 19)], [], [(1, (0, .ofNat 7), .inr (false, (0, .ofNat 6)))], []), [(1, 4), (1, 5), (1, 6), (1, 7), (1, 9), (1, 10), (19, 3), (20, 0)], [
  (2, [(1, .ofNat 0, .ofNat 4)], [], [], [], [(1, (0, .ofNat 3), .inr (false, (1, .ofNat 0))), (1, (0, .ofNat 7), .inr (false, (0, .ofNat 6)))], [])], [], 0, 0)
def cu1670 : List sxCu := [
  (7, (3, [(1, .ofNat 0, .ofNat 200), (2, .ofNat 0, .ofNat 4)], [], [(0, .inl 1), (1, .inl 19), (2, .inr (false, (1, .ofNat 0)))], [], [(1, (0, .ofNat 3), .inr (false, (2, .ofNat 0))), (1, (0, .ofNat 7), .inr (false, (0, .ofNat 6)))], []), ((0, 1, .ofNat 200), (0, 0, .ofNat 0), (0, 0, .ofNat 0)), 0, 0)]
set_option maxRecDepth 1000000 in
theorem cv1670 {gh : sxGh} (hg : sxGd sxKw gh) : sxCtV sxKw gh ct1670 := sxMeB_ok (cts := [ct1596, ct1615, ct1669]) (cuts := cu1670) (sp := []) 111 (by decide +kernel) hg (by decide) (by decide) (List.forall_mem_cons.mpr ⟨cv1596 hg, (List.forall_mem_cons.mpr ⟨cv1615 hg, (List.forall_mem_cons.mpr ⟨cv1669 hg, (fun _ h => absurd h List.not_mem_nil)⟩)⟩)⟩)
/-- LotBeliefs.TongueReader.readEither -/
def ct1671 : sxCt := (104, 8, (1, [], [], [(0, .inl 1), (1, .inl 19)], [], [(1, (0, .ofNat 7), .inr (false, (0, .ofNat 6)))], []), [(1, 4), (1, 5), (1, 6), (1, 7), (1, 9), (1, 10), (19, 3), (20, 0)], [
  (2, [(1, .ofNat 0, .ofNat 4)], [], [], [], [(1, (0, .ofNat 3), .inr (false, (1, .ofNat 0))), (1, (0, .ofNat 7), .inr (false, (0, .ofNat 6)))], [])], [], 0, 0)
def cu1671 : List sxCu := [
  (7, (3, [(1, .ofNat 0, .ofNat 200), (2, .ofNat 0, .ofNat 4)], [], [(0, .inl 1), (1, .inl 19), (2, .inr (false, (1, .ofNat 0)))], [], [(1, (0, .ofNat 3), .inr (false, (2, .ofNat 0))), (1, (0, .ofNat 7), .inr (false, (0, .ofNat 6)))], []), ((0, 1, .ofNat 200), (0, 0, .ofNat 0), (0, 0, .ofNat 0)), 0, 0)]
set_option maxRecDepth 1000000 in
theorem cv1671 {gh : sxGh} (hg : sxGd sxKw gh) : sxCtV sxKw gh ct1671 := sxMeB_ok (cts := [ct1596, ct1617, ct1670]) (cuts := cu1671) (sp := []) 111 (by decide +kernel) hg (by decide) (by decide) (List.forall_mem_cons.mpr ⟨cv1596 hg, (List.forall_mem_cons.mpr ⟨cv1617 hg, (List.forall_mem_cons.mpr ⟨cv1670 hg, (fun _ h => absurd h List.not_mem_nil)⟩)⟩)⟩)
end SXC
