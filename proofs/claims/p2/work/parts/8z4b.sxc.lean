/-! SX: contracts, by program -/
section SXC
/-- LotBeliefsModel.allOrders -/
def ct1323 : sxCt := (284, 16, (3, [(1, .ofNat 0, .ofNat 1), (2, .ofNat 0, .ofNat 7)], [], [(0, .inl 78), (1, .inr (false, (1, .ofNat 0)))], [], [(82, (0, .ofNat 1), .inr (false, (2, .ofNat 0))), (579, (0, .ofNat 2), .inr (false, (0, .ofNat 1)))], []), [(78, 44), (78, 45), (78, 46), (78, 47), (78, 48), (78, 49), (78, 53), (78, 54), (78, 55), (78, 56), (78, 57), (78, 58), (559000573, 0)], [
  (4, [(1, .ofNat 0, .ofNat 1), (2, .ofNat 0, .ofNat 7), (3, .ofNat 0, .ofNat 7)], [(2, 3, .ofNat 0), (3, 2, .ofNat 0)], [], [], [(82, (0, .ofNat 1), .inr (false, (3, .ofNat 0))), (579, (0, .ofNat 2), .inr (false, (0, .ofNat 1)))], [])], [], 0, 0)
def cu1323 : List sxCu := [
  (2, (4, [(1, .ofNat 0, .ofNat 1), (2, .ofNat 0, .ofNat 7), (3, .ofNat 0, .ofNat 128)], [], [(0, .inl 78), (1, .inr (false, (1, .ofNat 0))), (2, .inr (false, (3, .ofNat 0)))], [], [(82, (0, .ofNat 1), .inr (false, (2, .ofNat 0))), (579, (0, .ofNat 2), .inr (false, (0, .ofNat 1)))], []), ((0, 3, .ofNat 136), (0, 0, .ofNat 0), (0, 0, .ofNat 0)), 0, 0), 
  (24, (4, [(1, .ofNat 0, .ofNat 1), (2, .ofNat 0, .ofNat 7), (3, .ofNat 0, .ofNat 7)], [], [(0, .inl 78), (1, .inr (false, (1, .ofNat 0))), (2, .inr (false, (3, .ofNat 0)))], [], [(82, (0, .ofNat 1), .inr (false, (2, .ofNat 0))), (579, (0, .ofNat 2), .inr (false, (0, .ofNat 1)))], []), ((0, 3, .ofNat 7), (0, 0, .ofNat 0), (0, 0, .ofNat 0)), 0, 0)]
set_option maxRecDepth 1000000 in
theorem cv1323 (hg : sxGd sxKw ghL) : sxCtV sxKw ghL ct1323 := sxMeB_ok (cts := [ct1322]) (cuts := cu1323) (sp := []) 116 (by decide +kernel) hg (by decide) (by decide) (List.forall_mem_cons.mpr ⟨cv1322 hg, (fun _ h => absurd h List.not_mem_nil)⟩)
/-- LotBeliefsModel.compared -/
def ct1324 : sxCt := (288, 17, (2, [(1, .ofNat 0, .ofNat 1)], [], [(0, .inl 78), (1, .inr (false, (1, .ofNat 0)))], [], [(579, (0, .ofNat 2), .inr (false, (0, .ofNat 1)))], []), [(78, 1), (78, 44), (78, 45), (78, 46), (78, 47), (78, 48), (78, 49), (78, 53), (78, 54), (78, 55), (78, 56), (78, 57), (78, 58), (80, 0), (559000573, 0)], [
  (4, [(1, .ofNat 0, .ofNat 1), (2, .negSucc 2147483647, .ofNat 2147483647), (3, .ofNat 0, .ofNat 2)], [], [], [.inr (false, (2, .ofNat 0))], [(78, (0, .ofNat 0), .inr (false, (3, .ofNat 0))), (579, (0, .ofNat 2), .inr (false, (0, .ofNat 1)))], [])], [], 0, 0)
def cu1324 : List sxCu := []
set_option maxRecDepth 1000000 in
theorem cv1324 (hg : sxGd sxKw ghL) : sxCtV sxKw ghL ct1324 := sxMeB_ok (cts := [ct1323]) (cuts := cu1324) (sp := []) 146 (by decide +kernel) hg (by decide) (by decide) (List.forall_mem_cons.mpr ⟨cv1323 hg, (fun _ h => absurd h List.not_mem_nil)⟩)
/-- LotBeliefsModel.goesSalted -/
def ct1326 : sxCt := (309, 8, (2, [(1, .ofNat 0, .ofNat 39)], [], [(0, .inl 78), (1, .inr (false, (1, .ofNat 0)))], [], [(579, (0, .ofNat 2), .inr (false, (0, .ofNat 1)))], []), [(78, 44), (78, 45), (78, 46), (78, 47), (78, 48), (78, 49), (559000569, 0)], [
  (7, [(1, .ofNat 0, .ofNat 39), (2, .ofNat 0, .ofNat 4095), (3, .ofNat 0, .ofNat 17), (4, .ofNat 0, .ofNat 17), (5, .ofNat 0, .ofNat 4), (6, .negSucc 2147483647, .ofNat 2147483647)], [], [], [.inr (false, (2, .ofNat 0))], [(78, (0, .ofNat 43), .inr (false, (3, .ofNat 0))), (78, (0, .ofNat 44), .inr (false, (4, .ofNat 0))), (78, (0, .ofNat 48), .inr (false, (5, .ofNat 0))), (567, (0, .ofNat 51), .inr (false, (6, .ofNat 0))), (579, (0, .ofNat 2), .inr (false, (0, .ofNat 1)))], [])], [], 0, 0)
def cu1326 : List sxCu := [
  (59, (5, [(1, .ofNat 0, .ofNat 39), (2, .ofNat 0, .ofNat 12), (3, .ofNat 0, .ofNat 17), (4, .ofNat 0, .ofNat 5)], [(2, 3, .ofNat 0), (3, 2, .ofNat 5)], [(0, .inl 78), (1, .inr (false, (1, .ofNat 0))), (2, .inr (false, (2, .ofNat 0)))], [], [(78, (0, .ofNat 12), .inl 82), (78, (0, .ofNat 43), .inr (false, (3, .ofNat 0))), (82, (0, .ofNat 3), .inr (false, (4, .ofNat 0))), (579, (0, .ofNat 2), .inr (false, (0, .ofNat 1)))], []), ((0, 2, .ofNat 12), (0, 0, .ofNat 0), (0, 0, .ofNat 0)), 0, 0), 
  (7, (4, [(1, .ofNat 0, .ofNat 39), (2, .ofNat 0, .ofNat 5), (3, .ofNat 0, .ofNat 5)], [(3, 2, .ofNat 0)], [(0, .inl 78), (1, .inr (false, (1, .ofNat 0))), (2, .inr (false, (2, .ofNat 0)))], [], [(78, (0, .ofNat 43), .inr (false, (3, .ofNat 0))), (579, (0, .ofNat 2), .inr (false, (0, .ofNat 1)))], []), ((0, 2, .ofNat 18), (0, 0, .ofNat 0), (0, 0, .ofNat 0)), 0, 0)]
set_option maxRecDepth 1000000 in
theorem cv1326 (hg : sxGd sxKw ghL) : sxCtV sxKw ghL ct1326 := sxMeB_ok (cts := [ct235]) (cuts := cu1326) (sp := []) 129 (by decide +kernel) hg (by decide) (by decide) (List.forall_mem_cons.mpr ⟨cv235 hg, (fun _ h => absurd h List.not_mem_nil)⟩)
/-- LotBeliefsModel.salted -/
def ct1398 : sxCt := (310, 9, (2, [(1, .negSucc 2147483647, .ofNat 2147483647)], [], [(0, .inl 78), (1, .inr (false, (1, .ofNat 0)))], [], [(579, (0, .ofNat 2), .inr (false, (0, .ofNat 1)))], []), [(78, 1), (78, 44), (78, 45), (78, 46), (78, 47), (78, 48), (78, 49), (80, 0), (559000569, 0)], [
  (4, [(1, .negSucc 2147483647, .ofNat 2147483647), (2, .negSucc 0, .ofNat 37), (3, .ofNat 0, .ofNat 1)], [(3, 2, .ofNat 1)], [], [.inr (false, (2, .ofNat 0))], [(78, (0, .ofNat 0), .inr (false, (3, .ofNat 0))), (579, (0, .ofNat 2), .inr (false, (0, .ofNat 1)))], [])], [], 0, 0)
def cu1398 : List sxCu := [
  (33, (5, [(1, .ofNat 0, .ofNat 4095), (2, .negSucc 0, .ofNat 37), (3, .ofNat 0, .ofNat 38), (4, .ofNat 0, .ofNat 12)], [(2, 3, .negSucc 0)], [(0, .inl 78), (1, .inr (false, (1, .ofNat 0))), (2, .inr (false, (2, .ofNat 0))), (3, .inr (false, (3, .ofNat 0)))], [], [(78, (0, .ofNat 0), .inr (false, (0, .ofNat 0))), (78, (0, .ofNat 12), .inl 82), (82, (0, .ofNat 1), .inr (false, (4, .ofNat 0))), (579, (0, .ofNat 2), .inr (false, (0, .ofNat 1)))], []), ((0, 3, .ofNat 38), (0, 0, .ofNat 0), (0, 0, .ofNat 0)), 0, 0)]
set_option maxRecDepth 1000000 in
theorem cv1398 (hg : sxGd sxKw ghL) : sxCtV sxKw ghL ct1398 := sxMeB_ok (cts := [ct248, ct1326]) (cuts := cu1398) (sp := []) 232 (by decide +kernel) hg (by decide) (by decide) (List.forall_mem_cons.mpr ⟨cv248 hg, (List.forall_mem_cons.mpr ⟨cv1326 hg, (fun _ h => absurd h List.not_mem_nil)⟩)⟩)
/-- LotBeliefsModel.salted -/
def ct1399 : sxCt := (310, 9, (2, [(1, .ofNat 0, .ofNat 4095)], [], [(0, .inl 78), (1, .inr (false, (1, .ofNat 0)))], [], [(579, (0, .ofNat 2), .inr (false, (0, .ofNat 1)))], []), [(78, 1), (78, 44), (78, 45), (78, 46), (78, 47), (78, 48), (78, 49), (80, 0), (559000569, 0)], [
  (4, [(1, .ofNat 0, .ofNat 4095), (2, .negSucc 0, .ofNat 37), (3, .ofNat 0, .ofNat 1)], [(3, 2, .ofNat 1)], [], [.inr (false, (2, .ofNat 0))], [(78, (0, .ofNat 0), .inr (false, (3, .ofNat 0))), (579, (0, .ofNat 2), .inr (false, (0, .ofNat 1)))], [])], [], 0, 0)
def cu1399 : List sxCu := [
  (33, (5, [(1, .ofNat 0, .ofNat 4095), (2, .negSucc 0, .ofNat 37), (3, .ofNat 0, .ofNat 38), (4, .ofNat 0, .ofNat 12)], [(2, 3, .negSucc 0)], [(0, .inl 78), (1, .inr (false, (1, .ofNat 0))), (2, .inr (false, (2, .ofNat 0))), (3, .inr (false, (3, .ofNat 0)))], [], [(78, (0, .ofNat 0), .inr (false, (0, .ofNat 0))), (78, (0, .ofNat 12), .inl 82), (82, (0, .ofNat 1), .inr (false, (4, .ofNat 0))), (579, (0, .ofNat 2), .inr (false, (0, .ofNat 1)))], []), ((0, 3, .ofNat 38), (0, 0, .ofNat 0), (0, 0, .ofNat 0)), 0, 0)]
set_option maxRecDepth 1000000 in
theorem cv1399 (hg : sxGd sxKw ghL) : sxCtV sxKw ghL ct1399 := sxMeB_ok (cts := [ct248, ct1326]) (cuts := cu1399) (sp := []) 198 (by decide +kernel) hg (by decide) (by decide) (List.forall_mem_cons.mpr ⟨cv248 hg, (List.forall_mem_cons.mpr ⟨cv1326 hg, (fun _ h => absurd h List.not_mem_nil)⟩)⟩)
/-- LotBeliefsModel.best -/
def ct1546 : sxCt := (287, 17, (1, [], [], [(0, .inl 78)], [], [(579, (0, .ofNat 2), .inr (false, (0, .ofNat 1)))], []), [(78, 1), (78, 44), (78, 45), (78, 46), (78, 47), (78, 48), (78, 49), (78, 53), (78, 54), (78, 55), (78, 56), (78, 57), (78, 58), (80, 0), (90, 0), (559000573, 0)], [
  (3, [(1, .negSucc 2147483647, .ofNat 2147483647), (2, .ofNat 0, .ofNat 1)], [], [], [.inr (false, (1, .ofNat 0))], [(78, (0, .ofNat 0), .inr (false, (2, .ofNat 0))), (579, (0, .ofNat 2), .inr (false, (0, .ofNat 1)))], [])], [], 0, 0)
def cu1546 : List sxCu := [
  (44, (4, [(1, .ofNat 0, .ofNat 7), (2, .ofNat 0, .ofNat 7), (3, .ofNat 0, .ofNat 4)], [], [(0, .inl 78), (1, .inr (false, (1, .ofNat 0)))], [], [(78, (0, .ofNat 0), .inr (false, (0, .ofNat 0))), (78, (0, .ofNat 12), .inl 82), (82, (0, .ofNat 1), .inr (false, (2, .ofNat 0))), (82, (0, .ofNat 5), .inr (false, (3, .ofNat 0))), (579, (0, .ofNat 2), .inr (false, (0, .ofNat 1)))], []), ((0, 1, .ofNat 7), (0, 0, .ofNat 0), (0, 0, .ofNat 0)), 0, 0)]
set_option maxRecDepth 1000000 in
theorem cv1546 (hg : sxGd sxKw ghL) : sxCtV sxKw ghL ct1546 := sxMeB_ok (cts := [ct1106]) (cuts := cu1546) (sp := []) 140 (by decide +kernel) hg (by decide) (by decide) (List.forall_mem_cons.mpr ⟨cv1106 hg, (fun _ h => absurd h List.not_mem_nil)⟩)
/-- LotBeliefsModel.orders -/
def ct1547 : sxCt := (286, 17, (2, [(1, .negSucc 2147483647, .ofNat 2147483647)], [], [(0, .inl 78), (1, .inr (false, (1, .ofNat 0)))], [], [(579, (0, .ofNat 2), .inr (false, (0, .ofNat 1)))], []), [(78, 1), (78, 44), (78, 45), (78, 46), (78, 47), (78, 48), (78, 49), (78, 53), (78, 54), (78, 55), (78, 56), (78, 57), (78, 58), (80, 0), (559000573, 0)], [
  (4, [(1, .negSucc 2147483647, .ofNat 2147483647), (2, .negSucc 2147483647, .ofNat 2147483647), (3, .ofNat 0, .ofNat 2)], [], [], [.inr (false, (2, .ofNat 0))], [(78, (0, .ofNat 0), .inr (false, (3, .ofNat 0))), (579, (0, .ofNat 2), .inr (false, (0, .ofNat 1)))], [])], [], 0, 0)
def cu1547 : List sxCu := []
set_option maxRecDepth 1000000 in
theorem cv1547 (hg : sxGd sxKw ghL) : sxCtV sxKw ghL ct1547 := sxMeB_ok (cts := [ct1106]) (cuts := cu1547) (sp := []) 228 (by decide +kernel) hg (by decide) (by decide) (List.forall_mem_cons.mpr ⟨cv1106 hg, (fun _ h => absurd h List.not_mem_nil)⟩)
/-- LotBeliefsModel.orders -/
def ct1548 : sxCt := (286, 17, (2, [(1, .ofNat 0, .ofNat 11)], [], [(0, .inl 78), (1, .inr (false, (1, .ofNat 0)))], [], [(579, (0, .ofNat 2), .inr (false, (0, .ofNat 1)))], []), [(78, 1), (78, 44), (78, 45), (78, 46), (78, 47), (78, 48), (78, 49), (78, 53), (78, 54), (78, 55), (78, 56), (78, 57), (78, 58), (80, 0), (559000573, 0)], [
  (4, [(1, .ofNat 0, .ofNat 11), (2, .negSucc 2147483647, .ofNat 2147483647), (3, .ofNat 0, .ofNat 2)], [], [], [.inr (false, (2, .ofNat 0))], [(78, (0, .ofNat 0), .inr (false, (3, .ofNat 0))), (579, (0, .ofNat 2), .inr (false, (0, .ofNat 1)))], [])], [], 0, 0)
def cu1548 : List sxCu := []
set_option maxRecDepth 1000000 in
theorem cv1548 (hg : sxGd sxKw ghL) : sxCtV sxKw ghL ct1548 := sxMeB_ok (cts := [ct1106]) (cuts := cu1548) (sp := []) 194 (by decide +kernel) hg (by decide) (by decide) (List.forall_mem_cons.mpr ⟨cv1106 hg, (fun _ h => absurd h List.not_mem_nil)⟩)
/-- LotBeliefsModel.orders -/
def ct1550 : sxCt := (286, 17, (2, [(1, .ofNat 0, .ofNat 6)], [], [(0, .inl 78), (1, .inr (false, (1, .ofNat 0)))], [], [(579, (0, .ofNat 2), .inr (false, (0, .ofNat 1)))], []), [(78, 1), (78, 44), (78, 45), (78, 46), (78, 47), (78, 48), (78, 49), (78, 53), (78, 54), (78, 55), (78, 56), (78, 57), (78, 58), (80, 0), (559000573, 0)], [
  (4, [(1, .ofNat 0, .ofNat 6), (2, .negSucc 2147483647, .ofNat 2147483647), (3, .ofNat 0, .ofNat 2)], [], [], [.inr (false, (2, .ofNat 0))], [(78, (0, .ofNat 0), .inr (false, (3, .ofNat 0))), (579, (0, .ofNat 2), .inr (false, (0, .ofNat 1)))], [])], [], 0, 0)
def cu1550 : List sxCu := []
set_option maxRecDepth 1000000 in
theorem cv1550 (hg : sxGd sxKw ghL) : sxCtV sxKw ghL ct1550 := sxMeB_ok (cts := [ct1106]) (cuts := cu1550) (sp := []) 194 (by decide +kernel) hg (by decide) (by decide) (List.forall_mem_cons.mpr ⟨cv1106 hg, (fun _ h => absurd h List.not_mem_nil)⟩)
/-- LotBeliefsModel.ends -/
def ct1571 : sxCt := (285, 17, (2, [(1, .ofNat 0, .ofNat 2)], [], [(0, .inl 78), (1, .inr (false, (1, .ofNat 0)))], [], [(579, (0, .ofNat 2), .inr (false, (0, .ofNat 1)))], []), [(78, 1), (78, 44), (78, 45), (78, 46), (78, 47), (78, 48), (78, 49), (78, 53), (78, 54), (78, 55), (78, 56), (78, 57), (78, 58), (80, 0), (559000573, 0)], [
  (4, [(1, .ofNat 0, .ofNat 2), (2, .negSucc 2147483647, .ofNat 2147483647), (3, .ofNat 0, .ofNat 2)], [], [], [.inr (false, (2, .ofNat 0))], [(78, (0, .ofNat 0), .inr (false, (3, .ofNat 0))), (579, (0, .ofNat 2), .inr (false, (0, .ofNat 1)))], [])], [], 0, 0)
def cu1571 : List sxCu := []
set_option maxRecDepth 1000000 in
theorem cv1571 (hg : sxGd sxKw ghL) : sxCtV sxKw ghL ct1571 := sxMeB_ok (cts := [ct1106]) (cuts := cu1571) (sp := []) 173 (by decide +kernel) hg (by decide) (by decide) (List.forall_mem_cons.mpr ⟨cv1106 hg, (fun _ h => absurd h List.not_mem_nil)⟩)
/-- LotBeliefsModel.ends -/
def ct1572 : sxCt := (285, 17, (2, [(1, .negSucc 2147483647, .ofNat 2147483647)], [], [(0, .inl 78), (1, .inr (false, (1, .ofNat 0)))], [], [(579, (0, .ofNat 2), .inr (false, (0, .ofNat 1)))], []), [(78, 1), (78, 44), (78, 45), (78, 46), (78, 47), (78, 48), (78, 49), (78, 53), (78, 54), (78, 55), (78, 56), (78, 57), (78, 58), (80, 0), (559000573, 0)], [
  (4, [(1, .negSucc 2147483647, .ofNat 2147483647), (2, .negSucc 2147483647, .ofNat 2147483647), (3, .ofNat 0, .ofNat 2)], [], [], [.inr (false, (2, .ofNat 0))], [(78, (0, .ofNat 0), .inr (false, (3, .ofNat 0))), (579, (0, .ofNat 2), .inr (false, (0, .ofNat 1)))], [])], [], 0, 0)
def cu1572 : List sxCu := []
set_option maxRecDepth 1000000 in
theorem cv1572 (hg : sxGd sxKw ghL) : sxCtV sxKw ghL ct1572 := sxMeB_ok (cts := [ct1106]) (cuts := cu1572) (sp := []) 239 (by decide +kernel) hg (by decide) (by decide) (List.forall_mem_cons.mpr ⟨cv1106 hg, (fun _ h => absurd h List.not_mem_nil)⟩)
/-- LotBeliefsModel.touchy -/
def ct1574 : sxCt := (277, 9, (1, [], [], [(0, .inl 78)], [], [(579, (0, .ofNat 2), .inr (false, (0, .ofNat 1)))], []), [(78, 1), (78, 44), (78, 45), (78, 46), (78, 47), (78, 48), (78, 49), (90, 0), (559000569, 0)], [
  (6, [(1, .ofNat 0, .ofNat 11), (2, .ofNat 0, .ofNat 12), (3, .ofNat 0, .ofNat 17), (4, .ofNat 0, .ofNat 4), (5, .negSucc 2147483647, .ofNat 2147483647)], [], [], [.inr (false, (1, .ofNat 0))], [(78, (0, .ofNat 0), .inr (false, (0, .ofNat 0))), (78, (0, .ofNat 43), .inr (false, (2, .ofNat 0))), (78, (0, .ofNat 44), .inr (false, (3, .ofNat 0))), (78, (0, .ofNat 48), .inr (false, (4, .ofNat 0))), (567, (0, .ofNat 51), .inr (false, (5, .ofNat 0))), (579, (0, .ofNat 2), .inr (false, (0, .ofNat 1)))], [])], [], 0, 0)
def cu1574 : List sxCu := [
  (14, (8, [(1, .ofNat 0, .ofNat 4095), (2, .ofNat 0, .ofNat 11), (3, .ofNat 0, .ofNat 11), (4, .ofNat 0, .ofNat 12), (5, .ofNat 0, .ofNat 17), (6, .ofNat 0, .ofNat 4), (7, .negSucc 2147483647, .ofNat 2147483647)], [(2, 3, .ofNat 0)], [(0, .inl 78), (1, .inr (false, (1, .ofNat 0))), (2, .inr (false, (2, .ofNat 0))), (3, .inr (false, (3, .ofNat 0)))], [], [(78, (0, .ofNat 0), .inr (false, (0, .ofNat 0))), (78, (0, .ofNat 12), .inl 82), (78, (0, .ofNat 43), .inr (false, (4, .ofNat 0))), (78, (0, .ofNat 44), .inr (false, (5, .ofNat 0))), (78, (0, .ofNat 48), .inr (false, (6, .ofNat 0))), (82, (0, .ofNat 5), .inr (false, (6, .ofNat 0))), (567, (0, .ofNat 51), .inr (false, (7, .ofNat 0))), (579, (0, .ofNat 2), .inr (false, (0, .ofNat 1)))], []), ((0, 3, .ofNat 11), (0, 0, .ofNat 0), (0, 0, .ofNat 0)), 0, 0)]
set_option maxRecDepth 1000000 in
theorem cv1574 (hg : sxGd sxKw ghL) : sxCtV sxKw ghL ct1574 := sxMeB_ok (cts := [ct235, ct392]) (cuts := cu1574) (sp := []) 193 (by decide +kernel) hg (by decide) (by decide) (List.forall_mem_cons.mpr ⟨cv235 hg, (List.forall_mem_cons.mpr ⟨cv392 hg, (fun _ h => absurd h List.not_mem_nil)⟩)⟩)
/-- LotBeliefsModel.year -/
def ct1577 : sxCt := (275, 9, (2, [(1, .negSucc 2147483647, .ofNat 2147483647)], [], [(0, .inl 78), (1, .inr (false, (1, .ofNat 0)))], [], [(579, (0, .ofNat 2), .inr (false, (0, .ofNat 1)))], []), [(78, 1), (78, 44), (78, 45), (78, 46), (78, 47), (78, 48), (78, 49), (80, 0), (559000569, 0)], [
  (4, [(1, .negSucc 2147483647, .ofNat 2147483647), (2, .negSucc 2147483647, .ofNat 2147483647), (3, .ofNat 0, .ofNat 1)], [], [], [.inr (false, (2, .ofNat 0))], [(78, (0, .ofNat 0), .inr (false, (3, .ofNat 0))), (579, (0, .ofNat 2), .inr (false, (0, .ofNat 1)))], [])], [], 0, 0)
def cu1577 : List sxCu := []
set_option maxRecDepth 1000000 in
theorem cv1577 (hg : sxGd sxKw ghL) : sxCtV sxKw ghL ct1577 := sxMeB_ok (cts := [ct88, ct393, ct235, ct392, ct1146]) (cuts := cu1577) (sp := []) 210 (by decide +kernel) hg (by decide) (by decide) (List.forall_mem_cons.mpr ⟨cv88 hg, (List.forall_mem_cons.mpr ⟨cv393 hg, (List.forall_mem_cons.mpr ⟨cv235 hg, (List.forall_mem_cons.mpr ⟨cv392 hg, (List.forall_mem_cons.mpr ⟨cv1146 hg, (fun _ h => absurd h List.not_mem_nil)⟩)⟩)⟩)⟩)⟩)
/-- LotBeliefsModel.year -/
def ct1578 : sxCt := (275, 9, (2, [(1, .ofNat 0, .ofNat 5)], [], [(0, .inl 78), (1, .inr (false, (1, .ofNat 0)))], [], [(579, (0, .ofNat 2), .inr (false, (0, .ofNat 1)))], []), [(78, 1), (78, 44), (78, 45), (78, 46), (78, 47), (78, 48), (78, 49), (559000569, 0)], [
  (7, [(1, .ofNat 0, .ofNat 5), (2, .negSucc 2147483647, .ofNat 2147483647), (3, .ofNat 0, .ofNat 12), (4, .ofNat 0, .ofNat 17), (5, .ofNat 0, .ofNat 4), (6, .negSucc 2147483647, .ofNat 2147483647)], [], [], [.inr (false, (2, .ofNat 0))], [(78, (0, .ofNat 0), .inr (false, (0, .ofNat 0))), (78, (0, .ofNat 43), .inr (false, (3, .ofNat 0))), (78, (0, .ofNat 44), .inr (false, (4, .ofNat 0))), (78, (0, .ofNat 48), .inr (false, (5, .ofNat 0))), (567, (0, .ofNat 51), .inr (false, (6, .ofNat 0))), (579, (0, .ofNat 2), .inr (false, (0, .ofNat 1)))], [])], [], 0, 0)
def cu1578 : List sxCu := []
set_option maxRecDepth 1000000 in
theorem cv1578 (hg : sxGd sxKw ghL) : sxCtV sxKw ghL ct1578 := sxMeB_ok (cts := [ct88, ct393, ct235, ct392, ct1146]) (cuts := cu1578) (sp := []) 144 (by decide +kernel) hg (by decide) (by decide) (List.forall_mem_cons.mpr ⟨cv88 hg, (List.forall_mem_cons.mpr ⟨cv393 hg, (List.forall_mem_cons.mpr ⟨cv235 hg, (List.forall_mem_cons.mpr ⟨cv392 hg, (List.forall_mem_cons.mpr ⟨cv1146 hg, (fun _ h => absurd h List.not_mem_nil)⟩)⟩)⟩)⟩)⟩)
/-- LotBeliefsModel.fate -/
def ct1580 : sxCt := (273, 9, (3, [(1, .ofNat 0, .ofNat 11), (2, .negSucc 2147483647, .ofNat 2147483647)], [], [(0, .inl 78), (1, .inr (false, (1, .ofNat 0))), (2, .inr (false, (2, .ofNat 0)))], [], [(579, (0, .ofNat 2), .inr (false, (0, .ofNat 1)))], []), [(78, 1), (78, 44), (78, 45), (78, 46), (78, 47), (78, 48), (78, 49), (80, 0), (559000569, 0)], [
  (5, [(1, .ofNat 0, .ofNat 11), (2, .negSucc 2147483647, .ofNat 2147483647), (3, .negSucc 2147483647, .ofNat 2147483647), (4, .ofNat 0, .ofNat 2)], [], [], [.inr (false, (3, .ofNat 0))], [(78, (0, .ofNat 0), .inr (false, (4, .ofNat 0))), (579, (0, .ofNat 2), .inr (false, (0, .ofNat 1)))], [])], [], 0, 0)
def cu1580 : List sxCu := []
set_option maxRecDepth 1000000 in
theorem cv1580 (hg : sxGd sxKw ghL) : sxCtV sxKw ghL ct1580 := sxMeB_ok (cts := [ct235, ct392]) (cuts := cu1580) (sp := []) 267 (by decide +kernel) hg (by decide) (by decide) (List.forall_mem_cons.mpr ⟨cv235 hg, (List.forall_mem_cons.mpr ⟨cv392 hg, (fun _ h => absurd h List.not_mem_nil)⟩)⟩)
/-- LotBeliefsModel.fate -/
def ct1581 : sxCt := (273, 9, (3, [(1, .negSucc 2147483647, .ofNat 2147483647), (2, .negSucc 2147483647, .ofNat 2147483647)], [], [(0, .inl 78), (1, .inr (false, (1, .ofNat 0))), (2, .inr (false, (2, .ofNat 0)))], [], [(579, (0, .ofNat 2), .inr (false, (0, .ofNat 1)))], []), [(78, 1), (78, 44), (78, 45), (78, 46), (78, 47), (78, 48), (78, 49), (80, 0), (559000569, 0)], [
  (5, [(1, .negSucc 2147483647, .ofNat 2147483647), (2, .negSucc 2147483647, .ofNat 2147483647), (3, .negSucc 2147483647, .ofNat 2147483647), (4, .ofNat 0, .ofNat 2)], [], [], [.inr (false, (3, .ofNat 0))], [(78, (0, .ofNat 0), .inr (false, (4, .ofNat 0))), (579, (0, .ofNat 2), .inr (false, (0, .ofNat 1)))], [])], [], 0, 0)
def cu1581 : List sxCu := []
set_option maxRecDepth 1000000 in
theorem cv1581 (hg : sxGd sxKw ghL) : sxCtV sxKw ghL ct1581 := sxMeB_ok (cts := [ct235, ct392]) (cuts := cu1581) (sp := []) 301 (by decide +kernel) hg (by decide) (by decide) (List.forall_mem_cons.mpr ⟨cv235 hg, (List.forall_mem_cons.mpr ⟨cv392 hg, (fun _ h => absurd h List.not_mem_nil)⟩)⟩)
/-- LotBeliefsModel.fate -/
def ct1582 : sxCt := (273, 9, (3, [(1, .ofNat 0, .ofNat 11), (2, .ofNat 0, .ofNat 4)], [], [(0, .inl 78), (1, .inr (false, (1, .ofNat 0))), (2, .inr (false, (2, .ofNat 0)))], [], [(579, (0, .ofNat 2), .inr (false, (0, .ofNat 1)))], []), [(78, 1), (78, 44), (78, 45), (78, 46), (78, 47), (78, 48), (78, 49), (80, 0), (559000569, 0)], [
  (5, [(1, .ofNat 0, .ofNat 11), (2, .ofNat 0, .ofNat 4), (3, .negSucc 2147483647, .ofNat 2147483647), (4, .ofNat 0, .ofNat 1)], [], [], [.inr (false, (3, .ofNat 0))], [(78, (0, .ofNat 0), .inr (false, (4, .ofNat 0))), (579, (0, .ofNat 2), .inr (false, (0, .ofNat 1)))], [])], [], 0, 0)
def cu1582 : List sxCu := []
set_option maxRecDepth 1000000 in
theorem cv1582 (hg : sxGd sxKw ghL) : sxCtV sxKw ghL ct1582 := sxMeB_ok (cts := [ct235, ct392]) (cuts := cu1582) (sp := []) 201 (by decide +kernel) hg (by decide) (by decide) (List.forall_mem_cons.mpr ⟨cv235 hg, (List.forall_mem_cons.mpr ⟨cv392 hg, (fun _ h => absurd h List.not_mem_nil)⟩)⟩)
end SXC
