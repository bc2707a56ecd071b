/-! SX: contracts, by program -/
section SXC
/-- LotBeliefs.Jar.common -/
def ct525 : sxCt := (28, 0, (3, [(1, .ofNat 0, .ofNat 4095), (2, .ofNat 0, .ofNat 51)], [], [(0, .inl 3), (1, .inr (false, (1, .ofNat 0))), (2, .inr (false, (2, .ofNat 0)))], [], [], [], []), [], [
  (4, [(3, .negSucc 9223372036854775807, .ofNat 9223372036854775807)], [], [], [.inr (true, (3, .ofNat 0))], [], [], [])], [], 0, 0)
def cu525 : List sxCu := [
  (10, (5, [(1, .ofNat 0, .ofNat 4095), (2, .ofNat 0, .ofNat 51), (3, .negSucc 9223372036854775807, .ofNat 9223372036854775807), (4, .ofNat 0, .ofNat 12)], [], [(0, .inl 3), (1, .inr (false, (1, .ofNat 0))), (2, .inr (false, (2, .ofNat 0))), (3, .inr (true, (3, .ofNat 0))), (5, .inr (false, (4, .ofNat 0)))], [], [(3, (0, .ofNat 11), .inl 8)], [], []), ((0, 4, .ofNat 12), (0, 0, .ofNat 0), (0, 0, .ofNat 0)), 0, 0)]
set_option maxRecDepth 1000000 in
theorem cv525 {gh : sxGh} (hg : sxGd sxKw gh) : sxCtV sxKw gh ct525 := sxMeB_ok (cts := []) (cuts := cu525) (sp := []) 90 (by decide +kernel) hg (by decide) (by decide) (fun _ h => absurd h List.not_mem_nil)
/-- LotBeliefs.year -/
def ct526 : sxCt := (132, 6, (2, [(1, .negSucc 2147483647, .ofNat 2147483647)], [], [(0, .inl 0), (1, .inr (false, (1, .ofNat 0)))], [], [], [], []), [(21, 0), (22, 0), (25, 0), (26, 0), (30, 0), (32, 1), (32, 2), (32, 3), (32, 4), (32, 9), (32, 11), (32, 12), (33000037, 0)], [
  (7, [(1, .ofNat 0, .ofNat 5), (2, .negSucc 2147483647, .ofNat 2147483647), (3, .ofNat 0, .ofNat 4), (4, .ofNat 0, .ofNat 63), (5, .ofNat 0, .ofNat 4095), (6, .negSucc 2147483647, .ofNat 2147483647)], [], [], [.inr (false, (2, .ofNat 0))], [(32, (0, .ofNat 2), .inr (false, (3, .ofNat 0))), (32, (0, .ofNat 3), .inr (false, (4, .ofNat 0))), (32, (0, .ofNat 8), .inr (false, (5, .ofNat 0))), (32, (0, .ofNat 11), .inr (false, (6, .ofNat 0)))], [], [])], [
  (1, (3, [(2, .negSucc 2147483647, .ofNat 2147483647)], [], [], [], [(30, (0, .ofNat 1), .inr (false, (2, .ofNat 0)))], [], []))], 1, 6)
def cu526 : List sxCu := []
set_option maxRecDepth 1000000 in
theorem cv526 {gh : sxGh} (hg : sxGd sxKw gh) : sxCtV sxKw gh ct526 := sxMeB_ok (cts := [ct426, ct523, ct524, ct521, ct380, ct520, ct525, ct522]) (cuts := cu526) (sp := []) 462 (by decide +kernel) hg (by decide) (by decide) (List.forall_mem_cons.mpr ⟨cv426 hg, (List.forall_mem_cons.mpr ⟨cv523 hg, (List.forall_mem_cons.mpr ⟨cv524 hg, (List.forall_mem_cons.mpr ⟨cv521 hg, (List.forall_mem_cons.mpr ⟨cv380 hg, (List.forall_mem_cons.mpr ⟨cv520 hg, (List.forall_mem_cons.mpr ⟨cv525 hg, (List.forall_mem_cons.mpr ⟨cv522 hg, (fun _ h => absurd h List.not_mem_nil)⟩)⟩)⟩)⟩)⟩)⟩)⟩)⟩)
/-- LotBeliefsModel.togetherIn -/
def ct527 : sxCt := (275, 0, (3, [(1, .ofNat 0, .ofNat 4095), (2, .ofNat 0, .ofNat 51)], [], [(0, .inl 78), (1, .inr (false, (1, .ofNat 0))), (2, .inr (false, (2, .ofNat 0)))], [], [], [], []), [], [
  (4, [(3, .negSucc 9223372036854775807, .ofNat 9223372036854775807)], [], [], [.inr (true, (3, .ofNat 0))], [], [], [])], [], 0, 0)
def cu527 : List sxCu := [
  (10, (5, [(1, .ofNat 0, .ofNat 4095), (2, .ofNat 0, .ofNat 51), (3, .negSucc 9223372036854775807, .ofNat 9223372036854775807), (4, .ofNat 0, .ofNat 12)], [], [(0, .inl 78), (1, .inr (false, (1, .ofNat 0))), (2, .inr (false, (2, .ofNat 0))), (3, .inr (true, (3, .ofNat 0))), (5, .inr (false, (4, .ofNat 0)))], [], [(78, (0, .ofNat 19), .inl 89)], [], []), ((0, 4, .ofNat 12), (0, 0, .ofNat 0), (0, 0, .ofNat 0)), 0, 0)]
set_option maxRecDepth 1000000 in
theorem cv527 {gh : sxGh} (hg : sxGd sxKw gh) : sxCtV sxKw gh ct527 := sxMeB_ok (cts := []) (cuts := cu527) (sp := []) 97 (by decide +kernel) hg (by decide) (by decide) (fun _ h => absurd h List.not_mem_nil)
/-- LotBeliefsModel.ones -/
def ct528 : sxCt := (225, 0, (2, [(1, .ofNat 0, .ofNat 4095)], [], [(0, .inr (true, (1, .ofNat 0)))], [], [], [], []), [], [
  (3, [(2, .negSucc 2147483647, .ofNat 2147483647)], [], [], [.inr (false, (2, .ofNat 0))], [], [], [])], [], 0, 0)
def cu528 : List sxCu := [
  (4, (4, [(1, .ofNat 0, .ofNat 4095), (2, .negSucc 2147483647, .ofNat 2147483647), (3, .ofNat 0, .ofNat 64)], [], [(0, .inr (true, (1, .ofNat 0))), (2, .inr (false, (2, .ofNat 0))), (3, .inr (false, (3, .ofNat 0)))], [], [], [], []), ((0, 3, .ofNat 64), (0, 0, .ofNat 0), (0, 0, .ofNat 0)), 0, 0)]
set_option maxRecDepth 1000000 in
theorem cv528 {gh : sxGh} (hg : sxGd sxKw gh) : sxCtV sxKw gh ct528 := sxMeB_ok (cts := []) (cuts := cu528) (sp := []) 80 (by decide +kernel) hg (by decide) (by decide) (fun _ h => absurd h List.not_mem_nil)
/-- LotBeliefs.copyOrder -/
def ct531 : sxCt := (183, 0, (2, [(1, .ofNat 0, .ofNat 1)], [], [(0, .inl 0), (1, .inr (false, (1, .ofNat 0)))], [], [], [], []), [(31, 0)], [
  (2, [], [], [], [], [], [], [])], [], 0, 0)
def cu531 : List sxCu := [
  (2, (3, [(1, .ofNat 0, .ofNat 1), (2, .ofNat 0, .ofNat 12)], [], [(0, .inl 0), (1, .inr (false, (1, .ofNat 0))), (2, .inr (false, (2, .ofNat 0)))], [], [], [], []), ((0, 2, .ofNat 12), (0, 0, .ofNat 0), (0, 0, .ofNat 0)), 0, 0)]
set_option maxRecDepth 1000000 in
theorem cv531 {gh : sxGh} (hg : sxGd sxKw gh) : sxCtV sxKw gh ct531 := sxMeB_ok (cts := []) (cuts := cu531) (sp := []) 111 (by decide +kernel) hg (by decide) (by decide) (fun _ h => absurd h List.not_mem_nil)
/-- LotBeliefs.Course.goBack -/
def ct532 : sxCt := (3, 1, (2, [(1, .ofNat 0, .ofNat 1)], [], [(0, .inl 32), (1, .inl 31), (2, .inr (false, (1, .ofNat 0)))], [], [], [], []), [(32, 11), (32, 12), (33000037, 0)], [
  (3, [(2, .ofNat 0, .ofNat 17)], [], [], [], [(32, (0, .ofNat 10), .inr (false, (2, .ofNat 0)))], [], [])], [], 0, 0)
def cu532 : List sxCu := [
  (12, (3, [(1, .ofNat 0, .ofNat 1), (2, .ofNat 0, .ofNat 17)], [], [(0, .inl 32), (1, .inl 31), (2, .inr (false, (1, .ofNat 0))), (3, .inr (false, (2, .ofNat 0)))], [], [(32, (0, .ofNat 10), .inr (false, (0, .ofNat 0))), (32, (0, .ofNat 11), .inr (false, (0, .ofNat 0)))], [], []), ((0, 2, .ofNat 19), (0, 0, .ofNat 0), (0, 0, .ofNat 0)), 0, 0), 
  (46, (4, [(1, .ofNat 0, .ofNat 1), (2, .ofNat 0, .ofNat 1), (3, .ofNat 0, .ofNat 17)], [], [(0, .inl 32), (1, .inl 31), (2, .inr (false, (1, .ofNat 0))), (3, .inr (false, (2, .ofNat 0)))], [], [(32, (0, .ofNat 4), .inl 33), (32, (0, .ofNat 10), .inr (false, (3, .ofNat 0)))], [], []), ((0, 2, .ofNat 1), (0, 0, .ofNat 0), (0, 0, .ofNat 0)), 0, 0)]
set_option maxRecDepth 1000000 in
theorem cv532 {gh : sxGh} (hg : sxGd sxKw gh) : sxCtV sxKw gh ct532 := sxMeB_ok (cts := [ct387]) (cuts := cu532) (sp := []) 125 (by decide +kernel) hg (by decide) (by decide) (List.forall_mem_cons.mpr ⟨cv387 hg, (fun _ h => absurd h List.not_mem_nil)⟩)
/-- LotBeliefs.Course.play -/
def ct533 : sxCt := (2, 4, (3, [(1, .ofNat 0, .ofNat 12), (2, .ofNat 0, .ofNat 1)], [], [(0, .inl 32), (1, .inl 31), (2, .inr (false, (1, .ofNat 0))), (3, .inr (false, (2, .ofNat 0)))], [], [], [], []), [(21, 0), (22, 0), (25, 0), (26, 0), (32, 9), (32, 11), (32, 12), (33000037, 0)], [
  (5, [(3, .ofNat 0, .ofNat 4095), (4, .negSucc 2147483647, .ofNat 2147483647)], [], [], [], [(32, (0, .ofNat 8), .inr (false, (3, .ofNat 0))), (32, (0, .ofNat 11), .inr (false, (4, .ofNat 0)))], [], [])], [], 0, 0)
def cu533 : List sxCu := [
  (9, (4, [(1, .ofNat 0, .ofNat 12), (2, .ofNat 0, .ofNat 1), (3, .ofNat 0, .ofNat 12)], [(2, 3, .ofNat 0), (3, 1, .ofNat 1)], [(0, .inl 32), (1, .inl 31), (2, .inr (false, (1, .ofNat 0))), (3, .inr (false, (2, .ofNat 0))), (4, .inr (false, (3, .ofNat 0)))], [], [], [], []), ((0, 3, .ofNat 12), (0, 0, .ofNat 0), (0, 0, .ofNat 0)), 0, 0)]
set_option maxRecDepth 1000000 in
theorem cv533 {gh : sxGh} (hg : sxGd sxKw gh) : sxCtV sxKw gh ct533 := sxMeB_ok (cts := [ct532, ct387, ct424, ct407, ct425, ct406]) (cuts := cu533) (sp := []) 134 (by decide +kernel) hg (by decide) (by decide) (List.forall_mem_cons.mpr ⟨cv532 hg, (List.forall_mem_cons.mpr ⟨cv387 hg, (List.forall_mem_cons.mpr ⟨cv424 hg, (List.forall_mem_cons.mpr ⟨cv407 hg, (List.forall_mem_cons.mpr ⟨cv425 hg, (List.forall_mem_cons.mpr ⟨cv406 hg, (fun _ h => absurd h List.not_mem_nil)⟩)⟩)⟩)⟩)⟩)⟩)
/-- LotBeliefs.touchy -/
def ct534 : sxCt := (133, 6, (1, [], [], [(0, .inl 0)], [], [], [], []), [(21, 0), (22, 0), (25, 0), (26, 0), (31, 0), (32, 1), (32, 2), (32, 3), (32, 4), (32, 9), (32, 11), (32, 12), (33000037, 0)], [
  (6, [(1, .ofNat 0, .ofNat 11), (2, .ofNat 0, .ofNat 4), (3, .ofNat 0, .ofNat 63), (4, .ofNat 0, .ofNat 4095), (5, .negSucc 2147483647, .ofNat 2147483647)], [], [], [.inr (false, (1, .ofNat 0))], [(32, (0, .ofNat 2), .inr (false, (2, .ofNat 0))), (32, (0, .ofNat 3), .inr (false, (3, .ofNat 0))), (32, (0, .ofNat 8), .inr (false, (4, .ofNat 0))), (32, (0, .ofNat 11), .inr (false, (5, .ofNat 0)))], [], [])], [], 0, 0)
def cu534 : List sxCu := [
  (21, (8, [(1, .ofNat 0, .ofNat 4095), (2, .ofNat 0, .ofNat 11), (3, .ofNat 0, .ofNat 11), (4, .ofNat 0, .ofNat 4), (5, .ofNat 0, .ofNat 63), (6, .ofNat 0, .ofNat 4095), (7, .negSucc 2147483647, .ofNat 2147483647)], [(2, 3, .ofNat 0)], [(0, .inl 0), (1, .inr (false, (1, .ofNat 0))), (2, .inr (false, (2, .ofNat 0))), (3, .inr (false, (3, .ofNat 0)))], [], [(0, (0, .ofNat 7), .inl 27), (0, (0, .ofNat 12), .inl 32), (27, (0, .ofNat 0), .inl 28), (27, (0, .ofNat 1), .inr (false, (4, .ofNat 0))), (27, (0, .ofNat 2), .inr (false, (5, .ofNat 0))), (32, (0, .ofNat 2), .inr (false, (4, .ofNat 0))), (32, (0, .ofNat 3), .inr (false, (5, .ofNat 0))), (32, (0, .ofNat 8), .inr (false, (6, .ofNat 0))), (32, (0, .ofNat 11), .inr (false, (7, .ofNat 0)))], [], []), ((0, 3, .ofNat 11), (0, 0, .ofNat 0), (0, 0, .ofNat 0)), 0, 0)]
set_option maxRecDepth 1000000 in
theorem cv534 {gh : sxGh} (hg : sxGd sxKw gh) : sxCtV sxKw gh ct534 := sxMeB_ok (cts := [ct426, ct533, ct531]) (cuts := cu534) (sp := []) 685 (by decide +kernel) hg (by decide) (by decide) (List.forall_mem_cons.mpr ⟨cv426 hg, (List.forall_mem_cons.mpr ⟨cv533 hg, (List.forall_mem_cons.mpr ⟨cv531 hg, (fun _ h => absurd h List.not_mem_nil)⟩)⟩)⟩)
/-- LotBeliefs.Course.seat -/
def ct536 : sxCt := (4, 0, (2, [(1, .ofNat 0, .ofNat 6)], [], [(0, .inl 32), (1, .inr (false, (1, .ofNat 0)))], [], [], [], []), [(32, 11), (32, 12), (34000037, 0)], [
  (3, [(2, .ofNat 1, .ofNat 17)], [], [], [], [(32, (0, .ofNat 10), .inr (false, (2, .ofNat 0)))], [], [])], [], 0, 0)
def cu536 : List sxCu := []
set_option maxRecDepth 1000000 in
theorem cv536 {gh : sxGh} (hg : sxGd sxKw gh) : sxCtV sxKw gh ct536 := sxMeB_ok (cts := []) (cuts := cu536) (sp := []) 103 (by decide +kernel) hg (by decide) (by decide) (fun _ h => absurd h List.not_mem_nil)
/-- LotBeliefs.Course.lives -/
def ct570 : sxCt := (6, 0, (3, [(1, .ofNat 0, .ofNat 6), (2, .ofNat 0, .ofNat 6)], [], [(0, .inl 32), (1, .inr (false, (1, .ofNat 0))), (2, .inr (false, (2, .ofNat 0)))], [], [], [], []), [(33000036, 0)], [
  (3, [], [], [], [.inr (false, (0, .ofNat 0))], [], [], []), 
  (3, [], [], [], [.inr (false, (0, .ofNat 1))], [], [], [])], [], 0, 0)
def cu570 : List sxCu := []
set_option maxRecDepth 1000000 in
theorem cv570 {gh : sxGh} (hg : sxGd sxKw gh) : sxCtV sxKw gh ct570 := sxMeB_ok (cts := []) (cuts := cu570) (sp := []) 196 (by decide +kernel) hg (by decide) (by decide) (fun _ h => absurd h List.not_mem_nil)
/-- LotBeliefs.Survey.digits -/
def ct572 : sxCt := (71, 0, (2, [(1, .ofNat 0, .ofNat 7)], [], [(0, .inl 74), (1, .inr (false, (1, .ofNat 0)))], [], [], [], []), [], [
  (3, [(2, .negSucc 9223372036854775807, .ofNat 9223372036854775807)], [], [], [.inr (true, (2, .ofNat 0))], [], [], [])], [], 0, 0)
def cu572 : List sxCu := [
  (5, (4, [(1, .ofNat 0, .ofNat 7), (2, .negSucc 9223372036854775807, .ofNat 9223372036854775807), (3, .ofNat 0, .ofNat 7)], [], [(0, .inl 74), (1, .inr (false, (1, .ofNat 0))), (2, .inr (true, (2, .ofNat 0))), (4, .inr (false, (3, .ofNat 0)))], [], [], [], []), ((0, 3, .ofNat 7), (0, 0, .ofNat 0), (0, 0, .ofNat 0)), 0, 0)]
set_option maxRecDepth 1000000 in
theorem cv572 {gh : sxGh} (hg : sxGd sxKw gh) : sxCtV sxKw gh ct572 := sxMeB_ok (cts := []) (cuts := cu572) (sp := []) 81 (by decide +kernel) hg (by decide) (by decide) (fun _ h => absurd h List.not_mem_nil)
/-- LotBeliefs.Survey.note -/
def ct573 : sxCt := (70, 1, (4, [(1, .ofNat 0, .ofNat 4095), (2, .negSucc 2147483647, .ofNat 2147483647), (3, .ofNat 0, .ofNat 7)], [], [(0, .inl 74), (1, .inr (false, (1, .ofNat 0))), (2, .inr (false, (2, .ofNat 0))), (3, .inr (false, (3, .ofNat 0)))], [], [], [], []), [(74, 6), (74, 7), (75, 0), (76, 0)], [
  (5, [(4, .negSucc 2147483647, .ofNat 2147483647)], [(2, 4, .ofNat 0)], [], [], [(74, (0, .ofNat 5), .inr (false, (4, .ofNat 0)))], [], [])], [], 0, 0)
def cu573 : List sxCu := []
set_option maxRecDepth 1000000 in
theorem cv573 {gh : sxGh} (hg : sxGd sxKw gh) : sxCtV sxKw gh ct573 := sxMeB_ok (cts := [ct572]) (cuts := cu573) (sp := []) 141 (by decide +kernel) hg (by decide) (by decide) (List.forall_mem_cons.mpr ⟨cv572 hg, (fun _ h => absurd h List.not_mem_nil)⟩)
/-- LotBeliefs.Survey.advance -/
def ct574 : sxCt := (72, 1, (2, [(1, .ofNat 0, .ofNat 7)], [], [(0, .inl 74), (1, .inr (false, (1, .ofNat 0)))], [], [], [], []), [(77, 0)], [
  (3, [(2, .negSucc 0, .ofNat 5)], [(2, 1, .negSucc 0)], [], [.inr (false, (2, .ofNat 0))], [], [], [])], [], 0, 0)
def cu574 : List sxCu := [
  (4, (3, [(1, .ofNat 0, .ofNat 7), (2, .negSucc 1, .ofNat 5)], [(2, 1, .negSucc 1)], [(0, .inl 74), (1, .inr (false, (1, .ofNat 0))), (2, .inr (false, (2, .ofNat 0)))], [], [], [], []), ((2, 0, .ofNat 15), (0, 0, .ofNat 0), (0, 0, .ofNat 0)), 0, 0), 
  (41, (4, [(1, .ofNat 2, .ofNat 7), (2, .ofNat 0, .ofNat 5), (3, .ofNat 0, .ofNat 6)], [(2, 1, .negSucc 1), (3, 1, .negSucc 0)], [(0, .inl 74), (1, .inr (false, (1, .ofNat 0))), (2, .inr (false, (2, .ofNat 0))), (3, .inr (false, (3, .ofNat 0)))], [], [(74, (0, .ofNat 7), .inl 77)], [], []), ((3, 0, .ofNat 6), (0, 0, .ofNat 0), (0, 0, .ofNat 0)), 0, 0), 
  (83, (6, [(1, .ofNat 2, .ofNat 7), (2, .ofNat 0, .ofNat 5), (3, .ofNat 0, .ofNat 6), (4, .ofNat 1, .ofNat 6), (5, .ofNat 1, .ofNat 6)], [(2, 1, .negSucc 1), (2, 4, .negSucc 0), (2, 5, .negSucc 0), (3, 1, .negSucc 0), (4, 1, .negSucc 0), (5, 1, .negSucc 0)], [(0, .inl 74), (1, .inr (false, (1, .ofNat 0))), (2, .inr (false, (2, .ofNat 0))), (3, .inr (false, (3, .ofNat 0))), (4, .inr (false, (4, .ofNat 0))), (5, .inr (false, (5, .ofNat 0)))], [], [(74, (0, .ofNat 7), .inl 77)], [], []), ((0, 4, .ofNat 6), (0, 0, .ofNat 0), (0, 0, .ofNat 0)), 0, 0)]
set_option maxRecDepth 1000000 in
theorem cv574 {gh : sxGh} (hg : sxGd sxKw gh) : sxCtV sxKw gh ct574 := sxMeB_ok (cts := []) (cuts := cu574) (sp := []) 196 (by decide +kernel) hg (by decide) (by decide) (fun _ h => absurd h List.not_mem_nil)
/-- LotBeliefs.Course.goBack -/
def ct575 : sxCt := (3, 1, (2, [(1, .ofNat 0, .ofNat 5)], [], [(0, .inl 32), (1, .inl 77), (2, .inr (false, (1, .ofNat 0)))], [], [], [], []), [(32, 11), (32, 12), (33000037, 0)], [
  (3, [(2, .ofNat 0, .ofNat 17)], [], [], [], [(32, (0, .ofNat 10), .inr (false, (2, .ofNat 0)))], [], [])], [], 0, 0)
def cu575 : List sxCu := [
  (12, (3, [(1, .ofNat 0, .ofNat 5), (2, .ofNat 0, .ofNat 17)], [], [(0, .inl 32), (1, .inl 77), (2, .inr (false, (1, .ofNat 0))), (3, .inr (false, (2, .ofNat 0)))], [], [(32, (0, .ofNat 10), .inr (false, (0, .ofNat 0))), (32, (0, .ofNat 11), .inr (false, (0, .ofNat 0)))], [], []), ((0, 2, .ofNat 23), (0, 0, .ofNat 0), (0, 0, .ofNat 0)), 0, 0), 
  (46, (4, [(1, .ofNat 0, .ofNat 5), (2, .ofNat 0, .ofNat 5), (3, .ofNat 0, .ofNat 17)], [], [(0, .inl 32), (1, .inl 77), (2, .inr (false, (1, .ofNat 0))), (3, .inr (false, (2, .ofNat 0)))], [], [(32, (0, .ofNat 4), .inl 33), (32, (0, .ofNat 10), .inr (false, (3, .ofNat 0)))], [], []), ((0, 2, .ofNat 5), (0, 0, .ofNat 0), (0, 0, .ofNat 0)), 0, 0)]
set_option maxRecDepth 1000000 in
theorem cv575 {gh : sxGh} (hg : sxGd sxKw gh) : sxCtV sxKw gh ct575 := sxMeB_ok (cts := [ct536]) (cuts := cu575) (sp := []) 123 (by decide +kernel) hg (by decide) (by decide) (List.forall_mem_cons.mpr ⟨cv536 hg, (fun _ h => absurd h List.not_mem_nil)⟩)
/-- LotBeliefs.Course.play -/
def ct576 : sxCt := (2, 4, (3, [(1, .ofNat 0, .ofNat 7), (2, .ofNat 0, .ofNat 5)], [], [(0, .inl 32), (1, .inl 77), (2, .inr (false, (1, .ofNat 0))), (3, .inr (false, (2, .ofNat 0)))], [], [], [], []), [(21, 0), (22, 0), (25, 0), (26, 0), (32, 9), (32, 11), (32, 12), (33000037, 0)], [
  (5, [(3, .ofNat 0, .ofNat 4095), (4, .negSucc 2147483647, .ofNat 2147483647)], [], [], [], [(32, (0, .ofNat 8), .inr (false, (3, .ofNat 0))), (32, (0, .ofNat 11), .inr (false, (4, .ofNat 0)))], [], [])], [], 0, 0)
def cu576 : List sxCu := [
  (9, (4, [(1, .ofNat 0, .ofNat 7), (2, .ofNat 0, .ofNat 5), (3, .ofNat 0, .ofNat 7)], [(2, 3, .ofNat 0), (3, 1, .ofNat 5)], [(0, .inl 32), (1, .inl 77), (2, .inr (false, (1, .ofNat 0))), (3, .inr (false, (2, .ofNat 0))), (4, .inr (false, (3, .ofNat 0)))], [], [], [], []), ((0, 3, .ofNat 7), (0, 0, .ofNat 0), (0, 0, .ofNat 0)), 0, 0)]
set_option maxRecDepth 1000000 in
theorem cv576 {gh : sxGh} (hg : sxGd sxKw gh) : sxCtV sxKw gh ct576 := sxMeB_ok (cts := [ct575, ct536, ct416, ct407, ct570, ct406]) (cuts := cu576) (sp := []) 132 (by decide +kernel) hg (by decide) (by decide) (List.forall_mem_cons.mpr ⟨cv575 hg, (List.forall_mem_cons.mpr ⟨cv536 hg, (List.forall_mem_cons.mpr ⟨cv416 hg, (List.forall_mem_cons.mpr ⟨cv407 hg, (List.forall_mem_cons.mpr ⟨cv570 hg, (List.forall_mem_cons.mpr ⟨cv406 hg, (fun _ h => absurd h List.not_mem_nil)⟩)⟩)⟩)⟩)⟩)⟩)
/-- LotBeliefs.Survey.take -/
def ct577 : sxCt := (69, 5, (2, [(1, .ofNat 0, .ofNat 63)], [], [(0, .inl 74), (1, .inl 11), (2, .inl 23), (3, .inr (false, (1, .ofNat 0))), (4, .inl 32)], [], [], [], []), [(21, 0), (22, 0), (25, 0), (26, 0), (32, 1), (32, 2), (32, 3), (32, 4), (32, 9), (32, 11), (32, 12), (74, 2), (74, 3), (74, 6), (74, 7), (33000037, 0), (75000077, 0)], [
  (3, [(2, .ofNat 0, .ofNat 63)], [(1, 2, .ofNat 0), (2, 1, .ofNat 0)], [], [], [(74, (0, .ofNat 1), .inr (false, (0, .ofNat 1))), (74, (0, .ofNat 2), .inr (false, (2, .ofNat 0)))], [], [])], [], 0, 0)
def cu577 : List sxCu := [
  (115, (7, [(1, .ofNat 0, .ofNat 63), (2, .ofNat 0, .ofNat 7), (3, .negSucc 0, .ofNat 5), (4, .ofNat 0, .ofNat 5040), (5, .ofNat 0, .ofNat 12), (6, .negSucc 2147483647, .ofNat 2147483647)], [(2, 5, .ofNat 0), (5, 2, .ofNat 5)], [(0, .inl 74), (1, .inl 11), (2, .inl 23), (3, .inr (false, (1, .ofNat 0))), (4, .inl 32), (5, .inr (false, (2, .ofNat 0))), (6, .inr (false, (3, .ofNat 0))), (7, .inr (false, (4, .ofNat 0)))], [], [(11, (0, .ofNat 2), .inr (false, (5, .ofNat 0))), (32, (0, .ofNat 0), .inl 11), (32, (0, .ofNat 1), .inl 23), (32, (0, .ofNat 2), .inr (false, (0, .ofNat 4))), (32, (0, .ofNat 3), .inr (false, (1, .ofNat 0))), (74, (0, .ofNat 0), .inr (false, (0, .ofNat 4))), (74, (0, .ofNat 1), .inr (false, (0, .ofNat 1))), (74, (0, .ofNat 2), .inr (false, (1, .ofNat 0))), (74, (0, .ofNat 3), .inl 75), (74, (0, .ofNat 5), .inr (false, (6, .ofNat 0))), (74, (0, .ofNat 7), .inl 77)], [], []), ((0, 4, .ofNat 5040), (0, 0, .ofNat 0), (0, 0, .ofNat 0)), 0, 0), 
  (34, (3, [(1, .ofNat 0, .ofNat 63), (2, .ofNat 0, .ofNat 128)], [], [(0, .inl 74), (1, .inl 11), (2, .inl 23), (3, .inr (false, (1, .ofNat 0))), (4, .inl 32), (5, .inr (false, (2, .ofNat 0)))], [], [(74, (0, .ofNat 1), .inr (false, (0, .ofNat 1))), (74, (0, .ofNat 2), .inr (false, (1, .ofNat 0))), (74, (0, .ofNat 5), .inr (false, (0, .negSucc 0)))], [], []), ((0, 2, .ofNat 5177), (0, 0, .ofNat 0), (0, 0, .ofNat 0)), 0, 0), 
  (75, (5, [(1, .ofNat 0, .ofNat 63), (2, .ofNat 0, .ofNat 7), (3, .ofNat 0, .ofNat 7), (4, .ofNat 0, .ofNat 12)], [(2, 4, .ofNat 0), (4, 2, .ofNat 5)], [(0, .inl 74), (1, .inl 11), (2, .inl 23), (3, .inr (false, (1, .ofNat 0))), (4, .inl 32), (5, .inr (false, (2, .ofNat 0))), (6, .inr (false, (3, .ofNat 0)))], [], [(11, (0, .ofNat 2), .inr (false, (4, .ofNat 0))), (74, (0, .ofNat 1), .inr (false, (0, .ofNat 1))), (74, (0, .ofNat 2), .inr (false, (1, .ofNat 0))), (74, (0, .ofNat 3), .inl 75), (74, (0, .ofNat 5), .inr (false, (0, .negSucc 0))), (74, (0, .ofNat 7), .inl 77)], [], []), ((0, 3, .ofNat 5048), (0, 0, .ofNat 0), (0, 0, .ofNat 0)), 0, 0)]
set_option maxRecDepth 1000000 in
theorem cv577 {gh : sxGh} (hg : sxGd sxKw gh) : sxCtV sxKw gh ct577 := sxMeB_ok (cts := [ct576, ct523, ct573, ct574]) (cuts := cu577) (sp := []) 179 (by decide +kernel) hg (by decide) (by decide) (List.forall_mem_cons.mpr ⟨cv576 hg, (List.forall_mem_cons.mpr ⟨cv523 hg, (List.forall_mem_cons.mpr ⟨cv573 hg, (List.forall_mem_cons.mpr ⟨cv574 hg, (fun _ h => absurd h List.not_mem_nil)⟩)⟩)⟩)⟩)
/-- LotBeliefs.Survey.never -/
def ct578 : sxCt := (76, 0, (2, [(1, .ofNat 0, .ofNat 7)], [], [(0, .inl 74), (1, .inr (false, (1, .ofNat 0)))], [], [], [], []), [], [
  (3, [(2, .ofNat 0, .ofNat 127)], [], [], [.inr (false, (2, .ofNat 0))], [], [], [])], [], 0, 0)
def cu578 : List sxCu := [
  (8, (4, [(1, .ofNat 0, .ofNat 7), (2, .ofNat 0, .ofNat 127), (3, .ofNat 0, .ofNat 128)], [], [(0, .inl 74), (1, .inr (false, (1, .ofNat 0))), (2, .inr (false, (2, .ofNat 0))), (3, .inr (false, (3, .ofNat 0)))], [], [], [], []), ((0, 3, .ofNat 128), (0, 0, .ofNat 0), (0, 0, .ofNat 0)), 0, 0)]
set_option maxRecDepth 1000000 in
theorem cv578 {gh : sxGh} (hg : sxGd sxKw gh) : sxCtV sxKw gh ct578 := sxMeB_ok (cts := []) (cuts := cu578) (sp := []) 90 (by decide +kernel) hg (by decide) (by decide) (fun _ h => absurd h List.not_mem_nil)
/-- LotBeliefs.Survey.always -/
def ct579 : sxCt := (75, 0, (2, [(1, .ofNat 0, .ofNat 7)], [], [(0, .inl 74), (1, .inr (false, (1, .ofNat 0)))], [], [], [], []), [], [
  (3, [(2, .ofNat 0, .ofNat 127)], [], [], [.inr (false, (2, .ofNat 0))], [], [], [])], [], 0, 0)
def cu579 : List sxCu := [
  (8, (4, [(1, .ofNat 0, .ofNat 7), (2, .ofNat 0, .ofNat 127), (3, .ofNat 0, .ofNat 128)], [], [(0, .inl 74), (1, .inr (false, (1, .ofNat 0))), (2, .inr (false, (2, .ofNat 0))), (3, .inr (false, (3, .ofNat 0)))], [], [], [], []), ((0, 3, .ofNat 128), (0, 0, .ofNat 0), (0, 0, .ofNat 0)), 0, 0)]
set_option maxRecDepth 1000000 in
theorem cv579 {gh : sxGh} (hg : sxGd sxKw gh) : sxCtV sxKw gh ct579 := sxMeB_ok (cts := []) (cuts := cu579) (sp := []) 88 (by decide +kernel) hg (by decide) (by decide) (fun _ h => absurd h List.not_mem_nil)
/-- LotBeliefs.Survey.unlike -/
def ct580 : sxCt := (74, 0, (1, [], [], [(0, .inl 74)], [], [], [], []), [], [
  (2, [(1, .ofNat 0, .ofNat 128)], [], [], [.inr (false, (1, .ofNat 0))], [], [], [])], [], 0, 0)
def cu580 : List sxCu := [
  (4, (3, [(1, .ofNat 0, .ofNat 128), (2, .ofNat 0, .ofNat 128)], [(1, 2, .ofNat 0)], [(0, .inl 74), (1, .inr (false, (1, .ofNat 0))), (2, .inr (false, (2, .ofNat 0)))], [], [], [], []), ((0, 2, .ofNat 128), (0, 0, .ofNat 0), (0, 0, .ofNat 0)), 0, 0)]
set_option maxRecDepth 1000000 in
theorem cv580 {gh : sxGh} (hg : sxGd sxKw gh) : sxCtV sxKw gh ct580 := sxMeB_ok (cts := []) (cuts := cu580) (sp := []) 81 (by decide +kernel) hg (by decide) (by decide) (fun _ h => absurd h List.not_mem_nil)
/-- LotBeliefs.Survey.take -/
def ct581 : sxCt := (69, 5, (2, [(1, .ofNat 0, .ofNat 63)], [], [(0, .inl 74), (1, .inl 11), (2, .inl 19), (3, .inr (false, (1, .ofNat 0))), (4, .inl 32)], [], [], [], []), [(21, 0), (22, 0), (25, 0), (26, 0), (32, 1), (32, 2), (32, 3), (32, 4), (32, 9), (32, 11), (32, 12), (74, 2), (74, 3), (74, 6), (74, 7), (33000037, 0), (75000077, 0)], [
  (3, [(2, .ofNat 0, .ofNat 63)], [(1, 2, .ofNat 0), (2, 1, .ofNat 0)], [], [], [(74, (0, .ofNat 1), .inr (false, (0, .ofNat 1))), (74, (0, .ofNat 2), .inr (false, (2, .ofNat 0)))], [], [])], [], 0, 0)
def cu581 : List sxCu := [
  (115, (7, [(1, .ofNat 0, .ofNat 63), (2, .ofNat 0, .ofNat 7), (3, .negSucc 0, .ofNat 5), (4, .ofNat 0, .ofNat 5040), (5, .ofNat 0, .ofNat 12), (6, .negSucc 2147483647, .ofNat 2147483647)], [(2, 5, .ofNat 0), (5, 2, .ofNat 5)], [(0, .inl 74), (1, .inl 11), (2, .inl 19), (3, .inr (false, (1, .ofNat 0))), (4, .inl 32), (5, .inr (false, (2, .ofNat 0))), (6, .inr (false, (3, .ofNat 0))), (7, .inr (false, (4, .ofNat 0)))], [], [(11, (0, .ofNat 2), .inr (false, (5, .ofNat 0))), (32, (0, .ofNat 0), .inl 11), (32, (0, .ofNat 1), .inl 19), (32, (0, .ofNat 2), .inr (false, (0, .ofNat 4))), (32, (0, .ofNat 3), .inr (false, (1, .ofNat 0))), (74, (0, .ofNat 0), .inr (false, (0, .ofNat 4))), (74, (0, .ofNat 1), .inr (false, (0, .ofNat 1))), (74, (0, .ofNat 2), .inr (false, (1, .ofNat 0))), (74, (0, .ofNat 3), .inl 75), (74, (0, .ofNat 5), .inr (false, (6, .ofNat 0))), (74, (0, .ofNat 7), .inl 77)], [], []), ((0, 4, .ofNat 5040), (0, 0, .ofNat 0), (0, 0, .ofNat 0)), 0, 0), 
  (34, (3, [(1, .ofNat 0, .ofNat 63), (2, .ofNat 0, .ofNat 128)], [], [(0, .inl 74), (1, .inl 11), (2, .inl 19), (3, .inr (false, (1, .ofNat 0))), (4, .inl 32), (5, .inr (false, (2, .ofNat 0)))], [], [(74, (0, .ofNat 1), .inr (false, (0, .ofNat 1))), (74, (0, .ofNat 2), .inr (false, (1, .ofNat 0))), (74, (0, .ofNat 5), .inr (false, (0, .negSucc 0)))], [], []), ((0, 2, .ofNat 5177), (0, 0, .ofNat 0), (0, 0, .ofNat 0)), 0, 0), 
  (75, (5, [(1, .ofNat 0, .ofNat 63), (2, .ofNat 0, .ofNat 7), (3, .ofNat 0, .ofNat 7), (4, .ofNat 0, .ofNat 12)], [(2, 4, .ofNat 0), (4, 2, .ofNat 5)], [(0, .inl 74), (1, .inl 11), (2, .inl 19), (3, .inr (false, (1, .ofNat 0))), (4, .inl 32), (5, .inr (false, (2, .ofNat 0))), (6, .inr (false, (3, .ofNat 0)))], [], [(11, (0, .ofNat 2), .inr (false, (4, .ofNat 0))), (74, (0, .ofNat 1), .inr (false, (0, .ofNat 1))), (74, (0, .ofNat 2), .inr (false, (1, .ofNat 0))), (74, (0, .ofNat 3), .inl 75), (74, (0, .ofNat 5), .inr (false, (0, .negSucc 0))), (74, (0, .ofNat 7), .inl 77)], [], []), ((0, 3, .ofNat 5048), (0, 0, .ofNat 0), (0, 0, .ofNat 0)), 0, 0)]
set_option maxRecDepth 1000000 in
theorem cv581 {gh : sxGh} (hg : sxGd sxKw gh) : sxCtV sxKw gh ct581 := sxMeB_ok (cts := [ct576, ct523, ct573, ct574]) (cuts := cu581) (sp := []) 179 (by decide +kernel) hg (by decide) (by decide) (List.forall_mem_cons.mpr ⟨cv576 hg, (List.forall_mem_cons.mpr ⟨cv523 hg, (List.forall_mem_cons.mpr ⟨cv573 hg, (List.forall_mem_cons.mpr ⟨cv574 hg, (fun _ h => absurd h List.not_mem_nil)⟩)⟩)⟩)⟩)
/-- LotBeliefs.Survey.digits -/
def ct611 : sxCt := (71, 0, (2, [(1, .ofNat 0, .ofNat 7)], [], [(0, .inl 70), (1, .inr (false, (1, .ofNat 0)))], [], [], [], []), [], [
  (3, [(2, .negSucc 9223372036854775807, .ofNat 9223372036854775807)], [], [], [.inr (true, (2, .ofNat 0))], [], [], [])], [], 0, 0)
def cu611 : List sxCu := [
  (5, (4, [(1, .ofNat 0, .ofNat 7), (2, .negSucc 9223372036854775807, .ofNat 9223372036854775807), (3, .ofNat 0, .ofNat 7)], [], [(0, .inl 70), (1, .inr (false, (1, .ofNat 0))), (2, .inr (true, (2, .ofNat 0))), (4, .inr (false, (3, .ofNat 0)))], [], [], [], []), ((0, 3, .ofNat 7), (0, 0, .ofNat 0), (0, 0, .ofNat 0)), 0, 0)]
set_option maxRecDepth 1000000 in
theorem cv611 {gh : sxGh} (hg : sxGd sxKw gh) : sxCtV sxKw gh ct611 := sxMeB_ok (cts := []) (cuts := cu611) (sp := []) 81 (by decide +kernel) hg (by decide) (by decide) (fun _ h => absurd h List.not_mem_nil)
/-- LotBeliefs.Survey.note -/
def ct612 : sxCt := (70, 1, (4, [(1, .ofNat 0, .ofNat 4095), (2, .negSucc 2147483647, .ofNat 2147483647), (3, .ofNat 0, .ofNat 7)], [], [(0, .inl 70), (1, .inr (false, (1, .ofNat 0))), (2, .inr (false, (2, .ofNat 0))), (3, .inr (false, (3, .ofNat 0)))], [], [], [], []), [(70, 6), (70, 7), (71, 0), (72, 0)], [
  (5, [(4, .negSucc 2147483647, .ofNat 2147483647)], [(2, 4, .ofNat 0)], [], [], [(70, (0, .ofNat 5), .inr (false, (4, .ofNat 0)))], [], [])], [], 0, 0)
def cu612 : List sxCu := []
set_option maxRecDepth 1000000 in
theorem cv612 {gh : sxGh} (hg : sxGd sxKw gh) : sxCtV sxKw gh ct612 := sxMeB_ok (cts := [ct611]) (cuts := cu612) (sp := []) 141 (by decide +kernel) hg (by decide) (by decide) (List.forall_mem_cons.mpr ⟨cv611 hg, (fun _ h => absurd h List.not_mem_nil)⟩)
/-- LotBeliefs.Survey.advance -/
def ct613 : sxCt := (72, 1, (2, [(1, .ofNat 0, .ofNat 7)], [], [(0, .inl 70), (1, .inr (false, (1, .ofNat 0)))], [], [], [], []), [(73, 0)], [
  (3, [(2, .negSucc 0, .ofNat 5)], [(2, 1, .negSucc 0)], [], [.inr (false, (2, .ofNat 0))], [], [], [])], [], 0, 0)
def cu613 : List sxCu := [
  (4, (3, [(1, .ofNat 0, .ofNat 7), (2, .negSucc 1, .ofNat 5)], [(2, 1, .negSucc 1)], [(0, .inl 70), (1, .inr (false, (1, .ofNat 0))), (2, .inr (false, (2, .ofNat 0)))], [], [], [], []), ((2, 0, .ofNat 15), (0, 0, .ofNat 0), (0, 0, .ofNat 0)), 0, 0), 
  (41, (4, [(1, .ofNat 2, .ofNat 7), (2, .ofNat 0, .ofNat 5), (3, .ofNat 0, .ofNat 6)], [(2, 1, .negSucc 1), (3, 1, .negSucc 0)], [(0, .inl 70), (1, .inr (false, (1, .ofNat 0))), (2, .inr (false, (2, .ofNat 0))), (3, .inr (false, (3, .ofNat 0)))], [], [(70, (0, .ofNat 7), .inl 73)], [], []), ((3, 0, .ofNat 6), (0, 0, .ofNat 0), (0, 0, .ofNat 0)), 0, 0), 
  (83, (6, [(1, .ofNat 2, .ofNat 7), (2, .ofNat 0, .ofNat 5), (3, .ofNat 0, .ofNat 6), (4, .ofNat 1, .ofNat 6), (5, .ofNat 1, .ofNat 6)], [(2, 1, .negSucc 1), (2, 4, .negSucc 0), (2, 5, .negSucc 0), (3, 1, .negSucc 0), (4, 1, .negSucc 0), (5, 1, .negSucc 0)], [(0, .inl 70), (1, .inr (false, (1, .ofNat 0))), (2, .inr (false, (2, .ofNat 0))), (3, .inr (false, (3, .ofNat 0))), (4, .inr (false, (4, .ofNat 0))), (5, .inr (false, (5, .ofNat 0)))], [], [(70, (0, .ofNat 7), .inl 73)], [], []), ((0, 4, .ofNat 6), (0, 0, .ofNat 0), (0, 0, .ofNat 0)), 0, 0)]
set_option maxRecDepth 1000000 in
theorem cv613 {gh : sxGh} (hg : sxGd sxKw gh) : sxCtV sxKw gh ct613 := sxMeB_ok (cts := []) (cuts := cu613) (sp := []) 196 (by decide +kernel) hg (by decide) (by decide) (fun _ h => absurd h List.not_mem_nil)
/-- LotBeliefs.Course.goBack -/
def ct614 : sxCt := (3, 1, (2, [(1, .ofNat 0, .ofNat 5)], [], [(0, .inl 32), (1, .inl 73), (2, .inr (false, (1, .ofNat 0)))], [], [], [], []), [(32, 11), (32, 12), (33000037, 0)], [
  (3, [(2, .ofNat 0, .ofNat 17)], [], [], [], [(32, (0, .ofNat 10), .inr (false, (2, .ofNat 0)))], [], [])], [], 0, 0)
def cu614 : List sxCu := [
  (12, (3, [(1, .ofNat 0, .ofNat 5), (2, .ofNat 0, .ofNat 17)], [], [(0, .inl 32), (1, .inl 73), (2, .inr (false, (1, .ofNat 0))), (3, .inr (false, (2, .ofNat 0)))], [], [(32, (0, .ofNat 10), .inr (false, (0, .ofNat 0))), (32, (0, .ofNat 11), .inr (false, (0, .ofNat 0)))], [], []), ((0, 2, .ofNat 23), (0, 0, .ofNat 0), (0, 0, .ofNat 0)), 0, 0), 
  (46, (4, [(1, .ofNat 0, .ofNat 5), (2, .ofNat 0, .ofNat 5), (3, .ofNat 0, .ofNat 17)], [], [(0, .inl 32), (1, .inl 73), (2, .inr (false, (1, .ofNat 0))), (3, .inr (false, (2, .ofNat 0)))], [], [(32, (0, .ofNat 4), .inl 33), (32, (0, .ofNat 10), .inr (false, (3, .ofNat 0)))], [], []), ((0, 2, .ofNat 5), (0, 0, .ofNat 0), (0, 0, .ofNat 0)), 0, 0)]
set_option maxRecDepth 1000000 in
theorem cv614 {gh : sxGh} (hg : sxGd sxKw gh) : sxCtV sxKw gh ct614 := sxMeB_ok (cts := [ct536]) (cuts := cu614) (sp := []) 123 (by decide +kernel) hg (by decide) (by decide) (List.forall_mem_cons.mpr ⟨cv536 hg, (fun _ h => absurd h List.not_mem_nil)⟩)
/-- LotBeliefs.Course.play -/
def ct615 : sxCt := (2, 4, (3, [(1, .ofNat 0, .ofNat 7), (2, .ofNat 0, .ofNat 5)], [], [(0, .inl 32), (1, .inl 73), (2, .inr (false, (1, .ofNat 0))), (3, .inr (false, (2, .ofNat 0)))], [], [], [], []), [(21, 0), (22, 0), (25, 0), (26, 0), (32, 9), (32, 11), (32, 12), (33000037, 0)], [
  (5, [(3, .ofNat 0, .ofNat 4095), (4, .negSucc 2147483647, .ofNat 2147483647)], [], [], [], [(32, (0, .ofNat 8), .inr (false, (3, .ofNat 0))), (32, (0, .ofNat 11), .inr (false, (4, .ofNat 0)))], [], [])], [], 0, 0)
def cu615 : List sxCu := [
  (9, (4, [(1, .ofNat 0, .ofNat 7), (2, .ofNat 0, .ofNat 5), (3, .ofNat 0, .ofNat 7)], [(2, 3, .ofNat 0), (3, 1, .ofNat 5)], [(0, .inl 32), (1, .inl 73), (2, .inr (false, (1, .ofNat 0))), (3, .inr (false, (2, .ofNat 0))), (4, .inr (false, (3, .ofNat 0)))], [], [], [], []), ((0, 3, .ofNat 7), (0, 0, .ofNat 0), (0, 0, .ofNat 0)), 0, 0)]
set_option maxRecDepth 1000000 in
theorem cv615 {gh : sxGh} (hg : sxGd sxKw gh) : sxCtV sxKw gh ct615 := sxMeB_ok (cts := [ct614, ct536, ct416, ct407, ct570, ct406]) (cuts := cu615) (sp := []) 132 (by decide +kernel) hg (by decide) (by decide) (List.forall_mem_cons.mpr ⟨cv614 hg, (List.forall_mem_cons.mpr ⟨cv536 hg, (List.forall_mem_cons.mpr ⟨cv416 hg, (List.forall_mem_cons.mpr ⟨cv407 hg, (List.forall_mem_cons.mpr ⟨cv570 hg, (List.forall_mem_cons.mpr ⟨cv406 hg, (fun _ h => absurd h List.not_mem_nil)⟩)⟩)⟩)⟩)⟩)⟩)
/-- LotBeliefs.Survey.take -/
def ct616 : sxCt := (69, 5, (2, [(1, .ofNat 0, .ofNat 63)], [], [(0, .inl 70), (1, .inl 11), (2, .inl 23), (3, .inr (false, (1, .ofNat 0))), (4, .inl 32)], [], [], [], []), [(21, 0), (22, 0), (25, 0), (26, 0), (32, 1), (32, 2), (32, 3), (32, 4), (32, 9), (32, 11), (32, 12), (70, 2), (70, 3), (70, 6), (70, 7), (33000037, 0), (71000073, 0)], [
  (3, [(2, .ofNat 0, .ofNat 63)], [(1, 2, .ofNat 0), (2, 1, .ofNat 0)], [], [], [(70, (0, .ofNat 1), .inr (false, (0, .ofNat 1))), (70, (0, .ofNat 2), .inr (false, (2, .ofNat 0)))], [], [])], [], 0, 0)
def cu616 : List sxCu := [
  (115, (7, [(1, .ofNat 0, .ofNat 63), (2, .ofNat 0, .ofNat 7), (3, .negSucc 0, .ofNat 5), (4, .ofNat 0, .ofNat 5040), (5, .ofNat 0, .ofNat 12), (6, .negSucc 2147483647, .ofNat 2147483647)], [(2, 5, .ofNat 0), (5, 2, .ofNat 5)], [(0, .inl 70), (1, .inl 11), (2, .inl 23), (3, .inr (false, (1, .ofNat 0))), (4, .inl 32), (5, .inr (false, (2, .ofNat 0))), (6, .inr (false, (3, .ofNat 0))), (7, .inr (false, (4, .ofNat 0)))], [], [(11, (0, .ofNat 2), .inr (false, (5, .ofNat 0))), (32, (0, .ofNat 0), .inl 11), (32, (0, .ofNat 1), .inl 23), (32, (0, .ofNat 2), .inr (false, (0, .ofNat 3))), (32, (0, .ofNat 3), .inr (false, (1, .ofNat 0))), (70, (0, .ofNat 0), .inr (false, (0, .ofNat 3))), (70, (0, .ofNat 1), .inr (false, (0, .ofNat 1))), (70, (0, .ofNat 2), .inr (false, (1, .ofNat 0))), (70, (0, .ofNat 3), .inl 71), (70, (0, .ofNat 5), .inr (false, (6, .ofNat 0))), (70, (0, .ofNat 7), .inl 73)], [], []), ((0, 4, .ofNat 5040), (0, 0, .ofNat 0), (0, 0, .ofNat 0)), 0, 0), 
  (34, (3, [(1, .ofNat 0, .ofNat 63), (2, .ofNat 0, .ofNat 128)], [], [(0, .inl 70), (1, .inl 11), (2, .inl 23), (3, .inr (false, (1, .ofNat 0))), (4, .inl 32), (5, .inr (false, (2, .ofNat 0)))], [], [(70, (0, .ofNat 1), .inr (false, (0, .ofNat 1))), (70, (0, .ofNat 2), .inr (false, (1, .ofNat 0))), (70, (0, .ofNat 5), .inr (false, (0, .negSucc 0)))], [], []), ((0, 2, .ofNat 5177), (0, 0, .ofNat 0), (0, 0, .ofNat 0)), 0, 0), 
  (75, (5, [(1, .ofNat 0, .ofNat 63), (2, .ofNat 0, .ofNat 7), (3, .ofNat 0, .ofNat 7), (4, .ofNat 0, .ofNat 12)], [(2, 4, .ofNat 0), (4, 2, .ofNat 5)], [(0, .inl 70), (1, .inl 11), (2, .inl 23), (3, .inr (false, (1, .ofNat 0))), (4, .inl 32), (5, .inr (false, (2, .ofNat 0))), (6, .inr (false, (3, .ofNat 0)))], [], [(11, (0, .ofNat 2), .inr (false, (4, .ofNat 0))), (70, (0, .ofNat 1), .inr (false, (0, .ofNat 1))), (70, (0, .ofNat 2), .inr (false, (1, .ofNat 0))), (70, (0, .ofNat 3), .inl 71), (70, (0, .ofNat 5), .inr (false, (0, .negSucc 0))), (70, (0, .ofNat 7), .inl 73)], [], []), ((0, 3, .ofNat 5048), (0, 0, .ofNat 0), (0, 0, .ofNat 0)), 0, 0)]
set_option maxRecDepth 1000000 in
theorem cv616 {gh : sxGh} (hg : sxGd sxKw gh) : sxCtV sxKw gh ct616 := sxMeB_ok (cts := [ct615, ct523, ct612, ct613]) (cuts := cu616) (sp := []) 179 (by decide +kernel) hg (by decide) (by decide) (List.forall_mem_cons.mpr ⟨cv615 hg, (List.forall_mem_cons.mpr ⟨cv523 hg, (List.forall_mem_cons.mpr ⟨cv612 hg, (List.forall_mem_cons.mpr ⟨cv613 hg, (fun _ h => absurd h List.not_mem_nil)⟩)⟩)⟩)⟩)
/-- LotBeliefs.Survey.never -/
def ct617 : sxCt := (76, 0, (2, [(1, .ofNat 0, .ofNat 7)], [], [(0, .inl 70), (1, .inr (false, (1, .ofNat 0)))], [], [], [], []), [], [
  (3, [(2, .ofNat 0, .ofNat 127)], [], [], [.inr (false, (2, .ofNat 0))], [], [], [])], [], 0, 0)
def cu617 : List sxCu := [
  (8, (4, [(1, .ofNat 0, .ofNat 7), (2, .ofNat 0, .ofNat 127), (3, .ofNat 0, .ofNat 128)], [], [(0, .inl 70), (1, .inr (false, (1, .ofNat 0))), (2, .inr (false, (2, .ofNat 0))), (3, .inr (false, (3, .ofNat 0)))], [], [], [], []), ((0, 3, .ofNat 128), (0, 0, .ofNat 0), (0, 0, .ofNat 0)), 0, 0)]
set_option maxRecDepth 1000000 in
theorem cv617 {gh : sxGh} (hg : sxGd sxKw gh) : sxCtV sxKw gh ct617 := sxMeB_ok (cts := []) (cuts := cu617) (sp := []) 90 (by decide +kernel) hg (by decide) (by decide) (fun _ h => absurd h List.not_mem_nil)
/-- LotBeliefs.Survey.always -/
def ct618 : sxCt := (75, 0, (2, [(1, .ofNat 0, .ofNat 7)], [], [(0, .inl 70), (1, .inr (false, (1, .ofNat 0)))], [], [], [], []), [], [
  (3, [(2, .ofNat 0, .ofNat 127)], [], [], [.inr (false, (2, .ofNat 0))], [], [], [])], [], 0, 0)
def cu618 : List sxCu := [
  (8, (4, [(1, .ofNat 0, .ofNat 7), (2, .ofNat 0, .ofNat 127), (3, .ofNat 0, .ofNat 128)], [], [(0, .inl 70), (1, .inr (false, (1, .ofNat 0))), (2, .inr (false, (2, .ofNat 0))), (3, .inr (false, (3, .ofNat 0)))], [], [], [], []), ((0, 3, .ofNat 128), (0, 0, .ofNat 0), (0, 0, .ofNat 0)), 0, 0)]
set_option maxRecDepth 1000000 in
theorem cv618 {gh : sxGh} (hg : sxGd sxKw gh) : sxCtV sxKw gh ct618 := sxMeB_ok (cts := []) (cuts := cu618) (sp := []) 88 (by decide +kernel) hg (by decide) (by decide) (fun _ h => absurd h List.not_mem_nil)
/-- LotBeliefs.Survey.unlike -/
def ct619 : sxCt := (74, 0, (1, [], [], [(0, .inl 70)], [], [], [], []), [], [
  (2, [(1, .ofNat 0, .ofNat 128)], [], [], [.inr (false, (1, .ofNat 0))], [], [], [])], [], 0, 0)
def cu619 : List sxCu := [
  (4, (3, [(1, .ofNat 0, .ofNat 128), (2, .ofNat 0, .ofNat 128)], [(1, 2, .ofNat 0)], [(0, .inl 70), (1, .inr (false, (1, .ofNat 0))), (2, .inr (false, (2, .ofNat 0)))], [], [], [], []), ((0, 2, .ofNat 128), (0, 0, .ofNat 0), (0, 0, .ofNat 0)), 0, 0)]
set_option maxRecDepth 1000000 in
theorem cv619 {gh : sxGh} (hg : sxGd sxKw gh) : sxCtV sxKw gh ct619 := sxMeB_ok (cts := []) (cuts := cu619) (sp := []) 81 (by decide +kernel) hg (by decide) (by decide) (fun _ h => absurd h List.not_mem_nil)
/-- LotBeliefs.Survey.take -/
def ct620 : sxCt := (69, 5, (2, [(1, .ofNat 0, .ofNat 63)], [], [(0, .inl 70), (1, .inl 11), (2, .inl 19), (3, .inr (false, (1, .ofNat 0))), (4, .inl 32)], [], [], [], []), [(21, 0), (22, 0), (25, 0), (26, 0), (32, 1), (32, 2), (32, 3), (32, 4), (32, 9), (32, 11), (32, 12), (70, 2), (70, 3), (70, 6), (70, 7), (33000037, 0), (71000073, 0)], [
  (3, [(2, .ofNat 0, .ofNat 63)], [(1, 2, .ofNat 0), (2, 1, .ofNat 0)], [], [], [(70, (0, .ofNat 1), .inr (false, (0, .ofNat 1))), (70, (0, .ofNat 2), .inr (false, (2, .ofNat 0)))], [], [])], [], 0, 0)
def cu620 : List sxCu := [
  (115, (7, [(1, .ofNat 0, .ofNat 63), (2, .ofNat 0, .ofNat 7), (3, .negSucc 0, .ofNat 5), (4, .ofNat 0, .ofNat 5040), (5, .ofNat 0, .ofNat 12), (6, .negSucc 2147483647, .ofNat 2147483647)], [(2, 5, .ofNat 0), (5, 2, .ofNat 5)], [(0, .inl 70), (1, .inl 11), (2, .inl 19), (3, .inr (false, (1, .ofNat 0))), (4, .inl 32), (5, .inr (false, (2, .ofNat 0))), (6, .inr (false, (3, .ofNat 0))), (7, .inr (false, (4, .ofNat 0)))], [], [(11, (0, .ofNat 2), .inr (false, (5, .ofNat 0))), (32, (0, .ofNat 0), .inl 11), (32, (0, .ofNat 1), .inl 19), (32, (0, .ofNat 2), .inr (false, (0, .ofNat 3))), (32, (0, .ofNat 3), .inr (false, (1, .ofNat 0))), (70, (0, .ofNat 0), .inr (false, (0, .ofNat 3))), (70, (0, .ofNat 1), .inr (false, (0, .ofNat 1))), (70, (0, .ofNat 2), .inr (false, (1, .ofNat 0))), (70, (0, .ofNat 3), .inl 71), (70, (0, .ofNat 5), .inr (false, (6, .ofNat 0))), (70, (0, .ofNat 7), .inl 73)], [], []), ((0, 4, .ofNat 5040), (0, 0, .ofNat 0), (0, 0, .ofNat 0)), 0, 0), 
  (34, (3, [(1, .ofNat 0, .ofNat 63), (2, .ofNat 0, .ofNat 128)], [], [(0, .inl 70), (1, .inl 11), (2, .inl 19), (3, .inr (false, (1, .ofNat 0))), (4, .inl 32), (5, .inr (false, (2, .ofNat 0)))], [], [(70, (0, .ofNat 1), .inr (false, (0, .ofNat 1))), (70, (0, .ofNat 2), .inr (false, (1, .ofNat 0))), (70, (0, .ofNat 5), .inr (false, (0, .negSucc 0)))], [], []), ((0, 2, .ofNat 5177), (0, 0, .ofNat 0), (0, 0, .ofNat 0)), 0, 0), 
  (75, (5, [(1, .ofNat 0, .ofNat 63), (2, .ofNat 0, .ofNat 7), (3, .ofNat 0, .ofNat 7), (4, .ofNat 0, .ofNat 12)], [(2, 4, .ofNat 0), (4, 2, .ofNat 5)], [(0, .inl 70), (1, .inl 11), (2, .inl 19), (3, .inr (false, (1, .ofNat 0))), (4, .inl 32), (5, .inr (false, (2, .ofNat 0))), (6, .inr (false, (3, .ofNat 0)))], [], [(11, (0, .ofNat 2), .inr (false, (4, .ofNat 0))), (70, (0, .ofNat 1), .inr (false, (0, .ofNat 1))), (70, (0, .ofNat 2), .inr (false, (1, .ofNat 0))), (70, (0, .ofNat 3), .inl 71), (70, (0, .ofNat 5), .inr (false, (0, .negSucc 0))), (70, (0, .ofNat 7), .inl 73)], [], []), ((0, 3, .ofNat 5048), (0, 0, .ofNat 0), (0, 0, .ofNat 0)), 0, 0)]
set_option maxRecDepth 1000000 in
theorem cv620 {gh : sxGh} (hg : sxGd sxKw gh) : sxCtV sxKw gh ct620 := sxMeB_ok (cts := [ct615, ct523, ct612, ct613]) (cuts := cu620) (sp := []) 179 (by decide +kernel) hg (by decide) (by decide) (List.forall_mem_cons.mpr ⟨cv615 hg, (List.forall_mem_cons.mpr ⟨cv523 hg, (List.forall_mem_cons.mpr ⟨cv612 hg, (List.forall_mem_cons.mpr ⟨cv613 hg, (fun _ h => absurd h List.not_mem_nil)⟩)⟩)⟩)⟩)
/-- LotBeliefs.Survey.digits -/
def ct650 : sxCt := (71, 0, (2, [(1, .ofNat 0, .ofNat 7)], [], [(0, .inl 66), (1, .inr (false, (1, .ofNat 0)))], [], [], [], []), [], [
  (3, [(2, .negSucc 9223372036854775807, .ofNat 9223372036854775807)], [], [], [.inr (true, (2, .ofNat 0))], [], [], [])], [], 0, 0)
def cu650 : List sxCu := [
  (5, (4, [(1, .ofNat 0, .ofNat 7), (2, .negSucc 9223372036854775807, .ofNat 9223372036854775807), (3, .ofNat 0, .ofNat 7)], [], [(0, .inl 66), (1, .inr (false, (1, .ofNat 0))), (2, .inr (true, (2, .ofNat 0))), (4, .inr (false, (3, .ofNat 0)))], [], [], [], []), ((0, 3, .ofNat 7), (0, 0, .ofNat 0), (0, 0, .ofNat 0)), 0, 0)]
set_option maxRecDepth 1000000 in
theorem cv650 {gh : sxGh} (hg : sxGd sxKw gh) : sxCtV sxKw gh ct650 := sxMeB_ok (cts := []) (cuts := cu650) (sp := []) 81 (by decide +kernel) hg (by decide) (by decide) (fun _ h => absurd h List.not_mem_nil)
/-- LotBeliefs.Survey.note -/
def ct651 : sxCt := (70, 1, (4, [(1, .ofNat 0, .ofNat 4095), (2, .negSucc 2147483647, .ofNat 2147483647), (3, .ofNat 0, .ofNat 7)], [], [(0, .inl 66), (1, .inr (false, (1, .ofNat 0))), (2, .inr (false, (2, .ofNat 0))), (3, .inr (false, (3, .ofNat 0)))], [], [], [], []), [(66, 6), (66, 7), (67, 0), (68, 0)], [
  (5, [(4, .negSucc 2147483647, .ofNat 2147483647)], [(2, 4, .ofNat 0)], [], [], [(66, (0, .ofNat 5), .inr (false, (4, .ofNat 0)))], [], [])], [], 0, 0)
def cu651 : List sxCu := []
set_option maxRecDepth 1000000 in
theorem cv651 {gh : sxGh} (hg : sxGd sxKw gh) : sxCtV sxKw gh ct651 := sxMeB_ok (cts := [ct650]) (cuts := cu651) (sp := []) 141 (by decide +kernel) hg (by decide) (by decide) (List.forall_mem_cons.mpr ⟨cv650 hg, (fun _ h => absurd h List.not_mem_nil)⟩)
/-- LotBeliefs.Survey.advance -/
def ct652 : sxCt := (72, 1, (2, [(1, .ofNat 0, .ofNat 7)], [], [(0, .inl 66), (1, .inr (false, (1, .ofNat 0)))], [], [], [], []), [(69, 0)], [
  (3, [(2, .negSucc 0, .ofNat 5)], [(2, 1, .negSucc 0)], [], [.inr (false, (2, .ofNat 0))], [], [], [])], [], 0, 0)
def cu652 : List sxCu := [
  (4, (3, [(1, .ofNat 0, .ofNat 7), (2, .negSucc 1, .ofNat 5)], [(2, 1, .negSucc 1)], [(0, .inl 66), (1, .inr (false, (1, .ofNat 0))), (2, .inr (false, (2, .ofNat 0)))], [], [], [], []), ((2, 0, .ofNat 15), (0, 0, .ofNat 0), (0, 0, .ofNat 0)), 0, 0), 
  (41, (4, [(1, .ofNat 2, .ofNat 7), (2, .ofNat 0, .ofNat 5), (3, .ofNat 0, .ofNat 6)], [(2, 1, .negSucc 1), (3, 1, .negSucc 0)], [(0, .inl 66), (1, .inr (false, (1, .ofNat 0))), (2, .inr (false, (2, .ofNat 0))), (3, .inr (false, (3, .ofNat 0)))], [], [(66, (0, .ofNat 7), .inl 69)], [], []), ((3, 0, .ofNat 6), (0, 0, .ofNat 0), (0, 0, .ofNat 0)), 0, 0), 
  (83, (6, [(1, .ofNat 2, .ofNat 7), (2, .ofNat 0, .ofNat 5), (3, .ofNat 0, .ofNat 6), (4, .ofNat 1, .ofNat 6), (5, .ofNat 1, .ofNat 6)], [(2, 1, .negSucc 1), (2, 4, .negSucc 0), (2, 5, .negSucc 0), (3, 1, .negSucc 0), (4, 1, .negSucc 0), (5, 1, .negSucc 0)], [(0, .inl 66), (1, .inr (false, (1, .ofNat 0))), (2, .inr (false, (2, .ofNat 0))), (3, .inr (false, (3, .ofNat 0))), (4, .inr (false, (4, .ofNat 0))), (5, .inr (false, (5, .ofNat 0)))], [], [(66, (0, .ofNat 7), .inl 69)], [], []), ((0, 4, .ofNat 6), (0, 0, .ofNat 0), (0, 0, .ofNat 0)), 0, 0)]
set_option maxRecDepth 1000000 in
theorem cv652 {gh : sxGh} (hg : sxGd sxKw gh) : sxCtV sxKw gh ct652 := sxMeB_ok (cts := []) (cuts := cu652) (sp := []) 196 (by decide +kernel) hg (by decide) (by decide) (fun _ h => absurd h List.not_mem_nil)
/-- LotBeliefs.Course.goBack -/
def ct653 : sxCt := (3, 1, (2, [(1, .ofNat 0, .ofNat 5)], [], [(0, .inl 32), (1, .inl 69), (2, .inr (false, (1, .ofNat 0)))], [], [], [], []), [(32, 11), (32, 12), (33000037, 0)], [
  (3, [(2, .ofNat 0, .ofNat 17)], [], [], [], [(32, (0, .ofNat 10), .inr (false, (2, .ofNat 0)))], [], [])], [], 0, 0)
def cu653 : List sxCu := [
  (12, (3, [(1, .ofNat 0, .ofNat 5), (2, .ofNat 0, .ofNat 17)], [], [(0, .inl 32), (1, .inl 69), (2, .inr (false, (1, .ofNat 0))), (3, .inr (false, (2, .ofNat 0)))], [], [(32, (0, .ofNat 10), .inr (false, (0, .ofNat 0))), (32, (0, .ofNat 11), .inr (false, (0, .ofNat 0)))], [], []), ((0, 2, .ofNat 23), (0, 0, .ofNat 0), (0, 0, .ofNat 0)), 0, 0), 
  (46, (4, [(1, .ofNat 0, .ofNat 5), (2, .ofNat 0, .ofNat 5), (3, .ofNat 0, .ofNat 17)], [], [(0, .inl 32), (1, .inl 69), (2, .inr (false, (1, .ofNat 0))), (3, .inr (false, (2, .ofNat 0)))], [], [(32, (0, .ofNat 4), .inl 33), (32, (0, .ofNat 10), .inr (false, (3, .ofNat 0)))], [], []), ((0, 2, .ofNat 5), (0, 0, .ofNat 0), (0, 0, .ofNat 0)), 0, 0)]
set_option maxRecDepth 1000000 in
theorem cv653 {gh : sxGh} (hg : sxGd sxKw gh) : sxCtV sxKw gh ct653 := sxMeB_ok (cts := [ct536]) (cuts := cu653) (sp := []) 123 (by decide +kernel) hg (by decide) (by decide) (List.forall_mem_cons.mpr ⟨cv536 hg, (fun _ h => absurd h List.not_mem_nil)⟩)
/-- LotBeliefs.Course.play -/
def ct654 : sxCt := (2, 4, (3, [(1, .ofNat 0, .ofNat 7), (2, .ofNat 0, .ofNat 5)], [], [(0, .inl 32), (1, .inl 69), (2, .inr (false, (1, .ofNat 0))), (3, .inr (false, (2, .ofNat 0)))], [], [], [], []), [(21, 0), (22, 0), (25, 0), (26, 0), (32, 9), (32, 11), (32, 12), (33000037, 0)], [
  (5, [(3, .ofNat 0, .ofNat 4095), (4, .negSucc 2147483647, .ofNat 2147483647)], [], [], [], [(32, (0, .ofNat 8), .inr (false, (3, .ofNat 0))), (32, (0, .ofNat 11), .inr (false, (4, .ofNat 0)))], [], [])], [], 0, 0)
def cu654 : List sxCu := [
  (9, (4, [(1, .ofNat 0, .ofNat 7), (2, .ofNat 0, .ofNat 5), (3, .ofNat 0, .ofNat 7)], [(2, 3, .ofNat 0), (3, 1, .ofNat 5)], [(0, .inl 32), (1, .inl 69), (2, .inr (false, (1, .ofNat 0))), (3, .inr (false, (2, .ofNat 0))), (4, .inr (false, (3, .ofNat 0)))], [], [], [], []), ((0, 3, .ofNat 7), (0, 0, .ofNat 0), (0, 0, .ofNat 0)), 0, 0)]
set_option maxRecDepth 1000000 in
theorem cv654 {gh : sxGh} (hg : sxGd sxKw gh) : sxCtV sxKw gh ct654 := sxMeB_ok (cts := [ct653, ct536, ct416, ct407, ct570, ct406]) (cuts := cu654) (sp := []) 132 (by decide +kernel) hg (by decide) (by decide) (List.forall_mem_cons.mpr ⟨cv653 hg, (List.forall_mem_cons.mpr ⟨cv536 hg, (List.forall_mem_cons.mpr ⟨cv416 hg, (List.forall_mem_cons.mpr ⟨cv407 hg, (List.forall_mem_cons.mpr ⟨cv570 hg, (List.forall_mem_cons.mpr ⟨cv406 hg, (fun _ h => absurd h List.not_mem_nil)⟩)⟩)⟩)⟩)⟩)⟩)
/-- LotBeliefs.Survey.take -/
def ct655 : sxCt := (69, 5, (2, [(1, .ofNat 0, .ofNat 63)], [], [(0, .inl 66), (1, .inl 11), (2, .inl 23), (3, .inr (false, (1, .ofNat 0))), (4, .inl 32)], [], [], [], []), [(21, 0), (22, 0), (25, 0), (26, 0), (32, 1), (32, 2), (32, 3), (32, 4), (32, 9), (32, 11), (32, 12), (66, 2), (66, 3), (66, 6), (66, 7), (33000037, 0), (67000069, 0)], [
  (3, [(2, .ofNat 0, .ofNat 63)], [(1, 2, .ofNat 0), (2, 1, .ofNat 0)], [], [], [(66, (0, .ofNat 1), .inr (false, (0, .ofNat 1))), (66, (0, .ofNat 2), .inr (false, (2, .ofNat 0)))], [], [])], [], 0, 0)
def cu655 : List sxCu := [
  (115, (7, [(1, .ofNat 0, .ofNat 63), (2, .ofNat 0, .ofNat 7), (3, .negSucc 0, .ofNat 5), (4, .ofNat 0, .ofNat 5040), (5, .ofNat 0, .ofNat 12), (6, .negSucc 2147483647, .ofNat 2147483647)], [(2, 5, .ofNat 0), (5, 2, .ofNat 5)], [(0, .inl 66), (1, .inl 11), (2, .inl 23), (3, .inr (false, (1, .ofNat 0))), (4, .inl 32), (5, .inr (false, (2, .ofNat 0))), (6, .inr (false, (3, .ofNat 0))), (7, .inr (false, (4, .ofNat 0)))], [], [(11, (0, .ofNat 2), .inr (false, (5, .ofNat 0))), (32, (0, .ofNat 0), .inl 11), (32, (0, .ofNat 1), .inl 23), (32, (0, .ofNat 2), .inr (false, (0, .ofNat 2))), (32, (0, .ofNat 3), .inr (false, (1, .ofNat 0))), (66, (0, .ofNat 0), .inr (false, (0, .ofNat 2))), (66, (0, .ofNat 1), .inr (false, (0, .ofNat 1))), (66, (0, .ofNat 2), .inr (false, (1, .ofNat 0))), (66, (0, .ofNat 3), .inl 67), (66, (0, .ofNat 5), .inr (false, (6, .ofNat 0))), (66, (0, .ofNat 7), .inl 69)], [], []), ((0, 4, .ofNat 5040), (0, 0, .ofNat 0), (0, 0, .ofNat 0)), 0, 0), 
  (34, (3, [(1, .ofNat 0, .ofNat 63), (2, .ofNat 0, .ofNat 128)], [], [(0, .inl 66), (1, .inl 11), (2, .inl 23), (3, .inr (false, (1, .ofNat 0))), (4, .inl 32), (5, .inr (false, (2, .ofNat 0)))], [], [(66, (0, .ofNat 1), .inr (false, (0, .ofNat 1))), (66, (0, .ofNat 2), .inr (false, (1, .ofNat 0))), (66, (0, .ofNat 5), .inr (false, (0, .negSucc 0)))], [], []), ((0, 2, .ofNat 5177), (0, 0, .ofNat 0), (0, 0, .ofNat 0)), 0, 0), 
  (75, (5, [(1, .ofNat 0, .ofNat 63), (2, .ofNat 0, .ofNat 7), (3, .ofNat 0, .ofNat 7), (4, .ofNat 0, .ofNat 12)], [(2, 4, .ofNat 0), (4, 2, .ofNat 5)], [(0, .inl 66), (1, .inl 11), (2, .inl 23), (3, .inr (false, (1, .ofNat 0))), (4, .inl 32), (5, .inr (false, (2, .ofNat 0))), (6, .inr (false, (3, .ofNat 0)))], [], [(11, (0, .ofNat 2), .inr (false, (4, .ofNat 0))), (66, (0, .ofNat 1), .inr (false, (0, .ofNat 1))), (66, (0, .ofNat 2), .inr (false, (1, .ofNat 0))), (66, (0, .ofNat 3), .inl 67), (66, (0, .ofNat 5), .inr (false, (0, .negSucc 0))), (66, (0, .ofNat 7), .inl 69)], [], []), ((0, 3, .ofNat 5048), (0, 0, .ofNat 0), (0, 0, .ofNat 0)), 0, 0)]
set_option maxRecDepth 1000000 in
theorem cv655 {gh : sxGh} (hg : sxGd sxKw gh) : sxCtV sxKw gh ct655 := sxMeB_ok (cts := [ct654, ct523, ct651, ct652]) (cuts := cu655) (sp := []) 179 (by decide +kernel) hg (by decide) (by decide) (List.forall_mem_cons.mpr ⟨cv654 hg, (List.forall_mem_cons.mpr ⟨cv523 hg, (List.forall_mem_cons.mpr ⟨cv651 hg, (List.forall_mem_cons.mpr ⟨cv652 hg, (fun _ h => absurd h List.not_mem_nil)⟩)⟩)⟩)⟩)
/-- LotBeliefs.Survey.never -/
def ct656 : sxCt := (76, 0, (2, [(1, .ofNat 0, .ofNat 7)], [], [(0, .inl 66), (1, .inr (false, (1, .ofNat 0)))], [], [], [], []), [], [
  (3, [(2, .ofNat 0, .ofNat 127)], [], [], [.inr (false, (2, .ofNat 0))], [], [], [])], [], 0, 0)
def cu656 : List sxCu := [
  (8, (4, [(1, .ofNat 0, .ofNat 7), (2, .ofNat 0, .ofNat 127), (3, .ofNat 0, .ofNat 128)], [], [(0, .inl 66), (1, .inr (false, (1, .ofNat 0))), (2, .inr (false, (2, .ofNat 0))), (3, .inr (false, (3, .ofNat 0)))], [], [], [], []), ((0, 3, .ofNat 128), (0, 0, .ofNat 0), (0, 0, .ofNat 0)), 0, 0)]
set_option maxRecDepth 1000000 in
theorem cv656 {gh : sxGh} (hg : sxGd sxKw gh) : sxCtV sxKw gh ct656 := sxMeB_ok (cts := []) (cuts := cu656) (sp := []) 90 (by decide +kernel) hg (by decide) (by decide) (fun _ h => absurd h List.not_mem_nil)
/-- LotBeliefs.Survey.always -/
def ct657 : sxCt := (75, 0, (2, [(1, .ofNat 0, .ofNat 7)], [], [(0, .inl 66), (1, .inr (false, (1, .ofNat 0)))], [], [], [], []), [], [
  (3, [(2, .ofNat 0, .ofNat 127)], [], [], [.inr (false, (2, .ofNat 0))], [], [], [])], [], 0, 0)
def cu657 : List sxCu := [
  (8, (4, [(1, .ofNat 0, .ofNat 7), (2, .ofNat 0, .ofNat 127), (3, .ofNat 0, .ofNat 128)], [], [(0, .inl 66), (1, .inr (false, (1, .ofNat 0))), (2, .inr (false, (2, .ofNat 0))), (3, .inr (false, (3, .ofNat 0)))], [], [], [], []), ((0, 3, .ofNat 128), (0, 0, .ofNat 0), (0, 0, .ofNat 0)), 0, 0)]
set_option maxRecDepth 1000000 in
theorem cv657 {gh : sxGh} (hg : sxGd sxKw gh) : sxCtV sxKw gh ct657 := sxMeB_ok (cts := []) (cuts := cu657) (sp := []) 88 (by decide +kernel) hg (by decide) (by decide) (fun _ h => absurd h List.not_mem_nil)
/-- LotBeliefs.Survey.unlike -/
def ct658 : sxCt := (74, 0, (1, [], [], [(0, .inl 66)], [], [], [], []), [], [
  (2, [(1, .ofNat 0, .ofNat 128)], [], [], [.inr (false, (1, .ofNat 0))], [], [], [])], [], 0, 0)
def cu658 : List sxCu := [
  (4, (3, [(1, .ofNat 0, .ofNat 128), (2, .ofNat 0, .ofNat 128)], [(1, 2, .ofNat 0)], [(0, .inl 66), (1, .inr (false, (1, .ofNat 0))), (2, .inr (false, (2, .ofNat 0)))], [], [], [], []), ((0, 2, .ofNat 128), (0, 0, .ofNat 0), (0, 0, .ofNat 0)), 0, 0)]
set_option maxRecDepth 1000000 in
theorem cv658 {gh : sxGh} (hg : sxGd sxKw gh) : sxCtV sxKw gh ct658 := sxMeB_ok (cts := []) (cuts := cu658) (sp := []) 81 (by decide +kernel) hg (by decide) (by decide) (fun _ h => absurd h List.not_mem_nil)
/-- LotBeliefs.Survey.take -/
def ct659 : sxCt := (69, 5, (2, [(1, .ofNat 0, .ofNat 63)], [], [(0, .inl 66), (1, .inl 11), (2, .inl 19), (3, .inr (false, (1, .ofNat 0))), (4, .inl 32)], [], [], [], []), [(21, 0), (22, 0), (25, 0), (26, 0), (32, 1), (32, 2), (32, 3), (32, 4), (32, 9), (32, 11), (32, 12), (66, 2), (66, 3), (66, 6), (66, 7), (33000037, 0), (67000069, 0)], [
  (3, [(2, .ofNat 0, .ofNat 63)], [(1, 2, .ofNat 0), (2, 1, .ofNat 0)], [], [], [(66, (0, .ofNat 1), .inr (false, (0, .ofNat 1))), (66, (0, .ofNat 2), .inr (false, (2, .ofNat 0)))], [], [])], [], 0, 0)
def cu659 : List sxCu := [
  (115, (7, [(1, .ofNat 0, .ofNat 63), (2, .ofNat 0, .ofNat 7), (3, .negSucc 0, .ofNat 5), (4, .ofNat 0, .ofNat 5040), (5, .ofNat 0, .ofNat 12), (6, .negSucc 2147483647, .ofNat 2147483647)], [(2, 5, .ofNat 0), (5, 2, .ofNat 5)], [(0, .inl 66), (1, .inl 11), (2, .inl 19), (3, .inr (false, (1, .ofNat 0))), (4, .inl 32), (5, .inr (false, (2, .ofNat 0))), (6, .inr (false, (3, .ofNat 0))), (7, .inr (false, (4, .ofNat 0)))], [], [(11, (0, .ofNat 2), .inr (false, (5, .ofNat 0))), (32, (0, .ofNat 0), .inl 11), (32, (0, .ofNat 1), .inl 19), (32, (0, .ofNat 2), .inr (false, (0, .ofNat 2))), (32, (0, .ofNat 3), .inr (false, (1, .ofNat 0))), (66, (0, .ofNat 0), .inr (false, (0, .ofNat 2))), (66, (0, .ofNat 1), .inr (false, (0, .ofNat 1))), (66, (0, .ofNat 2), .inr (false, (1, .ofNat 0))), (66, (0, .ofNat 3), .inl 67), (66, (0, .ofNat 5), .inr (false, (6, .ofNat 0))), (66, (0, .ofNat 7), .inl 69)], [], []), ((0, 4, .ofNat 5040), (0, 0, .ofNat 0), (0, 0, .ofNat 0)), 0, 0), 
  (34, (3, [(1, .ofNat 0, .ofNat 63), (2, .ofNat 0, .ofNat 128)], [], [(0, .inl 66), (1, .inl 11), (2, .inl 19), (3, .inr (false, (1, .ofNat 0))), (4, .inl 32), (5, .inr (false, (2, .ofNat 0)))], [], [(66, (0, .ofNat 1), .inr (false, (0, .ofNat 1))), (66, (0, .ofNat 2), .inr (false, (1, .ofNat 0))), (66, (0, .ofNat 5), .inr (false, (0, .negSucc 0)))], [], []), ((0, 2, .ofNat 5177), (0, 0, .ofNat 0), (0, 0, .ofNat 0)), 0, 0), 
  (75, (5, [(1, .ofNat 0, .ofNat 63), (2, .ofNat 0, .ofNat 7), (3, .ofNat 0, .ofNat 7), (4, .ofNat 0, .ofNat 12)], [(2, 4, .ofNat 0), (4, 2, .ofNat 5)], [(0, .inl 66), (1, .inl 11), (2, .inl 19), (3, .inr (false, (1, .ofNat 0))), (4, .inl 32), (5, .inr (false, (2, .ofNat 0))), (6, .inr (false, (3, .ofNat 0)))], [], [(11, (0, .ofNat 2), .inr (false, (4, .ofNat 0))), (66, (0, .ofNat 1), .inr (false, (0, .ofNat 1))), (66, (0, .ofNat 2), .inr (false, (1, .ofNat 0))), (66, (0, .ofNat 3), .inl 67), (66, (0, .ofNat 5), .inr (false, (0, .negSucc 0))), (66, (0, .ofNat 7), .inl 69)], [], []), ((0, 3, .ofNat 5048), (0, 0, .ofNat 0), (0, 0, .ofNat 0)), 0, 0)]
set_option maxRecDepth 1000000 in
theorem cv659 {gh : sxGh} (hg : sxGd sxKw gh) : sxCtV sxKw gh ct659 := sxMeB_ok (cts := [ct654, ct523, ct651, ct652]) (cuts := cu659) (sp := []) 179 (by decide +kernel) hg (by decide) (by decide) (List.forall_mem_cons.mpr ⟨cv654 hg, (List.forall_mem_cons.mpr ⟨cv523 hg, (List.forall_mem_cons.mpr ⟨cv651 hg, (List.forall_mem_cons.mpr ⟨cv652 hg, (fun _ h => absurd h List.not_mem_nil)⟩)⟩)⟩)⟩)
/-- LotBeliefs.Survey.digits -/
def ct689 : sxCt := (71, 0, (2, [(1, .ofNat 0, .ofNat 7)], [], [(0, .inl 62), (1, .inr (false, (1, .ofNat 0)))], [], [], [], []), [], [
  (3, [(2, .negSucc 9223372036854775807, .ofNat 9223372036854775807)], [], [], [.inr (true, (2, .ofNat 0))], [], [], [])], [], 0, 0)
def cu689 : List sxCu := [
  (5, (4, [(1, .ofNat 0, .ofNat 7), (2, .negSucc 9223372036854775807, .ofNat 9223372036854775807), (3, .ofNat 0, .ofNat 7)], [], [(0, .inl 62), (1, .inr (false, (1, .ofNat 0))), (2, .inr (true, (2, .ofNat 0))), (4, .inr (false, (3, .ofNat 0)))], [], [], [], []), ((0, 3, .ofNat 7), (0, 0, .ofNat 0), (0, 0, .ofNat 0)), 0, 0)]
set_option maxRecDepth 1000000 in
theorem cv689 {gh : sxGh} (hg : sxGd sxKw gh) : sxCtV sxKw gh ct689 := sxMeB_ok (cts := []) (cuts := cu689) (sp := []) 81 (by decide +kernel) hg (by decide) (by decide) (fun _ h => absurd h List.not_mem_nil)
/-- LotBeliefs.Survey.note -/
def ct690 : sxCt := (70, 1, (4, [(1, .ofNat 0, .ofNat 4095), (2, .negSucc 2147483647, .ofNat 2147483647), (3, .ofNat 0, .ofNat 7)], [], [(0, .inl 62), (1, .inr (false, (1, .ofNat 0))), (2, .inr (false, (2, .ofNat 0))), (3, .inr (false, (3, .ofNat 0)))], [], [], [], []), [(62, 6), (62, 7), (63, 0), (64, 0)], [
  (5, [(4, .negSucc 2147483647, .ofNat 2147483647)], [(2, 4, .ofNat 0)], [], [], [(62, (0, .ofNat 5), .inr (false, (4, .ofNat 0)))], [], [])], [], 0, 0)
def cu690 : List sxCu := []
set_option maxRecDepth 1000000 in
theorem cv690 {gh : sxGh} (hg : sxGd sxKw gh) : sxCtV sxKw gh ct690 := sxMeB_ok (cts := [ct689]) (cuts := cu690) (sp := []) 141 (by decide +kernel) hg (by decide) (by decide) (List.forall_mem_cons.mpr ⟨cv689 hg, (fun _ h => absurd h List.not_mem_nil)⟩)
/-- LotBeliefs.Survey.advance -/
def ct691 : sxCt := (72, 1, (2, [(1, .ofNat 0, .ofNat 7)], [], [(0, .inl 62), (1, .inr (false, (1, .ofNat 0)))], [], [], [], []), [(65, 0)], [
  (3, [(2, .negSucc 0, .ofNat 5)], [(2, 1, .negSucc 0)], [], [.inr (false, (2, .ofNat 0))], [], [], [])], [], 0, 0)
def cu691 : List sxCu := [
  (4, (3, [(1, .ofNat 0, .ofNat 7), (2, .negSucc 1, .ofNat 5)], [(2, 1, .negSucc 1)], [(0, .inl 62), (1, .inr (false, (1, .ofNat 0))), (2, .inr (false, (2, .ofNat 0)))], [], [], [], []), ((2, 0, .ofNat 15), (0, 0, .ofNat 0), (0, 0, .ofNat 0)), 0, 0), 
  (41, (4, [(1, .ofNat 2, .ofNat 7), (2, .ofNat 0, .ofNat 5), (3, .ofNat 0, .ofNat 6)], [(2, 1, .negSucc 1), (3, 1, .negSucc 0)], [(0, .inl 62), (1, .inr (false, (1, .ofNat 0))), (2, .inr (false, (2, .ofNat 0))), (3, .inr (false, (3, .ofNat 0)))], [], [(62, (0, .ofNat 7), .inl 65)], [], []), ((3, 0, .ofNat 6), (0, 0, .ofNat 0), (0, 0, .ofNat 0)), 0, 0), 
  (83, (6, [(1, .ofNat 2, .ofNat 7), (2, .ofNat 0, .ofNat 5), (3, .ofNat 0, .ofNat 6), (4, .ofNat 1, .ofNat 6), (5, .ofNat 1, .ofNat 6)], [(2, 1, .negSucc 1), (2, 4, .negSucc 0), (2, 5, .negSucc 0), (3, 1, .negSucc 0), (4, 1, .negSucc 0), (5, 1, .negSucc 0)], [(0, .inl 62), (1, .inr (false, (1, .ofNat 0))), (2, .inr (false, (2, .ofNat 0))), (3, .inr (false, (3, .ofNat 0))), (4, .inr (false, (4, .ofNat 0))), (5, .inr (false, (5, .ofNat 0)))], [], [(62, (0, .ofNat 7), .inl 65)], [], []), ((0, 4, .ofNat 6), (0, 0, .ofNat 0), (0, 0, .ofNat 0)), 0, 0)]
set_option maxRecDepth 1000000 in
theorem cv691 {gh : sxGh} (hg : sxGd sxKw gh) : sxCtV sxKw gh ct691 := sxMeB_ok (cts := []) (cuts := cu691) (sp := []) 196 (by decide +kernel) hg (by decide) (by decide) (fun _ h => absurd h List.not_mem_nil)
/-- LotBeliefs.Course.goBack -/
def ct692 : sxCt := (3, 1, (2, [(1, .ofNat 0, .ofNat 5)], [], [(0, .inl 32), (1, .inl 65), (2, .inr (false, (1, .ofNat 0)))], [], [], [], []), [(32, 11), (32, 12), (33000037, 0)], [
  (3, [(2, .ofNat 0, .ofNat 17)], [], [], [], [(32, (0, .ofNat 10), .inr (false, (2, .ofNat 0)))], [], [])], [], 0, 0)
def cu692 : List sxCu := [
  (12, (3, [(1, .ofNat 0, .ofNat 5), (2, .ofNat 0, .ofNat 17)], [], [(0, .inl 32), (1, .inl 65), (2, .inr (false, (1, .ofNat 0))), (3, .inr (false, (2, .ofNat 0)))], [], [(32, (0, .ofNat 10), .inr (false, (0, .ofNat 0))), (32, (0, .ofNat 11), .inr (false, (0, .ofNat 0)))], [], []), ((0, 2, .ofNat 23), (0, 0, .ofNat 0), (0, 0, .ofNat 0)), 0, 0), 
  (46, (4, [(1, .ofNat 0, .ofNat 5), (2, .ofNat 0, .ofNat 5), (3, .ofNat 0, .ofNat 17)], [], [(0, .inl 32), (1, .inl 65), (2, .inr (false, (1, .ofNat 0))), (3, .inr (false, (2, .ofNat 0)))], [], [(32, (0, .ofNat 4), .inl 33), (32, (0, .ofNat 10), .inr (false, (3, .ofNat 0)))], [], []), ((0, 2, .ofNat 5), (0, 0, .ofNat 0), (0, 0, .ofNat 0)), 0, 0)]
set_option maxRecDepth 1000000 in
theorem cv692 {gh : sxGh} (hg : sxGd sxKw gh) : sxCtV sxKw gh ct692 := sxMeB_ok (cts := [ct536]) (cuts := cu692) (sp := []) 123 (by decide +kernel) hg (by decide) (by decide) (List.forall_mem_cons.mpr ⟨cv536 hg, (fun _ h => absurd h List.not_mem_nil)⟩)
/-- LotBeliefs.Course.play -/
def ct693 : sxCt := (2, 4, (3, [(1, .ofNat 0, .ofNat 7), (2, .ofNat 0, .ofNat 5)], [], [(0, .inl 32), (1, .inl 65), (2, .inr (false, (1, .ofNat 0))), (3, .inr (false, (2, .ofNat 0)))], [], [], [], []), [(21, 0), (22, 0), (25, 0), (26, 0), (32, 9), (32, 11), (32, 12), (33000037, 0)], [
  (5, [(3, .ofNat 0, .ofNat 4095), (4, .negSucc 2147483647, .ofNat 2147483647)], [], [], [], [(32, (0, .ofNat 8), .inr (false, (3, .ofNat 0))), (32, (0, .ofNat 11), .inr (false, (4, .ofNat 0)))], [], [])], [], 0, 0)
def cu693 : List sxCu := [
  (9, (4, [(1, .ofNat 0, .ofNat 7), (2, .ofNat 0, .ofNat 5), (3, .ofNat 0, .ofNat 7)], [(2, 3, .ofNat 0), (3, 1, .ofNat 5)], [(0, .inl 32), (1, .inl 65), (2, .inr (false, (1, .ofNat 0))), (3, .inr (false, (2, .ofNat 0))), (4, .inr (false, (3, .ofNat 0)))], [], [], [], []), ((0, 3, .ofNat 7), (0, 0, .ofNat 0), (0, 0, .ofNat 0)), 0, 0)]
set_option maxRecDepth 1000000 in
theorem cv693 {gh : sxGh} (hg : sxGd sxKw gh) : sxCtV sxKw gh ct693 := sxMeB_ok (cts := [ct692, ct536, ct416, ct407, ct570, ct406]) (cuts := cu693) (sp := []) 132 (by decide +kernel) hg (by decide) (by decide) (List.forall_mem_cons.mpr ⟨cv692 hg, (List.forall_mem_cons.mpr ⟨cv536 hg, (List.forall_mem_cons.mpr ⟨cv416 hg, (List.forall_mem_cons.mpr ⟨cv407 hg, (List.forall_mem_cons.mpr ⟨cv570 hg, (List.forall_mem_cons.mpr ⟨cv406 hg, (fun _ h => absurd h List.not_mem_nil)⟩)⟩)⟩)⟩)⟩)⟩)
/-- LotBeliefs.Survey.take -/
def ct694 : sxCt := (69, 5, (2, [(1, .ofNat 0, .ofNat 63)], [], [(0, .inl 62), (1, .inl 11), (2, .inl 23), (3, .inr (false, (1, .ofNat 0))), (4, .inl 32)], [], [], [], []), [(21, 0), (22, 0), (25, 0), (26, 0), (32, 1), (32, 2), (32, 3), (32, 4), (32, 9), (32, 11), (32, 12), (62, 2), (62, 3), (62, 6), (62, 7), (33000037, 0), (63000065, 0)], [
  (3, [(2, .ofNat 0, .ofNat 63)], [(1, 2, .ofNat 0), (2, 1, .ofNat 0)], [], [], [(62, (0, .ofNat 1), .inr (false, (0, .ofNat 1))), (62, (0, .ofNat 2), .inr (false, (2, .ofNat 0)))], [], [])], [], 0, 0)
def cu694 : List sxCu := [
  (115, (7, [(1, .ofNat 0, .ofNat 63), (2, .ofNat 0, .ofNat 7), (3, .negSucc 0, .ofNat 5), (4, .ofNat 0, .ofNat 5040), (5, .ofNat 0, .ofNat 12), (6, .negSucc 2147483647, .ofNat 2147483647)], [(2, 5, .ofNat 0), (5, 2, .ofNat 5)], [(0, .inl 62), (1, .inl 11), (2, .inl 23), (3, .inr (false, (1, .ofNat 0))), (4, .inl 32), (5, .inr (false, (2, .ofNat 0))), (6, .inr (false, (3, .ofNat 0))), (7, .inr (false, (4, .ofNat 0)))], [], [(11, (0, .ofNat 2), .inr (false, (5, .ofNat 0))), (32, (0, .ofNat 0), .inl 11), (32, (0, .ofNat 1), .inl 23), (32, (0, .ofNat 2), .inr (false, (0, .ofNat 1))), (32, (0, .ofNat 3), .inr (false, (1, .ofNat 0))), (62, (0, .ofNat 0), .inr (false, (0, .ofNat 1))), (62, (0, .ofNat 1), .inr (false, (0, .ofNat 1))), (62, (0, .ofNat 2), .inr (false, (1, .ofNat 0))), (62, (0, .ofNat 3), .inl 63), (62, (0, .ofNat 5), .inr (false, (6, .ofNat 0))), (62, (0, .ofNat 7), .inl 65)], [], []), ((0, 4, .ofNat 5040), (0, 0, .ofNat 0), (0, 0, .ofNat 0)), 0, 0), 
  (34, (3, [(1, .ofNat 0, .ofNat 63), (2, .ofNat 0, .ofNat 128)], [], [(0, .inl 62), (1, .inl 11), (2, .inl 23), (3, .inr (false, (1, .ofNat 0))), (4, .inl 32), (5, .inr (false, (2, .ofNat 0)))], [], [(62, (0, .ofNat 1), .inr (false, (0, .ofNat 1))), (62, (0, .ofNat 2), .inr (false, (1, .ofNat 0))), (62, (0, .ofNat 5), .inr (false, (0, .negSucc 0)))], [], []), ((0, 2, .ofNat 5177), (0, 0, .ofNat 0), (0, 0, .ofNat 0)), 0, 0), 
  (75, (5, [(1, .ofNat 0, .ofNat 63), (2, .ofNat 0, .ofNat 7), (3, .ofNat 0, .ofNat 7), (4, .ofNat 0, .ofNat 12)], [(2, 4, .ofNat 0), (4, 2, .ofNat 5)], [(0, .inl 62), (1, .inl 11), (2, .inl 23), (3, .inr (false, (1, .ofNat 0))), (4, .inl 32), (5, .inr (false, (2, .ofNat 0))), (6, .inr (false, (3, .ofNat 0)))], [], [(11, (0, .ofNat 2), .inr (false, (4, .ofNat 0))), (62, (0, .ofNat 1), .inr (false, (0, .ofNat 1))), (62, (0, .ofNat 2), .inr (false, (1, .ofNat 0))), (62, (0, .ofNat 3), .inl 63), (62, (0, .ofNat 5), .inr (false, (0, .negSucc 0))), (62, (0, .ofNat 7), .inl 65)], [], []), ((0, 3, .ofNat 5048), (0, 0, .ofNat 0), (0, 0, .ofNat 0)), 0, 0)]
set_option maxRecDepth 1000000 in
theorem cv694 {gh : sxGh} (hg : sxGd sxKw gh) : sxCtV sxKw gh ct694 := sxMeB_ok (cts := [ct693, ct523, ct690, ct691]) (cuts := cu694) (sp := []) 179 (by decide +kernel) hg (by decide) (by decide) (List.forall_mem_cons.mpr ⟨cv693 hg, (List.forall_mem_cons.mpr ⟨cv523 hg, (List.forall_mem_cons.mpr ⟨cv690 hg, (List.forall_mem_cons.mpr ⟨cv691 hg, (fun _ h => absurd h List.not_mem_nil)⟩)⟩)⟩)⟩)
/-- LotBeliefs.Survey.never -/
def ct695 : sxCt := (76, 0, (2, [(1, .ofNat 0, .ofNat 7)], [], [(0, .inl 62), (1, .inr (false, (1, .ofNat 0)))], [], [], [], []), [], [
  (3, [(2, .ofNat 0, .ofNat 127)], [], [], [.inr (false, (2, .ofNat 0))], [], [], [])], [], 0, 0)
def cu695 : List sxCu := [
  (8, (4, [(1, .ofNat 0, .ofNat 7), (2, .ofNat 0, .ofNat 127), (3, .ofNat 0, .ofNat 128)], [], [(0, .inl 62), (1, .inr (false, (1, .ofNat 0))), (2, .inr (false, (2, .ofNat 0))), (3, .inr (false, (3, .ofNat 0)))], [], [], [], []), ((0, 3, .ofNat 128), (0, 0, .ofNat 0), (0, 0, .ofNat 0)), 0, 0)]
set_option maxRecDepth 1000000 in
theorem cv695 {gh : sxGh} (hg : sxGd sxKw gh) : sxCtV sxKw gh ct695 := sxMeB_ok (cts := []) (cuts := cu695) (sp := []) 90 (by decide +kernel) hg (by decide) (by decide) (fun _ h => absurd h List.not_mem_nil)
/-- LotBeliefs.Survey.always -/
def ct696 : sxCt := (75, 0, (2, [(1, .ofNat 0, .ofNat 7)], [], [(0, .inl 62), (1, .inr (false, (1, .ofNat 0)))], [], [], [], []), [], [
  (3, [(2, .ofNat 0, .ofNat 127)], [], [], [.inr (false, (2, .ofNat 0))], [], [], [])], [], 0, 0)
def cu696 : List sxCu := [
  (8, (4, [(1, .ofNat 0, .ofNat 7), (2, .ofNat 0, .ofNat 127), (3, .ofNat 0, .ofNat 128)], [], [(0, .inl 62), (1, .inr (false, (1, .ofNat 0))), (2, .inr (false, (2, .ofNat 0))), (3, .inr (false, (3, .ofNat 0)))], [], [], [], []), ((0, 3, .ofNat 128), (0, 0, .ofNat 0), (0, 0, .ofNat 0)), 0, 0)]
set_option maxRecDepth 1000000 in
theorem cv696 {gh : sxGh} (hg : sxGd sxKw gh) : sxCtV sxKw gh ct696 := sxMeB_ok (cts := []) (cuts := cu696) (sp := []) 88 (by decide +kernel) hg (by decide) (by decide) (fun _ h => absurd h List.not_mem_nil)
/-- LotBeliefs.Survey.unlike -/
def ct697 : sxCt := (74, 0, (1, [], [], [(0, .inl 62)], [], [], [], []), [], [
  (2, [(1, .ofNat 0, .ofNat 128)], [], [], [.inr (false, (1, .ofNat 0))], [], [], [])], [], 0, 0)
def cu697 : List sxCu := [
  (4, (3, [(1, .ofNat 0, .ofNat 128), (2, .ofNat 0, .ofNat 128)], [(1, 2, .ofNat 0)], [(0, .inl 62), (1, .inr (false, (1, .ofNat 0))), (2, .inr (false, (2, .ofNat 0)))], [], [], [], []), ((0, 2, .ofNat 128), (0, 0, .ofNat 0), (0, 0, .ofNat 0)), 0, 0)]
set_option maxRecDepth 1000000 in
theorem cv697 {gh : sxGh} (hg : sxGd sxKw gh) : sxCtV sxKw gh ct697 := sxMeB_ok (cts := []) (cuts := cu697) (sp := []) 81 (by decide +kernel) hg (by decide) (by decide) (fun _ h => absurd h List.not_mem_nil)
/-- LotBeliefs.Survey.take -/
def ct698 : sxCt := (69, 5, (2, [(1, .ofNat 0, .ofNat 63)], [], [(0, .inl 62), (1, .inl 11), (2, .inl 19), (3, .inr (false, (1, .ofNat 0))), (4, .inl 32)], [], [], [], []), [(21, 0), (22, 0), (25, 0), (26, 0), (32, 1), (32, 2), (32, 3), (32, 4), (32, 9), (32, 11), (32, 12), (62, 2), (62, 3), (62, 6), (62, 7), (33000037, 0), (63000065, 0)], [
  (3, [(2, .ofNat 0, .ofNat 63)], [(1, 2, .ofNat 0), (2, 1, .ofNat 0)], [], [], [(62, (0, .ofNat 1), .inr (false, (0, .ofNat 1))), (62, (0, .ofNat 2), .inr (false, (2, .ofNat 0)))], [], [])], [], 0, 0)
def cu698 : List sxCu := [
  (115, (7, [(1, .ofNat 0, .ofNat 63), (2, .ofNat 0, .ofNat 7), (3, .negSucc 0, .ofNat 5), (4, .ofNat 0, .ofNat 5040), (5, .ofNat 0, .ofNat 12), (6, .negSucc 2147483647, .ofNat 2147483647)], [(2, 5, .ofNat 0), (5, 2, .ofNat 5)], [(0, .inl 62), (1, .inl 11), (2, .inl 19), (3, .inr (false, (1, .ofNat 0))), (4, .inl 32), (5, .inr (false, (2, .ofNat 0))), (6, .inr (false, (3, .ofNat 0))), (7, .inr (false, (4, .ofNat 0)))], [], [(11, (0, .ofNat 2), .inr (false, (5, .ofNat 0))), (32, (0, .ofNat 0), .inl 11), (32, (0, .ofNat 1), .inl 19), (32, (0, .ofNat 2), .inr (false, (0, .ofNat 1))), (32, (0, .ofNat 3), .inr (false, (1, .ofNat 0))), (62, (0, .ofNat 0), .inr (false, (0, .ofNat 1))), (62, (0, .ofNat 1), .inr (false, (0, .ofNat 1))), (62, (0, .ofNat 2), .inr (false, (1, .ofNat 0))), (62, (0, .ofNat 3), .inl 63), (62, (0, .ofNat 5), .inr (false, (6, .ofNat 0))), (62, (0, .ofNat 7), .inl 65)], [], []), ((0, 4, .ofNat 5040), (0, 0, .ofNat 0), (0, 0, .ofNat 0)), 0, 0), 
  (34, (3, [(1, .ofNat 0, .ofNat 63), (2, .ofNat 0, .ofNat 128)], [], [(0, .inl 62), (1, .inl 11), (2, .inl 19), (3, .inr (false, (1, .ofNat 0))), (4, .inl 32), (5, .inr (false, (2, .ofNat 0)))], [], [(62, (0, .ofNat 1), .inr (false, (0, .ofNat 1))), (62, (0, .ofNat 2), .inr (false, (1, .ofNat 0))), (62, (0, .ofNat 5), .inr (false, (0, .negSucc 0)))], [], []), ((0, 2, .ofNat 5177), (0, 0, .ofNat 0), (0, 0, .ofNat 0)), 0, 0), 
  (75, (5, [(1, .ofNat 0, .ofNat 63), (2, .ofNat 0, .ofNat 7), (3, .ofNat 0, .ofNat 7), (4, .ofNat 0, .ofNat 12)], [(2, 4, .ofNat 0), (4, 2, .ofNat 5)], [(0, .inl 62), (1, .inl 11), (2, .inl 19), (3, .inr (false, (1, .ofNat 0))), (4, .inl 32), (5, .inr (false, (2, .ofNat 0))), (6, .inr (false, (3, .ofNat 0)))], [], [(11, (0, .ofNat 2), .inr (false, (4, .ofNat 0))), (62, (0, .ofNat 1), .inr (false, (0, .ofNat 1))), (62, (0, .ofNat 2), .inr (false, (1, .ofNat 0))), (62, (0, .ofNat 3), .inl 63), (62, (0, .ofNat 5), .inr (false, (0, .negSucc 0))), (62, (0, .ofNat 7), .inl 65)], [], []), ((0, 3, .ofNat 5048), (0, 0, .ofNat 0), (0, 0, .ofNat 0)), 0, 0)]
set_option maxRecDepth 1000000 in
theorem cv698 {gh : sxGh} (hg : sxGd sxKw gh) : sxCtV sxKw gh ct698 := sxMeB_ok (cts := [ct693, ct523, ct690, ct691]) (cuts := cu698) (sp := []) 179 (by decide +kernel) hg (by decide) (by decide) (List.forall_mem_cons.mpr ⟨cv693 hg, (List.forall_mem_cons.mpr ⟨cv523 hg, (List.forall_mem_cons.mpr ⟨cv690 hg, (List.forall_mem_cons.mpr ⟨cv691 hg, (fun _ h => absurd h List.not_mem_nil)⟩)⟩)⟩)⟩)
/-- LotBeliefs.Survey.digits -/
def ct728 : sxCt := (71, 0, (2, [(1, .ofNat 0, .ofNat 7)], [], [(0, .inl 58), (1, .inr (false, (1, .ofNat 0)))], [], [], [], []), [], [
  (3, [(2, .negSucc 9223372036854775807, .ofNat 9223372036854775807)], [], [], [.inr (true, (2, .ofNat 0))], [], [], [])], [], 0, 0)
def cu728 : List sxCu := [
  (5, (4, [(1, .ofNat 0, .ofNat 7), (2, .negSucc 9223372036854775807, .ofNat 9223372036854775807), (3, .ofNat 0, .ofNat 7)], [], [(0, .inl 58), (1, .inr (false, (1, .ofNat 0))), (2, .inr (true, (2, .ofNat 0))), (4, .inr (false, (3, .ofNat 0)))], [], [], [], []), ((0, 3, .ofNat 7), (0, 0, .ofNat 0), (0, 0, .ofNat 0)), 0, 0)]
set_option maxRecDepth 1000000 in
theorem cv728 {gh : sxGh} (hg : sxGd sxKw gh) : sxCtV sxKw gh ct728 := sxMeB_ok (cts := []) (cuts := cu728) (sp := []) 81 (by decide +kernel) hg (by decide) (by decide) (fun _ h => absurd h List.not_mem_nil)
/-- LotBeliefs.Survey.note -/
def ct729 : sxCt := (70, 1, (4, [(1, .ofNat 0, .ofNat 4095), (2, .negSucc 2147483647, .ofNat 2147483647), (3, .ofNat 0, .ofNat 7)], [], [(0, .inl 58), (1, .inr (false, (1, .ofNat 0))), (2, .inr (false, (2, .ofNat 0))), (3, .inr (false, (3, .ofNat 0)))], [], [], [], []), [(58, 6), (58, 7), (59, 0), (60, 0)], [
  (5, [(4, .negSucc 2147483647, .ofNat 2147483647)], [(2, 4, .ofNat 0)], [], [], [(58, (0, .ofNat 5), .inr (false, (4, .ofNat 0)))], [], [])], [], 0, 0)
def cu729 : List sxCu := []
set_option maxRecDepth 1000000 in
theorem cv729 {gh : sxGh} (hg : sxGd sxKw gh) : sxCtV sxKw gh ct729 := sxMeB_ok (cts := [ct728]) (cuts := cu729) (sp := []) 141 (by decide +kernel) hg (by decide) (by decide) (List.forall_mem_cons.mpr ⟨cv728 hg, (fun _ h => absurd h List.not_mem_nil)⟩)
/-- LotBeliefs.Survey.advance -/
def ct730 : sxCt := (72, 1, (2, [(1, .ofNat 0, .ofNat 7)], [], [(0, .inl 58), (1, .inr (false, (1, .ofNat 0)))], [], [], [], []), [(61, 0)], [
  (3, [(2, .negSucc 0, .ofNat 5)], [(2, 1, .negSucc 0)], [], [.inr (false, (2, .ofNat 0))], [], [], [])], [], 0, 0)
def cu730 : List sxCu := [
  (4, (3, [(1, .ofNat 0, .ofNat 7), (2, .negSucc 1, .ofNat 5)], [(2, 1, .negSucc 1)], [(0, .inl 58), (1, .inr (false, (1, .ofNat 0))), (2, .inr (false, (2, .ofNat 0)))], [], [], [], []), ((2, 0, .ofNat 15), (0, 0, .ofNat 0), (0, 0, .ofNat 0)), 0, 0), 
  (41, (4, [(1, .ofNat 2, .ofNat 7), (2, .ofNat 0, .ofNat 5), (3, .ofNat 0, .ofNat 6)], [(2, 1, .negSucc 1), (3, 1, .negSucc 0)], [(0, .inl 58), (1, .inr (false, (1, .ofNat 0))), (2, .inr (false, (2, .ofNat 0))), (3, .inr (false, (3, .ofNat 0)))], [], [(58, (0, .ofNat 7), .inl 61)], [], []), ((3, 0, .ofNat 6), (0, 0, .ofNat 0), (0, 0, .ofNat 0)), 0, 0), 
  (83, (6, [(1, .ofNat 2, .ofNat 7), (2, .ofNat 0, .ofNat 5), (3, .ofNat 0, .ofNat 6), (4, .ofNat 1, .ofNat 6), (5, .ofNat 1, .ofNat 6)], [(2, 1, .negSucc 1), (2, 4, .negSucc 0), (2, 5, .negSucc 0), (3, 1, .negSucc 0), (4, 1, .negSucc 0), (5, 1, .negSucc 0)], [(0, .inl 58), (1, .inr (false, (1, .ofNat 0))), (2, .inr (false, (2, .ofNat 0))), (3, .inr (false, (3, .ofNat 0))), (4, .inr (false, (4, .ofNat 0))), (5, .inr (false, (5, .ofNat 0)))], [], [(58, (0, .ofNat 7), .inl 61)], [], []), ((0, 4, .ofNat 6), (0, 0, .ofNat 0), (0, 0, .ofNat 0)), 0, 0)]
set_option maxRecDepth 1000000 in
theorem cv730 {gh : sxGh} (hg : sxGd sxKw gh) : sxCtV sxKw gh ct730 := sxMeB_ok (cts := []) (cuts := cu730) (sp := []) 196 (by decide +kernel) hg (by decide) (by decide) (fun _ h => absurd h List.not_mem_nil)
/-- LotBeliefs.Course.goBack -/
def ct731 : sxCt := (3, 1, (2, [(1, .ofNat 0, .ofNat 5)], [], [(0, .inl 32), (1, .inl 61), (2, .inr (false, (1, .ofNat 0)))], [], [], [], []), [(32, 11), (32, 12), (33000037, 0)], [
  (3, [(2, .ofNat 0, .ofNat 17)], [], [], [], [(32, (0, .ofNat 10), .inr (false, (2, .ofNat 0)))], [], [])], [], 0, 0)
def cu731 : List sxCu := [
  (12, (3, [(1, .ofNat 0, .ofNat 5), (2, .ofNat 0, .ofNat 17)], [], [(0, .inl 32), (1, .inl 61), (2, .inr (false, (1, .ofNat 0))), (3, .inr (false, (2, .ofNat 0)))], [], [(32, (0, .ofNat 10), .inr (false, (0, .ofNat 0))), (32, (0, .ofNat 11), .inr (false, (0, .ofNat 0)))], [], []), ((0, 2, .ofNat 23), (0, 0, .ofNat 0), (0, 0, .ofNat 0)), 0, 0), 
  (46, (4, [(1, .ofNat 0, .ofNat 5), (2, .ofNat 0, .ofNat 5), (3, .ofNat 0, .ofNat 17)], [], [(0, .inl 32), (1, .inl 61), (2, .inr (false, (1, .ofNat 0))), (3, .inr (false, (2, .ofNat 0)))], [], [(32, (0, .ofNat 4), .inl 33), (32, (0, .ofNat 10), .inr (false, (3, .ofNat 0)))], [], []), ((0, 2, .ofNat 5), (0, 0, .ofNat 0), (0, 0, .ofNat 0)), 0, 0)]
set_option maxRecDepth 1000000 in
theorem cv731 {gh : sxGh} (hg : sxGd sxKw gh) : sxCtV sxKw gh ct731 := sxMeB_ok (cts := [ct536]) (cuts := cu731) (sp := []) 123 (by decide +kernel) hg (by decide) (by decide) (List.forall_mem_cons.mpr ⟨cv536 hg, (fun _ h => absurd h List.not_mem_nil)⟩)
/-- LotBeliefs.Course.play -/
def ct732 : sxCt := (2, 4, (3, [(1, .ofNat 0, .ofNat 7), (2, .ofNat 0, .ofNat 5)], [], [(0, .inl 32), (1, .inl 61), (2, .inr (false, (1, .ofNat 0))), (3, .inr (false, (2, .ofNat 0)))], [], [], [], []), [(21, 0), (22, 0), (25, 0), (26, 0), (32, 9), (32, 11), (32, 12), (33000037, 0)], [
  (5, [(3, .ofNat 0, .ofNat 4095), (4, .negSucc 2147483647, .ofNat 2147483647)], [], [], [], [(32, (0, .ofNat 8), .inr (false, (3, .ofNat 0))), (32, (0, .ofNat 11), .inr (false, (4, .ofNat 0)))], [], [])], [], 0, 0)
def cu732 : List sxCu := [
  (9, (4, [(1, .ofNat 0, .ofNat 7), (2, .ofNat 0, .ofNat 5), (3, .ofNat 0, .ofNat 7)], [(2, 3, .ofNat 0), (3, 1, .ofNat 5)], [(0, .inl 32), (1, .inl 61), (2, .inr (false, (1, .ofNat 0))), (3, .inr (false, (2, .ofNat 0))), (4, .inr (false, (3, .ofNat 0)))], [], [], [], []), ((0, 3, .ofNat 7), (0, 0, .ofNat 0), (0, 0, .ofNat 0)), 0, 0)]
set_option maxRecDepth 1000000 in
theorem cv732 {gh : sxGh} (hg : sxGd sxKw gh) : sxCtV sxKw gh ct732 := sxMeB_ok (cts := [ct731, ct536, ct416, ct407, ct570, ct406]) (cuts := cu732) (sp := []) 132 (by decide +kernel) hg (by decide) (by decide) (List.forall_mem_cons.mpr ⟨cv731 hg, (List.forall_mem_cons.mpr ⟨cv536 hg, (List.forall_mem_cons.mpr ⟨cv416 hg, (List.forall_mem_cons.mpr ⟨cv407 hg, (List.forall_mem_cons.mpr ⟨cv570 hg, (List.forall_mem_cons.mpr ⟨cv406 hg, (fun _ h => absurd h List.not_mem_nil)⟩)⟩)⟩)⟩)⟩)⟩)
/-- LotBeliefs.Survey.take -/
def ct733 : sxCt := (69, 5, (2, [(1, .ofNat 0, .ofNat 63)], [], [(0, .inl 58), (1, .inl 11), (2, .inl 23), (3, .inr (false, (1, .ofNat 0))), (4, .inl 32)], [], [], [], []), [(21, 0), (22, 0), (25, 0), (26, 0), (32, 1), (32, 2), (32, 3), (32, 4), (32, 9), (32, 11), (32, 12), (58, 2), (58, 3), (58, 6), (58, 7), (33000037, 0), (59000061, 0)], [
  (3, [(2, .ofNat 0, .ofNat 63)], [(1, 2, .ofNat 0), (2, 1, .ofNat 0)], [], [], [(58, (0, .ofNat 1), .inr (false, (0, .ofNat 1))), (58, (0, .ofNat 2), .inr (false, (2, .ofNat 0)))], [], [])], [], 0, 0)
def cu733 : List sxCu := [
  (115, (7, [(1, .ofNat 0, .ofNat 63), (2, .ofNat 0, .ofNat 7), (3, .negSucc 0, .ofNat 5), (4, .ofNat 0, .ofNat 5040), (5, .ofNat 0, .ofNat 12), (6, .negSucc 2147483647, .ofNat 2147483647)], [(2, 5, .ofNat 0), (5, 2, .ofNat 5)], [(0, .inl 58), (1, .inl 11), (2, .inl 23), (3, .inr (false, (1, .ofNat 0))), (4, .inl 32), (5, .inr (false, (2, .ofNat 0))), (6, .inr (false, (3, .ofNat 0))), (7, .inr (false, (4, .ofNat 0)))], [], [(11, (0, .ofNat 2), .inr (false, (5, .ofNat 0))), (32, (0, .ofNat 0), .inl 11), (32, (0, .ofNat 1), .inl 23), (32, (0, .ofNat 2), .inr (false, (0, .ofNat 0))), (32, (0, .ofNat 3), .inr (false, (1, .ofNat 0))), (58, (0, .ofNat 0), .inr (false, (0, .ofNat 0))), (58, (0, .ofNat 1), .inr (false, (0, .ofNat 1))), (58, (0, .ofNat 2), .inr (false, (1, .ofNat 0))), (58, (0, .ofNat 3), .inl 59), (58, (0, .ofNat 5), .inr (false, (6, .ofNat 0))), (58, (0, .ofNat 7), .inl 61)], [], []), ((0, 4, .ofNat 5040), (0, 0, .ofNat 0), (0, 0, .ofNat 0)), 0, 0), 
  (34, (3, [(1, .ofNat 0, .ofNat 63), (2, .ofNat 0, .ofNat 128)], [], [(0, .inl 58), (1, .inl 11), (2, .inl 23), (3, .inr (false, (1, .ofNat 0))), (4, .inl 32), (5, .inr (false, (2, .ofNat 0)))], [], [(58, (0, .ofNat 1), .inr (false, (0, .ofNat 1))), (58, (0, .ofNat 2), .inr (false, (1, .ofNat 0))), (58, (0, .ofNat 5), .inr (false, (0, .negSucc 0)))], [], []), ((0, 2, .ofNat 5177), (0, 0, .ofNat 0), (0, 0, .ofNat 0)), 0, 0), 
  (75, (5, [(1, .ofNat 0, .ofNat 63), (2, .ofNat 0, .ofNat 7), (3, .ofNat 0, .ofNat 7), (4, .ofNat 0, .ofNat 12)], [(2, 4, .ofNat 0), (4, 2, .ofNat 5)], [(0, .inl 58), (1, .inl 11), (2, .inl 23), (3, .inr (false, (1, .ofNat 0))), (4, .inl 32), (5, .inr (false, (2, .ofNat 0))), (6, .inr (false, (3, .ofNat 0)))], [], [(11, (0, .ofNat 2), .inr (false, (4, .ofNat 0))), (58, (0, .ofNat 1), .inr (false, (0, .ofNat 1))), (58, (0, .ofNat 2), .inr (false, (1, .ofNat 0))), (58, (0, .ofNat 3), .inl 59), (58, (0, .ofNat 5), .inr (false, (0, .negSucc 0))), (58, (0, .ofNat 7), .inl 61)], [], []), ((0, 3, .ofNat 5048), (0, 0, .ofNat 0), (0, 0, .ofNat 0)), 0, 0)]
set_option maxRecDepth 1000000 in
theorem cv733 {gh : sxGh} (hg : sxGd sxKw gh) : sxCtV sxKw gh ct733 := sxMeB_ok (cts := [ct732, ct523, ct729, ct730]) (cuts := cu733) (sp := []) 179 (by decide +kernel) hg (by decide) (by decide) (List.forall_mem_cons.mpr ⟨cv732 hg, (List.forall_mem_cons.mpr ⟨cv523 hg, (List.forall_mem_cons.mpr ⟨cv729 hg, (List.forall_mem_cons.mpr ⟨cv730 hg, (fun _ h => absurd h List.not_mem_nil)⟩)⟩)⟩)⟩)
/-- LotBeliefs.Survey.never -/
def ct734 : sxCt := (76, 0, (2, [(1, .ofNat 0, .ofNat 7)], [], [(0, .inl 58), (1, .inr (false, (1, .ofNat 0)))], [], [], [], []), [], [
  (3, [(2, .ofNat 0, .ofNat 127)], [], [], [.inr (false, (2, .ofNat 0))], [], [], [])], [], 0, 0)
def cu734 : List sxCu := [
  (8, (4, [(1, .ofNat 0, .ofNat 7), (2, .ofNat 0, .ofNat 127), (3, .ofNat 0, .ofNat 128)], [], [(0, .inl 58), (1, .inr (false, (1, .ofNat 0))), (2, .inr (false, (2, .ofNat 0))), (3, .inr (false, (3, .ofNat 0)))], [], [], [], []), ((0, 3, .ofNat 128), (0, 0, .ofNat 0), (0, 0, .ofNat 0)), 0, 0)]
set_option maxRecDepth 1000000 in
theorem cv734 {gh : sxGh} (hg : sxGd sxKw gh) : sxCtV sxKw gh ct734 := sxMeB_ok (cts := []) (cuts := cu734) (sp := []) 90 (by decide +kernel) hg (by decide) (by decide) (fun _ h => absurd h List.not_mem_nil)
/-- LotBeliefs.Survey.always -/
def ct735 : sxCt := (75, 0, (2, [(1, .ofNat 0, .ofNat 7)], [], [(0, .inl 58), (1, .inr (false, (1, .ofNat 0)))], [], [], [], []), [], [
  (3, [(2, .ofNat 0, .ofNat 127)], [], [], [.inr (false, (2, .ofNat 0))], [], [], [])], [], 0, 0)
def cu735 : List sxCu := [
  (8, (4, [(1, .ofNat 0, .ofNat 7), (2, .ofNat 0, .ofNat 127), (3, .ofNat 0, .ofNat 128)], [], [(0, .inl 58), (1, .inr (false, (1, .ofNat 0))), (2, .inr (false, (2, .ofNat 0))), (3, .inr (false, (3, .ofNat 0)))], [], [], [], []), ((0, 3, .ofNat 128), (0, 0, .ofNat 0), (0, 0, .ofNat 0)), 0, 0)]
set_option maxRecDepth 1000000 in
theorem cv735 {gh : sxGh} (hg : sxGd sxKw gh) : sxCtV sxKw gh ct735 := sxMeB_ok (cts := []) (cuts := cu735) (sp := []) 88 (by decide +kernel) hg (by decide) (by decide) (fun _ h => absurd h List.not_mem_nil)
/-- LotBeliefs.Survey.unlike -/
def ct736 : sxCt := (74, 0, (1, [], [], [(0, .inl 58)], [], [], [], []), [], [
  (2, [(1, .ofNat 0, .ofNat 128)], [], [], [.inr (false, (1, .ofNat 0))], [], [], [])], [], 0, 0)
def cu736 : List sxCu := [
  (4, (3, [(1, .ofNat 0, .ofNat 128), (2, .ofNat 0, .ofNat 128)], [(1, 2, .ofNat 0)], [(0, .inl 58), (1, .inr (false, (1, .ofNat 0))), (2, .inr (false, (2, .ofNat 0)))], [], [], [], []), ((0, 2, .ofNat 128), (0, 0, .ofNat 0), (0, 0, .ofNat 0)), 0, 0)]
set_option maxRecDepth 1000000 in
theorem cv736 {gh : sxGh} (hg : sxGd sxKw gh) : sxCtV sxKw gh ct736 := sxMeB_ok (cts := []) (cuts := cu736) (sp := []) 81 (by decide +kernel) hg (by decide) (by decide) (fun _ h => absurd h List.not_mem_nil)
/-- LotBeliefs.Survey.take -/
def ct737 : sxCt := (69, 5, (2, [(1, .ofNat 0, .ofNat 63)], [], [(0, .inl 58), (1, .inl 11), (2, .inl 19), (3, .inr (false, (1, .ofNat 0))), (4, .inl 32)], [], [], [], []), [(21, 0), (22, 0), (25, 0), (26, 0), (32, 1), (32, 2), (32, 3), (32, 4), (32, 9), (32, 11), (32, 12), (58, 2), (58, 3), (58, 6), (58, 7), (33000037, 0), (59000061, 0)], [
  (3, [(2, .ofNat 0, .ofNat 63)], [(1, 2, .ofNat 0), (2, 1, .ofNat 0)], [], [], [(58, (0, .ofNat 1), .inr (false, (0, .ofNat 1))), (58, (0, .ofNat 2), .inr (false, (2, .ofNat 0)))], [], [])], [], 0, 0)
def cu737 : List sxCu := [
  (115, (7, [(1, .ofNat 0, .ofNat 63), (2, .ofNat 0, .ofNat 7), (3, .negSucc 0, .ofNat 5), (4, .ofNat 0, .ofNat 5040), (5, .ofNat 0, .ofNat 12), (6, .negSucc 2147483647, .ofNat 2147483647)], [(2, 5, .ofNat 0), (5, 2, .ofNat 5)], [(0, .inl 58), (1, .inl 11), (2, .inl 19), (3, .inr (false, (1, .ofNat 0))), (4, .inl 32), (5, .inr (false, (2, .ofNat 0))), (6, .inr (false, (3, .ofNat 0))), (7, .inr (false, (4, .ofNat 0)))], [], [(11, (0, .ofNat 2), .inr (false, (5, .ofNat 0))), (32, (0, .ofNat 0), .inl 11), (32, (0, .ofNat 1), .inl 19), (32, (0, .ofNat 2), .inr (false, (0, .ofNat 0))), (32, (0, .ofNat 3), .inr (false, (1, .ofNat 0))), (58, (0, .ofNat 0), .inr (false, (0, .ofNat 0))), (58, (0, .ofNat 1), .inr (false, (0, .ofNat 1))), (58, (0, .ofNat 2), .inr (false, (1, .ofNat 0))), (58, (0, .ofNat 3), .inl 59), (58, (0, .ofNat 5), .inr (false, (6, .ofNat 0))), (58, (0, .ofNat 7), .inl 61)], [], []), ((0, 4, .ofNat 5040), (0, 0, .ofNat 0), (0, 0, .ofNat 0)), 0, 0), 
  (34, (3, [(1, .ofNat 0, .ofNat 63), (2, .ofNat 0, .ofNat 128)], [], [(0, .inl 58), (1, .inl 11), (2, .inl 19), (3, .inr (false, (1, .ofNat 0))), (4, .inl 32), (5, .inr (false, (2, .ofNat 0)))], [], [(58, (0, .ofNat 1), .inr (false, (0, .ofNat 1))), (58, (0, .ofNat 2), .inr (false, (1, .ofNat 0))), (58, (0, .ofNat 5), .inr (false, (0, .negSucc 0)))], [], []), ((0, 2, .ofNat 5177), (0, 0, .ofNat 0), (0, 0, .ofNat 0)), 0, 0), 
  (75, (5, [(1, .ofNat 0, .ofNat 63), (2, .ofNat 0, .ofNat 7), (3, .ofNat 0, .ofNat 7), (4, .ofNat 0, .ofNat 12)], [(2, 4, .ofNat 0), (4, 2, .ofNat 5)], [(0, .inl 58), (1, .inl 11), (2, .inl 19), (3, .inr (false, (1, .ofNat 0))), (4, .inl 32), (5, .inr (false, (2, .ofNat 0))), (6, .inr (false, (3, .ofNat 0)))], [], [(11, (0, .ofNat 2), .inr (false, (4, .ofNat 0))), (58, (0, .ofNat 1), .inr (false, (0, .ofNat 1))), (58, (0, .ofNat 2), .inr (false, (1, .ofNat 0))), (58, (0, .ofNat 3), .inl 59), (58, (0, .ofNat 5), .inr (false, (0, .negSucc 0))), (58, (0, .ofNat 7), .inl 61)], [], []), ((0, 3, .ofNat 5048), (0, 0, .ofNat 0), (0, 0, .ofNat 0)), 0, 0)]
set_option maxRecDepth 1000000 in
theorem cv737 {gh : sxGh} (hg : sxGd sxKw gh) : sxCtV sxKw gh ct737 := sxMeB_ok (cts := [ct732, ct523, ct729, ct730]) (cuts := cu737) (sp := []) 179 (by decide +kernel) hg (by decide) (by decide) (List.forall_mem_cons.mpr ⟨cv732 hg, (List.forall_mem_cons.mpr ⟨cv523 hg, (List.forall_mem_cons.mpr ⟨cv729 hg, (List.forall_mem_cons.mpr ⟨cv730 hg, (fun _ h => absurd h List.not_mem_nil)⟩)⟩)⟩)⟩)
/-- LotBeliefs.Survey.take -/
def ct738 : sxCt := (69, 5, (2, [(1, .ofNat 0, .ofNat 63)], [], [(0, .inl 74), (1, .inl 3), (2, .inl 23), (3, .inr (false, (1, .ofNat 0))), (4, .inl 32)], [], [], [], []), [(21, 0), (22, 0), (25, 0), (26, 0), (32, 1), (32, 2), (32, 3), (32, 4), (32, 9), (32, 11), (32, 12), (74, 2), (74, 3), (74, 6), (74, 7), (33000037, 0), (75000077, 0)], [
  (3, [(2, .ofNat 0, .ofNat 63)], [(1, 2, .ofNat 0), (2, 1, .ofNat 0)], [], [], [(74, (0, .ofNat 1), .inr (false, (0, .ofNat 1))), (74, (0, .ofNat 2), .inr (false, (2, .ofNat 0)))], [], [])], [], 0, 0)
def cu738 : List sxCu := [
  (115, (7, [(1, .ofNat 0, .ofNat 63), (2, .ofNat 0, .ofNat 7), (3, .negSucc 0, .ofNat 5), (4, .ofNat 0, .ofNat 5040), (5, .ofNat 0, .ofNat 12), (6, .negSucc 2147483647, .ofNat 2147483647)], [(2, 5, .ofNat 0), (5, 2, .ofNat 5)], [(0, .inl 74), (1, .inl 3), (2, .inl 23), (3, .inr (false, (1, .ofNat 0))), (4, .inl 32), (5, .inr (false, (2, .ofNat 0))), (6, .inr (false, (3, .ofNat 0))), (7, .inr (false, (4, .ofNat 0)))], [], [(3, (0, .ofNat 2), .inr (false, (5, .ofNat 0))), (32, (0, .ofNat 0), .inl 3), (32, (0, .ofNat 1), .inl 23), (32, (0, .ofNat 2), .inr (false, (0, .ofNat 4))), (32, (0, .ofNat 3), .inr (false, (1, .ofNat 0))), (74, (0, .ofNat 0), .inr (false, (0, .ofNat 4))), (74, (0, .ofNat 1), .inr (false, (0, .ofNat 1))), (74, (0, .ofNat 2), .inr (false, (1, .ofNat 0))), (74, (0, .ofNat 3), .inl 75), (74, (0, .ofNat 5), .inr (false, (6, .ofNat 0))), (74, (0, .ofNat 7), .inl 77)], [], []), ((0, 4, .ofNat 5040), (0, 0, .ofNat 0), (0, 0, .ofNat 0)), 0, 0), 
  (34, (3, [(1, .ofNat 0, .ofNat 63), (2, .ofNat 0, .ofNat 128)], [], [(0, .inl 74), (1, .inl 3), (2, .inl 23), (3, .inr (false, (1, .ofNat 0))), (4, .inl 32), (5, .inr (false, (2, .ofNat 0)))], [], [(74, (0, .ofNat 1), .inr (false, (0, .ofNat 1))), (74, (0, .ofNat 2), .inr (false, (1, .ofNat 0))), (74, (0, .ofNat 5), .inr (false, (0, .negSucc 0)))], [], []), ((0, 2, .ofNat 5177), (0, 0, .ofNat 0), (0, 0, .ofNat 0)), 0, 0), 
  (75, (5, [(1, .ofNat 0, .ofNat 63), (2, .ofNat 0, .ofNat 7), (3, .ofNat 0, .ofNat 7), (4, .ofNat 0, .ofNat 12)], [(2, 4, .ofNat 0), (4, 2, .ofNat 5)], [(0, .inl 74), (1, .inl 3), (2, .inl 23), (3, .inr (false, (1, .ofNat 0))), (4, .inl 32), (5, .inr (false, (2, .ofNat 0))), (6, .inr (false, (3, .ofNat 0)))], [], [(3, (0, .ofNat 2), .inr (false, (4, .ofNat 0))), (74, (0, .ofNat 1), .inr (false, (0, .ofNat 1))), (74, (0, .ofNat 2), .inr (false, (1, .ofNat 0))), (74, (0, .ofNat 3), .inl 75), (74, (0, .ofNat 5), .inr (false, (0, .negSucc 0))), (74, (0, .ofNat 7), .inl 77)], [], []), ((0, 3, .ofNat 5048), (0, 0, .ofNat 0), (0, 0, .ofNat 0)), 0, 0)]
set_option maxRecDepth 1000000 in
theorem cv738 {gh : sxGh} (hg : sxGd sxKw gh) : sxCtV sxKw gh ct738 := sxMeB_ok (cts := [ct576, ct523, ct573, ct574]) (cuts := cu738) (sp := []) 179 (by decide +kernel) hg (by decide) (by decide) (List.forall_mem_cons.mpr ⟨cv576 hg, (List.forall_mem_cons.mpr ⟨cv523 hg, (List.forall_mem_cons.mpr ⟨cv573 hg, (List.forall_mem_cons.mpr ⟨cv574 hg, (fun _ h => absurd h List.not_mem_nil)⟩)⟩)⟩)⟩)
/-- LotBeliefs.Survey.take -/
def ct739 : sxCt := (69, 5, (2, [(1, .ofNat 0, .ofNat 63)], [], [(0, .inl 74), (1, .inl 3), (2, .inl 19), (3, .inr (false, (1, .ofNat 0))), (4, .inl 32)], [], [], [], []), [(21, 0), (22, 0), (25, 0), (26, 0), (32, 1), (32, 2), (32, 3), (32, 4), (32, 9), (32, 11), (32, 12), (74, 2), (74, 3), (74, 6), (74, 7), (33000037, 0), (75000077, 0)], [
  (3, [(2, .ofNat 0, .ofNat 63)], [(1, 2, .ofNat 0), (2, 1, .ofNat 0)], [], [], [(74, (0, .ofNat 1), .inr (false, (0, .ofNat 1))), (74, (0, .ofNat 2), .inr (false, (2, .ofNat 0)))], [], [])], [], 0, 0)
def cu739 : List sxCu := [
  (115, (7, [(1, .ofNat 0, .ofNat 63), (2, .ofNat 0, .ofNat 7), (3, .negSucc 0, .ofNat 5), (4, .ofNat 0, .ofNat 5040), (5, .ofNat 0, .ofNat 12), (6, .negSucc 2147483647, .ofNat 2147483647)], [(2, 5, .ofNat 0), (5, 2, .ofNat 5)], [(0, .inl 74), (1, .inl 3), (2, .inl 19), (3, .inr (false, (1, .ofNat 0))), (4, .inl 32), (5, .inr (false, (2, .ofNat 0))), (6, .inr (false, (3, .ofNat 0))), (7, .inr (false, (4, .ofNat 0)))], [], [(3, (0, .ofNat 2), .inr (false, (5, .ofNat 0))), (32, (0, .ofNat 0), .inl 3), (32, (0, .ofNat 1), .inl 19), (32, (0, .ofNat 2), .inr (false, (0, .ofNat 4))), (32, (0, .ofNat 3), .inr (false, (1, .ofNat 0))), (74, (0, .ofNat 0), .inr (false, (0, .ofNat 4))), (74, (0, .ofNat 1), .inr (false, (0, .ofNat 1))), (74, (0, .ofNat 2), .inr (false, (1, .ofNat 0))), (74, (0, .ofNat 3), .inl 75), (74, (0, .ofNat 5), .inr (false, (6, .ofNat 0))), (74, (0, .ofNat 7), .inl 77)], [], []), ((0, 4, .ofNat 5040), (0, 0, .ofNat 0), (0, 0, .ofNat 0)), 0, 0), 
  (34, (3, [(1, .ofNat 0, .ofNat 63), (2, .ofNat 0, .ofNat 128)], [], [(0, .inl 74), (1, .inl 3), (2, .inl 19), (3, .inr (false, (1, .ofNat 0))), (4, .inl 32), (5, .inr (false, (2, .ofNat 0)))], [], [(74, (0, .ofNat 1), .inr (false, (0, .ofNat 1))), (74, (0, .ofNat 2), .inr (false, (1, .ofNat 0))), (74, (0, .ofNat 5), .inr (false, (0, .negSucc 0)))], [], []), ((0, 2, .ofNat 5177), (0, 0, .ofNat 0), (0, 0, .ofNat 0)), 0, 0), 
  (75, (5, [(1, .ofNat 0, .ofNat 63), (2, .ofNat 0, .ofNat 7), (3, .ofNat 0, .ofNat 7), (4, .ofNat 0, .ofNat 12)], [(2, 4, .ofNat 0), (4, 2, .ofNat 5)], [(0, .inl 74), (1, .inl 3), (2, .inl 19), (3, .inr (false, (1, .ofNat 0))), (4, .inl 32), (5, .inr (false, (2, .ofNat 0))), (6, .inr (false, (3, .ofNat 0)))], [], [(3, (0, .ofNat 2), .inr (false, (4, .ofNat 0))), (74, (0, .ofNat 1), .inr (false, (0, .ofNat 1))), (74, (0, .ofNat 2), .inr (false, (1, .ofNat 0))), (74, (0, .ofNat 3), .inl 75), (74, (0, .ofNat 5), .inr (false, (0, .negSucc 0))), (74, (0, .ofNat 7), .inl 77)], [], []), ((0, 3, .ofNat 5048), (0, 0, .ofNat 0), (0, 0, .ofNat 0)), 0, 0)]
set_option maxRecDepth 1000000 in
theorem cv739 {gh : sxGh} (hg : sxGd sxKw gh) : sxCtV sxKw gh ct739 := sxMeB_ok (cts := [ct576, ct523, ct573, ct574]) (cuts := cu739) (sp := []) 179 (by decide +kernel) hg (by decide) (by decide) (List.forall_mem_cons.mpr ⟨cv576 hg, (List.forall_mem_cons.mpr ⟨cv523 hg, (List.forall_mem_cons.mpr ⟨cv573 hg, (List.forall_mem_cons.mpr ⟨cv574 hg, (fun _ h => absurd h List.not_mem_nil)⟩)⟩)⟩)⟩)
/-- LotBeliefs.Survey.take -/
def ct740 : sxCt := (69, 5, (2, [(1, .ofNat 0, .ofNat 63)], [], [(0, .inl 70), (1, .inl 3), (2, .inl 23), (3, .inr (false, (1, .ofNat 0))), (4, .inl 32)], [], [], [], []), [(21, 0), (22, 0), (25, 0), (26, 0), (32, 1), (32, 2), (32, 3), (32, 4), (32, 9), (32, 11), (32, 12), (70, 2), (70, 3), (70, 6), (70, 7), (33000037, 0), (71000073, 0)], [
  (3, [(2, .ofNat 0, .ofNat 63)], [(1, 2, .ofNat 0), (2, 1, .ofNat 0)], [], [], [(70, (0, .ofNat 1), .inr (false, (0, .ofNat 1))), (70, (0, .ofNat 2), .inr (false, (2, .ofNat 0)))], [], [])], [], 0, 0)
def cu740 : List sxCu := [
  (115, (7, [(1, .ofNat 0, .ofNat 63), (2, .ofNat 0, .ofNat 7), (3, .negSucc 0, .ofNat 5), (4, .ofNat 0, .ofNat 5040), (5, .ofNat 0, .ofNat 12), (6, .negSucc 2147483647, .ofNat 2147483647)], [(2, 5, .ofNat 0), (5, 2, .ofNat 5)], [(0, .inl 70), (1, .inl 3), (2, .inl 23), (3, .inr (false, (1, .ofNat 0))), (4, .inl 32), (5, .inr (false, (2, .ofNat 0))), (6, .inr (false, (3, .ofNat 0))), (7, .inr (false, (4, .ofNat 0)))], [], [(3, (0, .ofNat 2), .inr (false, (5, .ofNat 0))), (32, (0, .ofNat 0), .inl 3), (32, (0, .ofNat 1), .inl 23), (32, (0, .ofNat 2), .inr (false, (0, .ofNat 3))), (32, (0, .ofNat 3), .inr (false, (1, .ofNat 0))), (70, (0, .ofNat 0), .inr (false, (0, .ofNat 3))), (70, (0, .ofNat 1), .inr (false, (0, .ofNat 1))), (70, (0, .ofNat 2), .inr (false, (1, .ofNat 0))), (70, (0, .ofNat 3), .inl 71), (70, (0, .ofNat 5), .inr (false, (6, .ofNat 0))), (70, (0, .ofNat 7), .inl 73)], [], []), ((0, 4, .ofNat 5040), (0, 0, .ofNat 0), (0, 0, .ofNat 0)), 0, 0), 
  (34, (3, [(1, .ofNat 0, .ofNat 63), (2, .ofNat 0, .ofNat 128)], [], [(0, .inl 70), (1, .inl 3), (2, .inl 23), (3, .inr (false, (1, .ofNat 0))), (4, .inl 32), (5, .inr (false, (2, .ofNat 0)))], [], [(70, (0, .ofNat 1), .inr (false, (0, .ofNat 1))), (70, (0, .ofNat 2), .inr (false, (1, .ofNat 0))), (70, (0, .ofNat 5), .inr (false, (0, .negSucc 0)))], [], []), ((0, 2, .ofNat 5177), (0, 0, .ofNat 0), (0, 0, .ofNat 0)), 0, 0), 
  (75, (5, [(1, .ofNat 0, .ofNat 63), (2, .ofNat 0, .ofNat 7), (3, .ofNat 0, .ofNat 7), (4, .ofNat 0, .ofNat 12)], [(2, 4, .ofNat 0), (4, 2, .ofNat 5)], [(0, .inl 70), (1, .inl 3), (2, .inl 23), (3, .inr (false, (1, .ofNat 0))), (4, .inl 32), (5, .inr (false, (2, .ofNat 0))), (6, .inr (false, (3, .ofNat 0)))], [], [(3, (0, .ofNat 2), .inr (false, (4, .ofNat 0))), (70, (0, .ofNat 1), .inr (false, (0, .ofNat 1))), (70, (0, .ofNat 2), .inr (false, (1, .ofNat 0))), (70, (0, .ofNat 3), .inl 71), (70, (0, .ofNat 5), .inr (false, (0, .negSucc 0))), (70, (0, .ofNat 7), .inl 73)], [], []), ((0, 3, .ofNat 5048), (0, 0, .ofNat 0), (0, 0, .ofNat 0)), 0, 0)]
set_option maxRecDepth 1000000 in
theorem cv740 {gh : sxGh} (hg : sxGd sxKw gh) : sxCtV sxKw gh ct740 := sxMeB_ok (cts := [ct615, ct523, ct612, ct613]) (cuts := cu740) (sp := []) 179 (by decide +kernel) hg (by decide) (by decide) (List.forall_mem_cons.mpr ⟨cv615 hg, (List.forall_mem_cons.mpr ⟨cv523 hg, (List.forall_mem_cons.mpr ⟨cv612 hg, (List.forall_mem_cons.mpr ⟨cv613 hg, (fun _ h => absurd h List.not_mem_nil)⟩)⟩)⟩)⟩)
/-- LotBeliefs.Survey.take -/
def ct741 : sxCt := (69, 5, (2, [(1, .ofNat 0, .ofNat 63)], [], [(0, .inl 70), (1, .inl 3), (2, .inl 19), (3, .inr (false, (1, .ofNat 0))), (4, .inl 32)], [], [], [], []), [(21, 0), (22, 0), (25, 0), (26, 0), (32, 1), (32, 2), (32, 3), (32, 4), (32, 9), (32, 11), (32, 12), (70, 2), (70, 3), (70, 6), (70, 7), (33000037, 0), (71000073, 0)], [
  (3, [(2, .ofNat 0, .ofNat 63)], [(1, 2, .ofNat 0), (2, 1, .ofNat 0)], [], [], [(70, (0, .ofNat 1), .inr (false, (0, .ofNat 1))), (70, (0, .ofNat 2), .inr (false, (2, .ofNat 0)))], [], [])], [], 0, 0)
def cu741 : List sxCu := [
  (115, (7, [(1, .ofNat 0, .ofNat 63), (2, .ofNat 0, .ofNat 7), (3, .negSucc 0, .ofNat 5), (4, .ofNat 0, .ofNat 5040), (5, .ofNat 0, .ofNat 12), (6, .negSucc 2147483647, .ofNat 2147483647)], [(2, 5, .ofNat 0), (5, 2, .ofNat 5)], [(0, .inl 70), (1, .inl 3), (2, .inl 19), (3, .inr (false, (1, .ofNat 0))), (4, .inl 32), (5, .inr (false, (2, .ofNat 0))), (6, .inr (false, (3, .ofNat 0))), (7, .inr (false, (4, .ofNat 0)))], [], [(3, (0, .ofNat 2), .inr (false, (5, .ofNat 0))), (32, (0, .ofNat 0), .inl 3), (32, (0, .ofNat 1), .inl 19), (32, (0, .ofNat 2), .inr (false, (0, .ofNat 3))), (32, (0, .ofNat 3), .inr (false, (1, .ofNat 0))), (70, (0, .ofNat 0), .inr (false, (0, .ofNat 3))), (70, (0, .ofNat 1), .inr (false, (0, .ofNat 1))), (70, (0, .ofNat 2), .inr (false, (1, .ofNat 0))), (70, (0, .ofNat 3), .inl 71), (70, (0, .ofNat 5), .inr (false, (6, .ofNat 0))), (70, (0, .ofNat 7), .inl 73)], [], []), ((0, 4, .ofNat 5040), (0, 0, .ofNat 0), (0, 0, .ofNat 0)), 0, 0), 
  (34, (3, [(1, .ofNat 0, .ofNat 63), (2, .ofNat 0, .ofNat 128)], [], [(0, .inl 70), (1, .inl 3), (2, .inl 19), (3, .inr (false, (1, .ofNat 0))), (4, .inl 32), (5, .inr (false, (2, .ofNat 0)))], [], [(70, (0, .ofNat 1), .inr (false, (0, .ofNat 1))), (70, (0, .ofNat 2), .inr (false, (1, .ofNat 0))), (70, (0, .ofNat 5), .inr (false, (0, .negSucc 0)))], [], []), ((0, 2, .ofNat 5177), (0, 0, .ofNat 0), (0, 0, .ofNat 0)), 0, 0), 
  (75, (5, [(1, .ofNat 0, .ofNat 63), (2, .ofNat 0, .ofNat 7), (3, .ofNat 0, .ofNat 7), (4, .ofNat 0, .ofNat 12)], [(2, 4, .ofNat 0), (4, 2, .ofNat 5)], [(0, .inl 70), (1, .inl 3), (2, .inl 19), (3, .inr (false, (1, .ofNat 0))), (4, .inl 32), (5, .inr (false, (2, .ofNat 0))), (6, .inr (false, (3, .ofNat 0)))], [], [(3, (0, .ofNat 2), .inr (false, (4, .ofNat 0))), (70, (0, .ofNat 1), .inr (false, (0, .ofNat 1))), (70, (0, .ofNat 2), .inr (false, (1, .ofNat 0))), (70, (0, .ofNat 3), .inl 71), (70, (0, .ofNat 5), .inr (false, (0, .negSucc 0))), (70, (0, .ofNat 7), .inl 73)], [], []), ((0, 3, .ofNat 5048), (0, 0, .ofNat 0), (0, 0, .ofNat 0)), 0, 0)]
set_option maxRecDepth 1000000 in
theorem cv741 {gh : sxGh} (hg : sxGd sxKw gh) : sxCtV sxKw gh ct741 := sxMeB_ok (cts := [ct615, ct523, ct612, ct613]) (cuts := cu741) (sp := []) 179 (by decide +kernel) hg (by decide) (by decide) (List.forall_mem_cons.mpr ⟨cv615 hg, (List.forall_mem_cons.mpr ⟨cv523 hg, (List.forall_mem_cons.mpr ⟨cv612 hg, (List.forall_mem_cons.mpr ⟨cv613 hg, (fun _ h => absurd h List.not_mem_nil)⟩)⟩)⟩)⟩)
/-- LotBeliefs.Survey.take -/
def ct742 : sxCt := (69, 5, (2, [(1, .ofNat 0, .ofNat 63)], [], [(0, .inl 66), (1, .inl 3), (2, .inl 23), (3, .inr (false, (1, .ofNat 0))), (4, .inl 32)], [], [], [], []), [(21, 0), (22, 0), (25, 0), (26, 0), (32, 1), (32, 2), (32, 3), (32, 4), (32, 9), (32, 11), (32, 12), (66, 2), (66, 3), (66, 6), (66, 7), (33000037, 0), (67000069, 0)], [
  (3, [(2, .ofNat 0, .ofNat 63)], [(1, 2, .ofNat 0), (2, 1, .ofNat 0)], [], [], [(66, (0, .ofNat 1), .inr (false, (0, .ofNat 1))), (66, (0, .ofNat 2), .inr (false, (2, .ofNat 0)))], [], [])], [], 0, 0)
def cu742 : List sxCu := [
  (115, (7, [(1, .ofNat 0, .ofNat 63), (2, .ofNat 0, .ofNat 7), (3, .negSucc 0, .ofNat 5), (4, .ofNat 0, .ofNat 5040), (5, .ofNat 0, .ofNat 12), (6, .negSucc 2147483647, .ofNat 2147483647)], [(2, 5, .ofNat 0), (5, 2, .ofNat 5)], [(0, .inl 66), (1, .inl 3), (2, .inl 23), (3, .inr (false, (1, .ofNat 0))), (4, .inl 32), (5, .inr (false, (2, .ofNat 0))), (6, .inr (false, (3, .ofNat 0))), (7, .inr (false, (4, .ofNat 0)))], [], [(3, (0, .ofNat 2), .inr (false, (5, .ofNat 0))), (32, (0, .ofNat 0), .inl 3), (32, (0, .ofNat 1), .inl 23), (32, (0, .ofNat 2), .inr (false, (0, .ofNat 2))), (32, (0, .ofNat 3), .inr (false, (1, .ofNat 0))), (66, (0, .ofNat 0), .inr (false, (0, .ofNat 2))), (66, (0, .ofNat 1), .inr (false, (0, .ofNat 1))), (66, (0, .ofNat 2), .inr (false, (1, .ofNat 0))), (66, (0, .ofNat 3), .inl 67), (66, (0, .ofNat 5), .inr (false, (6, .ofNat 0))), (66, (0, .ofNat 7), .inl 69)], [], []), ((0, 4, .ofNat 5040), (0, 0, .ofNat 0), (0, 0, .ofNat 0)), 0, 0), 
  (34, (3, [(1, .ofNat 0, .ofNat 63), (2, .ofNat 0, .ofNat 128)], [], [(0, .inl 66), (1, .inl 3), (2, .inl 23), (3, .inr (false, (1, .ofNat 0))), (4, .inl 32), (5, .inr (false, (2, .ofNat 0)))], [], [(66, (0, .ofNat 1), .inr (false, (0, .ofNat 1))), (66, (0, .ofNat 2), .inr (false, (1, .ofNat 0))), (66, (0, .ofNat 5), .inr (false, (0, .negSucc 0)))], [], []), ((0, 2, .ofNat 5177), (0, 0, .ofNat 0), (0, 0, .ofNat 0)), 0, 0), 
  (75, (5, [(1, .ofNat 0, .ofNat 63), (2, .ofNat 0, .ofNat 7), (3, .ofNat 0, .ofNat 7), (4, .ofNat 0, .ofNat 12)], [(2, 4, .ofNat 0), (4, 2, .ofNat 5)], [(0, .inl 66), (1, .inl 3), (2, .inl 23), (3, .inr (false, (1, .ofNat 0))), (4, .inl 32), (5, .inr (false, (2, .ofNat 0))), (6, .inr (false, (3, .ofNat 0)))], [], [(3, (0, .ofNat 2), .inr (false, (4, .ofNat 0))), (66, (0, .ofNat 1), .inr (false, (0, .ofNat 1))), (66, (0, .ofNat 2), .inr (false, (1, .ofNat 0))), (66, (0, .ofNat 3), .inl 67), (66, (0, .ofNat 5), .inr (false, (0, .negSucc 0))), (66, (0, .ofNat 7), .inl 69)], [], []), ((0, 3, .ofNat 5048), (0, 0, .ofNat 0), (0, 0, .ofNat 0)), 0, 0)]
set_option maxRecDepth 1000000 in
theorem cv742 {gh : sxGh} (hg : sxGd sxKw gh) : sxCtV sxKw gh ct742 := sxMeB_ok (cts := [ct654, ct523, ct651, ct652]) (cuts := cu742) (sp := []) 179 (by decide +kernel) hg (by decide) (by decide) (List.forall_mem_cons.mpr ⟨cv654 hg, (List.forall_mem_cons.mpr ⟨cv523 hg, (List.forall_mem_cons.mpr ⟨cv651 hg, (List.forall_mem_cons.mpr ⟨cv652 hg, (fun _ h => absurd h List.not_mem_nil)⟩)⟩)⟩)⟩)
/-- LotBeliefs.Survey.take -/
def ct743 : sxCt := (69, 5, (2, [(1, .ofNat 0, .ofNat 63)], [], [(0, .inl 66), (1, .inl 3), (2, .inl 19), (3, .inr (false, (1, .ofNat 0))), (4, .inl 32)], [], [], [], []), [(21, 0), (22, 0), (25, 0), (26, 0), (32, 1), (32, 2), (32, 3), (32, 4), (32, 9), (32, 11), (32, 12), (66, 2), (66, 3), (66, 6), (66, 7), (33000037, 0), (67000069, 0)], [
  (3, [(2, .ofNat 0, .ofNat 63)], [(1, 2, .ofNat 0), (2, 1, .ofNat 0)], [], [], [(66, (0, .ofNat 1), .inr (false, (0, .ofNat 1))), (66, (0, .ofNat 2), .inr (false, (2, .ofNat 0)))], [], [])], [], 0, 0)
def cu743 : List sxCu := [
  (115, (7, [(1, .ofNat 0, .ofNat 63), (2, .ofNat 0, .ofNat 7), (3, .negSucc 0, .ofNat 5), (4, .ofNat 0, .ofNat 5040), (5, .ofNat 0, .ofNat 12), (6, .negSucc 2147483647, .ofNat 2147483647)], [(2, 5, .ofNat 0), (5, 2, .ofNat 5)], [(0, .inl 66), (1, .inl 3), (2, .inl 19), (3, .inr (false, (1, .ofNat 0))), (4, .inl 32), (5, .inr (false, (2, .ofNat 0))), (6, .inr (false, (3, .ofNat 0))), (7, .inr (false, (4, .ofNat 0)))], [], [(3, (0, .ofNat 2), .inr (false, (5, .ofNat 0))), (32, (0, .ofNat 0), .inl 3), (32, (0, .ofNat 1), .inl 19), (32, (0, .ofNat 2), .inr (false, (0, .ofNat 2))), (32, (0, .ofNat 3), .inr (false, (1, .ofNat 0))), (66, (0, .ofNat 0), .inr (false, (0, .ofNat 2))), (66, (0, .ofNat 1), .inr (false, (0, .ofNat 1))), (66, (0, .ofNat 2), .inr (false, (1, .ofNat 0))), (66, (0, .ofNat 3), .inl 67), (66, (0, .ofNat 5), .inr (false, (6, .ofNat 0))), (66, (0, .ofNat 7), .inl 69)], [], []), ((0, 4, .ofNat 5040), (0, 0, .ofNat 0), (0, 0, .ofNat 0)), 0, 0), 
  (34, (3, [(1, .ofNat 0, .ofNat 63), (2, .ofNat 0, .ofNat 128)], [], [(0, .inl 66), (1, .inl 3), (2, .inl 19), (3, .inr (false, (1, .ofNat 0))), (4, .inl 32), (5, .inr (false, (2, .ofNat 0)))], [], [(66, (0, .ofNat 1), .inr (false, (0, .ofNat 1))), (66, (0, .ofNat 2), .inr (false, (1, .ofNat 0))), (66, (0, .ofNat 5), .inr (false, (0, .negSucc 0)))], [], []), ((0, 2, .ofNat 5177), (0, 0, .ofNat 0), (0, 0, .ofNat 0)), 0, 0), 
  (75, (5, [(1, .ofNat 0, .ofNat 63), (2, .ofNat 0, .ofNat 7), (3, .ofNat 0, .ofNat 7), (4, .ofNat 0, .ofNat 12)], [(2, 4, .ofNat 0), (4, 2, .ofNat 5)], [(0, .inl 66), (1, .inl 3), (2, .inl 19), (3, .inr (false, (1, .ofNat 0))), (4, .inl 32), (5, .inr (false, (2, .ofNat 0))), (6, .inr (false, (3, .ofNat 0)))], [], [(3, (0, .ofNat 2), .inr (false, (4, .ofNat 0))), (66, (0, .ofNat 1), .inr (false, (0, .ofNat 1))), (66, (0, .ofNat 2), .inr (false, (1, .ofNat 0))), (66, (0, .ofNat 3), .inl 67), (66, (0, .ofNat 5), .inr (false, (0, .negSucc 0))), (66, (0, .ofNat 7), .inl 69)], [], []), ((0, 3, .ofNat 5048), (0, 0, .ofNat 0), (0, 0, .ofNat 0)), 0, 0)]
set_option maxRecDepth 1000000 in
theorem cv743 {gh : sxGh} (hg : sxGd sxKw gh) : sxCtV sxKw gh ct743 := sxMeB_ok (cts := [ct654, ct523, ct651, ct652]) (cuts := cu743) (sp := []) 179 (by decide +kernel) hg (by decide) (by decide) (List.forall_mem_cons.mpr ⟨cv654 hg, (List.forall_mem_cons.mpr ⟨cv523 hg, (List.forall_mem_cons.mpr ⟨cv651 hg, (List.forall_mem_cons.mpr ⟨cv652 hg, (fun _ h => absurd h List.not_mem_nil)⟩)⟩)⟩)⟩)
/-- LotBeliefs.Survey.take -/
def ct744 : sxCt := (69, 5, (2, [(1, .ofNat 0, .ofNat 63)], [], [(0, .inl 62), (1, .inl 3), (2, .inl 23), (3, .inr (false, (1, .ofNat 0))), (4, .inl 32)], [], [], [], []), [(21, 0), (22, 0), (25, 0), (26, 0), (32, 1), (32, 2), (32, 3), (32, 4), (32, 9), (32, 11), (32, 12), (62, 2), (62, 3), (62, 6), (62, 7), (33000037, 0), (63000065, 0)], [
  (3, [(2, .ofNat 0, .ofNat 63)], [(1, 2, .ofNat 0), (2, 1, .ofNat 0)], [], [], [(62, (0, .ofNat 1), .inr (false, (0, .ofNat 1))), (62, (0, .ofNat 2), .inr (false, (2, .ofNat 0)))], [], [])], [], 0, 0)
def cu744 : List sxCu := [
  (115, (7, [(1, .ofNat 0, .ofNat 63), (2, .ofNat 0, .ofNat 7), (3, .negSucc 0, .ofNat 5), (4, .ofNat 0, .ofNat 5040), (5, .ofNat 0, .ofNat 12), (6, .negSucc 2147483647, .ofNat 2147483647)], [(2, 5, .ofNat 0), (5, 2, .ofNat 5)], [(0, .inl 62), (1, .inl 3), (2, .inl 23), (3, .inr (false, (1, .ofNat 0))), (4, .inl 32), (5, .inr (false, (2, .ofNat 0))), (6, .inr (false, (3, .ofNat 0))), (7, .inr (false, (4, .ofNat 0)))], [], [(3, (0, .ofNat 2), .inr (false, (5, .ofNat 0))), (32, (0, .ofNat 0), .inl 3), (32, (0, .ofNat 1), .inl 23), (32, (0, .ofNat 2), .inr (false, (0, .ofNat 1))), (32, (0, .ofNat 3), .inr (false, (1, .ofNat 0))), (62, (0, .ofNat 0), .inr (false, (0, .ofNat 1))), (62, (0, .ofNat 1), .inr (false, (0, .ofNat 1))), (62, (0, .ofNat 2), .inr (false, (1, .ofNat 0))), (62, (0, .ofNat 3), .inl 63), (62, (0, .ofNat 5), .inr (false, (6, .ofNat 0))), (62, (0, .ofNat 7), .inl 65)], [], []), ((0, 4, .ofNat 5040), (0, 0, .ofNat 0), (0, 0, .ofNat 0)), 0, 0), 
  (34, (3, [(1, .ofNat 0, .ofNat 63), (2, .ofNat 0, .ofNat 128)], [], [(0, .inl 62), (1, .inl 3), (2, .inl 23), (3, .inr (false, (1, .ofNat 0))), (4, .inl 32), (5, .inr (false, (2, .ofNat 0)))], [], [(62, (0, .ofNat 1), .inr (false, (0, .ofNat 1))), (62, (0, .ofNat 2), .inr (false, (1, .ofNat 0))), (62, (0, .ofNat 5), .inr (false, (0, .negSucc 0)))], [], []), ((0, 2, .ofNat 5177), (0, 0, .ofNat 0), (0, 0, .ofNat 0)), 0, 0), 
  (75, (5, [(1, .ofNat 0, .ofNat 63), (2, .ofNat 0, .ofNat 7), (3, .ofNat 0, .ofNat 7), (4, .ofNat 0, .ofNat 12)], [(2, 4, .ofNat 0), (4, 2, .ofNat 5)], [(0, .inl 62), (1, .inl 3), (2, .inl 23), (3, .inr (false, (1, .ofNat 0))), (4, .inl 32), (5, .inr (false, (2, .ofNat 0))), (6, .inr (false, (3, .ofNat 0)))], [], [(3, (0, .ofNat 2), .inr (false, (4, .ofNat 0))), (62, (0, .ofNat 1), .inr (false, (0, .ofNat 1))), (62, (0, .ofNat 2), .inr (false, (1, .ofNat 0))), (62, (0, .ofNat 3), .inl 63), (62, (0, .ofNat 5), .inr (false, (0, .negSucc 0))), (62, (0, .ofNat 7), .inl 65)], [], []), ((0, 3, .ofNat 5048), (0, 0, .ofNat 0), (0, 0, .ofNat 0)), 0, 0)]
set_option maxRecDepth 1000000 in
theorem cv744 {gh : sxGh} (hg : sxGd sxKw gh) : sxCtV sxKw gh ct744 := sxMeB_ok (cts := [ct693, ct523, ct690, ct691]) (cuts := cu744) (sp := []) 179 (by decide +kernel) hg (by decide) (by decide) (List.forall_mem_cons.mpr ⟨cv693 hg, (List.forall_mem_cons.mpr ⟨cv523 hg, (List.forall_mem_cons.mpr ⟨cv690 hg, (List.forall_mem_cons.mpr ⟨cv691 hg, (fun _ h => absurd h List.not_mem_nil)⟩)⟩)⟩)⟩)
/-- LotBeliefs.Survey.take -/
def ct745 : sxCt := (69, 5, (2, [(1, .ofNat 0, .ofNat 63)], [], [(0, .inl 62), (1, .inl 3), (2, .inl 19), (3, .inr (false, (1, .ofNat 0))), (4, .inl 32)], [], [], [], []), [(21, 0), (22, 0), (25, 0), (26, 0), (32, 1), (32, 2), (32, 3), (32, 4), (32, 9), (32, 11), (32, 12), (62, 2), (62, 3), (62, 6), (62, 7), (33000037, 0), (63000065, 0)], [
  (3, [(2, .ofNat 0, .ofNat 63)], [(1, 2, .ofNat 0), (2, 1, .ofNat 0)], [], [], [(62, (0, .ofNat 1), .inr (false, (0, .ofNat 1))), (62, (0, .ofNat 2), .inr (false, (2, .ofNat 0)))], [], [])], [], 0, 0)
def cu745 : List sxCu := [
  (115, (7, [(1, .ofNat 0, .ofNat 63), (2, .ofNat 0, .ofNat 7), (3, .negSucc 0, .ofNat 5), (4, .ofNat 0, .ofNat 5040), (5, .ofNat 0, .ofNat 12), (6, .negSucc 2147483647, .ofNat 2147483647)], [(2, 5, .ofNat 0), (5, 2, .ofNat 5)], [(0, .inl 62), (1, .inl 3), (2, .inl 19), (3, .inr (false, (1, .ofNat 0))), (4, .inl 32), (5, .inr (false, (2, .ofNat 0))), (6, .inr (false, (3, .ofNat 0))), (7, .inr (false, (4, .ofNat 0)))], [], [(3, (0, .ofNat 2), .inr (false, (5, .ofNat 0))), (32, (0, .ofNat 0), .inl 3), (32, (0, .ofNat 1), .inl 19), (32, (0, .ofNat 2), .inr (false, (0, .ofNat 1))), (32, (0, .ofNat 3), .inr (false, (1, .ofNat 0))), (62, (0, .ofNat 0), .inr (false, (0, .ofNat 1))), (62, (0, .ofNat 1), .inr (false, (0, .ofNat 1))), (62, (0, .ofNat 2), .inr (false, (1, .ofNat 0))), (62, (0, .ofNat 3), .inl 63), (62, (0, .ofNat 5), .inr (false, (6, .ofNat 0))), (62, (0, .ofNat 7), .inl 65)], [], []), ((0, 4, .ofNat 5040), (0, 0, .ofNat 0), (0, 0, .ofNat 0)), 0, 0), 
  (34, (3, [(1, .ofNat 0, .ofNat 63), (2, .ofNat 0, .ofNat 128)], [], [(0, .inl 62), (1, .inl 3), (2, .inl 19), (3, .inr (false, (1, .ofNat 0))), (4, .inl 32), (5, .inr (false, (2, .ofNat 0)))], [], [(62, (0, .ofNat 1), .inr (false, (0, .ofNat 1))), (62, (0, .ofNat 2), .inr (false, (1, .ofNat 0))), (62, (0, .ofNat 5), .inr (false, (0, .negSucc 0)))], [], []), ((0, 2, .ofNat 5177), (0, 0, .ofNat 0), (0, 0, .ofNat 0)), 0, 0), 
  (75, (5, [(1, .ofNat 0, .ofNat 63), (2, .ofNat 0, .ofNat 7), (3, .ofNat 0, .ofNat 7), (4, .ofNat 0, .ofNat 12)], [(2, 4, .ofNat 0), (4, 2, .ofNat 5)], [(0, .inl 62), (1, .inl 3), (2, .inl 19), (3, .inr (false, (1, .ofNat 0))), (4, .inl 32), (5, .inr (false, (2, .ofNat 0))), (6, .inr (false, (3, .ofNat 0)))], [], [(3, (0, .ofNat 2), .inr (false, (4, .ofNat 0))), (62, (0, .ofNat 1), .inr (false, (0, .ofNat 1))), (62, (0, .ofNat 2), .inr (false, (1, .ofNat 0))), (62, (0, .ofNat 3), .inl 63), (62, (0, .ofNat 5), .inr (false, (0, .negSucc 0))), (62, (0, .ofNat 7), .inl 65)], [], []), ((0, 3, .ofNat 5048), (0, 0, .ofNat 0), (0, 0, .ofNat 0)), 0, 0)]
set_option maxRecDepth 1000000 in
theorem cv745 {gh : sxGh} (hg : sxGd sxKw gh) : sxCtV sxKw gh ct745 := sxMeB_ok (cts := [ct693, ct523, ct690, ct691]) (cuts := cu745) (sp := []) 179 (by decide +kernel) hg (by decide) (by decide) (List.forall_mem_cons.mpr ⟨cv693 hg, (List.forall_mem_cons.mpr ⟨cv523 hg, (List.forall_mem_cons.mpr ⟨cv690 hg, (List.forall_mem_cons.mpr ⟨cv691 hg, (fun _ h => absurd h List.not_mem_nil)⟩)⟩)⟩)⟩)
/-- LotBeliefs.Survey.take -/
def ct746 : sxCt := (69, 5, (2, [(1, .ofNat 0, .ofNat 63)], [], [(0, .inl 58), (1, .inl 3), (2, .inl 23), (3, .inr (false, (1, .ofNat 0))), (4, .inl 32)], [], [], [], []), [(21, 0), (22, 0), (25, 0), (26, 0), (32, 1), (32, 2), (32, 3), (32, 4), (32, 9), (32, 11), (32, 12), (58, 2), (58, 3), (58, 6), (58, 7), (33000037, 0), (59000061, 0)], [
  (3, [(2, .ofNat 0, .ofNat 63)], [(1, 2, .ofNat 0), (2, 1, .ofNat 0)], [], [], [(58, (0, .ofNat 1), .inr (false, (0, .ofNat 1))), (58, (0, .ofNat 2), .inr (false, (2, .ofNat 0)))], [], [])], [], 0, 0)
def cu746 : List sxCu := [
  (115, (7, [(1, .ofNat 0, .ofNat 63), (2, .ofNat 0, .ofNat 7), (3, .negSucc 0, .ofNat 5), (4, .ofNat 0, .ofNat 5040), (5, .ofNat 0, .ofNat 12), (6, .negSucc 2147483647, .ofNat 2147483647)], [(2, 5, .ofNat 0), (5, 2, .ofNat 5)], [(0, .inl 58), (1, .inl 3), (2, .inl 23), (3, .inr (false, (1, .ofNat 0))), (4, .inl 32), (5, .inr (false, (2, .ofNat 0))), (6, .inr (false, (3, .ofNat 0))), (7, .inr (false, (4, .ofNat 0)))], [], [(3, (0, .ofNat 2), .inr (false, (5, .ofNat 0))), (32, (0, .ofNat 0), .inl 3), (32, (0, .ofNat 1), .inl 23), (32, (0, .ofNat 2), .inr (false, (0, .ofNat 0))), (32, (0, .ofNat 3), .inr (false, (1, .ofNat 0))), (58, (0, .ofNat 0), .inr (false, (0, .ofNat 0))), (58, (0, .ofNat 1), .inr (false, (0, .ofNat 1))), (58, (0, .ofNat 2), .inr (false, (1, .ofNat 0))), (58, (0, .ofNat 3), .inl 59), (58, (0, .ofNat 5), .inr (false, (6, .ofNat 0))), (58, (0, .ofNat 7), .inl 61)], [], []), ((0, 4, .ofNat 5040), (0, 0, .ofNat 0), (0, 0, .ofNat 0)), 0, 0), 
  (34, (3, [(1, .ofNat 0, .ofNat 63), (2, .ofNat 0, .ofNat 128)], [], [(0, .inl 58), (1, .inl 3), (2, .inl 23), (3, .inr (false, (1, .ofNat 0))), (4, .inl 32), (5, .inr (false, (2, .ofNat 0)))], [], [(58, (0, .ofNat 1), .inr (false, (0, .ofNat 1))), (58, (0, .ofNat 2), .inr (false, (1, .ofNat 0))), (58, (0, .ofNat 5), .inr (false, (0, .negSucc 0)))], [], []), ((0, 2, .ofNat 5177), (0, 0, .ofNat 0), (0, 0, .ofNat 0)), 0, 0), 
  (75, (5, [(1, .ofNat 0, .ofNat 63), (2, .ofNat 0, .ofNat 7), (3, .ofNat 0, .ofNat 7), (4, .ofNat 0, .ofNat 12)], [(2, 4, .ofNat 0), (4, 2, .ofNat 5)], [(0, .inl 58), (1, .inl 3), (2, .inl 23), (3, .inr (false, (1, .ofNat 0))), (4, .inl 32), (5, .inr (false, (2, .ofNat 0))), (6, .inr (false, (3, .ofNat 0)))], [], [(3, (0, .ofNat 2), .inr (false, (4, .ofNat 0))), (58, (0, .ofNat 1), .inr (false, (0, .ofNat 1))), (58, (0, .ofNat 2), .inr (false, (1, .ofNat 0))), (58, (0, .ofNat 3), .inl 59), (58, (0, .ofNat 5), .inr (false, (0, .negSucc 0))), (58, (0, .ofNat 7), .inl 61)], [], []), ((0, 3, .ofNat 5048), (0, 0, .ofNat 0), (0, 0, .ofNat 0)), 0, 0)]
set_option maxRecDepth 1000000 in
theorem cv746 {gh : sxGh} (hg : sxGd sxKw gh) : sxCtV sxKw gh ct746 := sxMeB_ok (cts := [ct732, ct523, ct729, ct730]) (cuts := cu746) (sp := []) 179 (by decide +kernel) hg (by decide) (by decide) (List.forall_mem_cons.mpr ⟨cv732 hg, (List.forall_mem_cons.mpr ⟨cv523 hg, (List.forall_mem_cons.mpr ⟨cv729 hg, (List.forall_mem_cons.mpr ⟨cv730 hg, (fun _ h => absurd h List.not_mem_nil)⟩)⟩)⟩)⟩)
/-- LotBeliefs.Survey.take -/
def ct747 : sxCt := (69, 5, (2, [(1, .ofNat 0, .ofNat 63)], [], [(0, .inl 58), (1, .inl 3), (2, .inl 19), (3, .inr (false, (1, .ofNat 0))), (4, .inl 32)], [], [], [], []), [(21, 0), (22, 0), (25, 0), (26, 0), (32, 1), (32, 2), (32, 3), (32, 4), (32, 9), (32, 11), (32, 12), (58, 2), (58, 3), (58, 6), (58, 7), (33000037, 0), (59000061, 0)], [
  (3, [(2, .ofNat 0, .ofNat 63)], [(1, 2, .ofNat 0), (2, 1, .ofNat 0)], [], [], [(58, (0, .ofNat 1), .inr (false, (0, .ofNat 1))), (58, (0, .ofNat 2), .inr (false, (2, .ofNat 0)))], [], [])], [], 0, 0)
def cu747 : List sxCu := [
  (115, (7, [(1, .ofNat 0, .ofNat 63), (2, .ofNat 0, .ofNat 7), (3, .negSucc 0, .ofNat 5), (4, .ofNat 0, .ofNat 5040), (5, .ofNat 0, .ofNat 12), (6, .negSucc 2147483647, .ofNat 2147483647)], [(2, 5, .ofNat 0), (5, 2, .ofNat 5)], [(0, .inl 58), (1, .inl 3), (2, .inl 19), (3, .inr (false, (1, .ofNat 0))), (4, .inl 32), (5, .inr (false, (2, .ofNat 0))), (6, .inr (false, (3, .ofNat 0))), (7, .inr (false, (4, .ofNat 0)))], [], [(3, (0, .ofNat 2), .inr (false, (5, .ofNat 0))), (32, (0, .ofNat 0), .inl 3), (32, (0, .ofNat 1), .inl 19), (32, (0, .ofNat 2), .inr (false, (0, .ofNat 0))), (32, (0, .ofNat 3), .inr (false, (1, .ofNat 0))), (58, (0, .ofNat 0), .inr (false, (0, .ofNat 0))), (58, (0, .ofNat 1), .inr (false, (0, .ofNat 1))), (58, (0, .ofNat 2), .inr (false, (1, .ofNat 0))), (58, (0, .ofNat 3), .inl 59), (58, (0, .ofNat 5), .inr (false, (6, .ofNat 0))), (58, (0, .ofNat 7), .inl 61)], [], []), ((0, 4, .ofNat 5040), (0, 0, .ofNat 0), (0, 0, .ofNat 0)), 0, 0), 
  (34, (3, [(1, .ofNat 0, .ofNat 63), (2, .ofNat 0, .ofNat 128)], [], [(0, .inl 58), (1, .inl 3), (2, .inl 19), (3, .inr (false, (1, .ofNat 0))), (4, .inl 32), (5, .inr (false, (2, .ofNat 0)))], [], [(58, (0, .ofNat 1), .inr (false, (0, .ofNat 1))), (58, (0, .ofNat 2), .inr (false, (1, .ofNat 0))), (58, (0, .ofNat 5), .inr (false, (0, .negSucc 0)))], [], []), ((0, 2, .ofNat 5177), (0, 0, .ofNat 0), (0, 0, .ofNat 0)), 0, 0), 
  (75, (5, [(1, .ofNat 0, .ofNat 63), (2, .ofNat 0, .ofNat 7), (3, .ofNat 0, .ofNat 7), (4, .ofNat 0, .ofNat 12)], [(2, 4, .ofNat 0), (4, 2, .ofNat 5)], [(0, .inl 58), (1, .inl 3), (2, .inl 19), (3, .inr (false, (1, .ofNat 0))), (4, .inl 32), (5, .inr (false, (2, .ofNat 0))), (6, .inr (false, (3, .ofNat 0)))], [], [(3, (0, .ofNat 2), .inr (false, (4, .ofNat 0))), (58, (0, .ofNat 1), .inr (false, (0, .ofNat 1))), (58, (0, .ofNat 2), .inr (false, (1, .ofNat 0))), (58, (0, .ofNat 3), .inl 59), (58, (0, .ofNat 5), .inr (false, (0, .negSucc 0))), (58, (0, .ofNat 7), .inl 61)], [], []), ((0, 3, .ofNat 5048), (0, 0, .ofNat 0), (0, 0, .ofNat 0)), 0, 0)]
set_option maxRecDepth 1000000 in
theorem cv747 {gh : sxGh} (hg : sxGd sxKw gh) : sxCtV sxKw gh ct747 := sxMeB_ok (cts := [ct732, ct523, ct729, ct730]) (cuts := cu747) (sp := []) 179 (by decide +kernel) hg (by decide) (by decide) (List.forall_mem_cons.mpr ⟨cv732 hg, (List.forall_mem_cons.mpr ⟨cv523 hg, (List.forall_mem_cons.mpr ⟨cv729 hg, (List.forall_mem_cons.mpr ⟨cv730 hg, (fun _ h => absurd h List.not_mem_nil)⟩)⟩)⟩)⟩)
/-- LotBeliefs.ends -/
def ct748 : sxCt := (134, 6, (2, [(1, .negSucc 2147483647, .ofNat 2147483647)], [], [(0, .inl 0), (1, .inr (false, (1, .ofNat 0)))], [], [], [], []), [(21, 0), (22, 0), (25, 0), (26, 0), (30, 0), (32, 1), (32, 2), (32, 3), (32, 4), (32, 9), (32, 11), (32, 12), (58, 2), (58, 3), (58, 6), (58, 7), (62, 2), (62, 3), (62, 6), (62, 7), (66, 2), (66, 3), (66, 6), (66, 7), (70, 2), (70, 3), (70, 6), (70, 7), (74, 2), (74, 3), (74, 6), (74, 7), (33000037, 0), (59000061, 0), (63000065, 0), (67000069, 0), (71000073, 0), (75000077, 0)], [
  (3, [(1, .ofNat 0, .ofNat 2), (2, .ofNat 0, .ofNat 128)], [], [], [.inr (false, (2, .ofNat 0))], [], [], [])], [
  (1, (3, [(2, .negSucc 2147483647, .ofNat 2147483647)], [], [], [], [(30, (0, .ofNat 1), .inr (false, (2, .ofNat 0)))], [], [])), 
  (2, (3, [(1, .ofNat 0, .ofNat 2), (2, .negSucc 2147483647, .ofNat 2147483647)], [], [], [], [(30, (0, .ofNat 2), .inr (false, (2, .ofNat 0)))], [], []))], 1, 6)
def cu748 : List sxCu := []
set_option maxRecDepth 1000000 in
theorem cv748 {gh : sxGh} (hg : sxGd sxKw gh) : sxCtV sxKw gh ct748 := sxMeB_ok (cts := [ct655, ct659, ct694, ct698, ct577, ct581, ct733, ct737, ct738, ct739, ct740, ct741, ct742, ct743, ct616, ct620, ct744, ct745, ct746, ct747, ct658, ct697, ct580, ct736, ct619, ct657, ct696, ct579, ct735, ct618, ct656, ct695, ct578, ct734, ct617]) (cuts := cu748) (sp := []) 770 (by decide +kernel) hg (by decide) (by decide) (List.forall_mem_cons.mpr ⟨cv655 hg, (List.forall_mem_cons.mpr ⟨cv659 hg, (List.forall_mem_cons.mpr ⟨cv694 hg, (List.forall_mem_cons.mpr ⟨cv698 hg, (List.forall_mem_cons.mpr ⟨cv577 hg, (List.forall_mem_cons.mpr ⟨cv581 hg, (List.forall_mem_cons.mpr ⟨cv733 hg, (List.forall_mem_cons.mpr ⟨cv737 hg, (List.forall_mem_cons.mpr ⟨cv738 hg, (List.forall_mem_cons.mpr ⟨cv739 hg, (List.forall_mem_cons.mpr ⟨cv740 hg, (List.forall_mem_cons.mpr ⟨cv741 hg, (List.forall_mem_cons.mpr ⟨cv742 hg, (List.forall_mem_cons.mpr ⟨cv743 hg, (List.forall_mem_cons.mpr ⟨cv616 hg, (List.forall_mem_cons.mpr ⟨cv620 hg, (List.forall_mem_cons.mpr ⟨cv744 hg, (List.forall_mem_cons.mpr ⟨cv745 hg, (List.forall_mem_cons.mpr ⟨cv746 hg, (List.forall_mem_cons.mpr ⟨cv747 hg, (List.forall_mem_cons.mpr ⟨cv658 hg, (List.forall_mem_cons.mpr ⟨cv697 hg, (List.forall_mem_cons.mpr ⟨cv580 hg, (List.forall_mem_cons.mpr ⟨cv736 hg, (List.forall_mem_cons.mpr ⟨cv619 hg, (List.forall_mem_cons.mpr ⟨cv657 hg, (List.forall_mem_cons.mpr ⟨cv696 hg, (List.forall_mem_cons.mpr ⟨cv579 hg, (List.forall_mem_cons.mpr ⟨cv735 hg, (List.forall_mem_cons.mpr ⟨cv618 hg, (List.forall_mem_cons.mpr ⟨cv656 hg, (List.forall_mem_cons.mpr ⟨cv695 hg, (List.forall_mem_cons.mpr ⟨cv578 hg, (List.forall_mem_cons.mpr ⟨cv734 hg, (List.forall_mem_cons.mpr ⟨cv617 hg, (fun _ h => absurd h List.not_mem_nil)⟩)⟩)⟩)⟩)⟩)⟩)⟩)⟩)⟩)⟩)⟩)⟩)⟩)⟩)⟩)⟩)⟩)⟩)⟩)⟩)⟩)⟩)⟩)⟩)⟩)⟩)⟩)⟩)⟩)⟩)⟩)⟩)⟩)⟩)⟩)
/-- LotBeliefsModel.leaves -/
def ct802 : sxCt := (262, 0, (3, [(1, .ofNat 0, .ofNat 15), (2, .ofNat 1, .ofNat 17)], [], [(0, .inl 78), (1, .inr (false, (1, .ofNat 0)))], [], [(78, (0, .ofNat 44), .inr (false, (2, .ofNat 0)))], [(561, (2, .ofNat 0), .inr (false, .ofNat 0, .ofNat 6))], []), [(78, 45), (561, 0)], [
  (3, [], [], [], [], [(78, (0, .ofNat 44), .inr (false, (2, .negSucc 0)))], [(561, (2, .ofNat 0), .inr (false, .ofNat 0, .ofNat 6))], [])], [], 0, 0)
def cu802 : List sxCu := [
  (12, (4, [(1, .ofNat 0, .ofNat 15), (2, .ofNat 1, .ofNat 17), (3, .ofNat 0, .ofNat 16)], [(1, 3, .ofNat 0), (3, 2, .ofNat 14)], [(0, .inl 78), (1, .inr (false, (1, .ofNat 0))), (2, .inr (false, (3, .ofNat 0)))], [], [(78, (0, .ofNat 44), .inr (false, (2, .negSucc 0)))], [(561, (2, .ofNat 0), .inr (false, .ofNat 0, .ofNat 6))], []), ((0, 3, .ofNat 16), (0, 0, .ofNat 0), (0, 0, .ofNat 0)), 0, 0)]
set_option maxRecDepth 1000000 in
theorem cv802 {gh : sxGh} (hg : sxGd sxKw gh) : sxCtV sxKw gh ct802 := sxMeB_ok (cts := []) (cuts := cu802) (sp := []) 85 (by decide +kernel) hg (by decide) (by decide) (fun _ h => absurd h List.not_mem_nil)
/-- LotBeliefsModel.leaves -/
def ct811 : sxCt := (262, 0, (3, [(1, .ofNat 0, .ofNat 16), (2, .ofNat 1, .ofNat 17)], [], [(0, .inl 78), (1, .inr (false, (1, .ofNat 0)))], [], [(78, (0, .ofNat 44), .inr (false, (2, .ofNat 0)))], [(561, (2, .ofNat 0), .inr (false, .ofNat 0, .ofNat 6))], []), [(78, 45), (561, 0)], [
  (3, [], [], [], [], [(78, (0, .ofNat 44), .inr (false, (2, .negSucc 0)))], [(561, (2, .ofNat 0), .inr (false, .ofNat 0, .ofNat 6))], [])], [], 0, 0)
def cu811 : List sxCu := [
  (12, (4, [(1, .ofNat 0, .ofNat 16), (2, .ofNat 1, .ofNat 17), (3, .ofNat 0, .ofNat 16)], [(1, 3, .ofNat 0)], [(0, .inl 78), (1, .inr (false, (1, .ofNat 0))), (2, .inr (false, (3, .ofNat 0)))], [], [(78, (0, .ofNat 44), .inr (false, (2, .negSucc 0)))], [(561, (2, .ofNat 0), .inr (false, .ofNat 0, .ofNat 6))], []), ((0, 3, .ofNat 16), (0, 0, .ofNat 0), (0, 0, .ofNat 0)), 0, 0)]
set_option maxRecDepth 1000000 in
theorem cv811 {gh : sxGh} (hg : sxGd sxKw gh) : sxCtV sxKw gh ct811 := sxMeB_ok (cts := []) (cuts := cu811) (sp := []) 85 (by decide +kernel) hg (by decide) (by decide) (fun _ h => absurd h List.not_mem_nil)
/-- LotBeliefsModel.kills -/
def ct815 : sxCt := (263, 1, (3, [(1, .ofNat 0, .ofNat 51), (2, .ofNat 0, .ofNat 17)], [(2, 1, .ofNat 0)], [(0, .inl 78), (1, .inr (false, (1, .ofNat 0)))], [], [(78, (0, .ofNat 44), .inr (false, (2, .ofNat 0)))], [(561, (2, .ofNat 0), .inr (false, .ofNat 0, .ofNat 6))], []), [(78, 45), (78, 47), (561, 0), (563, 0)], [
  (4, [(3, .ofNat 0, .ofNat 17)], [(3, 1, .ofNat 0), (3, 2, .ofNat 0)], [], [], [(78, (0, .ofNat 44), .inr (false, (3, .ofNat 0)))], [(561, (3, .ofNat 0), .inr (false, .ofNat 0, .ofNat 6))], [])], [], 0, 0)
def cu815 : List sxCu := [
  (2, (5, [(1, .ofNat 0, .ofNat 51), (2, .ofNat 0, .ofNat 17), (3, .ofNat 0, .ofNat 17), (4, .ofNat 0, .ofNat 17)], [(4, 1, .ofNat 0), (4, 2, .ofNat 0), (2, 1, .ofNat 0)], [(0, .inl 78), (1, .inr (false, (1, .ofNat 0))), (2, .inr (false, (3, .ofNat 0)))], [], [(78, (0, .ofNat 44), .inr (false, (4, .ofNat 0)))], [(561, (4, .ofNat 0), .inr (false, .ofNat 0, .ofNat 6))], []), ((4, 3, .ofNat 17), (0, 0, .ofNat 0), (0, 0, .ofNat 0)), 0, 0)]
set_option maxRecDepth 1000000 in
theorem cv815 {gh : sxGh} (hg : sxGd sxKw gh) : sxCtV sxKw gh ct815 := sxMeB_ok (cts := [ct811]) (cuts := cu815) (sp := []) 121 (by decide +kernel) hg (by decide) (by decide) (List.forall_mem_cons.mpr ⟨cv811 hg, (fun _ h => absurd h List.not_mem_nil)⟩)
/-- LotBeliefsModel.ones -/
def ct817 : sxCt := (225, 0, (2, [(1, .ofNat 0, .ofNat 127)], [], [(0, .inr (true, (1, .ofNat 0)))], [], [], [], []), [], [
  (3, [(2, .negSucc 2147483647, .ofNat 2147483647)], [], [], [.inr (false, (2, .ofNat 0))], [], [], [])], [], 0, 0)
def cu817 : List sxCu := [
  (4, (4, [(1, .ofNat 0, .ofNat 127), (2, .negSucc 2147483647, .ofNat 2147483647), (3, .ofNat 0, .ofNat 64)], [], [(0, .inr (true, (1, .ofNat 0))), (2, .inr (false, (2, .ofNat 0))), (3, .inr (false, (3, .ofNat 0)))], [], [], [], []), ((0, 3, .ofNat 64), (0, 0, .ofNat 0), (0, 0, .ofNat 0)), 0, 0)]
set_option maxRecDepth 1000000 in
theorem cv817 {gh : sxGh} (hg : sxGd sxKw gh) : sxCtV sxKw gh ct817 := sxMeB_ok (cts := []) (cuts := cu817) (sp := []) 80 (by decide +kernel) hg (by decide) (by decide) (fun _ h => absurd h List.not_mem_nil)
/-- Integer.bitCount -/
def ct887 : sxCt := (328, 0, (2, [(1, .ofNat 0, .ofNat 39)], [], [(0, .inr (false, (1, .ofNat 0)))], [], [], [], []), [], [
  (3, [(2, .ofNat 0, .ofNat 63)], [], [], [.inr (false, (2, .ofNat 0))], [], [], [])], [], 0, 0)
def cu887 : List sxCu := []
set_option maxRecDepth 1000000 in
theorem cv887 {gh : sxGh} (hg : sxGd sxKw gh) : sxCtV sxKw gh ct887 := sxMeB_ok (cts := []) (cuts := cu887) (sp := []) 102 (by decide +kernel) hg (by decide) (by decide) (fun _ h => absurd h List.not_mem_nil)
/-- Integer.bitCount -/
def ct891 : sxCt := (328, 0, (2, [(1, .ofNat 0, .ofNat 63)], [], [(0, .inr (false, (1, .ofNat 0)))], [], [], [], []), [], [
  (3, [(2, .ofNat 0, .ofNat 63)], [], [], [.inr (false, (2, .ofNat 0))], [], [], [])], [], 0, 0)
def cu891 : List sxCu := []
set_option maxRecDepth 1000000 in
theorem cv891 {gh : sxGh} (hg : sxGd sxKw gh) : sxCtV sxKw gh ct891 := sxMeB_ok (cts := []) (cuts := cu891) (sp := []) 102 (by decide +kernel) hg (by decide) (by decide) (fun _ h => absurd h List.not_mem_nil)
/-- Integer.bitCount -/
def ct892 : sxCt := (328, 0, (2, [(1, .ofNat 0, .ofNat 64)], [], [(0, .inr (false, (1, .ofNat 0)))], [], [], [], []), [], [
  (3, [(2, .ofNat 0, .ofNat 63)], [], [], [.inr (false, (2, .ofNat 0))], [], [], [])], [], 0, 0)
def cu892 : List sxCu := []
set_option maxRecDepth 1000000 in
theorem cv892 {gh : sxGh} (hg : sxGd sxKw gh) : sxCtV sxKw gh ct892 := sxMeB_ok (cts := []) (cuts := cu892) (sp := []) 102 (by decide +kernel) hg (by decide) (by decide) (fun _ h => absurd h List.not_mem_nil)
/-- LotBeliefs.Survey.heldInAll -/
def ct893 : sxCt := (77, 1, (2, [(1, .ofNat 1, .ofNat 64)], [], [(0, .inl 74), (1, .inr (false, (1, .ofNat 0)))], [], [], [], []), [], [
  (3, [(2, .negSucc 2147483647, .ofNat 2147483647)], [], [], [.inr (false, (2, .ofNat 0))], [], [], [])], [], 0, 0)
def cu893 : List sxCu := [
  (4, (4, [(1, .ofNat 1, .ofNat 64), (2, .negSucc 2147483647, .ofNat 2147483647), (3, .ofNat 0, .ofNat 128)], [], [(0, .inl 74), (1, .inr (false, (1, .ofNat 0))), (2, .inr (false, (2, .ofNat 0))), (3, .inr (false, (3, .ofNat 0)))], [], [], [], []), ((0, 3, .ofNat 128), (0, 0, .ofNat 0), (0, 0, .ofNat 0)), 0, 0)]
set_option maxRecDepth 1000000 in
theorem cv893 {gh : sxGh} (hg : sxGd sxKw gh) : sxCtV sxKw gh ct893 := sxMeB_ok (cts := [ct892]) (cuts := cu893) (sp := []) 86 (by decide +kernel) hg (by decide) (by decide) (List.forall_mem_cons.mpr ⟨cv892 hg, (fun _ h => absurd h List.not_mem_nil)⟩)
/-- LotBeliefs.Survey.heldInAll -/
def ct895 : sxCt := (77, 1, (2, [(1, .ofNat 1, .ofNat 64)], [], [(0, .inl 70), (1, .inr (false, (1, .ofNat 0)))], [], [], [], []), [], [
  (3, [(2, .negSucc 2147483647, .ofNat 2147483647)], [], [], [.inr (false, (2, .ofNat 0))], [], [], [])], [], 0, 0)
def cu895 : List sxCu := [
  (4, (4, [(1, .ofNat 1, .ofNat 64), (2, .negSucc 2147483647, .ofNat 2147483647), (3, .ofNat 0, .ofNat 128)], [], [(0, .inl 70), (1, .inr (false, (1, .ofNat 0))), (2, .inr (false, (2, .ofNat 0))), (3, .inr (false, (3, .ofNat 0)))], [], [], [], []), ((0, 3, .ofNat 128), (0, 0, .ofNat 0), (0, 0, .ofNat 0)), 0, 0)]
set_option maxRecDepth 1000000 in
theorem cv895 {gh : sxGh} (hg : sxGd sxKw gh) : sxCtV sxKw gh ct895 := sxMeB_ok (cts := [ct892]) (cuts := cu895) (sp := []) 86 (by decide +kernel) hg (by decide) (by decide) (List.forall_mem_cons.mpr ⟨cv892 hg, (fun _ h => absurd h List.not_mem_nil)⟩)
/-- LotBeliefs.Survey.heldInAll -/
def ct896 : sxCt := (77, 1, (2, [(1, .ofNat 1, .ofNat 64)], [], [(0, .inl 66), (1, .inr (false, (1, .ofNat 0)))], [], [], [], []), [], [
  (3, [(2, .negSucc 2147483647, .ofNat 2147483647)], [], [], [.inr (false, (2, .ofNat 0))], [], [], [])], [], 0, 0)
def cu896 : List sxCu := [
  (4, (4, [(1, .ofNat 1, .ofNat 64), (2, .negSucc 2147483647, .ofNat 2147483647), (3, .ofNat 0, .ofNat 128)], [], [(0, .inl 66), (1, .inr (false, (1, .ofNat 0))), (2, .inr (false, (2, .ofNat 0))), (3, .inr (false, (3, .ofNat 0)))], [], [], [], []), ((0, 3, .ofNat 128), (0, 0, .ofNat 0), (0, 0, .ofNat 0)), 0, 0)]
set_option maxRecDepth 1000000 in
theorem cv896 {gh : sxGh} (hg : sxGd sxKw gh) : sxCtV sxKw gh ct896 := sxMeB_ok (cts := [ct892]) (cuts := cu896) (sp := []) 86 (by decide +kernel) hg (by decide) (by decide) (List.forall_mem_cons.mpr ⟨cv892 hg, (fun _ h => absurd h List.not_mem_nil)⟩)
/-- LotBeliefs.Survey.heldInAll -/
def ct897 : sxCt := (77, 1, (2, [(1, .ofNat 1, .ofNat 64)], [], [(0, .inl 62), (1, .inr (false, (1, .ofNat 0)))], [], [], [], []), [], [
  (3, [(2, .negSucc 2147483647, .ofNat 2147483647)], [], [], [.inr (false, (2, .ofNat 0))], [], [], [])], [], 0, 0)
def cu897 : List sxCu := [
  (4, (4, [(1, .ofNat 1, .ofNat 64), (2, .negSucc 2147483647, .ofNat 2147483647), (3, .ofNat 0, .ofNat 128)], [], [(0, .inl 62), (1, .inr (false, (1, .ofNat 0))), (2, .inr (false, (2, .ofNat 0))), (3, .inr (false, (3, .ofNat 0)))], [], [], [], []), ((0, 3, .ofNat 128), (0, 0, .ofNat 0), (0, 0, .ofNat 0)), 0, 0)]
set_option maxRecDepth 1000000 in
theorem cv897 {gh : sxGh} (hg : sxGd sxKw gh) : sxCtV sxKw gh ct897 := sxMeB_ok (cts := [ct892]) (cuts := cu897) (sp := []) 86 (by decide +kernel) hg (by decide) (by decide) (List.forall_mem_cons.mpr ⟨cv892 hg, (fun _ h => absurd h List.not_mem_nil)⟩)
/-- LotBeliefs.Survey.heldInAll -/
def ct898 : sxCt := (77, 1, (2, [(1, .ofNat 1, .ofNat 64)], [], [(0, .inl 58), (1, .inr (false, (1, .ofNat 0)))], [], [], [], []), [], [
  (3, [(2, .negSucc 2147483647, .ofNat 2147483647)], [], [], [.inr (false, (2, .ofNat 0))], [], [], [])], [], 0, 0)
def cu898 : List sxCu := [
  (4, (4, [(1, .ofNat 1, .ofNat 64), (2, .negSucc 2147483647, .ofNat 2147483647), (3, .ofNat 0, .ofNat 128)], [], [(0, .inl 58), (1, .inr (false, (1, .ofNat 0))), (2, .inr (false, (2, .ofNat 0))), (3, .inr (false, (3, .ofNat 0)))], [], [], [], []), ((0, 3, .ofNat 128), (0, 0, .ofNat 0), (0, 0, .ofNat 0)), 0, 0)]
set_option maxRecDepth 1000000 in
theorem cv898 {gh : sxGh} (hg : sxGd sxKw gh) : sxCtV sxKw gh ct898 := sxMeB_ok (cts := [ct892]) (cuts := cu898) (sp := []) 86 (by decide +kernel) hg (by decide) (by decide) (List.forall_mem_cons.mpr ⟨cv892 hg, (fun _ h => absurd h List.not_mem_nil)⟩)
/-- Integer.bitCount -/
def ct899 : sxCt := (328, 0, (2, [(1, .ofNat 0, .ofNat 127)], [], [(0, .inr (false, (1, .ofNat 0)))], [], [], [], []), [], [
  (3, [(2, .ofNat 0, .ofNat 63)], [], [], [.inr (false, (2, .ofNat 0))], [], [], [])], [], 0, 0)
def cu899 : List sxCu := []
set_option maxRecDepth 1000000 in
theorem cv899 {gh : sxGh} (hg : sxGd sxKw gh) : sxCtV sxKw gh ct899 := sxMeB_ok (cts := []) (cuts := cu899) (sp := []) 102 (by decide +kernel) hg (by decide) (by decide) (fun _ h => absurd h List.not_mem_nil)
/-- LotBeliefs.Survey.bestEnd -/
def ct900 : sxCt := (78, 1, (2, [(1, .ofNat 0, .ofNat 4095)], [], [(0, .inl 74), (1, .inr (false, (1, .ofNat 0)))], [], [], [], []), [], [
  (3, [(2, .ofNat 0, .ofNat 127)], [], [], [.inr (false, (2, .ofNat 0))], [], [], [])], [], 0, 0)
def cu900 : List sxCu := [
  (7, (5, [(1, .ofNat 0, .ofNat 4095), (2, .ofNat 0, .ofNat 127), (3, .negSucc 0, .ofNat 63), (4, .ofNat 0, .ofNat 128)], [(2, 4, .ofNat 0)], [(0, .inl 74), (1, .inr (false, (1, .ofNat 0))), (2, .inr (false, (2, .ofNat 0))), (3, .inr (false, (3, .ofNat 0))), (4, .inr (false, (4, .ofNat 0)))], [], [], [], []), ((0, 4, .ofNat 128), (0, 0, .ofNat 0), (0, 0, .ofNat 0)), 0, 0)]
set_option maxRecDepth 1000000 in
theorem cv900 {gh : sxGh} (hg : sxGd sxKw gh) : sxCtV sxKw gh ct900 := sxMeB_ok (cts := [ct899]) (cuts := cu900) (sp := []) 122 (by decide +kernel) hg (by decide) (by decide) (List.forall_mem_cons.mpr ⟨cv899 hg, (fun _ h => absurd h List.not_mem_nil)⟩)
/-- LotBeliefs.Survey.bestEnd -/
def ct901 : sxCt := (78, 1, (2, [(1, .ofNat 0, .ofNat 4095)], [], [(0, .inl 70), (1, .inr (false, (1, .ofNat 0)))], [], [], [], []), [], [
  (3, [(2, .ofNat 0, .ofNat 127)], [], [], [.inr (false, (2, .ofNat 0))], [], [], [])], [], 0, 0)
def cu901 : List sxCu := [
  (7, (5, [(1, .ofNat 0, .ofNat 4095), (2, .ofNat 0, .ofNat 127), (3, .negSucc 0, .ofNat 63), (4, .ofNat 0, .ofNat 128)], [(2, 4, .ofNat 0)], [(0, .inl 70), (1, .inr (false, (1, .ofNat 0))), (2, .inr (false, (2, .ofNat 0))), (3, .inr (false, (3, .ofNat 0))), (4, .inr (false, (4, .ofNat 0)))], [], [], [], []), ((0, 4, .ofNat 128), (0, 0, .ofNat 0), (0, 0, .ofNat 0)), 0, 0)]
set_option maxRecDepth 1000000 in
theorem cv901 {gh : sxGh} (hg : sxGd sxKw gh) : sxCtV sxKw gh ct901 := sxMeB_ok (cts := [ct899]) (cuts := cu901) (sp := []) 122 (by decide +kernel) hg (by decide) (by decide) (List.forall_mem_cons.mpr ⟨cv899 hg, (fun _ h => absurd h List.not_mem_nil)⟩)
/-- LotBeliefs.Survey.bestEnd -/
def ct902 : sxCt := (78, 1, (2, [(1, .ofNat 0, .ofNat 4095)], [], [(0, .inl 66), (1, .inr (false, (1, .ofNat 0)))], [], [], [], []), [], [
  (3, [(2, .ofNat 0, .ofNat 127)], [], [], [.inr (false, (2, .ofNat 0))], [], [], [])], [], 0, 0)
def cu902 : List sxCu := [
  (7, (5, [(1, .ofNat 0, .ofNat 4095), (2, .ofNat 0, .ofNat 127), (3, .negSucc 0, .ofNat 63), (4, .ofNat 0, .ofNat 128)], [(2, 4, .ofNat 0)], [(0, .inl 66), (1, .inr (false, (1, .ofNat 0))), (2, .inr (false, (2, .ofNat 0))), (3, .inr (false, (3, .ofNat 0))), (4, .inr (false, (4, .ofNat 0)))], [], [], [], []), ((0, 4, .ofNat 128), (0, 0, .ofNat 0), (0, 0, .ofNat 0)), 0, 0)]
set_option maxRecDepth 1000000 in
theorem cv902 {gh : sxGh} (hg : sxGd sxKw gh) : sxCtV sxKw gh ct902 := sxMeB_ok (cts := [ct899]) (cuts := cu902) (sp := []) 122 (by decide +kernel) hg (by decide) (by decide) (List.forall_mem_cons.mpr ⟨cv899 hg, (fun _ h => absurd h List.not_mem_nil)⟩)
/-- LotBeliefs.Survey.bestEnd -/
def ct903 : sxCt := (78, 1, (2, [(1, .ofNat 0, .ofNat 4095)], [], [(0, .inl 62), (1, .inr (false, (1, .ofNat 0)))], [], [], [], []), [], [
  (3, [(2, .ofNat 0, .ofNat 127)], [], [], [.inr (false, (2, .ofNat 0))], [], [], [])], [], 0, 0)
def cu903 : List sxCu := [
  (7, (5, [(1, .ofNat 0, .ofNat 4095), (2, .ofNat 0, .ofNat 127), (3, .negSucc 0, .ofNat 63), (4, .ofNat 0, .ofNat 128)], [(2, 4, .ofNat 0)], [(0, .inl 62), (1, .inr (false, (1, .ofNat 0))), (2, .inr (false, (2, .ofNat 0))), (3, .inr (false, (3, .ofNat 0))), (4, .inr (false, (4, .ofNat 0)))], [], [], [], []), ((0, 4, .ofNat 128), (0, 0, .ofNat 0), (0, 0, .ofNat 0)), 0, 0)]
set_option maxRecDepth 1000000 in
theorem cv903 {gh : sxGh} (hg : sxGd sxKw gh) : sxCtV sxKw gh ct903 := sxMeB_ok (cts := [ct899]) (cuts := cu903) (sp := []) 122 (by decide +kernel) hg (by decide) (by decide) (List.forall_mem_cons.mpr ⟨cv899 hg, (fun _ h => absurd h List.not_mem_nil)⟩)
/-- LotBeliefs.Survey.bestEnd -/
def ct904 : sxCt := (78, 1, (2, [(1, .ofNat 0, .ofNat 4095)], [], [(0, .inl 58), (1, .inr (false, (1, .ofNat 0)))], [], [], [], []), [], [
  (3, [(2, .ofNat 0, .ofNat 127)], [], [], [.inr (false, (2, .ofNat 0))], [], [], [])], [], 0, 0)
def cu904 : List sxCu := [
  (7, (5, [(1, .ofNat 0, .ofNat 4095), (2, .ofNat 0, .ofNat 127), (3, .negSucc 0, .ofNat 63), (4, .ofNat 0, .ofNat 128)], [(2, 4, .ofNat 0)], [(0, .inl 58), (1, .inr (false, (1, .ofNat 0))), (2, .inr (false, (2, .ofNat 0))), (3, .inr (false, (3, .ofNat 0))), (4, .inr (false, (4, .ofNat 0)))], [], [], [], []), ((0, 4, .ofNat 128), (0, 0, .ofNat 0), (0, 0, .ofNat 0)), 0, 0)]
set_option maxRecDepth 1000000 in
theorem cv904 {gh : sxGh} (hg : sxGd sxKw gh) : sxCtV sxKw gh ct904 := sxMeB_ok (cts := [ct899]) (cuts := cu904) (sp := []) 122 (by decide +kernel) hg (by decide) (by decide) (List.forall_mem_cons.mpr ⟨cv899 hg, (fun _ h => absurd h List.not_mem_nil)⟩)
/-- LotBeliefs.best -/
def ct905 : sxCt := (136, 6, (1, [], [], [(0, .inl 0)], [], [], [], []), [(21, 0), (22, 0), (25, 0), (26, 0), (28, 0), (30, 0), (32, 1), (32, 2), (32, 3), (32, 4), (32, 9), (32, 11), (32, 12), (58, 2), (58, 3), (58, 6), (58, 7), (62, 2), (62, 3), (62, 6), (62, 7), (66, 2), (66, 3), (66, 6), (66, 7), (70, 2), (70, 3), (70, 6), (70, 7), (74, 2), (74, 3), (74, 6), (74, 7), (33000037, 0), (59000061, 0), (63000065, 0), (67000069, 0), (71000073, 0), (75000077, 0)], [
  (2, [(1, .ofNat 0, .ofNat 63)], [], [], [.inr (false, (1, .ofNat 0))], [], [], [])], [
  (2, (2, [(1, .negSucc 2147483647, .ofNat 2147483647)], [], [], [], [(30, (0, .ofNat 2), .inr (false, (1, .ofNat 0)))], [], []))], 1, 6)
def cu905 : List sxCu := []
set_option maxRecDepth 1000000 in
theorem cv905 {gh : sxGh} (hg : sxGd sxKw gh) : sxCtV sxKw gh ct905 := sxMeB_ok (cts := [ct521, ct380, ct577, ct581, ct655, ct659, ct733, ct737, ct738, ct739, ct740, ct741, ct742, ct743, ct616, ct744, ct745, ct746, ct620, ct747, ct694, ct698, ct900, ct901, ct902, ct903, ct904, ct384, ct899]) (cuts := cu905) (sp := []) 1078 (by decide +kernel) hg (by decide) (by decide) (List.forall_mem_cons.mpr ⟨cv521 hg, (List.forall_mem_cons.mpr ⟨cv380 hg, (List.forall_mem_cons.mpr ⟨cv577 hg, (List.forall_mem_cons.mpr ⟨cv581 hg, (List.forall_mem_cons.mpr ⟨cv655 hg, (List.forall_mem_cons.mpr ⟨cv659 hg, (List.forall_mem_cons.mpr ⟨cv733 hg, (List.forall_mem_cons.mpr ⟨cv737 hg, (List.forall_mem_cons.mpr ⟨cv738 hg, (List.forall_mem_cons.mpr ⟨cv739 hg, (List.forall_mem_cons.mpr ⟨cv740 hg, (List.forall_mem_cons.mpr ⟨cv741 hg, (List.forall_mem_cons.mpr ⟨cv742 hg, (List.forall_mem_cons.mpr ⟨cv743 hg, (List.forall_mem_cons.mpr ⟨cv616 hg, (List.forall_mem_cons.mpr ⟨cv744 hg, (List.forall_mem_cons.mpr ⟨cv745 hg, (List.forall_mem_cons.mpr ⟨cv746 hg, (List.forall_mem_cons.mpr ⟨cv620 hg, (List.forall_mem_cons.mpr ⟨cv747 hg, (List.forall_mem_cons.mpr ⟨cv694 hg, (List.forall_mem_cons.mpr ⟨cv698 hg, (List.forall_mem_cons.mpr ⟨cv900 hg, (List.forall_mem_cons.mpr ⟨cv901 hg, (List.forall_mem_cons.mpr ⟨cv902 hg, (List.forall_mem_cons.mpr ⟨cv903 hg, (List.forall_mem_cons.mpr ⟨cv904 hg, (List.forall_mem_cons.mpr ⟨cv384 hg, (List.forall_mem_cons.mpr ⟨cv899 hg, (fun _ h => absurd h List.not_mem_nil)⟩)⟩)⟩)⟩)⟩)⟩)⟩)⟩)⟩)⟩)⟩)⟩)⟩)⟩)⟩)⟩)⟩)⟩)⟩)⟩)⟩)⟩)⟩)⟩)⟩)⟩)⟩)⟩)⟩)
/-- LotBeliefs.Subsets.fill -/
def ct907 : sxCt := (58, 0, (2, [(1, .ofNat 0, .ofNat 51)], [], [(0, .inl 45), (1, .inl 11), (2, .inr (false, (1, .ofNat 0)))], [], [], [], []), [(45, 2), (45, 3), (46, 0)], [
  (5, [(2, .ofNat 0, .ofNat 12), (3, .ofNat 1, .ofNat 4096), (4, .negSucc 9223372036854775807, .ofNat 9223372036854775807)], [], [], [], [(45, (0, .ofNat 1), .inr (false, (2, .ofNat 0))), (45, (0, .ofNat 2), .inr (false, (3, .ofNat 0))), (46, (0, .ofNat 0), .inr (true, (4, .ofNat 0)))], [], [])], [], 0, 0)
def cu907 : List sxCu := [
  (40, (6, [(1, .ofNat 0, .ofNat 51), (2, .ofNat 0, .ofNat 12), (3, .ofNat 0, .ofNat 12), (4, .ofNat 1, .ofNat 4096), (5, .negSucc 9223372036854775807, .ofNat 9223372036854775807)], [], [(0, .inl 45), (1, .inl 11), (2, .inr (false, (1, .ofNat 0))), (3, .inr (false, (2, .ofNat 0)))], [], [(11, (0, .ofNat 2), .inr (false, (3, .ofNat 0))), (11, (0, .ofNat 11), .inl 16), (45, (0, .ofNat 0), .inl 46), (45, (0, .ofNat 1), .inr (false, (3, .ofNat 0))), (45, (0, .ofNat 2), .inr (false, (4, .ofNat 0))), (46, (0, .ofNat 0), .inr (true, (5, .ofNat 0)))], [], []), ((0, 2, .ofNat 12), (0, 0, .ofNat 4096), (0, 0, .ofNat 0)), 0, 0), 
  (56, (8, [(1, .ofNat 0, .ofNat 51), (2, .ofNat 0, .ofNat 11), (3, .ofNat 1, .ofNat 4095), (4, .ofNat 0, .ofNat 4095), (5, .ofNat 1, .ofNat 12), (6, .ofNat 1, .ofNat 4096), (7, .negSucc 9223372036854775807, .ofNat 9223372036854775807)], [(2, 5, .negSucc 0)], [(0, .inl 45), (1, .inl 11), (2, .inr (false, (1, .ofNat 0))), (3, .inr (false, (2, .ofNat 0))), (4, .inr (false, (3, .ofNat 0))), (5, .inr (false, (4, .ofNat 0)))], [], [(11, (0, .ofNat 2), .inr (false, (5, .ofNat 0))), (11, (0, .ofNat 11), .inl 16), (45, (0, .ofNat 0), .inl 46), (45, (0, .ofNat 1), .inr (false, (5, .ofNat 0))), (45, (0, .ofNat 2), .inr (false, (6, .ofNat 0))), (46, (0, .ofNat 0), .inr (true, (7, .ofNat 0)))], [], []), ((0, 2, .ofNat 12), (0, 4, .ofNat 4095), (0, 0, .ofNat 0)), 0, 0)]
set_option maxRecDepth 1000000 in
theorem cv907 {gh : sxGh} (hg : sxGd sxKw gh) : sxCtV sxKw gh ct907 := sxMeB_ok (cts := []) (cuts := cu907) (sp := []) 126 (by decide +kernel) hg (by decide) (by decide) (fun _ h => absurd h List.not_mem_nil)
/-- LotBeliefs.Subsets.core -/
def ct912 : sxCt := (61, 1, (1, [], [], [(0, .inl 45)], [], [], [], []), [], [
  (2, [(1, .negSucc 0, .ofNat 4095)], [], [], [.inr (false, (1, .ofNat 0))], [], [], [])], [], 0, 0)
def cu912 : List sxCu := [
  (7, (4, [(1, .negSucc 0, .ofNat 4095), (2, .ofNat 0, .ofNat 63), (3, .ofNat 0, .ofNat 4096)], [(1, 3, .negSucc 0)], [(0, .inl 45), (1, .inr (false, (1, .ofNat 0))), (2, .inr (false, (2, .ofNat 0))), (3, .inr (false, (3, .ofNat 0)))], [], [], [], []), ((0, 3, .ofNat 4096), (0, 0, .ofNat 0), (0, 0, .ofNat 0)), 0, 0)]
set_option maxRecDepth 1000000 in
theorem cv912 {gh : sxGh} (hg : sxGd sxKw gh) : sxCtV sxKw gh ct912 := sxMeB_ok (cts := [ct522]) (cuts := cu912) (sp := []) 100 (by decide +kernel) hg (by decide) (by decide) (List.forall_mem_cons.mpr ⟨cv522 hg, (fun _ h => absurd h List.not_mem_nil)⟩)
/-- LotBeliefs.Subsets.isWhole -/
def ct938 : sxCt := (65, 0, (2, [(1, .ofNat 0, .ofNat 4095)], [], [(0, .inl 45), (1, .inr (false, (1, .ofNat 0)))], [], [], [], []), [], [
  (2, [], [], [], [.inr (false, (0, .ofNat 0))], [], [], []), 
  (2, [], [], [], [.inr (false, (0, .ofNat 1))], [], [], [])], [], 0, 0)
def cu938 : List sxCu := [
  (15, (3, [(1, .ofNat 0, .ofNat 4095), (2, .ofNat 0, .ofNat 12)], [], [(0, .inl 45), (1, .inr (false, (1, .ofNat 0))), (2, .inr (false, (2, .ofNat 0)))], [], [(45, (0, .ofNat 0), .inl 46)], [], []), ((0, 2, .ofNat 12), (0, 0, .ofNat 0), (0, 0, .ofNat 0)), 0, 0)]
set_option maxRecDepth 1000000 in
theorem cv938 {gh : sxGh} (hg : sxGd sxKw gh) : sxCtV sxKw gh ct938 := sxMeB_ok (cts := []) (cuts := cu938) (sp := []) 112 (by decide +kernel) hg (by decide) (by decide) (fun _ h => absurd h List.not_mem_nil)
/-- LotBeliefs.Subsets.wholes -/
def ct939 : sxCt := (63, 1, (1, [], [], [(0, .inl 45)], [], [], [], []), [], [
  (2, [(1, .ofNat 0, .ofNat 4096)], [], [], [.inr (false, (1, .ofNat 0))], [], [], [])], [], 0, 0)
def cu939 : List sxCu := [
  (4, (3, [(1, .ofNat 0, .ofNat 4096), (2, .ofNat 0, .ofNat 4096)], [(1, 2, .ofNat 0)], [(0, .inl 45), (1, .inr (false, (1, .ofNat 0))), (2, .inr (false, (2, .ofNat 0)))], [], [], [], []), ((0, 2, .ofNat 4096), (0, 0, .ofNat 0), (0, 0, .ofNat 0)), 0, 0)]
set_option maxRecDepth 1000000 in
theorem cv939 {gh : sxGh} (hg : sxGd sxKw gh) : sxCtV sxKw gh ct939 := sxMeB_ok (cts := [ct938]) (cuts := cu939) (sp := []) 81 (by decide +kernel) hg (by decide) (by decide) (List.forall_mem_cons.mpr ⟨cv938 hg, (fun _ h => absurd h List.not_mem_nil)⟩)
/-- LotBeliefs.Subsets.greatest -/
def ct940 : sxCt := (60, 1, (1, [], [], [(0, .inl 45)], [], [], [], []), [], [
  (2, [(1, .negSucc 0, .ofNat 4095)], [], [], [.inr (false, (1, .ofNat 0))], [], [], [])], [], 0, 0)
def cu940 : List sxCu := [
  (6, (4, [(1, .negSucc 0, .ofNat 4095), (2, .negSucc 0, .ofNat 63), (3, .ofNat 0, .ofNat 4096)], [(1, 3, .negSucc 0)], [(0, .inl 45), (1, .inr (false, (1, .ofNat 0))), (2, .inr (false, (2, .ofNat 0))), (3, .inr (false, (3, .ofNat 0)))], [], [], [], []), ((0, 3, .ofNat 4096), (0, 0, .ofNat 0), (0, 0, .ofNat 0)), 0, 0)]
set_option maxRecDepth 1000000 in
theorem cv940 {gh : sxGh} (hg : sxGd sxKw gh) : sxCtV sxKw gh ct940 := sxMeB_ok (cts := [ct522]) (cuts := cu940) (sp := []) 113 (by decide +kernel) hg (by decide) (by decide) (List.forall_mem_cons.mpr ⟨cv522 hg, (fun _ h => absurd h List.not_mem_nil)⟩)
/-- LotBeliefs.Subsets.fitting -/
def ct941 : sxCt := (59, 0, (1, [], [], [(0, .inl 45)], [], [], [], []), [], [
  (2, [(1, .ofNat 0, .ofNat 4096)], [], [], [.inr (false, (1, .ofNat 0))], [], [], [])], [], 0, 0)
def cu941 : List sxCu := [
  (4, (3, [(1, .ofNat 0, .ofNat 4096), (2, .ofNat 0, .ofNat 4096)], [(1, 2, .ofNat 0)], [(0, .inl 45), (1, .inr (false, (1, .ofNat 0))), (2, .inr (false, (2, .ofNat 0)))], [], [], [], []), ((0, 2, .ofNat 4096), (0, 0, .ofNat 0), (0, 0, .ofNat 0)), 0, 0)]
set_option maxRecDepth 1000000 in
theorem cv941 {gh : sxGh} (hg : sxGd sxKw gh) : sxCtV sxKw gh ct941 := sxMeB_ok (cts := []) (cuts := cu941) (sp := []) 87 (by decide +kernel) hg (by decide) (by decide) (fun _ h => absurd h List.not_mem_nil)
/-- LotBeliefs.Subsets.fill -/
def ct942 : sxCt := (58, 0, (2, [(1, .ofNat 0, .ofNat 51)], [], [(0, .inl 45), (1, .inl 3), (2, .inr (false, (1, .ofNat 0)))], [], [], [], []), [(45, 2), (45, 3), (46, 0)], [
  (5, [(2, .ofNat 0, .ofNat 12), (3, .ofNat 1, .ofNat 4096), (4, .negSucc 9223372036854775807, .ofNat 9223372036854775807)], [], [], [], [(45, (0, .ofNat 1), .inr (false, (2, .ofNat 0))), (45, (0, .ofNat 2), .inr (false, (3, .ofNat 0))), (46, (0, .ofNat 0), .inr (true, (4, .ofNat 0)))], [], [])], [], 0, 0)
def cu942 : List sxCu := [
  (40, (6, [(1, .ofNat 0, .ofNat 51), (2, .ofNat 0, .ofNat 12), (3, .ofNat 0, .ofNat 12), (4, .ofNat 1, .ofNat 4096), (5, .negSucc 9223372036854775807, .ofNat 9223372036854775807)], [], [(0, .inl 45), (1, .inl 3), (2, .inr (false, (1, .ofNat 0))), (3, .inr (false, (2, .ofNat 0)))], [], [(3, (0, .ofNat 2), .inr (false, (3, .ofNat 0))), (3, (0, .ofNat 11), .inl 8), (45, (0, .ofNat 0), .inl 46), (45, (0, .ofNat 1), .inr (false, (3, .ofNat 0))), (45, (0, .ofNat 2), .inr (false, (4, .ofNat 0))), (46, (0, .ofNat 0), .inr (true, (5, .ofNat 0)))], [], []), ((0, 2, .ofNat 12), (0, 0, .ofNat 4096), (0, 0, .ofNat 0)), 0, 0), 
  (56, (8, [(1, .ofNat 0, .ofNat 51), (2, .ofNat 0, .ofNat 11), (3, .ofNat 1, .ofNat 4095), (4, .ofNat 0, .ofNat 4095), (5, .ofNat 1, .ofNat 12), (6, .ofNat 1, .ofNat 4096), (7, .negSucc 9223372036854775807, .ofNat 9223372036854775807)], [(2, 5, .negSucc 0)], [(0, .inl 45), (1, .inl 3), (2, .inr (false, (1, .ofNat 0))), (3, .inr (false, (2, .ofNat 0))), (4, .inr (false, (3, .ofNat 0))), (5, .inr (false, (4, .ofNat 0)))], [], [(3, (0, .ofNat 2), .inr (false, (5, .ofNat 0))), (3, (0, .ofNat 11), .inl 8), (45, (0, .ofNat 0), .inl 46), (45, (0, .ofNat 1), .inr (false, (5, .ofNat 0))), (45, (0, .ofNat 2), .inr (false, (6, .ofNat 0))), (46, (0, .ofNat 0), .inr (true, (7, .ofNat 0)))], [], []), ((0, 2, .ofNat 12), (0, 4, .ofNat 4095), (0, 0, .ofNat 0)), 0, 0)]
set_option maxRecDepth 1000000 in
theorem cv942 {gh : sxGh} (hg : sxGd sxKw gh) : sxCtV sxKw gh ct942 := sxMeB_ok (cts := []) (cuts := cu942) (sp := []) 126 (by decide +kernel) hg (by decide) (by decide) (fun _ h => absurd h List.not_mem_nil)
/-- LotBeliefs.sets -/
def ct943 : sxCt := (138, 3, (3, [(1, .negSucc 2147483647, .ofNat 2147483647), (2, .negSucc 2147483647, .ofNat 2147483647)], [], [(0, .inl 0), (1, .inr (false, (1, .ofNat 0))), (2, .inr (false, (2, .ofNat 0)))], [], [], [], []), [(30, 0), (45, 2), (45, 3), (46, 0)], [
  (7, [(1, .ofNat 0, .ofNat 51), (2, .ofNat 0, .ofNat 3), (3, .negSucc 0, .ofNat 4096), (4, .ofNat 0, .ofNat 12), (5, .ofNat 1, .ofNat 4096), (6, .negSucc 9223372036854775807, .ofNat 9223372036854775807)], [], [], [.inr (false, (3, .ofNat 0))], [(45, (0, .ofNat 1), .inr (false, (4, .ofNat 0))), (45, (0, .ofNat 2), .inr (false, (5, .ofNat 0))), (46, (0, .ofNat 0), .inr (true, (6, .ofNat 0)))], [], [])], [
  (1, (4, [(3, .negSucc 2147483647, .ofNat 2147483647)], [], [], [], [(30, (0, .ofNat 1), .inr (false, (3, .ofNat 0)))], [], []))], 1, 6)
def cu943 : List sxCu := []
set_option maxRecDepth 1000000 in
theorem cv943 {gh : sxGh} (hg : sxGd sxKw gh) : sxCtV sxKw gh ct943 := sxMeB_ok (cts := [ct907, ct942, ct941, ct940, ct912, ct939]) (cuts := cu943) (sp := []) 182 (by decide +kernel) hg (by decide) (by decide) (List.forall_mem_cons.mpr ⟨cv907 hg, (List.forall_mem_cons.mpr ⟨cv942 hg, (List.forall_mem_cons.mpr ⟨cv941 hg, (List.forall_mem_cons.mpr ⟨cv940 hg, (List.forall_mem_cons.mpr ⟨cv912 hg, (List.forall_mem_cons.mpr ⟨cv939 hg, (fun _ h => absurd h List.not_mem_nil)⟩)⟩)⟩)⟩)⟩)⟩)
/-- LotBeliefsModel.ones -/
def ct991 : sxCt := (225, 0, (2, [(1, .ofNat 0, .ofNat 39)], [], [(0, .inr (true, (1, .ofNat 0)))], [], [], [], []), [], [
  (3, [(2, .negSucc 2147483647, .ofNat 2147483647)], [], [], [.inr (false, (2, .ofNat 0))], [], [], [])], [], 0, 0)
def cu991 : List sxCu := [
  (4, (4, [(1, .ofNat 0, .ofNat 39), (2, .negSucc 2147483647, .ofNat 2147483647), (3, .ofNat 0, .ofNat 64)], [], [(0, .inr (true, (1, .ofNat 0))), (2, .inr (false, (2, .ofNat 0))), (3, .inr (false, (3, .ofNat 0)))], [], [], [], []), ((0, 3, .ofNat 64), (0, 0, .ofNat 0), (0, 0, .ofNat 0)), 0, 0)]
set_option maxRecDepth 1000000 in
theorem cv991 {gh : sxGh} (hg : sxGd sxKw gh) : sxCtV sxKw gh ct991 := sxMeB_ok (cts := []) (cuts := cu991) (sp := []) 80 (by decide +kernel) hg (by decide) (by decide) (fun _ h => absurd h List.not_mem_nil)
/-- LotBeliefsModel.ones -/
def ct1007 : sxCt := (225, 0, (2, [(1, .ofNat 0, .ofNat 63)], [], [(0, .inr (true, (1, .ofNat 0)))], [], [], [], []), [], [
  (3, [(2, .negSucc 2147483647, .ofNat 2147483647)], [], [], [.inr (false, (2, .ofNat 0))], [], [], [])], [], 0, 0)
def cu1007 : List sxCu := [
  (4, (4, [(1, .ofNat 0, .ofNat 63), (2, .negSucc 2147483647, .ofNat 2147483647), (3, .ofNat 0, .ofNat 64)], [], [(0, .inr (true, (1, .ofNat 0))), (2, .inr (false, (2, .ofNat 0))), (3, .inr (false, (3, .ofNat 0)))], [], [], [], []), ((0, 3, .ofNat 64), (0, 0, .ofNat 0), (0, 0, .ofNat 0)), 0, 0)]
set_option maxRecDepth 1000000 in
theorem cv1007 {gh : sxGh} (hg : sxGd sxKw gh) : sxCtV sxKw gh ct1007 := sxMeB_ok (cts := []) (cuts := cu1007) (sp := []) 80 (by decide +kernel) hg (by decide) (by decide) (fun _ h => absurd h List.not_mem_nil)
/-- LotBeliefsModel.isWhole -/
def ct1021 : sxCt := (300, 1, (3, [(1, .ofNat 0, .ofNat 4095), (2, .ofNat 0, .ofNat 51)], [], [(0, .inl 78), (1, .inr (false, (1, .ofNat 0))), (2, .inr (false, (2, .ofNat 0)))], [], [], [], []), [], [
  (3, [], [], [], [.inr (false, (0, .ofNat 0))], [], [], []), 
  (3, [], [], [], [.inr (false, (0, .ofNat 1))], [], [], [])], [], 0, 0)
def cu1021 : List sxCu := [
  (15, (4, [(1, .ofNat 0, .ofNat 4095), (2, .ofNat 0, .ofNat 51), (3, .ofNat 0, .ofNat 12)], [], [(0, .inl 78), (1, .inr (false, (1, .ofNat 0))), (2, .inr (false, (2, .ofNat 0))), (3, .inr (false, (3, .ofNat 0)))], [], [], [], []), ((0, 3, .ofNat 12), (0, 0, .ofNat 0), (0, 0, .ofNat 0)), 0, 0)]
set_option maxRecDepth 1000000 in
theorem cv1021 {gh : sxGh} (hg : sxGd sxKw gh) : sxCtV sxKw gh ct1021 := sxMeB_ok (cts := [ct527]) (cuts := cu1021) (sp := []) 112 (by decide +kernel) hg (by decide) (by decide) (List.forall_mem_cons.mpr ⟨cv527 hg, (fun _ h => absurd h List.not_mem_nil)⟩)
/-- LotBeliefsModel.sets -/
def ct1022 : sxCt := (301, 2, (3, [(1, .negSucc 2147483647, .ofNat 2147483647), (2, .negSucc 2147483647, .ofNat 2147483647)], [], [(0, .inl 78), (1, .inr (false, (1, .ofNat 0))), (2, .inr (false, (2, .ofNat 0)))], [], [], [], []), [(78, 1), (80, 0)], [
  (5, [(3, .negSucc 0, .ofNat 4096), (4, .ofNat 0, .ofNat 1)], [(4, 3, .ofNat 1)], [], [.inr (false, (3, .ofNat 0))], [(78, (0, .ofNat 0), .inr (false, (4, .ofNat 0)))], [], [])], [], 0, 0)
def cu1022 : List sxCu := [
  (51, (8, [(1, .ofNat 0, .ofNat 51), (2, .ofNat 0, .ofNat 3), (3, .ofNat 0, .ofNat 4096), (4, .negSucc 0, .ofNat 4095), (5, .ofNat 0, .ofNat 4096), (6, .negSucc 0, .ofNat 4095), (7, .ofNat 0, .ofNat 4096)], [(3, 7, .ofNat 0), (4, 7, .negSucc 0), (5, 3, .ofNat 0), (5, 7, .ofNat 0), (6, 7, .negSucc 0)], [(0, .inl 78), (1, .inr (false, (1, .ofNat 0))), (2, .inr (false, (2, .ofNat 0))), (3, .inr (false, (3, .ofNat 0))), (4, .inr (false, (4, .ofNat 0))), (5, .inr (false, (5, .ofNat 0))), (6, .inr (false, (6, .ofNat 0))), (7, .inr (false, (7, .ofNat 0)))], [], [(78, (0, .ofNat 0), .inr (false, (0, .ofNat 0)))], [], []), ((0, 7, .ofNat 4096), (0, 0, .ofNat 0), (0, 0, .ofNat 0)), 0, 0)]
set_option maxRecDepth 1000000 in
theorem cv1022 {gh : sxGh} (hg : sxGd sxKw gh) : sxCtV sxKw gh ct1022 := sxMeB_ok (cts := [ct528, ct527, ct1021]) (cuts := cu1022) (sp := []) 560 (by decide +kernel) hg (by decide) (by decide) (List.forall_mem_cons.mpr ⟨cv528 hg, (List.forall_mem_cons.mpr ⟨cv527 hg, (List.forall_mem_cons.mpr ⟨cv1021 hg, (fun _ h => absurd h List.not_mem_nil)⟩)⟩)⟩)
/-- LotBeliefsModel.sets -/
def ct1023 : sxCt := (301, 2, (3, [(1, .ofNat 0, .ofNat 51), (2, .ofNat 0, .ofNat 3)], [], [(0, .inl 78), (1, .inr (false, (1, .ofNat 0))), (2, .inr (false, (2, .ofNat 0)))], [], [], [], []), [(78, 1)], [
  (4, [(3, .negSucc 0, .ofNat 4096)], [], [], [.inr (false, (3, .ofNat 0))], [(78, (0, .ofNat 0), .inr (false, (0, .ofNat 0)))], [], [])], [], 0, 0)
def cu1023 : List sxCu := [
  (51, (8, [(1, .ofNat 0, .ofNat 51), (2, .ofNat 0, .ofNat 3), (3, .ofNat 0, .ofNat 4096), (4, .negSucc 0, .ofNat 4095), (5, .ofNat 0, .ofNat 4096), (6, .negSucc 0, .ofNat 4095), (7, .ofNat 0, .ofNat 4096)], [(3, 7, .ofNat 0), (4, 7, .negSucc 0), (5, 3, .ofNat 0), (5, 7, .ofNat 0), (6, 7, .negSucc 0)], [(0, .inl 78), (1, .inr (false, (1, .ofNat 0))), (2, .inr (false, (2, .ofNat 0))), (3, .inr (false, (3, .ofNat 0))), (4, .inr (false, (4, .ofNat 0))), (5, .inr (false, (5, .ofNat 0))), (6, .inr (false, (6, .ofNat 0))), (7, .inr (false, (7, .ofNat 0)))], [], [(78, (0, .ofNat 0), .inr (false, (0, .ofNat 0)))], [], []), ((0, 7, .ofNat 4096), (0, 0, .ofNat 0), (0, 0, .ofNat 0)), 0, 0)]
set_option maxRecDepth 1000000 in
theorem cv1023 {gh : sxGh} (hg : sxGd sxKw gh) : sxCtV sxKw gh ct1023 := sxMeB_ok (cts := [ct528, ct527, ct1021]) (cuts := cu1023) (sp := []) 426 (by decide +kernel) hg (by decide) (by decide) (List.forall_mem_cons.mpr ⟨cv528 hg, (List.forall_mem_cons.mpr ⟨cv527 hg, (List.forall_mem_cons.mpr ⟨cv1021 hg, (fun _ h => absurd h List.not_mem_nil)⟩)⟩)⟩)
/-- LotBeliefsModel.whole -/
def ct1024 : sxCt := (302, 2, (3, [(1, .negSucc 2147483647, .ofNat 2147483647), (2, .negSucc 2147483647, .ofNat 2147483647)], [], [(0, .inl 78), (1, .inr (false, (1, .ofNat 0))), (2, .inr (false, (2, .ofNat 0)))], [], [], [], []), [(78, 1), (80, 0)], [
  (5, [(3, .negSucc 0, .ofNat 4095), (4, .ofNat 0, .ofNat 1)], [(4, 3, .ofNat 1)], [], [.inr (false, (3, .ofNat 0))], [(78, (0, .ofNat 0), .inr (false, (4, .ofNat 0)))], [], [])], [], 0, 0)
def cu1024 : List sxCu := [
  (33, (5, [(1, .ofNat 0, .ofNat 51), (2, .negSucc 2147483647, .ofNat 2147483647), (3, .ofNat 0, .ofNat 4096), (4, .ofNat 0, .ofNat 4096)], [(3, 4, .ofNat 0)], [(0, .inl 78), (1, .inr (false, (1, .ofNat 0))), (2, .inr (false, (2, .ofNat 0))), (3, .inr (false, (3, .ofNat 0))), (4, .inr (false, (4, .ofNat 0)))], [], [(78, (0, .ofNat 0), .inr (false, (0, .ofNat 0)))], [], []), ((0, 4, .ofNat 4096), (0, 0, .ofNat 0), (0, 0, .ofNat 0)), 0, 0)]
set_option maxRecDepth 1000000 in
theorem cv1024 {gh : sxGh} (hg : sxGd sxKw gh) : sxCtV sxKw gh ct1024 := sxMeB_ok (cts := [ct1021]) (cuts := cu1024) (sp := []) 193 (by decide +kernel) hg (by decide) (by decide) (List.forall_mem_cons.mpr ⟨cv1021 hg, (fun _ h => absurd h List.not_mem_nil)⟩)
/-- LotBeliefs.Subsets.wholeAt -/
def ct1025 : sxCt := (64, 1, (2, [(1, .negSucc 2147483647, .ofNat 2147483647)], [], [(0, .inl 45), (1, .inr (false, (1, .ofNat 0)))], [], [], [], []), [], [
  (3, [(2, .negSucc 0, .ofNat 4095)], [], [], [.inr (false, (2, .ofNat 0))], [], [], [])], [], 0, 0)
def cu1025 : List sxCu := [
  (4, (4, [(1, .negSucc 2147483647, .ofNat 2147483647), (2, .ofNat 0, .ofNat 4096), (3, .ofNat 0, .ofNat 4096)], [(2, 3, .ofNat 0)], [(0, .inl 45), (1, .inr (false, (1, .ofNat 0))), (2, .inr (false, (2, .ofNat 0))), (3, .inr (false, (3, .ofNat 0)))], [], [], [], []), ((0, 3, .ofNat 4096), (0, 0, .ofNat 0), (0, 0, .ofNat 0)), 0, 0)]
set_option maxRecDepth 1000000 in
theorem cv1025 {gh : sxGh} (hg : sxGd sxKw gh) : sxCtV sxKw gh ct1025 := sxMeB_ok (cts := [ct938]) (cuts := cu1025) (sp := []) 86 (by decide +kernel) hg (by decide) (by decide) (List.forall_mem_cons.mpr ⟨cv938 hg, (fun _ h => absurd h List.not_mem_nil)⟩)
/-- LotBeliefsModel.whole -/
def ct1026 : sxCt := (302, 2, (3, [(1, .ofNat 0, .ofNat 51), (2, .negSucc 2147483647, .ofNat 2147483647)], [], [(0, .inl 78), (1, .inr (false, (1, .ofNat 0))), (2, .inr (false, (2, .ofNat 0)))], [], [], [], []), [(78, 1)], [
  (4, [(3, .negSucc 0, .ofNat 4095)], [], [], [.inr (false, (3, .ofNat 0))], [(78, (0, .ofNat 0), .inr (false, (0, .ofNat 0)))], [], [])], [], 0, 0)
def cu1026 : List sxCu := [
  (33, (5, [(1, .ofNat 0, .ofNat 51), (2, .negSucc 2147483647, .ofNat 2147483647), (3, .ofNat 0, .ofNat 4096), (4, .ofNat 0, .ofNat 4096)], [(3, 4, .ofNat 0)], [(0, .inl 78), (1, .inr (false, (1, .ofNat 0))), (2, .inr (false, (2, .ofNat 0))), (3, .inr (false, (3, .ofNat 0))), (4, .inr (false, (4, .ofNat 0)))], [], [(78, (0, .ofNat 0), .inr (false, (0, .ofNat 0)))], [], []), ((0, 4, .ofNat 4096), (0, 0, .ofNat 0), (0, 0, .ofNat 0)), 0, 0)]
set_option maxRecDepth 1000000 in
theorem cv1026 {gh : sxGh} (hg : sxGd sxKw gh) : sxCtV sxKw gh ct1026 := sxMeB_ok (cts := [ct1021]) (cuts := cu1026) (sp := []) 125 (by decide +kernel) hg (by decide) (by decide) (List.forall_mem_cons.mpr ⟨cv1021 hg, (fun _ h => absurd h List.not_mem_nil)⟩)
/-- LotBeliefsModel.proof -/
def ct1027 : sxCt := (303, 2, (2, [(1, .negSucc 2147483647, .ofNat 2147483647)], [], [(0, .inl 78), (1, .inr (false, (1, .ofNat 0)))], [], [], [], []), [(78, 1), (80, 0)], [
  (4, [(2, .negSucc 0, .ofNat 4095), (3, .ofNat 0, .ofNat 1)], [(3, 2, .ofNat 1)], [], [.inr (false, (2, .ofNat 0))], [(78, (0, .ofNat 0), .inr (false, (3, .ofNat 0)))], [], [])], [], 0, 0)
def cu1027 : List sxCu := [
  (32, (4, [(1, .ofNat 0, .ofNat 51), (2, .negSucc 0, .ofNat 4095), (3, .ofNat 0, .ofNat 4096)], [(2, 3, .negSucc 0)], [(0, .inl 78), (1, .inr (false, (1, .ofNat 0))), (2, .inr (false, (2, .ofNat 0))), (3, .inr (false, (3, .ofNat 0)))], [], [(78, (0, .ofNat 0), .inr (false, (0, .ofNat 0)))], [], []), ((0, 3, .ofNat 4096), (0, 0, .ofNat 0), (0, 0, .ofNat 0)), 0, 0)]
set_option maxRecDepth 1000000 in
theorem cv1027 {gh : sxGh} (hg : sxGd sxKw gh) : sxCtV sxKw gh ct1027 := sxMeB_ok (cts := [ct528, ct527]) (cuts := cu1027) (sp := []) 262 (by decide +kernel) hg (by decide) (by decide) (List.forall_mem_cons.mpr ⟨cv528 hg, (List.forall_mem_cons.mpr ⟨cv527 hg, (fun _ h => absurd h List.not_mem_nil)⟩)⟩)
/-- LotBeliefs.Subsets.proving -/
def ct1028 : sxCt := (62, 1, (2, [(1, .negSucc 9223372036854775807, .ofNat 9223372036854775807)], [], [(0, .inl 45), (1, .inr (true, (1, .ofNat 0)))], [], [], [], []), [], [
  (3, [(2, .negSucc 0, .ofNat 4095)], [], [], [.inr (false, (2, .ofNat 0))], [], [], [])], [], 0, 0)
def cu1028 : List sxCu := [
  (9, (5, [(1, .negSucc 9223372036854775807, .ofNat 9223372036854775807), (2, .negSucc 0, .ofNat 4095), (3, .ofNat 0, .ofNat 63), (4, .ofNat 0, .ofNat 4096)], [(2, 4, .negSucc 0)], [(0, .inl 45), (1, .inr (true, (1, .ofNat 0))), (3, .inr (false, (2, .ofNat 0))), (4, .inr (false, (3, .ofNat 0))), (5, .inr (false, (4, .ofNat 0)))], [], [], [], []), ((0, 4, .ofNat 4096), (0, 0, .ofNat 0), (0, 0, .ofNat 0)), 0, 0)]
set_option maxRecDepth 1000000 in
theorem cv1028 {gh : sxGh} (hg : sxGd sxKw gh) : sxCtV sxKw gh ct1028 := sxMeB_ok (cts := [ct522]) (cuts := cu1028) (sp := []) 170 (by decide +kernel) hg (by decide) (by decide) (List.forall_mem_cons.mpr ⟨cv522 hg, (fun _ h => absurd h List.not_mem_nil)⟩)
/-- LotBeliefsModel.proof -/
def ct1029 : sxCt := (303, 2, (2, [(1, .ofNat 0, .ofNat 51)], [], [(0, .inl 78), (1, .inr (false, (1, .ofNat 0)))], [], [], [], []), [(78, 1)], [
  (3, [(2, .negSucc 0, .ofNat 4095)], [], [], [.inr (false, (2, .ofNat 0))], [(78, (0, .ofNat 0), .inr (false, (0, .ofNat 0)))], [], [])], [], 0, 0)
def cu1029 : List sxCu := [
  (32, (4, [(1, .ofNat 0, .ofNat 51), (2, .negSucc 0, .ofNat 4095), (3, .ofNat 0, .ofNat 4096)], [(2, 3, .negSucc 0)], [(0, .inl 78), (1, .inr (false, (1, .ofNat 0))), (2, .inr (false, (2, .ofNat 0))), (3, .inr (false, (3, .ofNat 0)))], [], [(78, (0, .ofNat 0), .inr (false, (0, .ofNat 0)))], [], []), ((0, 3, .ofNat 4096), (0, 0, .ofNat 0), (0, 0, .ofNat 0)), 0, 0)]
set_option maxRecDepth 1000000 in
theorem cv1029 {gh : sxGh} (hg : sxGd sxKw gh) : sxCtV sxKw gh ct1029 := sxMeB_ok (cts := [ct528, ct527]) (cuts := cu1029) (sp := []) 194 (by decide +kernel) hg (by decide) (by decide) (List.forall_mem_cons.mpr ⟨cv528 hg, (List.forall_mem_cons.mpr ⟨cv527 hg, (fun _ h => absurd h List.not_mem_nil)⟩)⟩)
/-- LotBeliefs.split -/
def ct1030 : sxCt := (141, 3, (3, [(1, .negSucc 2147483647, .ofNat 2147483647), (2, .negSucc 2147483647, .ofNat 2147483647)], [], [(0, .inl 0), (1, .inr (false, (1, .ofNat 0))), (2, .inr (false, (2, .ofNat 0)))], [], [], [], []), [(30, 0)], [
  (4, [(1, .ofNat 0, .ofNat 51), (2, .ofNat 0, .ofNat 1), (3, .ofNat 0, .ofNat 127)], [], [], [.inr (false, (3, .ofNat 0))], [], [], [])], [
  (1, (4, [(3, .negSucc 2147483647, .ofNat 2147483647)], [], [], [], [(30, (0, .ofNat 1), .inr (false, (3, .ofNat 0)))], [], []))], 1, 6)
def cu1030 : List sxCu := [
  (27, (6, [(1, .ofNat 0, .ofNat 51), (2, .ofNat 0, .ofNat 1), (3, .ofNat 0, .ofNat 5), (4, .ofNat 0, .ofNat 127), (5, .ofNat 1, .ofNat 6)], [(3, 5, .negSucc 0)], [(0, .inl 0), (1, .inr (false, (1, .ofNat 0))), (2, .inr (false, (2, .ofNat 0))), (3, .inr (false, (3, .ofNat 0))), (4, .inr (false, (4, .ofNat 0))), (5, .inr (false, (5, .ofNat 0)))], [], [], [], []), ((0, 5, .ofNat 6), (0, 0, .ofNat 0), (0, 0, .ofNat 0)), 0, 0)]
set_option maxRecDepth 1000000 in
theorem cv1030 {gh : sxGh} (hg : sxGd sxKw gh) : sxCtV sxKw gh ct1030 := sxMeB_ok (cts := [ct58]) (cuts := cu1030) (sp := []) 725 (by decide +kernel) hg (by decide) (by decide) (List.forall_mem_cons.mpr ⟨cv58 hg, (fun _ h => absurd h List.not_mem_nil)⟩)
/-- LotBeliefsModel.atomOf -/
def ct1036 : sxCt := (216, 0, (3, [(1, .ofNat 0, .ofNat 5), (2, .ofNat 0, .ofNat 6)], [], [(0, .inr (false, (1, .ofNat 0))), (1, .inr (false, (2, .ofNat 0)))], [], [], [], []), [], [
  (4, [(3, .negSucc 9223372036854775807, .ofNat 9223372036854775807)], [], [], [.inr (true, (3, .ofNat 0))], [], [], [])], [], 0, 0)
def cu1036 : List sxCu := []
set_option maxRecDepth 1000000 in
theorem cv1036 {gh : sxGh} (hg : sxGd sxKw gh) : sxCtV sxKw gh ct1036 := sxMeB_ok (cts := []) (cuts := cu1036) (sp := []) 1349 (by decide +kernel) hg (by decide) (by decide) (fun _ h => absurd h List.not_mem_nil)
/-- LotBeliefsModel.split -/
def ct1037 : sxCt := (304, 2, (3, [(1, .negSucc 2147483647, .ofNat 2147483647), (2, .negSucc 2147483647, .ofNat 2147483647)], [], [(0, .inl 78), (1, .inr (false, (1, .ofNat 0))), (2, .inr (false, (2, .ofNat 0)))], [], [], [], []), [(78, 1), (80, 0)], [
  (5, [(3, .negSucc 2147483647, .ofNat 2147483647), (4, .ofNat 0, .ofNat 1)], [], [], [.inr (false, (3, .ofNat 0))], [(78, (0, .ofNat 0), .inr (false, (4, .ofNat 0)))], [], [])], [], 0, 0)
def cu1037 : List sxCu := [
  (45, (6, [(1, .ofNat 0, .ofNat 51), (2, .ofNat 0, .ofNat 1), (3, .negSucc 0, .ofNat 5), (4, .negSucc 2147483647, .ofNat 2147483647), (5, .ofNat 0, .ofNat 6)], [(3, 5, .negSucc 0)], [(0, .inl 78), (1, .inr (false, (1, .ofNat 0))), (2, .inr (false, (2, .ofNat 0))), (3, .inr (false, (3, .ofNat 0))), (4, .inr (false, (4, .ofNat 0))), (5, .inr (false, (5, .ofNat 0)))], [], [(78, (0, .ofNat 0), .inr (false, (0, .ofNat 0)))], [], []), ((0, 5, .ofNat 6), (0, 0, .ofNat 0), (0, 0, .ofNat 0)), 0, 0)]
set_option maxRecDepth 1000000 in
theorem cv1037 {gh : sxGh} (hg : sxGd sxKw gh) : sxCtV sxKw gh ct1037 := sxMeB_ok (cts := [ct1036, ct0]) (cuts := cu1037) (sp := []) 334 (by decide +kernel) hg (by decide) (by decide) (List.forall_mem_cons.mpr ⟨cv1036 hg, (List.forall_mem_cons.mpr ⟨cv0 hg, (fun _ h => absurd h List.not_mem_nil)⟩)⟩)
/-- LotBeliefsModel.split -/
def ct1038 : sxCt := (304, 2, (3, [(1, .ofNat 0, .ofNat 51), (2, .ofNat 0, .ofNat 1)], [], [(0, .inl 78), (1, .inr (false, (1, .ofNat 0))), (2, .inr (false, (2, .ofNat 0)))], [], [], [], []), [(78, 1)], [
  (4, [(3, .negSucc 2147483647, .ofNat 2147483647)], [], [], [.inr (false, (3, .ofNat 0))], [(78, (0, .ofNat 0), .inr (false, (0, .ofNat 0)))], [], [])], [], 0, 0)
def cu1038 : List sxCu := [
  (45, (6, [(1, .ofNat 0, .ofNat 51), (2, .ofNat 0, .ofNat 1), (3, .negSucc 0, .ofNat 5), (4, .negSucc 2147483647, .ofNat 2147483647), (5, .ofNat 0, .ofNat 6)], [(3, 5, .negSucc 0)], [(0, .inl 78), (1, .inr (false, (1, .ofNat 0))), (2, .inr (false, (2, .ofNat 0))), (3, .inr (false, (3, .ofNat 0))), (4, .inr (false, (4, .ofNat 0))), (5, .inr (false, (5, .ofNat 0)))], [], [(78, (0, .ofNat 0), .inr (false, (0, .ofNat 0)))], [], []), ((0, 5, .ofNat 6), (0, 0, .ofNat 0), (0, 0, .ofNat 0)), 0, 0)]
set_option maxRecDepth 1000000 in
theorem cv1038 {gh : sxGh} (hg : sxGd sxKw gh) : sxCtV sxKw gh ct1038 := sxMeB_ok (cts := [ct1036, ct0]) (cuts := cu1038) (sp := []) 200 (by decide +kernel) hg (by decide) (by decide) (List.forall_mem_cons.mpr ⟨cv1036 hg, (List.forall_mem_cons.mpr ⟨cv0 hg, (fun _ h => absurd h List.not_mem_nil)⟩)⟩)
/-- LotBeliefs.likely -/
def ct1075 : sxCt := (142, 3, (2, [(1, .negSucc 2147483647, .ofNat 2147483647)], [], [(0, .inl 0), (1, .inr (false, (1, .ofNat 0)))], [], [], [], []), [(30, 0)], [
  (3, [(1, .ofNat 0, .ofNat 51), (2, .negSucc 0, .ofNat 63)], [], [], [.inr (false, (2, .ofNat 0))], [], [], [])], [
  (1, (3, [(2, .negSucc 2147483647, .ofNat 2147483647)], [], [], [], [(30, (0, .ofNat 1), .inr (false, (2, .ofNat 0)))], [], []))], 1, 6)
def cu1075 : List sxCu := [
  (12, (5, [(1, .ofNat 0, .ofNat 51), (2, .negSucc 0, .ofNat 63), (3, .negSucc 0, .ofNat 63), (4, .ofNat 0, .ofNat 64)], [(2, 4, .negSucc 0), (3, 2, .ofNat 63), (3, 4, .ofNat 62)], [(0, .inl 0), (1, .inr (false, (1, .ofNat 0))), (2, .inr (false, (2, .ofNat 0))), (3, .inr (false, (3, .ofNat 0))), (4, .inr (false, (4, .ofNat 0)))], [], [], [], []), ((0, 4, .ofNat 64), (0, 0, .ofNat 0), (0, 0, .ofNat 0)), 0, 0)]
set_option maxRecDepth 1000000 in
theorem cv1075 {gh : sxGh} (hg : sxGd sxKw gh) : sxCtV sxKw gh ct1075 := sxMeB_ok (cts := [ct521, ct380, ct522]) (cuts := cu1075) (sp := []) 184 (by decide +kernel) hg (by decide) (by decide) (List.forall_mem_cons.mpr ⟨cv521 hg, (List.forall_mem_cons.mpr ⟨cv380 hg, (List.forall_mem_cons.mpr ⟨cv522 hg, (fun _ h => absurd h List.not_mem_nil)⟩)⟩)⟩)
/-- LotBeliefsModel.likely -/
def ct1076 : sxCt := (305, 2, (2, [(1, .negSucc 2147483647, .ofNat 2147483647)], [], [(0, .inl 78), (1, .inr (false, (1, .ofNat 0)))], [], [], [], []), [(78, 1), (80, 0)], [
  (4, [(2, .negSucc 0, .ofNat 63), (3, .ofNat 0, .ofNat 1)], [(3, 2, .ofNat 1)], [], [.inr (false, (2, .ofNat 0))], [(78, (0, .ofNat 0), .inr (false, (3, .ofNat 0)))], [], [])], [], 0, 0)
def cu1076 : List sxCu := [
  (35, (5, [(1, .ofNat 0, .ofNat 51), (2, .negSucc 0, .ofNat 63), (3, .negSucc 0, .ofNat 2147483647), (4, .ofNat 0, .ofNat 64)], [(2, 4, .negSucc 0)], [(0, .inl 78), (1, .inr (false, (1, .ofNat 0))), (2, .inr (false, (2, .ofNat 0))), (3, .inr (false, (3, .ofNat 0))), (4, .inr (false, (4, .ofNat 0)))], [], [(78, (0, .ofNat 0), .inr (false, (0, .ofNat 0)))], [], []), ((0, 4, .ofNat 64), (0, 0, .ofNat 13), (0, 0, .ofNat 0)), 0, 0), 
  (73, (8, [(1, .ofNat 0, .ofNat 51), (2, .negSucc 0, .ofNat 62), (3, .negSucc 0, .ofNat 2147483647), (4, .ofNat 0, .ofNat 63), (5, .negSucc 2147483647, .ofNat 2147483647), (6, .ofNat 0, .ofNat 12), (7, .ofNat 0, .ofNat 6)], [(2, 4, .negSucc 0)], [(0, .inl 78), (1, .inr (false, (1, .ofNat 0))), (2, .inr (false, (2, .ofNat 0))), (3, .inr (false, (3, .ofNat 0))), (4, .inr (false, (4, .ofNat 0))), (5, .inr (false, (5, .ofNat 0))), (6, .inr (false, (6, .ofNat 0)))], [], [(78, (0, .ofNat 0), .inr (false, (0, .ofNat 0))), (78, (0, .ofNat 12), .inl 82), (78, (0, .ofNat 19), .inl 89), (82, (0, .ofNat 0), .inr (false, (7, .ofNat 0)))], [], []), ((0, 4, .ofNat 64), (0, 6, .ofNat 12), (0, 0, .ofNat 0)), 0, 0)]
set_option maxRecDepth 1000000 in
theorem cv1076 {gh : sxGh} (hg : sxGd sxKw gh) : sxCtV sxKw gh ct1076 := sxMeB_ok (cts := []) (cuts := cu1076) (sp := []) 228 (by decide +kernel) hg (by decide) (by decide) (fun _ h => absurd h List.not_mem_nil)
/-- LotBeliefsModel.likely -/
def ct1077 : sxCt := (305, 2, (2, [(1, .ofNat 0, .ofNat 51)], [], [(0, .inl 78), (1, .inr (false, (1, .ofNat 0)))], [], [], [], []), [(78, 1)], [
  (3, [(2, .negSucc 0, .ofNat 63)], [], [], [.inr (false, (2, .ofNat 0))], [(78, (0, .ofNat 0), .inr (false, (0, .ofNat 0)))], [], [])], [], 0, 0)
def cu1077 : List sxCu := [
  (35, (5, [(1, .ofNat 0, .ofNat 51), (2, .negSucc 0, .ofNat 63), (3, .negSucc 0, .ofNat 2147483647), (4, .ofNat 0, .ofNat 64)], [(2, 4, .negSucc 0)], [(0, .inl 78), (1, .inr (false, (1, .ofNat 0))), (2, .inr (false, (2, .ofNat 0))), (3, .inr (false, (3, .ofNat 0))), (4, .inr (false, (4, .ofNat 0)))], [], [(78, (0, .ofNat 0), .inr (false, (0, .ofNat 0)))], [], []), ((0, 4, .ofNat 64), (0, 0, .ofNat 13), (0, 0, .ofNat 0)), 0, 0), 
  (73, (8, [(1, .ofNat 0, .ofNat 51), (2, .negSucc 0, .ofNat 62), (3, .negSucc 0, .ofNat 2147483647), (4, .ofNat 0, .ofNat 63), (5, .negSucc 2147483647, .ofNat 2147483647), (6, .ofNat 0, .ofNat 12), (7, .ofNat 0, .ofNat 6)], [(2, 4, .negSucc 0)], [(0, .inl 78), (1, .inr (false, (1, .ofNat 0))), (2, .inr (false, (2, .ofNat 0))), (3, .inr (false, (3, .ofNat 0))), (4, .inr (false, (4, .ofNat 0))), (5, .inr (false, (5, .ofNat 0))), (6, .inr (false, (6, .ofNat 0)))], [], [(78, (0, .ofNat 0), .inr (false, (0, .ofNat 0))), (78, (0, .ofNat 12), .inl 82), (78, (0, .ofNat 19), .inl 89), (82, (0, .ofNat 0), .inr (false, (7, .ofNat 0)))], [], []), ((0, 4, .ofNat 64), (0, 6, .ofNat 12), (0, 0, .ofNat 0)), 0, 0)]
set_option maxRecDepth 1000000 in
theorem cv1077 {gh : sxGh} (hg : sxGd sxKw gh) : sxCtV sxKw gh ct1077 := sxMeB_ok (cts := []) (cuts := cu1077) (sp := []) 160 (by decide +kernel) hg (by decide) (by decide) (fun _ h => absurd h List.not_mem_nil)
/-- LotBeliefs.copyOrder -/
def ct1081 : sxCt := (183, 0, (2, [(1, .ofNat 0, .ofNat 5)], [], [(0, .inl 0), (1, .inr (false, (1, .ofNat 0)))], [], [], [], []), [(31, 0)], [
  (2, [], [], [], [], [], [], [])], [], 0, 0)
def cu1081 : List sxCu := [
  (2, (3, [(1, .ofNat 0, .ofNat 5), (2, .ofNat 0, .ofNat 12)], [], [(0, .inl 0), (1, .inr (false, (1, .ofNat 0))), (2, .inr (false, (2, .ofNat 0)))], [], [], [], []), ((0, 2, .ofNat 12), (0, 0, .ofNat 0), (0, 0, .ofNat 0)), 0, 0)]
set_option maxRecDepth 1000000 in
theorem cv1081 {gh : sxGh} (hg : sxGd sxKw gh) : sxCtV sxKw gh ct1081 := sxMeB_ok (cts := []) (cuts := cu1081) (sp := []) 111 (by decide +kernel) hg (by decide) (by decide) (fun _ h => absurd h List.not_mem_nil)
/-- LotBeliefs.Course.bury -/
def ct1087 : sxCt := (5, 1, (2, [(1, .ofNat 0, .ofNat 16)], [], [(0, .inl 32), (1, .inr (false, (1, .ofNat 0)))], [], [], [], []), [(32, 11), (32, 12), (34, 0), (36, 0), (37, 0)], [
  (3, [(2, .negSucc 2147483647, .ofNat 2147483647)], [], [], [], [(32, (0, .ofNat 11), .inr (false, (2, .ofNat 0)))], [], [])], [], 0, 0)
def cu1087 : List sxCu := [
  (22, (5, [(1, .ofNat 0, .ofNat 16), (2, .ofNat 0, .ofNat 17), (3, .ofNat 0, .ofNat 17), (4, .negSucc 2147483647, .ofNat 2147483647)], [(2, 3, .ofNat 0)], [(0, .inl 32), (1, .inr (false, (1, .ofNat 0))), (2, .inr (false, (2, .ofNat 0))), (3, .inr (false, (3, .ofNat 0)))], [], [(32, (0, .ofNat 11), .inr (false, (4, .ofNat 0)))], [], []), ((0, 3, .ofNat 17), (0, 0, .ofNat 0), (0, 0, .ofNat 0)), 0, 0)]
set_option maxRecDepth 1000000 in
theorem cv1087 {gh : sxGh} (hg : sxGd sxKw gh) : sxCtV sxKw gh ct1087 := sxMeB_ok (cts := [ct389, ct390]) (cuts := cu1087) (sp := []) 185 (by decide +kernel) hg (by decide) (by decide) (List.forall_mem_cons.mpr ⟨cv389 hg, (List.forall_mem_cons.mpr ⟨cv390 hg, (fun _ h => absurd h List.not_mem_nil)⟩)⟩)
/-- LotBeliefs.Course.lives -/
def ct1088 : sxCt := (6, 0, (3, [(1, .ofNat 0, .ofNat 16), (2, .ofNat 0, .ofNat 16)], [], [(0, .inl 32), (1, .inr (false, (1, .ofNat 0))), (2, .inr (false, (2, .ofNat 0)))], [], [], [], []), [(33000036, 0)], [
  (3, [], [], [], [.inr (false, (0, .ofNat 0))], [], [], []), 
  (3, [], [], [], [.inr (false, (0, .ofNat 1))], [], [], [])], [], 0, 0)
def cu1088 : List sxCu := []
set_option maxRecDepth 1000000 in
theorem cv1088 {gh : sxGh} (hg : sxGd sxKw gh) : sxCtV sxKw gh ct1088 := sxMeB_ok (cts := []) (cuts := cu1088) (sp := []) 196 (by decide +kernel) hg (by decide) (by decide) (fun _ h => absurd h List.not_mem_nil)
/-- LotBeliefs.Course.play -/
def ct1089 : sxCt := (2, 4, (3, [(1, .ofNat 0, .ofNat 17), (2, .ofNat 0, .ofNat 1)], [], [(0, .inl 32), (1, .inl 31), (2, .inr (false, (1, .ofNat 0))), (3, .inr (false, (2, .ofNat 0)))], [], [], [], []), [(21, 0), (22, 0), (25, 0), (26, 0), (32, 9), (32, 11), (32, 12), (33000037, 0)], [
  (5, [(3, .ofNat 0, .ofNat 4095), (4, .negSucc 2147483647, .ofNat 2147483647)], [], [], [], [(32, (0, .ofNat 8), .inr (false, (3, .ofNat 0))), (32, (0, .ofNat 11), .inr (false, (4, .ofNat 0)))], [], [])], [], 0, 0)
def cu1089 : List sxCu := [
  (9, (4, [(1, .ofNat 0, .ofNat 17), (2, .ofNat 0, .ofNat 1), (3, .ofNat 0, .ofNat 17)], [(2, 3, .ofNat 0), (3, 1, .ofNat 1)], [(0, .inl 32), (1, .inl 31), (2, .inr (false, (1, .ofNat 0))), (3, .inr (false, (2, .ofNat 0))), (4, .inr (false, (3, .ofNat 0)))], [], [], [], []), ((0, 3, .ofNat 17), (0, 0, .ofNat 0), (0, 0, .ofNat 0)), 0, 0)]
set_option maxRecDepth 1000000 in
theorem cv1089 {gh : sxGh} (hg : sxGd sxKw gh) : sxCtV sxKw gh ct1089 := sxMeB_ok (cts := [ct532, ct387, ct1087, ct407, ct1088, ct406]) (cuts := cu1089) (sp := []) 134 (by decide +kernel) hg (by decide) (by decide) (List.forall_mem_cons.mpr ⟨cv532 hg, (List.forall_mem_cons.mpr ⟨cv387 hg, (List.forall_mem_cons.mpr ⟨cv1087 hg, (List.forall_mem_cons.mpr ⟨cv407 hg, (List.forall_mem_cons.mpr ⟨cv1088 hg, (List.forall_mem_cons.mpr ⟨cv406 hg, (fun _ h => absurd h List.not_mem_nil)⟩)⟩)⟩)⟩)⟩)⟩)
/-- LotBeliefs.laySalts -/
def ct1103 : sxCt := (188, 1, (2, [(1, .ofNat 0, .ofNat 39)], [], [(0, .inl 0), (1, .inr (false, (1, .ofNat 0)))], [], [], [], []), [(31, 0)], [
  (3, [(2, .ofNat 0, .ofNat 17)], [], [], [.inr (false, (2, .ofNat 0))], [], [], [])], [], 0, 0)
def cu1103 : List sxCu := [
  (4, (4, [(1, .ofNat 0, .ofNat 39), (2, .ofNat 0, .ofNat 5), (3, .ofNat 0, .ofNat 5)], [(2, 3, .ofNat 0)], [(0, .inl 0), (1, .inr (false, (1, .ofNat 0))), (2, .inr (false, (2, .ofNat 0))), (3, .inr (false, (3, .ofNat 0)))], [], [], [], []), ((0, 3, .ofNat 5), (0, 0, .ofNat 0), (0, 0, .ofNat 0)), 0, 0)]
set_option maxRecDepth 1000000 in
theorem cv1103 {gh : sxGh} (hg : sxGd sxKw gh) : sxCtV sxKw gh ct1103 := sxMeB_ok (cts := [ct1081]) (cuts := cu1103) (sp := []) 127 (by decide +kernel) hg (by decide) (by decide) (List.forall_mem_cons.mpr ⟨cv1081 hg, (fun _ h => absurd h List.not_mem_nil)⟩)
/-- LotBeliefs.salted -/
def ct1104 : sxCt := (143, 6, (2, [(1, .negSucc 2147483647, .ofNat 2147483647)], [], [(0, .inl 0), (1, .inr (false, (1, .ofNat 0)))], [], [], [], []), [(21, 0), (22, 0), (25, 0), (26, 0), (30, 0), (31, 0), (32, 1), (32, 2), (32, 3), (32, 4), (32, 9), (32, 11), (32, 12), (33000037, 0)], [
  (3, [(1, .ofNat 0, .ofNat 4095), (2, .negSucc 0, .ofNat 37)], [], [], [.inr (false, (2, .ofNat 0))], [], [], [])], [
  (1, (3, [(2, .negSucc 2147483647, .ofNat 2147483647)], [], [], [], [(30, (0, .ofNat 1), .inr (false, (2, .ofNat 0)))], [], []))], 1, 6)
def cu1104 : List sxCu := [
  (20, (5, [(1, .ofNat 0, .ofNat 4095), (2, .negSucc 0, .ofNat 37), (3, .ofNat 0, .ofNat 6), (4, .ofNat 0, .ofNat 38)], [(2, 4, .negSucc 0)], [(0, .inl 0), (1, .inr (false, (1, .ofNat 0))), (2, .inr (false, (2, .ofNat 0))), (3, .inr (false, (3, .ofNat 0))), (4, .inr (false, (4, .ofNat 0)))], [], [], [], []), ((0, 4, .ofNat 38), (0, 0, .ofNat 0), (0, 0, .ofNat 0)), 0, 0)]
set_option maxRecDepth 1000000 in
theorem cv1104 {gh : sxGh} (hg : sxGd sxKw gh) : sxCtV sxKw gh ct1104 := sxMeB_ok (cts := [ct1089, ct1103, ct887]) (cuts := cu1104) (sp := []) 380 (by decide +kernel) hg (by decide) (by decide) (List.forall_mem_cons.mpr ⟨cv1089 hg, (List.forall_mem_cons.mpr ⟨cv1103 hg, (List.forall_mem_cons.mpr ⟨cv887 hg, (fun _ h => absurd h List.not_mem_nil)⟩)⟩)⟩)
/-- LotBeliefs.Survey.heldInAll -/
def ct1124 : sxCt := (77, 1, (2, [(1, .ofNat 0, .ofNat 4095)], [], [(0, .inl 74), (1, .inr (false, (1, .ofNat 0)))], [], [], [], []), [], [
  (3, [(2, .negSucc 2147483647, .ofNat 2147483647)], [], [], [.inr (false, (2, .ofNat 0))], [], [], [])], [], 0, 0)
def cu1124 : List sxCu := [
  (4, (4, [(1, .ofNat 0, .ofNat 4095), (2, .negSucc 2147483647, .ofNat 2147483647), (3, .ofNat 0, .ofNat 128)], [], [(0, .inl 74), (1, .inr (false, (1, .ofNat 0))), (2, .inr (false, (2, .ofNat 0))), (3, .inr (false, (3, .ofNat 0)))], [], [], [], []), ((0, 3, .ofNat 128), (0, 0, .ofNat 0), (0, 0, .ofNat 0)), 0, 0)]
set_option maxRecDepth 1000000 in
theorem cv1124 {gh : sxGh} (hg : sxGd sxKw gh) : sxCtV sxKw gh ct1124 := sxMeB_ok (cts := [ct899]) (cuts := cu1124) (sp := []) 86 (by decide +kernel) hg (by decide) (by decide) (List.forall_mem_cons.mpr ⟨cv899 hg, (fun _ h => absurd h List.not_mem_nil)⟩)
/-- LotBeliefs.Survey.heldInAll -/
def ct1125 : sxCt := (77, 1, (2, [(1, .ofNat 0, .ofNat 4095)], [], [(0, .inl 70), (1, .inr (false, (1, .ofNat 0)))], [], [], [], []), [], [
  (3, [(2, .negSucc 2147483647, .ofNat 2147483647)], [], [], [.inr (false, (2, .ofNat 0))], [], [], [])], [], 0, 0)
def cu1125 : List sxCu := [
  (4, (4, [(1, .ofNat 0, .ofNat 4095), (2, .negSucc 2147483647, .ofNat 2147483647), (3, .ofNat 0, .ofNat 128)], [], [(0, .inl 70), (1, .inr (false, (1, .ofNat 0))), (2, .inr (false, (2, .ofNat 0))), (3, .inr (false, (3, .ofNat 0)))], [], [], [], []), ((0, 3, .ofNat 128), (0, 0, .ofNat 0), (0, 0, .ofNat 0)), 0, 0)]
set_option maxRecDepth 1000000 in
theorem cv1125 {gh : sxGh} (hg : sxGd sxKw gh) : sxCtV sxKw gh ct1125 := sxMeB_ok (cts := [ct899]) (cuts := cu1125) (sp := []) 86 (by decide +kernel) hg (by decide) (by decide) (List.forall_mem_cons.mpr ⟨cv899 hg, (fun _ h => absurd h List.not_mem_nil)⟩)
/-- LotBeliefsModel.begins -/
def ct1126 : sxCt := (260, 0, (2, [(1, .ofNat 0, .ofNat 3)], [], [(0, .inl 78), (1, .inr (false, (1, .ofNat 0)))], [], [], [], []), [(78, 45), (78, 46), (78, 47), (78, 48), (78, 49), (562000566, 0)], [
  (2, [], [], [], [], [(78, (0, .ofNat 44), .inr (false, (0, .ofNat 0))), (78, (0, .ofNat 45), .inr (false, (0, .ofNat 0))), (78, (0, .ofNat 46), .inr (false, (0, .ofNat 0))), (78, (0, .ofNat 47), .inr (false, (0, .ofNat 0))), (78, (0, .ofNat 48), .inr (false, (1, .ofNat 0)))], [], [])], [], 0, 0)
def cu1126 : List sxCu := [
  (27, (3, [(1, .ofNat 0, .ofNat 3), (2, .ofNat 0, .ofNat 17)], [], [(0, .inl 78), (1, .inr (false, (1, .ofNat 0))), (2, .inr (false, (2, .ofNat 0)))], [], [(78, (0, .ofNat 44), .inr (false, (0, .ofNat 0))), (78, (0, .ofNat 45), .inr (false, (0, .ofNat 0))), (78, (0, .ofNat 46), .inr (false, (0, .ofNat 0))), (78, (0, .ofNat 47), .inr (false, (0, .ofNat 0))), (78, (0, .ofNat 48), .inr (false, (1, .ofNat 0)))], [], []), ((0, 2, .ofNat 17), (0, 0, .ofNat 0), (0, 0, .ofNat 0)), 0, 0)]
set_option maxRecDepth 1000000 in
theorem cv1126 {gh : sxGh} (hg : sxGd sxKw gh) : sxCtV sxKw gh ct1126 := sxMeB_ok (cts := []) (cuts := cu1126) (sp := []) 108 (by decide +kernel) hg (by decide) (by decide) (fun _ h => absurd h List.not_mem_nil)
/-- LotBeliefs.Survey.heldInAll -/
def ct1180 : sxCt := (77, 1, (2, [(1, .ofNat 0, .ofNat 4095)], [], [(0, .inl 66), (1, .inr (false, (1, .ofNat 0)))], [], [], [], []), [], [
  (3, [(2, .negSucc 2147483647, .ofNat 2147483647)], [], [], [.inr (false, (2, .ofNat 0))], [], [], [])], [], 0, 0)
def cu1180 : List sxCu := [
  (4, (4, [(1, .ofNat 0, .ofNat 4095), (2, .negSucc 2147483647, .ofNat 2147483647), (3, .ofNat 0, .ofNat 128)], [], [(0, .inl 66), (1, .inr (false, (1, .ofNat 0))), (2, .inr (false, (2, .ofNat 0))), (3, .inr (false, (3, .ofNat 0)))], [], [], [], []), ((0, 3, .ofNat 128), (0, 0, .ofNat 0), (0, 0, .ofNat 0)), 0, 0)]
set_option maxRecDepth 1000000 in
theorem cv1180 {gh : sxGh} (hg : sxGd sxKw gh) : sxCtV sxKw gh ct1180 := sxMeB_ok (cts := [ct899]) (cuts := cu1180) (sp := []) 86 (by decide +kernel) hg (by decide) (by decide) (List.forall_mem_cons.mpr ⟨cv899 hg, (fun _ h => absurd h List.not_mem_nil)⟩)
/-- LotBeliefsModel.begins -/
def ct1181 : sxCt := (260, 0, (2, [(1, .ofNat 0, .ofNat 2)], [], [(0, .inl 78), (1, .inr (false, (1, .ofNat 0)))], [], [], [], []), [(78, 45), (78, 46), (78, 47), (78, 48), (78, 49), (562000566, 0)], [
  (2, [], [], [], [], [(78, (0, .ofNat 44), .inr (false, (0, .ofNat 0))), (78, (0, .ofNat 45), .inr (false, (0, .ofNat 0))), (78, (0, .ofNat 46), .inr (false, (0, .ofNat 0))), (78, (0, .ofNat 47), .inr (false, (0, .ofNat 0))), (78, (0, .ofNat 48), .inr (false, (1, .ofNat 0)))], [], [])], [], 0, 0)
def cu1181 : List sxCu := [
  (27, (3, [(1, .ofNat 0, .ofNat 2), (2, .ofNat 0, .ofNat 17)], [], [(0, .inl 78), (1, .inr (false, (1, .ofNat 0))), (2, .inr (false, (2, .ofNat 0)))], [], [(78, (0, .ofNat 44), .inr (false, (0, .ofNat 0))), (78, (0, .ofNat 45), .inr (false, (0, .ofNat 0))), (78, (0, .ofNat 46), .inr (false, (0, .ofNat 0))), (78, (0, .ofNat 47), .inr (false, (0, .ofNat 0))), (78, (0, .ofNat 48), .inr (false, (1, .ofNat 0)))], [], []), ((0, 2, .ofNat 17), (0, 0, .ofNat 0), (0, 0, .ofNat 0)), 0, 0)]
set_option maxRecDepth 1000000 in
theorem cv1181 {gh : sxGh} (hg : sxGd sxKw gh) : sxCtV sxKw gh ct1181 := sxMeB_ok (cts := []) (cuts := cu1181) (sp := []) 108 (by decide +kernel) hg (by decide) (by decide) (fun _ h => absurd h List.not_mem_nil)
/-- LotBeliefs.Survey.heldInAll -/
def ct1235 : sxCt := (77, 1, (2, [(1, .ofNat 0, .ofNat 4095)], [], [(0, .inl 62), (1, .inr (false, (1, .ofNat 0)))], [], [], [], []), [], [
  (3, [(2, .negSucc 2147483647, .ofNat 2147483647)], [], [], [.inr (false, (2, .ofNat 0))], [], [], [])], [], 0, 0)
def cu1235 : List sxCu := [
  (4, (4, [(1, .ofNat 0, .ofNat 4095), (2, .negSucc 2147483647, .ofNat 2147483647), (3, .ofNat 0, .ofNat 128)], [], [(0, .inl 62), (1, .inr (false, (1, .ofNat 0))), (2, .inr (false, (2, .ofNat 0))), (3, .inr (false, (3, .ofNat 0)))], [], [], [], []), ((0, 3, .ofNat 128), (0, 0, .ofNat 0), (0, 0, .ofNat 0)), 0, 0)]
set_option maxRecDepth 1000000 in
theorem cv1235 {gh : sxGh} (hg : sxGd sxKw gh) : sxCtV sxKw gh ct1235 := sxMeB_ok (cts := [ct899]) (cuts := cu1235) (sp := []) 86 (by decide +kernel) hg (by decide) (by decide) (List.forall_mem_cons.mpr ⟨cv899 hg, (fun _ h => absurd h List.not_mem_nil)⟩)
/-- LotBeliefsModel.begins -/
def ct1236 : sxCt := (260, 0, (2, [(1, .ofNat 0, .ofNat 1)], [], [(0, .inl 78), (1, .inr (false, (1, .ofNat 0)))], [], [], [], []), [(78, 45), (78, 46), (78, 47), (78, 48), (78, 49), (562000566, 0)], [
  (2, [], [], [], [], [(78, (0, .ofNat 44), .inr (false, (0, .ofNat 0))), (78, (0, .ofNat 45), .inr (false, (0, .ofNat 0))), (78, (0, .ofNat 46), .inr (false, (0, .ofNat 0))), (78, (0, .ofNat 47), .inr (false, (0, .ofNat 0))), (78, (0, .ofNat 48), .inr (false, (1, .ofNat 0)))], [], [])], [], 0, 0)
def cu1236 : List sxCu := [
  (27, (3, [(1, .ofNat 0, .ofNat 1), (2, .ofNat 0, .ofNat 17)], [], [(0, .inl 78), (1, .inr (false, (1, .ofNat 0))), (2, .inr (false, (2, .ofNat 0)))], [], [(78, (0, .ofNat 44), .inr (false, (0, .ofNat 0))), (78, (0, .ofNat 45), .inr (false, (0, .ofNat 0))), (78, (0, .ofNat 46), .inr (false, (0, .ofNat 0))), (78, (0, .ofNat 47), .inr (false, (0, .ofNat 0))), (78, (0, .ofNat 48), .inr (false, (1, .ofNat 0)))], [], []), ((0, 2, .ofNat 17), (0, 0, .ofNat 0), (0, 0, .ofNat 0)), 0, 0)]
set_option maxRecDepth 1000000 in
theorem cv1236 {gh : sxGh} (hg : sxGd sxKw gh) : sxCtV sxKw gh ct1236 := sxMeB_ok (cts := []) (cuts := cu1236) (sp := []) 108 (by decide +kernel) hg (by decide) (by decide) (fun _ h => absurd h List.not_mem_nil)
/-- LotBeliefs.Survey.heldInAll -/
def ct1290 : sxCt := (77, 1, (2, [(1, .ofNat 0, .ofNat 4095)], [], [(0, .inl 58), (1, .inr (false, (1, .ofNat 0)))], [], [], [], []), [], [
  (3, [(2, .negSucc 2147483647, .ofNat 2147483647)], [], [], [.inr (false, (2, .ofNat 0))], [], [], [])], [], 0, 0)
def cu1290 : List sxCu := [
  (4, (4, [(1, .ofNat 0, .ofNat 4095), (2, .negSucc 2147483647, .ofNat 2147483647), (3, .ofNat 0, .ofNat 128)], [], [(0, .inl 58), (1, .inr (false, (1, .ofNat 0))), (2, .inr (false, (2, .ofNat 0))), (3, .inr (false, (3, .ofNat 0)))], [], [], [], []), ((0, 3, .ofNat 128), (0, 0, .ofNat 0), (0, 0, .ofNat 0)), 0, 0)]
set_option maxRecDepth 1000000 in
theorem cv1290 {gh : sxGh} (hg : sxGd sxKw gh) : sxCtV sxKw gh ct1290 := sxMeB_ok (cts := [ct899]) (cuts := cu1290) (sp := []) 86 (by decide +kernel) hg (by decide) (by decide) (List.forall_mem_cons.mpr ⟨cv899 hg, (fun _ h => absurd h List.not_mem_nil)⟩)
/-- LotBeliefs.drawRow -/
def ct1291 : sxCt := (185, 1, (2, [(1, .negSucc 2147483647, .ofNat 2147483647)], [], [(0, .inl 0), (1, .inr (false, (1, .ofNat 0)))], [], [], [], []), [(31, 0)], [
  (2, [], [], [], [], [], [], [])], [], 0, 0)
def cu1291 : List sxCu := [
  (2, (3, [(1, .negSucc 2147483647, .ofNat 2147483647), (2, .ofNat 0, .ofNat 12)], [], [(0, .inl 0), (1, .inr (false, (1, .ofNat 0))), (2, .inr (false, (2, .ofNat 0)))], [], [], [], []), ((0, 2, .ofNat 25), (0, 0, .ofNat 0), (0, 0, .ofNat 0)), 0, 0), 
  (38, (4, [(1, .negSucc 2147483647, .ofNat 2147483647), (2, .negSucc 2147483647, .ofNat 2147483647), (3, .negSucc 0, .ofNat 11)], [], [(0, .inl 0), (1, .inr (false, (1, .ofNat 0))), (2, .inr (false, (2, .ofNat 0))), (3, .inr (false, (3, .ofNat 0)))], [], [], [], []), ((3, 0, .ofNat 1), (0, 0, .ofNat 0), (0, 0, .ofNat 0)), 0, 0)]
set_option maxRecDepth 1000000 in
theorem cv1291 {gh : sxGh} (hg : sxGd sxKw gh) : sxCtV sxKw gh ct1291 := sxMeB_ok (cts := []) (cuts := cu1291) (sp := []) 142 (by decide +kernel) hg (by decide) (by decide) (fun _ h => absurd h List.not_mem_nil)
/-- LotBeliefs.drawn -/
def ct1292 : sxCt := (146, 6, (4, [(1, .negSucc 2147483647, .ofNat 2147483647), (2, .negSucc 2147483647, .ofNat 2147483647), (3, .negSucc 2147483647, .ofNat 2147483647)], [], [(0, .inl 0), (1, .inr (false, (1, .ofNat 0))), (2, .inr (false, (2, .ofNat 0))), (3, .inr (false, (3, .ofNat 0)))], [], [], [], []), [(21, 0), (22, 0), (25, 0), (26, 0), (30, 0), (31, 0), (32, 1), (32, 2), (32, 3), (32, 4), (32, 9), (32, 11), (32, 12), (33000037, 0)], [
  (5, [(1, .ofNat 0, .ofNat 4), (3, .ofNat 1, .ofNat 60), (4, .negSucc 2147483647, .ofNat 2147483647)], [], [], [.inr (false, (4, .ofNat 0))], [], [], [])], [
  (1, (5, [(4, .negSucc 2147483647, .ofNat 2147483647)], [], [], [], [(30, (0, .ofNat 1), .inr (false, (4, .ofNat 0)))], [], []))], 1, 6)
def cu1292 : List sxCu := [
  (33, (8, [(1, .ofNat 0, .ofNat 4), (2, .negSucc 2147483647, .ofNat 2147483647), (3, .ofNat 1, .ofNat 60), (4, .ofNat 0, .ofNat 4095), (5, .negSucc 2147483647, .ofNat 2147483647), (6, .ofNat 0, .ofNat 63), (7, .ofNat 0, .ofNat 63)], [], [(0, .inl 0), (1, .inr (false, (1, .ofNat 0))), (2, .inr (false, (2, .ofNat 0))), (3, .inr (false, (3, .ofNat 0))), (4, .inr (false, (4, .ofNat 0))), (5, .inr (false, (5, .ofNat 0))), (6, .inr (false, (6, .ofNat 0)))], [], [(0, (0, .ofNat 7), .inl 27), (27, (0, .ofNat 2), .inr (false, (7, .ofNat 0)))], [], []), ((0, 6, .ofNat 63), (0, 0, .ofNat 0), (0, 0, .ofNat 0)), 0, 0)]
set_option maxRecDepth 1000000 in
theorem cv1292 {gh : sxGh} (hg : sxGd sxKw gh) : sxCtV sxKw gh ct1292 := sxMeB_ok (cts := [ct533, ct521, ct380, ct1291, ct522]) (cuts := cu1292) (sp := []) 330 (by decide +kernel) hg (by decide) (by decide) (List.forall_mem_cons.mpr ⟨cv533 hg, (List.forall_mem_cons.mpr ⟨cv521 hg, (List.forall_mem_cons.mpr ⟨cv380 hg, (List.forall_mem_cons.mpr ⟨cv1291 hg, (List.forall_mem_cons.mpr ⟨cv522 hg, (fun _ h => absurd h List.not_mem_nil)⟩)⟩)⟩)⟩)⟩)
/-- LotBeliefsModel.rowBy -/
def ct1293 : sxCt := (291, 0, (2, [(1, .negSucc 2147483647, .ofNat 2147483647)], [], [(0, .inl 78), (1, .inr (false, (1, .ofNat 0)))], [], [], [], []), [(78, 44), (560, 0)], [
  (3, [(2, .ofNat 0, .ofNat 12)], [], [], [], [(78, (0, .ofNat 43), .inr (false, (2, .ofNat 0)))], [], [])], [], 0, 0)
def cu1293 : List sxCu := [
  (14, (4, [(1, .negSucc 2147483647, .ofNat 2147483647), (2, .ofNat 0, .ofNat 12), (3, .ofNat 0, .ofNat 12)], [], [(0, .inl 78), (1, .inr (false, (1, .ofNat 0))), (2, .inr (false, (1, .ofNat 0))), (3, .inr (false, (2, .ofNat 0)))], [], [(78, (0, .ofNat 12), .inl 82), (78, (0, .ofNat 43), .inr (false, (3, .ofNat 0))), (82, (0, .ofNat 1), .inr (false, (3, .ofNat 0)))], [], []), ((0, 2, .ofNat 25), (0, 0, .ofNat 0), (0, 0, .ofNat 0)), 0, 0), 
  (42, (5, [(1, .negSucc 2147483647, .ofNat 2147483647), (2, .negSucc 2147483647, .ofNat 2147483647), (3, .negSucc 0, .ofNat 11), (4, .ofNat 0, .ofNat 12)], [(3, 4, .negSucc 0)], [(0, .inl 78), (1, .inr (false, (1, .ofNat 0))), (2, .inr (false, (2, .ofNat 0))), (3, .inr (false, (3, .ofNat 0)))], [], [(78, (0, .ofNat 12), .inl 82), (78, (0, .ofNat 43), .inr (false, (4, .ofNat 0))), (82, (0, .ofNat 1), .inr (false, (4, .ofNat 0)))], [], []), ((3, 0, .ofNat 1), (0, 0, .ofNat 0), (0, 0, .ofNat 0)), 0, 0)]
set_option maxRecDepth 1000000 in
theorem cv1293 {gh : sxGh} (hg : sxGd sxKw gh) : sxCtV sxKw gh ct1293 := sxMeB_ok (cts := []) (cuts := cu1293) (sp := []) 125 (by decide +kernel) hg (by decide) (by decide) (fun _ h => absurd h List.not_mem_nil)
/-- LotBeliefs.runSchool -/
def ct1306 : sxCt := (189, 5, (2, [(1, .ofNat 0, .ofNat 1)], [], [(0, .inl 0), (1, .inl 32), (2, .inr (false, (1, .ofNat 0)))], [], [], [], []), [(21, 0), (22, 0), (25, 0), (26, 0), (31, 0), (32, 1), (32, 2), (32, 3), (32, 4), (32, 9), (32, 11), (32, 12), (33000037, 0)], [
  (6, [(2, .ofNat 0, .ofNat 4), (3, .ofNat 0, .ofNat 63), (4, .ofNat 0, .ofNat 4095), (5, .negSucc 2147483647, .ofNat 2147483647)], [], [], [], [(32, (0, .ofNat 2), .inr (false, (2, .ofNat 0))), (32, (0, .ofNat 3), .inr (false, (3, .ofNat 0))), (32, (0, .ofNat 8), .inr (false, (4, .ofNat 0))), (32, (0, .ofNat 11), .inr (false, (5, .ofNat 0)))], [], [])], [], 0, 0)
def cu1306 : List sxCu := [
  (2, (3, [(1, .ofNat 0, .ofNat 1), (2, .ofNat 0, .ofNat 12)], [], [(0, .inl 0), (1, .inl 32), (2, .inr (false, (1, .ofNat 0))), (3, .inr (false, (2, .ofNat 0)))], [], [], [], []), ((0, 2, .ofNat 12), (0, 0, .ofNat 0), (0, 0, .ofNat 0)), 0, 0)]
set_option maxRecDepth 1000000 in
theorem cv1306 {gh : sxGh} (hg : sxGd sxKw gh) : sxCtV sxKw gh ct1306 := sxMeB_ok (cts := [ct533]) (cuts := cu1306) (sp := []) 241 (by decide +kernel) hg (by decide) (by decide) (List.forall_mem_cons.mpr ⟨cv533 hg, (fun _ h => absurd h List.not_mem_nil)⟩)
/-- LotBeliefs.right -/
def ct1356 : sxCt := (150, 6, (2, [(1, .negSucc 2147483647, .ofNat 2147483647)], [], [(0, .inl 0), (1, .inr (false, (1, .ofNat 0)))], [], [], [], []), [(21, 0), (22, 0), (25, 0), (26, 0), (30, 0), (31, 0), (32, 1), (32, 2), (32, 3), (32, 4), (32, 9), (32, 11), (32, 12), (33000037, 0)], [
  (7, [(1, .ofNat 0, .ofNat 1), (2, .negSucc 0, .ofNat 51), (3, .ofNat 0, .ofNat 4), (4, .ofNat 0, .ofNat 63), (5, .ofNat 0, .ofNat 4095), (6, .negSucc 2147483647, .ofNat 2147483647)], [], [], [.inr (false, (2, .ofNat 0))], [(32, (0, .ofNat 2), .inr (false, (3, .ofNat 0))), (32, (0, .ofNat 3), .inr (false, (4, .ofNat 0))), (32, (0, .ofNat 8), .inr (false, (5, .ofNat 0))), (32, (0, .ofNat 11), .inr (false, (6, .ofNat 0)))], [], [])], [
  (1, (3, [(2, .negSucc 2147483647, .ofNat 2147483647)], [], [], [], [(30, (0, .ofNat 1), .inr (false, (2, .ofNat 0)))], [], []))], 1, 6)
def cu1356 : List sxCu := [
  (17, (7, [(1, .ofNat 0, .ofNat 1), (2, .ofNat 0, .ofNat 52), (3, .ofNat 0, .ofNat 4), (4, .ofNat 0, .ofNat 63), (5, .ofNat 0, .ofNat 4095), (6, .negSucc 2147483647, .ofNat 2147483647)], [], [(0, .inl 0), (1, .inr (false, (1, .ofNat 0))), (2, .inr (false, (2, .ofNat 0)))], [], [(0, (0, .ofNat 12), .inl 32), (32, (0, .ofNat 2), .inr (false, (3, .ofNat 0))), (32, (0, .ofNat 3), .inr (false, (4, .ofNat 0))), (32, (0, .ofNat 8), .inr (false, (5, .ofNat 0))), (32, (0, .ofNat 11), .inr (false, (6, .ofNat 0)))], [], []), ((0, 2, .ofNat 52), (0, 0, .ofNat 0), (0, 0, .ofNat 0)), 0, 0)]
set_option maxRecDepth 1000000 in
theorem cv1356 {gh : sxGh} (hg : sxGd sxKw gh) : sxCtV sxKw gh ct1356 := sxMeB_ok (cts := [ct427, ct520, ct525, ct1306]) (cuts := cu1356) (sp := []) 153 (by decide +kernel) hg (by decide) (by decide) (List.forall_mem_cons.mpr ⟨cv427 hg, (List.forall_mem_cons.mpr ⟨cv520 hg, (List.forall_mem_cons.mpr ⟨cv525 hg, (List.forall_mem_cons.mpr ⟨cv1306 hg, (fun _ h => absurd h List.not_mem_nil)⟩)⟩)⟩)⟩)
/-- LotBeliefsModel.togetherIn -/
def ct1373 : sxCt := (275, 0, (3, [(1, .negSucc 2147483647, .ofNat 2147483647), (2, .ofNat 0, .ofNat 51)], [], [(0, .inl 78), (1, .inr (false, (1, .ofNat 0))), (2, .inr (false, (2, .ofNat 0)))], [], [], [], []), [], [
  (4, [(3, .negSucc 9223372036854775807, .ofNat 9223372036854775807)], [], [], [.inr (true, (3, .ofNat 0))], [], [], [])], [], 0, 0)
def cu1373 : List sxCu := [
  (10, (5, [(1, .negSucc 2147483647, .ofNat 2147483647), (2, .ofNat 0, .ofNat 51), (3, .negSucc 9223372036854775807, .ofNat 9223372036854775807), (4, .ofNat 0, .ofNat 12)], [], [(0, .inl 78), (1, .inr (false, (1, .ofNat 0))), (2, .inr (false, (2, .ofNat 0))), (3, .inr (true, (3, .ofNat 0))), (5, .inr (false, (4, .ofNat 0)))], [], [(78, (0, .ofNat 19), .inl 89)], [], []), ((0, 4, .ofNat 12), (0, 0, .ofNat 0), (0, 0, .ofNat 0)), 0, 0)]
set_option maxRecDepth 1000000 in
theorem cv1373 {gh : sxGh} (hg : sxGd sxKw gh) : sxCtV sxKw gh ct1373 := sxMeB_ok (cts := []) (cuts := cu1373) (sp := []) 97 (by decide +kernel) hg (by decide) (by decide) (fun _ h => absurd h List.not_mem_nil)
/-- LotBeliefs.killer -/
def ct1376 : sxCt := (152, 6, (2, [(1, .negSucc 2147483647, .ofNat 2147483647)], [], [(0, .inl 0), (1, .inr (false, (1, .ofNat 0)))], [], [], [], []), [(21, 0), (22, 0), (25, 0), (26, 0), (30, 0), (32, 1), (32, 2), (32, 3), (32, 4), (32, 9), (32, 11), (32, 12), (33000037, 0)], [
  (7, [(1, .ofNat 0, .ofNat 11), (2, .negSucc 0, .ofNat 11), (3, .ofNat 0, .ofNat 4), (4, .ofNat 0, .ofNat 63), (5, .ofNat 0, .ofNat 4095), (6, .negSucc 2147483647, .ofNat 2147483647)], [], [], [.inr (false, (2, .ofNat 0))], [(32, (0, .ofNat 2), .inr (false, (3, .ofNat 0))), (32, (0, .ofNat 3), .inr (false, (4, .ofNat 0))), (32, (0, .ofNat 8), .inr (false, (5, .ofNat 0))), (32, (0, .ofNat 11), .inr (false, (6, .ofNat 0)))], [], [])], [
  (0, (3, [(2, .negSucc 2147483647, .ofNat 2147483647)], [], [], [], [(30, (0, .ofNat 0), .inr (false, (2, .ofNat 0)))], [], []))], 1, 6)
def cu1376 : List sxCu := [
  (36, (8, [(1, .ofNat 0, .ofNat 11), (2, .negSucc 9223372036854775807, .ofNat 9223372036854775807), (3, .ofNat 0, .ofNat 12), (4, .ofNat 0, .ofNat 4), (5, .ofNat 0, .ofNat 63), (6, .ofNat 0, .ofNat 4095), (7, .negSucc 2147483647, .ofNat 2147483647)], [], [(0, .inl 0), (1, .inr (false, (1, .ofNat 0))), (2, .inr (true, (2, .ofNat 0))), (4, .inr (false, (3, .ofNat 0)))], [], [(0, (0, .ofNat 7), .inl 27), (0, (0, .ofNat 12), .inl 32), (27, (0, .ofNat 0), .inl 28), (27, (0, .ofNat 1), .inr (false, (4, .ofNat 0))), (27, (0, .ofNat 2), .inr (false, (5, .ofNat 0))), (32, (0, .ofNat 2), .inr (false, (4, .ofNat 0))), (32, (0, .ofNat 3), .inr (false, (5, .ofNat 0))), (32, (0, .ofNat 7), .inl 36), (32, (0, .ofNat 8), .inr (false, (6, .ofNat 0))), (32, (0, .ofNat 11), .inr (false, (7, .ofNat 0)))], [], []), ((0, 3, .ofNat 12), (0, 0, .ofNat 0), (0, 0, .ofNat 0)), 0, 0)]
set_option maxRecDepth 1000000 in
theorem cv1376 {gh : sxGh} (hg : sxGd sxKw gh) : sxCtV sxKw gh ct1376 := sxMeB_ok (cts := [ct426]) (cuts := cu1376) (sp := []) 392 (by decide +kernel) hg (by decide) (by decide) (List.forall_mem_cons.mpr ⟨cv426 hg, (fun _ h => absurd h List.not_mem_nil)⟩)
/-- LotBeliefs.following -/
def ct1379 : sxCt := (154, 3, (3, [(1, .negSucc 2147483647, .ofNat 2147483647), (2, .negSucc 2147483647, .ofNat 2147483647)], [], [(0, .inl 0), (1, .inr (false, (1, .ofNat 0))), (2, .inr (false, (2, .ofNat 0)))], [], [], [], []), [(30, 0)], [
  (4, [(1, .ofNat 0, .ofNat 4095), (2, .ofNat 0, .ofNat 51), (3, .ofNat 0, .ofNat 4095)], [], [], [.inr (false, (3, .ofNat 0))], [], [], [])], [
  (1, (4, [(3, .negSucc 2147483647, .ofNat 2147483647)], [], [], [], [(30, (0, .ofNat 1), .inr (false, (3, .ofNat 0)))], [], []))], 1, 6)
def cu1379 : List sxCu := [
  (33, (6, [(1, .ofNat 0, .ofNat 4095), (2, .ofNat 0, .ofNat 51), (3, .negSucc 9223372036854775807, .ofNat 9223372036854775807), (4, .ofNat 0, .ofNat 4095), (5, .ofNat 0, .ofNat 12)], [], [(0, .inl 0), (1, .inr (false, (1, .ofNat 0))), (2, .inr (false, (2, .ofNat 0))), (3, .inr (true, (3, .ofNat 0))), (5, .inr (false, (4, .ofNat 0))), (6, .inr (false, (5, .ofNat 0)))], [], [], [], []), ((0, 5, .ofNat 12), (0, 0, .ofNat 0), (0, 0, .ofNat 0)), 0, 0)]
set_option maxRecDepth 1000000 in
theorem cv1379 {gh : sxGh} (hg : sxGd sxKw gh) : sxCtV sxKw gh ct1379 := sxMeB_ok (cts := [ct520, ct525]) (cuts := cu1379) (sp := []) 295 (by decide +kernel) hg (by decide) (by decide) (List.forall_mem_cons.mpr ⟨cv520 hg, (List.forall_mem_cons.mpr ⟨cv525 hg, (fun _ h => absurd h List.not_mem_nil)⟩)⟩)
/-- LotBeliefsModel.followingOf -/
def ct1380 : sxCt := (298, 0, (2, [(1, .negSucc 9223372036854775807, .ofNat 9223372036854775807)], [], [(0, .inl 78), (1, .inr (true, (1, .ofNat 0)))], [], [], [], []), [], [
  (3, [(2, .ofNat 0, .ofNat 4095)], [], [], [.inr (false, (2, .ofNat 0))], [], [], [])], [], 0, 0)
def cu1380 : List sxCu := [
  (5, (4, [(1, .negSucc 9223372036854775807, .ofNat 9223372036854775807), (2, .ofNat 0, .ofNat 4095), (3, .ofNat 0, .ofNat 12)], [], [(0, .inl 78), (1, .inr (true, (1, .ofNat 0))), (3, .inr (false, (2, .ofNat 0))), (4, .inr (false, (3, .ofNat 0)))], [], [], [], []), ((0, 3, .ofNat 12), (0, 0, .ofNat 0), (0, 0, .ofNat 0)), 0, 0)]
set_option maxRecDepth 1000000 in
theorem cv1380 {gh : sxGh} (hg : sxGd sxKw gh) : sxCtV sxKw gh ct1380 := sxMeB_ok (cts := []) (cuts := cu1380) (sp := []) 104 (by decide +kernel) hg (by decide) (by decide) (fun _ h => absurd h List.not_mem_nil)
end SXC
