/-! SX: contracts, by program -/
section SXC
/-- LotBeliefsModel.kills -/
def ct518 : sxCt := (263, 1, (3, [(1, .ofNat 0, .ofNat 51), (2, .ofNat 0, .ofNat 17)], [(2, 1, .ofNat 0)], [(0, .inl 78), (1, .inr (false, (1, .ofNat 0)))], [], [(78, (0, .ofNat 44), .inr (false, (2, .ofNat 0)))], [], []), [(78, 45), (78, 47), (561, 0), (563, 0)], [
  (4, [(3, .ofNat 0, .ofNat 17)], [(3, 1, .ofNat 0), (3, 2, .ofNat 0)], [], [], [(78, (0, .ofNat 44), .inr (false, (3, .ofNat 0)))], [], [])], [], 0, 0)
def cu518 : List sxCu := [
  (2, (5, [(1, .ofNat 0, .ofNat 51), (2, .ofNat 0, .ofNat 17), (3, .ofNat 0, .ofNat 17), (4, .ofNat 0, .ofNat 17)], [(4, 1, .ofNat 0), (4, 2, .ofNat 0), (2, 1, .ofNat 0)], [(0, .inl 78), (1, .inr (false, (1, .ofNat 0))), (2, .inr (false, (3, .ofNat 0)))], [], [(78, (0, .ofNat 44), .inr (false, (4, .ofNat 0)))], [], []), ((4, 3, .ofNat 17), (0, 0, .ofNat 0), (0, 0, .ofNat 0)), 0, 0)]
set_option maxRecDepth 1000000 in
theorem cv518 {gh : sxGh} (hg : sxGd sxKw gh) : sxCtV sxKw gh ct518 := sxMeB_ok (cts := [ct514]) (cuts := cu518) (sp := []) 121 (by decide +kernel) hg (by decide) (by decide) (List.forall_mem_cons.mpr ⟨cv514 hg, (fun _ h => absurd h List.not_mem_nil)⟩)
/-- LotBeliefs.fate -/
def ct520 : sxCt := (131, 6, (3, [(1, .negSucc 2147483647, .ofNat 2147483647), (2, .negSucc 2147483647, .ofNat 2147483647)], [], [(0, .inl 0), (1, .inr (false, (1, .ofNat 0))), (2, .inr (false, (2, .ofNat 0)))], [], [], [], []), [(21, 0), (22, 0), (25, 0), (26, 0), (30, 0), (32, 1), (32, 2), (32, 3), (32, 4), (32, 9), (32, 11), (32, 12), (33000037, 0)], [
  (8, [(1, .ofNat 0, .ofNat 11), (2, .ofNat 0, .ofNat 4), (3, .negSucc 50, .ofNat 52), (4, .ofNat 0, .ofNat 4), (5, .ofNat 0, .ofNat 63), (6, .ofNat 0, .ofNat 4095), (7, .negSucc 2147483647, .ofNat 2147483647)], [], [], [.inr (false, (3, .ofNat 0))], [(32, (0, .ofNat 2), .inr (false, (4, .ofNat 0))), (32, (0, .ofNat 3), .inr (false, (5, .ofNat 0))), (32, (0, .ofNat 8), .inr (false, (6, .ofNat 0))), (32, (0, .ofNat 11), .inr (false, (7, .ofNat 0)))], [], [])], [
  (0, (4, [(3, .negSucc 2147483647, .ofNat 2147483647)], [], [], [], [(30, (0, .ofNat 0), .inr (false, (3, .ofNat 0)))], [], [])), 
  (1, (4, [(1, .ofNat 0, .ofNat 11), (3, .negSucc 2147483647, .ofNat 2147483647)], [], [], [], [(30, (0, .ofNat 1), .inr (false, (3, .ofNat 0)))], [], []))], 1, 6)
def cu520 : List sxCu := []
set_option maxRecDepth 1000000 in
theorem cv520 {gh : sxGh} (hg : sxGd sxKw gh) : sxCtV sxKw gh ct520 := sxMeB_ok (cts := [ct430]) (cuts := cu520) (sp := []) 771 (by decide +kernel) hg (by decide) (by decide) (List.forall_mem_cons.mpr ⟨cv430 hg, (fun _ h => absurd h List.not_mem_nil)⟩)
/-- LotBeliefs.Jar.common -/
def ct524 : sxCt := (28, 0, (3, [(1, .ofNat 0, .ofNat 4095), (2, .ofNat 0, .ofNat 51)], [], [(0, .inl 11), (1, .inr (false, (1, .ofNat 0))), (2, .inr (false, (2, .ofNat 0)))], [], [], [], []), [], [
  (4, [(3, .negSucc 9223372036854775807, .ofNat 9223372036854775807)], [], [], [.inr (true, (3, .ofNat 0))], [], [], [])], [], 0, 0)
def cu524 : List sxCu := [
  (10, (5, [(1, .ofNat 0, .ofNat 4095), (2, .ofNat 0, .ofNat 51), (3, .negSucc 9223372036854775807, .ofNat 9223372036854775807), (4, .ofNat 0, .ofNat 12)], [], [(0, .inl 11), (1, .inr (false, (1, .ofNat 0))), (2, .inr (false, (2, .ofNat 0))), (3, .inr (true, (3, .ofNat 0))), (5, .inr (false, (4, .ofNat 0)))], [], [(11, (0, .ofNat 11), .inl 16)], [], []), ((0, 4, .ofNat 12), (0, 0, .ofNat 0), (0, 0, .ofNat 0)), 0, 0)]
set_option maxRecDepth 1000000 in
theorem cv524 {gh : sxGh} (hg : sxGd sxKw gh) : sxCtV sxKw gh ct524 := sxMeB_ok (cts := []) (cuts := cu524) (sp := []) 90 (by decide +kernel) hg (by decide) (by decide) (fun _ h => absurd h List.not_mem_nil)
/-- LotBeliefs.Jar.slipsSoIn -/
def ct525 : sxCt := (26, 1, (2, [(1, .ofNat 0, .ofNat 63)], [], [(0, .inl 11), (1, .inr (false, (1, .ofNat 0)))], [], [], [], []), [], [
  (3, [(2, .ofNat 0, .ofNat 4095)], [], [], [.inr (false, (2, .ofNat 0))], [], [], [])], [], 0, 0)
def cu525 : List sxCu := [
  (4, (4, [(1, .ofNat 0, .ofNat 63), (2, .ofNat 0, .ofNat 4095), (3, .ofNat 0, .ofNat 12)], [], [(0, .inl 11), (1, .inr (false, (1, .ofNat 0))), (2, .inr (false, (2, .ofNat 0))), (3, .inr (false, (3, .ofNat 0)))], [], [], [], []), ((0, 3, .ofNat 12), (0, 0, .ofNat 0), (0, 0, .ofNat 0)), 0, 0)]
set_option maxRecDepth 1000000 in
theorem cv525 {gh : sxGh} (hg : sxGd sxKw gh) : sxCtV sxKw gh ct525 := sxMeB_ok (cts := []) (cuts := cu525) (sp := []) 103 (by decide +kernel) hg (by decide) (by decide) (fun _ h => absurd h List.not_mem_nil)
/-- Integer.bitCount -/
def ct526 : sxCt := (328, 0, (2, [(1, .ofNat 0, .ofNat 4095)], [], [(0, .inr (false, (1, .ofNat 0)))], [], [], [], []), [], [
  (3, [(2, .ofNat 0, .ofNat 63)], [], [], [.inr (false, (2, .ofNat 0))], [], [], [])], [], 0, 0)
def cu526 : List sxCu := []
set_option maxRecDepth 1000000 in
theorem cv526 {gh : sxGh} (hg : sxGd sxKw gh) : sxCtV sxKw gh ct526 := sxMeB_ok (cts := []) (cuts := cu526) (sp := []) 102 (by decide +kernel) hg (by decide) (by decide) (fun _ h => absurd h List.not_mem_nil)
/-- LotBeliefs.Course.hurtsInAll -/
def ct527 : sxCt := (12, 2, (1, [], [], [(0, .inl 32)], [], [], [], []), [], [
  (2, [(1, .negSucc 2147483647, .ofNat 2147483647)], [], [], [.inr (false, (1, .ofNat 0))], [], [], [])], [], 0, 0)
def cu527 : List sxCu := [
  (4, (3, [(1, .negSucc 2147483647, .ofNat 2147483647), (2, .ofNat 0, .ofNat 12)], [], [(0, .inl 32), (1, .inr (false, (1, .ofNat 0))), (2, .inr (false, (2, .ofNat 0)))], [], [], [], []), ((0, 2, .ofNat 12), (0, 0, .ofNat 0), (0, 0, .ofNat 0)), 0, 0)]
set_option maxRecDepth 1000000 in
theorem cv527 {gh : sxGh} (hg : sxGd sxKw gh) : sxCtV sxKw gh ct527 := sxMeB_ok (cts := []) (cuts := cu527) (sp := []) 211 (by decide +kernel) hg (by decide) (by decide) (fun _ h => absurd h List.not_mem_nil)
/-- LotBeliefs.Course.gone -/
def ct528 : sxCt := (13, 0, (2, [(1, .ofNat 0, .ofNat 1)], [], [(0, .inl 32), (1, .inr (false, (1, .ofNat 0)))], [], [], [], []), [], [
  (3, [(2, .ofNat 0, .ofNat 12)], [], [], [.inr (false, (2, .ofNat 0))], [], [], [])], [], 0, 0)
def cu528 : List sxCu := [
  (4, (4, [(1, .ofNat 0, .ofNat 1), (2, .ofNat 0, .ofNat 12), (3, .ofNat 0, .ofNat 12)], [(2, 3, .ofNat 0)], [(0, .inl 32), (1, .inr (false, (1, .ofNat 0))), (2, .inr (false, (2, .ofNat 0))), (3, .inr (false, (3, .ofNat 0)))], [], [], [], []), ((0, 3, .ofNat 12), (0, 0, .ofNat 0), (0, 0, .ofNat 0)), 0, 0)]
set_option maxRecDepth 1000000 in
theorem cv528 {gh : sxGh} (hg : sxGd sxKw gh) : sxCtV sxKw gh ct528 := sxMeB_ok (cts := []) (cuts := cu528) (sp := []) 129 (by decide +kernel) hg (by decide) (by decide) (fun _ h => absurd h List.not_mem_nil)
/-- LotBeliefs.Jar.common -/
def ct529 : sxCt := (28, 0, (3, [(1, .ofNat 0, .ofNat 4095), (2, .ofNat 0, .ofNat 51)], [], [(0, .inl 3), (1, .inr (false, (1, .ofNat 0))), (2, .inr (false, (2, .ofNat 0)))], [], [], [], []), [], [
  (4, [(3, .negSucc 9223372036854775807, .ofNat 9223372036854775807)], [], [], [.inr (true, (3, .ofNat 0))], [], [], [])], [], 0, 0)
def cu529 : List sxCu := [
  (10, (5, [(1, .ofNat 0, .ofNat 4095), (2, .ofNat 0, .ofNat 51), (3, .negSucc 9223372036854775807, .ofNat 9223372036854775807), (4, .ofNat 0, .ofNat 12)], [], [(0, .inl 3), (1, .inr (false, (1, .ofNat 0))), (2, .inr (false, (2, .ofNat 0))), (3, .inr (true, (3, .ofNat 0))), (5, .inr (false, (4, .ofNat 0)))], [], [(3, (0, .ofNat 11), .inl 8)], [], []), ((0, 4, .ofNat 12), (0, 0, .ofNat 0), (0, 0, .ofNat 0)), 0, 0)]
set_option maxRecDepth 1000000 in
theorem cv529 {gh : sxGh} (hg : sxGd sxKw gh) : sxCtV sxKw gh ct529 := sxMeB_ok (cts := []) (cuts := cu529) (sp := []) 90 (by decide +kernel) hg (by decide) (by decide) (fun _ h => absurd h List.not_mem_nil)
/-- LotBeliefs.year -/
def ct530 : sxCt := (132, 6, (2, [(1, .negSucc 2147483647, .ofNat 2147483647)], [], [(0, .inl 0), (1, .inr (false, (1, .ofNat 0)))], [], [], [], []), [(21, 0), (22, 0), (25, 0), (26, 0), (30, 0), (32, 1), (32, 2), (32, 3), (32, 4), (32, 9), (32, 11), (32, 12), (33000037, 0)], [
  (7, [(1, .ofNat 0, .ofNat 5), (2, .negSucc 2147483647, .ofNat 2147483647), (3, .ofNat 0, .ofNat 4), (4, .ofNat 0, .ofNat 63), (5, .ofNat 0, .ofNat 4095), (6, .negSucc 2147483647, .ofNat 2147483647)], [], [], [.inr (false, (2, .ofNat 0))], [(32, (0, .ofNat 2), .inr (false, (3, .ofNat 0))), (32, (0, .ofNat 3), .inr (false, (4, .ofNat 0))), (32, (0, .ofNat 8), .inr (false, (5, .ofNat 0))), (32, (0, .ofNat 11), .inr (false, (6, .ofNat 0)))], [], [])], [
  (1, (3, [(2, .negSucc 2147483647, .ofNat 2147483647)], [], [], [], [(30, (0, .ofNat 1), .inr (false, (2, .ofNat 0)))], [], []))], 1, 6)
def cu530 : List sxCu := []
set_option maxRecDepth 1000000 in
theorem cv530 {gh : sxGh} (hg : sxGd sxKw gh) : sxCtV sxKw gh ct530 := sxMeB_ok (cts := [ct430, ct527, ct528, ct384, ct525, ct524, ct529, ct526]) (cuts := cu530) (sp := []) 462 (by decide +kernel) hg (by decide) (by decide) (List.forall_mem_cons.mpr ⟨cv430 hg, (List.forall_mem_cons.mpr ⟨cv527 hg, (List.forall_mem_cons.mpr ⟨cv528 hg, (List.forall_mem_cons.mpr ⟨cv384 hg, (List.forall_mem_cons.mpr ⟨cv525 hg, (List.forall_mem_cons.mpr ⟨cv524 hg, (List.forall_mem_cons.mpr ⟨cv529 hg, (List.forall_mem_cons.mpr ⟨cv526 hg, (fun _ h => absurd h List.not_mem_nil)⟩)⟩)⟩)⟩)⟩)⟩)⟩)⟩)
/-- LotBeliefsModel.togetherIn -/
def ct531 : sxCt := (275, 0, (3, [(1, .ofNat 0, .ofNat 4095), (2, .ofNat 0, .ofNat 51)], [], [(0, .inl 78), (1, .inr (false, (1, .ofNat 0))), (2, .inr (false, (2, .ofNat 0)))], [], [], [], []), [], [
  (4, [(3, .negSucc 9223372036854775807, .ofNat 9223372036854775807)], [], [], [.inr (true, (3, .ofNat 0))], [], [], [])], [], 0, 0)
def cu531 : List sxCu := [
  (10, (5, [(1, .ofNat 0, .ofNat 4095), (2, .ofNat 0, .ofNat 51), (3, .negSucc 9223372036854775807, .ofNat 9223372036854775807), (4, .ofNat 0, .ofNat 12)], [], [(0, .inl 78), (1, .inr (false, (1, .ofNat 0))), (2, .inr (false, (2, .ofNat 0))), (3, .inr (true, (3, .ofNat 0))), (5, .inr (false, (4, .ofNat 0)))], [], [(78, (0, .ofNat 19), .inl 89)], [], []), ((0, 4, .ofNat 12), (0, 0, .ofNat 0), (0, 0, .ofNat 0)), 0, 0)]
set_option maxRecDepth 1000000 in
theorem cv531 {gh : sxGh} (hg : sxGd sxKw gh) : sxCtV sxKw gh ct531 := sxMeB_ok (cts := []) (cuts := cu531) (sp := []) 97 (by decide +kernel) hg (by decide) (by decide) (fun _ h => absurd h List.not_mem_nil)
/-- LotBeliefsModel.ones -/
def ct532 : sxCt := (225, 0, (2, [(1, .ofNat 0, .ofNat 4095)], [], [(0, .inr (true, (1, .ofNat 0)))], [], [], [], []), [], [
  (3, [(2, .negSucc 2147483647, .ofNat 2147483647)], [], [], [.inr (false, (2, .ofNat 0))], [], [], [])], [], 0, 0)
def cu532 : List sxCu := [
  (4, (4, [(1, .ofNat 0, .ofNat 4095), (2, .negSucc 2147483647, .ofNat 2147483647), (3, .ofNat 0, .ofNat 64)], [], [(0, .inr (true, (1, .ofNat 0))), (2, .inr (false, (2, .ofNat 0))), (3, .inr (false, (3, .ofNat 0)))], [], [], [], []), ((0, 3, .ofNat 64), (0, 0, .ofNat 0), (0, 0, .ofNat 0)), 0, 0)]
set_option maxRecDepth 1000000 in
theorem cv532 {gh : sxGh} (hg : sxGd sxKw gh) : sxCtV sxKw gh ct532 := sxMeB_ok (cts := []) (cuts := cu532) (sp := []) 80 (by decide +kernel) hg (by decide) (by decide) (fun _ h => absurd h List.not_mem_nil)
/-- LotBeliefs.copyOrder -/
def ct535 : sxCt := (183, 0, (2, [(1, .ofNat 0, .ofNat 1)], [], [(0, .inl 0), (1, .inr (false, (1, .ofNat 0)))], [], [], [], []), [(31, 0)], [
  (2, [], [], [], [], [], [], [])], [], 0, 0)
def cu535 : List sxCu := [
  (2, (3, [(1, .ofNat 0, .ofNat 1), (2, .ofNat 0, .ofNat 12)], [], [(0, .inl 0), (1, .inr (false, (1, .ofNat 0))), (2, .inr (false, (2, .ofNat 0)))], [], [], [], []), ((0, 2, .ofNat 12), (0, 0, .ofNat 0), (0, 0, .ofNat 0)), 0, 0)]
set_option maxRecDepth 1000000 in
theorem cv535 {gh : sxGh} (hg : sxGd sxKw gh) : sxCtV sxKw gh ct535 := sxMeB_ok (cts := []) (cuts := cu535) (sp := []) 111 (by decide +kernel) hg (by decide) (by decide) (fun _ h => absurd h List.not_mem_nil)
/-- LotBeliefs.Course.goBack -/
def ct536 : sxCt := (3, 1, (2, [(1, .ofNat 0, .ofNat 1)], [], [(0, .inl 32), (1, .inl 31), (2, .inr (false, (1, .ofNat 0)))], [], [], [], []), [(32, 11), (32, 12), (33000037, 0)], [
  (3, [(2, .ofNat 0, .ofNat 17)], [], [], [], [(32, (0, .ofNat 10), .inr (false, (2, .ofNat 0)))], [], [])], [], 0, 0)
def cu536 : List sxCu := [
  (12, (3, [(1, .ofNat 0, .ofNat 1), (2, .ofNat 0, .ofNat 17)], [], [(0, .inl 32), (1, .inl 31), (2, .inr (false, (1, .ofNat 0))), (3, .inr (false, (2, .ofNat 0)))], [], [(32, (0, .ofNat 10), .inr (false, (0, .ofNat 0))), (32, (0, .ofNat 11), .inr (false, (0, .ofNat 0)))], [], []), ((0, 2, .ofNat 19), (0, 0, .ofNat 0), (0, 0, .ofNat 0)), 0, 0), 
  (46, (4, [(1, .ofNat 0, .ofNat 1), (2, .ofNat 0, .ofNat 1), (3, .ofNat 0, .ofNat 17)], [], [(0, .inl 32), (1, .inl 31), (2, .inr (false, (1, .ofNat 0))), (3, .inr (false, (2, .ofNat 0)))], [], [(32, (0, .ofNat 4), .inl 33), (32, (0, .ofNat 10), .inr (false, (3, .ofNat 0)))], [], []), ((0, 2, .ofNat 1), (0, 0, .ofNat 0), (0, 0, .ofNat 0)), 0, 0)]
set_option maxRecDepth 1000000 in
theorem cv536 {gh : sxGh} (hg : sxGd sxKw gh) : sxCtV sxKw gh ct536 := sxMeB_ok (cts := [ct391]) (cuts := cu536) (sp := []) 125 (by decide +kernel) hg (by decide) (by decide) (List.forall_mem_cons.mpr ⟨cv391 hg, (fun _ h => absurd h List.not_mem_nil)⟩)
/-- LotBeliefs.Course.play -/
def ct537 : sxCt := (2, 4, (3, [(1, .ofNat 0, .ofNat 12), (2, .ofNat 0, .ofNat 1)], [], [(0, .inl 32), (1, .inl 31), (2, .inr (false, (1, .ofNat 0))), (3, .inr (false, (2, .ofNat 0)))], [], [], [], []), [(21, 0), (22, 0), (25, 0), (26, 0), (32, 9), (32, 11), (32, 12), (33000037, 0)], [
  (5, [(3, .ofNat 0, .ofNat 4095), (4, .negSucc 2147483647, .ofNat 2147483647)], [], [], [], [(32, (0, .ofNat 8), .inr (false, (3, .ofNat 0))), (32, (0, .ofNat 11), .inr (false, (4, .ofNat 0)))], [], [])], [], 0, 0)
def cu537 : List sxCu := [
  (9, (4, [(1, .ofNat 0, .ofNat 12), (2, .ofNat 0, .ofNat 1), (3, .ofNat 0, .ofNat 12)], [(2, 3, .ofNat 0), (3, 1, .ofNat 1)], [(0, .inl 32), (1, .inl 31), (2, .inr (false, (1, .ofNat 0))), (3, .inr (false, (2, .ofNat 0))), (4, .inr (false, (3, .ofNat 0)))], [], [], [], []), ((0, 3, .ofNat 12), (0, 0, .ofNat 0), (0, 0, .ofNat 0)), 0, 0)]
set_option maxRecDepth 1000000 in
theorem cv537 {gh : sxGh} (hg : sxGd sxKw gh) : sxCtV sxKw gh ct537 := sxMeB_ok (cts := [ct536, ct391, ct428, ct411, ct429, ct410]) (cuts := cu537) (sp := []) 134 (by decide +kernel) hg (by decide) (by decide) (List.forall_mem_cons.mpr ⟨cv536 hg, (List.forall_mem_cons.mpr ⟨cv391 hg, (List.forall_mem_cons.mpr ⟨cv428 hg, (List.forall_mem_cons.mpr ⟨cv411 hg, (List.forall_mem_cons.mpr ⟨cv429 hg, (List.forall_mem_cons.mpr ⟨cv410 hg, (fun _ h => absurd h List.not_mem_nil)⟩)⟩)⟩)⟩)⟩)⟩)
/-- LotBeliefs.touchy -/
def ct538 : sxCt := (133, 6, (1, [], [], [(0, .inl 0)], [], [], [], []), [(21, 0), (22, 0), (25, 0), (26, 0), (31, 0), (32, 1), (32, 2), (32, 3), (32, 4), (32, 9), (32, 11), (32, 12), (33000037, 0)], [
  (6, [(1, .ofNat 0, .ofNat 11), (2, .ofNat 0, .ofNat 4), (3, .ofNat 0, .ofNat 63), (4, .ofNat 0, .ofNat 4095), (5, .negSucc 2147483647, .ofNat 2147483647)], [], [], [.inr (false, (1, .ofNat 0))], [(32, (0, .ofNat 2), .inr (false, (2, .ofNat 0))), (32, (0, .ofNat 3), .inr (false, (3, .ofNat 0))), (32, (0, .ofNat 8), .inr (false, (4, .ofNat 0))), (32, (0, .ofNat 11), .inr (false, (5, .ofNat 0)))], [], [])], [], 0, 0)
def cu538 : List sxCu := [
  (21, (8, [(1, .ofNat 0, .ofNat 4095), (2, .ofNat 0, .ofNat 11), (3, .ofNat 0, .ofNat 11), (4, .ofNat 0, .ofNat 4), (5, .ofNat 0, .ofNat 63), (6, .ofNat 0, .ofNat 4095), (7, .negSucc 2147483647, .ofNat 2147483647)], [(2, 3, .ofNat 0)], [(0, .inl 0), (1, .inr (false, (1, .ofNat 0))), (2, .inr (false, (2, .ofNat 0))), (3, .inr (false, (3, .ofNat 0)))], [], [(0, (0, .ofNat 7), .inl 27), (0, (0, .ofNat 12), .inl 32), (27, (0, .ofNat 0), .inl 28), (27, (0, .ofNat 1), .inr (false, (4, .ofNat 0))), (27, (0, .ofNat 2), .inr (false, (5, .ofNat 0))), (32, (0, .ofNat 2), .inr (false, (4, .ofNat 0))), (32, (0, .ofNat 3), .inr (false, (5, .ofNat 0))), (32, (0, .ofNat 8), .inr (false, (6, .ofNat 0))), (32, (0, .ofNat 11), .inr (false, (7, .ofNat 0)))], [], []), ((0, 3, .ofNat 11), (0, 0, .ofNat 0), (0, 0, .ofNat 0)), 0, 0)]
set_option maxRecDepth 1000000 in
theorem cv538 {gh : sxGh} (hg : sxGd sxKw gh) : sxCtV sxKw gh ct538 := sxMeB_ok (cts := [ct537, ct430, ct535]) (cuts := cu538) (sp := []) 685 (by decide +kernel) hg (by decide) (by decide) (List.forall_mem_cons.mpr ⟨cv537 hg, (List.forall_mem_cons.mpr ⟨cv430 hg, (List.forall_mem_cons.mpr ⟨cv535 hg, (fun _ h => absurd h List.not_mem_nil)⟩)⟩)⟩)
/-- LotBeliefs.Course.seat -/
def ct540 : sxCt := (4, 0, (2, [(1, .ofNat 0, .ofNat 6)], [], [(0, .inl 32), (1, .inr (false, (1, .ofNat 0)))], [], [], [], []), [(32, 11), (32, 12), (34000037, 0)], [
  (3, [(2, .ofNat 1, .ofNat 17)], [], [], [], [(32, (0, .ofNat 10), .inr (false, (2, .ofNat 0)))], [], [])], [], 0, 0)
def cu540 : List sxCu := []
set_option maxRecDepth 1000000 in
theorem cv540 {gh : sxGh} (hg : sxGd sxKw gh) : sxCtV sxKw gh ct540 := sxMeB_ok (cts := []) (cuts := cu540) (sp := []) 103 (by decide +kernel) hg (by decide) (by decide) (fun _ h => absurd h List.not_mem_nil)
/-- LotBeliefs.Course.lives -/
def ct574 : sxCt := (6, 0, (3, [(1, .ofNat 0, .ofNat 6), (2, .ofNat 0, .ofNat 6)], [], [(0, .inl 32), (1, .inr (false, (1, .ofNat 0))), (2, .inr (false, (2, .ofNat 0)))], [], [], [], []), [(33000036, 0)], [
  (3, [], [], [], [.inr (false, (0, .ofNat 0))], [], [], []), 
  (3, [], [], [], [.inr (false, (0, .ofNat 1))], [], [], [])], [], 0, 0)
def cu574 : List sxCu := []
set_option maxRecDepth 1000000 in
theorem cv574 {gh : sxGh} (hg : sxGd sxKw gh) : sxCtV sxKw gh ct574 := sxMeB_ok (cts := []) (cuts := cu574) (sp := []) 196 (by decide +kernel) hg (by decide) (by decide) (fun _ h => absurd h List.not_mem_nil)
/-- LotBeliefs.Survey.digits -/
def ct576 : sxCt := (71, 0, (2, [(1, .ofNat 0, .ofNat 7)], [], [(0, .inl 74), (1, .inr (false, (1, .ofNat 0)))], [], [], [], []), [], [
  (3, [(2, .negSucc 9223372036854775807, .ofNat 9223372036854775807)], [], [], [.inr (true, (2, .ofNat 0))], [], [], [])], [], 0, 0)
def cu576 : List sxCu := [
  (5, (4, [(1, .ofNat 0, .ofNat 7), (2, .negSucc 9223372036854775807, .ofNat 9223372036854775807), (3, .ofNat 0, .ofNat 7)], [], [(0, .inl 74), (1, .inr (false, (1, .ofNat 0))), (2, .inr (true, (2, .ofNat 0))), (4, .inr (false, (3, .ofNat 0)))], [], [], [], []), ((0, 3, .ofNat 7), (0, 0, .ofNat 0), (0, 0, .ofNat 0)), 0, 0)]
set_option maxRecDepth 1000000 in
theorem cv576 {gh : sxGh} (hg : sxGd sxKw gh) : sxCtV sxKw gh ct576 := sxMeB_ok (cts := []) (cuts := cu576) (sp := []) 81 (by decide +kernel) hg (by decide) (by decide) (fun _ h => absurd h List.not_mem_nil)
/-- LotBeliefs.Survey.note -/
def ct577 : sxCt := (70, 1, (4, [(1, .ofNat 0, .ofNat 4095), (2, .negSucc 2147483647, .ofNat 2147483647), (3, .ofNat 0, .ofNat 7)], [], [(0, .inl 74), (1, .inr (false, (1, .ofNat 0))), (2, .inr (false, (2, .ofNat 0))), (3, .inr (false, (3, .ofNat 0)))], [], [], [], []), [(74, 6), (74, 7), (75, 0), (76, 0)], [
  (5, [(4, .negSucc 2147483647, .ofNat 2147483647)], [(2, 4, .ofNat 0)], [], [], [(74, (0, .ofNat 5), .inr (false, (4, .ofNat 0)))], [], [])], [], 0, 0)
def cu577 : List sxCu := []
set_option maxRecDepth 1000000 in
theorem cv577 {gh : sxGh} (hg : sxGd sxKw gh) : sxCtV sxKw gh ct577 := sxMeB_ok (cts := [ct576]) (cuts := cu577) (sp := []) 141 (by decide +kernel) hg (by decide) (by decide) (List.forall_mem_cons.mpr ⟨cv576 hg, (fun _ h => absurd h List.not_mem_nil)⟩)
/-- LotBeliefs.Survey.advance -/
def ct578 : sxCt := (72, 1, (2, [(1, .ofNat 0, .ofNat 7)], [], [(0, .inl 74), (1, .inr (false, (1, .ofNat 0)))], [], [], [], []), [(77, 0)], [
  (3, [(2, .negSucc 0, .ofNat 5)], [(2, 1, .negSucc 0)], [], [.inr (false, (2, .ofNat 0))], [], [], [])], [], 0, 0)
def cu578 : List sxCu := [
  (4, (3, [(1, .ofNat 0, .ofNat 7), (2, .negSucc 1, .ofNat 5)], [(2, 1, .negSucc 1)], [(0, .inl 74), (1, .inr (false, (1, .ofNat 0))), (2, .inr (false, (2, .ofNat 0)))], [], [], [], []), ((2, 0, .ofNat 15), (0, 0, .ofNat 0), (0, 0, .ofNat 0)), 0, 0), 
  (41, (4, [(1, .ofNat 2, .ofNat 7), (2, .ofNat 0, .ofNat 5), (3, .ofNat 0, .ofNat 6)], [(2, 1, .negSucc 1), (3, 1, .negSucc 0)], [(0, .inl 74), (1, .inr (false, (1, .ofNat 0))), (2, .inr (false, (2, .ofNat 0))), (3, .inr (false, (3, .ofNat 0)))], [], [(74, (0, .ofNat 7), .inl 77)], [], []), ((3, 0, .ofNat 6), (0, 0, .ofNat 0), (0, 0, .ofNat 0)), 0, 0), 
  (83, (6, [(1, .ofNat 2, .ofNat 7), (2, .ofNat 0, .ofNat 5), (3, .ofNat 0, .ofNat 6), (4, .ofNat 1, .ofNat 6), (5, .ofNat 1, .ofNat 6)], [(2, 1, .negSucc 1), (2, 4, .negSucc 0), (2, 5, .negSucc 0), (3, 1, .negSucc 0), (4, 1, .negSucc 0), (5, 1, .negSucc 0)], [(0, .inl 74), (1, .inr (false, (1, .ofNat 0))), (2, .inr (false, (2, .ofNat 0))), (3, .inr (false, (3, .ofNat 0))), (4, .inr (false, (4, .ofNat 0))), (5, .inr (false, (5, .ofNat 0)))], [], [(74, (0, .ofNat 7), .inl 77)], [], []), ((0, 4, .ofNat 6), (0, 0, .ofNat 0), (0, 0, .ofNat 0)), 0, 0)]
set_option maxRecDepth 1000000 in
theorem cv578 {gh : sxGh} (hg : sxGd sxKw gh) : sxCtV sxKw gh ct578 := sxMeB_ok (cts := []) (cuts := cu578) (sp := []) 196 (by decide +kernel) hg (by decide) (by decide) (fun _ h => absurd h List.not_mem_nil)
/-- LotBeliefs.Course.goBack -/
def ct579 : sxCt := (3, 1, (2, [(1, .ofNat 0, .ofNat 5)], [], [(0, .inl 32), (1, .inl 77), (2, .inr (false, (1, .ofNat 0)))], [], [], [], []), [(32, 11), (32, 12), (33000037, 0)], [
  (3, [(2, .ofNat 0, .ofNat 17)], [], [], [], [(32, (0, .ofNat 10), .inr (false, (2, .ofNat 0)))], [], [])], [], 0, 0)
def cu579 : List sxCu := [
  (12, (3, [(1, .ofNat 0, .ofNat 5), (2, .ofNat 0, .ofNat 17)], [], [(0, .inl 32), (1, .inl 77), (2, .inr (false, (1, .ofNat 0))), (3, .inr (false, (2, .ofNat 0)))], [], [(32, (0, .ofNat 10), .inr (false, (0, .ofNat 0))), (32, (0, .ofNat 11), .inr (false, (0, .ofNat 0)))], [], []), ((0, 2, .ofNat 23), (0, 0, .ofNat 0), (0, 0, .ofNat 0)), 0, 0), 
  (46, (4, [(1, .ofNat 0, .ofNat 5), (2, .ofNat 0, .ofNat 5), (3, .ofNat 0, .ofNat 17)], [], [(0, .inl 32), (1, .inl 77), (2, .inr (false, (1, .ofNat 0))), (3, .inr (false, (2, .ofNat 0)))], [], [(32, (0, .ofNat 4), .inl 33), (32, (0, .ofNat 10), .inr (false, (3, .ofNat 0)))], [], []), ((0, 2, .ofNat 5), (0, 0, .ofNat 0), (0, 0, .ofNat 0)), 0, 0)]
set_option maxRecDepth 1000000 in
theorem cv579 {gh : sxGh} (hg : sxGd sxKw gh) : sxCtV sxKw gh ct579 := sxMeB_ok (cts := [ct540]) (cuts := cu579) (sp := []) 123 (by decide +kernel) hg (by decide) (by decide) (List.forall_mem_cons.mpr ⟨cv540 hg, (fun _ h => absurd h List.not_mem_nil)⟩)
/-- LotBeliefs.Course.play -/
def ct580 : sxCt := (2, 4, (3, [(1, .ofNat 0, .ofNat 7), (2, .ofNat 0, .ofNat 5)], [], [(0, .inl 32), (1, .inl 77), (2, .inr (false, (1, .ofNat 0))), (3, .inr (false, (2, .ofNat 0)))], [], [], [], []), [(21, 0), (22, 0), (25, 0), (26, 0), (32, 9), (32, 11), (32, 12), (33000037, 0)], [
  (5, [(3, .ofNat 0, .ofNat 4095), (4, .negSucc 2147483647, .ofNat 2147483647)], [], [], [], [(32, (0, .ofNat 8), .inr (false, (3, .ofNat 0))), (32, (0, .ofNat 11), .inr (false, (4, .ofNat 0)))], [], [])], [], 0, 0)
def cu580 : List sxCu := [
  (9, (4, [(1, .ofNat 0, .ofNat 7), (2, .ofNat 0, .ofNat 5), (3, .ofNat 0, .ofNat 7)], [(2, 3, .ofNat 0), (3, 1, .ofNat 5)], [(0, .inl 32), (1, .inl 77), (2, .inr (false, (1, .ofNat 0))), (3, .inr (false, (2, .ofNat 0))), (4, .inr (false, (3, .ofNat 0)))], [], [], [], []), ((0, 3, .ofNat 7), (0, 0, .ofNat 0), (0, 0, .ofNat 0)), 0, 0)]
set_option maxRecDepth 1000000 in
theorem cv580 {gh : sxGh} (hg : sxGd sxKw gh) : sxCtV sxKw gh ct580 := sxMeB_ok (cts := [ct579, ct540, ct420, ct411, ct574, ct410]) (cuts := cu580) (sp := []) 132 (by decide +kernel) hg (by decide) (by decide) (List.forall_mem_cons.mpr ⟨cv579 hg, (List.forall_mem_cons.mpr ⟨cv540 hg, (List.forall_mem_cons.mpr ⟨cv420 hg, (List.forall_mem_cons.mpr ⟨cv411 hg, (List.forall_mem_cons.mpr ⟨cv574 hg, (List.forall_mem_cons.mpr ⟨cv410 hg, (fun _ h => absurd h List.not_mem_nil)⟩)⟩)⟩)⟩)⟩)⟩)
/-- LotBeliefs.Survey.take -/
def ct581 : sxCt := (69, 5, (2, [(1, .ofNat 0, .ofNat 63)], [], [(0, .inl 74), (1, .inl 11), (2, .inl 23), (3, .inr (false, (1, .ofNat 0))), (4, .inl 32)], [], [], [], []), [(21, 0), (22, 0), (25, 0), (26, 0), (32, 1), (32, 2), (32, 3), (32, 4), (32, 9), (32, 11), (32, 12), (74, 2), (74, 3), (74, 6), (74, 7), (33000037, 0), (75000077, 0)], [
  (3, [(2, .ofNat 0, .ofNat 63)], [(1, 2, .ofNat 0), (2, 1, .ofNat 0)], [], [], [(74, (0, .ofNat 1), .inr (false, (0, .ofNat 1))), (74, (0, .ofNat 2), .inr (false, (2, .ofNat 0)))], [], [])], [], 0, 0)
def cu581 : List sxCu := [
  (115, (7, [(1, .ofNat 0, .ofNat 63), (2, .ofNat 0, .ofNat 7), (3, .negSucc 0, .ofNat 5), (4, .ofNat 0, .ofNat 5040), (5, .ofNat 0, .ofNat 12), (6, .negSucc 2147483647, .ofNat 2147483647)], [(2, 5, .ofNat 0), (5, 2, .ofNat 5)], [(0, .inl 74), (1, .inl 11), (2, .inl 23), (3, .inr (false, (1, .ofNat 0))), (4, .inl 32), (5, .inr (false, (2, .ofNat 0))), (6, .inr (false, (3, .ofNat 0))), (7, .inr (false, (4, .ofNat 0)))], [], [(11, (0, .ofNat 2), .inr (false, (5, .ofNat 0))), (32, (0, .ofNat 0), .inl 11), (32, (0, .ofNat 1), .inl 23), (32, (0, .ofNat 2), .inr (false, (0, .ofNat 4))), (32, (0, .ofNat 3), .inr (false, (1, .ofNat 0))), (74, (0, .ofNat 0), .inr (false, (0, .ofNat 4))), (74, (0, .ofNat 1), .inr (false, (0, .ofNat 1))), (74, (0, .ofNat 2), .inr (false, (1, .ofNat 0))), (74, (0, .ofNat 3), .inl 75), (74, (0, .ofNat 5), .inr (false, (6, .ofNat 0))), (74, (0, .ofNat 7), .inl 77)], [], []), ((0, 4, .ofNat 5040), (0, 0, .ofNat 0), (0, 0, .ofNat 0)), 0, 0), 
  (34, (3, [(1, .ofNat 0, .ofNat 63), (2, .ofNat 0, .ofNat 128)], [], [(0, .inl 74), (1, .inl 11), (2, .inl 23), (3, .inr (false, (1, .ofNat 0))), (4, .inl 32), (5, .inr (false, (2, .ofNat 0)))], [], [(74, (0, .ofNat 1), .inr (false, (0, .ofNat 1))), (74, (0, .ofNat 2), .inr (false, (1, .ofNat 0))), (74, (0, .ofNat 5), .inr (false, (0, .negSucc 0)))], [], []), ((0, 2, .ofNat 5177), (0, 0, .ofNat 0), (0, 0, .ofNat 0)), 0, 0), 
  (75, (5, [(1, .ofNat 0, .ofNat 63), (2, .ofNat 0, .ofNat 7), (3, .ofNat 0, .ofNat 7), (4, .ofNat 0, .ofNat 12)], [(2, 4, .ofNat 0), (4, 2, .ofNat 5)], [(0, .inl 74), (1, .inl 11), (2, .inl 23), (3, .inr (false, (1, .ofNat 0))), (4, .inl 32), (5, .inr (false, (2, .ofNat 0))), (6, .inr (false, (3, .ofNat 0)))], [], [(11, (0, .ofNat 2), .inr (false, (4, .ofNat 0))), (74, (0, .ofNat 1), .inr (false, (0, .ofNat 1))), (74, (0, .ofNat 2), .inr (false, (1, .ofNat 0))), (74, (0, .ofNat 3), .inl 75), (74, (0, .ofNat 5), .inr (false, (0, .negSucc 0))), (74, (0, .ofNat 7), .inl 77)], [], []), ((0, 3, .ofNat 5048), (0, 0, .ofNat 0), (0, 0, .ofNat 0)), 0, 0)]
set_option maxRecDepth 1000000 in
theorem cv581 {gh : sxGh} (hg : sxGd sxKw gh) : sxCtV sxKw gh ct581 := sxMeB_ok (cts := [ct580, ct527, ct577, ct578]) (cuts := cu581) (sp := []) 179 (by decide +kernel) hg (by decide) (by decide) (List.forall_mem_cons.mpr ⟨cv580 hg, (List.forall_mem_cons.mpr ⟨cv527 hg, (List.forall_mem_cons.mpr ⟨cv577 hg, (List.forall_mem_cons.mpr ⟨cv578 hg, (fun _ h => absurd h List.not_mem_nil)⟩)⟩)⟩)⟩)
/-- LotBeliefs.Survey.never -/
def ct582 : sxCt := (76, 0, (2, [(1, .ofNat 0, .ofNat 7)], [], [(0, .inl 74), (1, .inr (false, (1, .ofNat 0)))], [], [], [], []), [], [
  (3, [(2, .ofNat 0, .ofNat 127)], [], [], [.inr (false, (2, .ofNat 0))], [], [], [])], [], 0, 0)
def cu582 : List sxCu := [
  (8, (4, [(1, .ofNat 0, .ofNat 7), (2, .ofNat 0, .ofNat 127), (3, .ofNat 0, .ofNat 128)], [], [(0, .inl 74), (1, .inr (false, (1, .ofNat 0))), (2, .inr (false, (2, .ofNat 0))), (3, .inr (false, (3, .ofNat 0)))], [], [], [], []), ((0, 3, .ofNat 128), (0, 0, .ofNat 0), (0, 0, .ofNat 0)), 0, 0)]
set_option maxRecDepth 1000000 in
theorem cv582 {gh : sxGh} (hg : sxGd sxKw gh) : sxCtV sxKw gh ct582 := sxMeB_ok (cts := []) (cuts := cu582) (sp := []) 90 (by decide +kernel) hg (by decide) (by decide) (fun _ h => absurd h List.not_mem_nil)
/-- LotBeliefs.Survey.always -/
def ct583 : sxCt := (75, 0, (2, [(1, .ofNat 0, .ofNat 7)], [], [(0, .inl 74), (1, .inr (false, (1, .ofNat 0)))], [], [], [], []), [], [
  (3, [(2, .ofNat 0, .ofNat 127)], [], [], [.inr (false, (2, .ofNat 0))], [], [], [])], [], 0, 0)
def cu583 : List sxCu := [
  (8, (4, [(1, .ofNat 0, .ofNat 7), (2, .ofNat 0, .ofNat 127), (3, .ofNat 0, .ofNat 128)], [], [(0, .inl 74), (1, .inr (false, (1, .ofNat 0))), (2, .inr (false, (2, .ofNat 0))), (3, .inr (false, (3, .ofNat 0)))], [], [], [], []), ((0, 3, .ofNat 128), (0, 0, .ofNat 0), (0, 0, .ofNat 0)), 0, 0)]
set_option maxRecDepth 1000000 in
theorem cv583 {gh : sxGh} (hg : sxGd sxKw gh) : sxCtV sxKw gh ct583 := sxMeB_ok (cts := []) (cuts := cu583) (sp := []) 88 (by decide +kernel) hg (by decide) (by decide) (fun _ h => absurd h List.not_mem_nil)
/-- LotBeliefs.Survey.unlike -/
def ct584 : sxCt := (74, 0, (1, [], [], [(0, .inl 74)], [], [], [], []), [], [
  (2, [(1, .ofNat 0, .ofNat 128)], [], [], [.inr (false, (1, .ofNat 0))], [], [], [])], [], 0, 0)
def cu584 : List sxCu := [
  (4, (3, [(1, .ofNat 0, .ofNat 128), (2, .ofNat 0, .ofNat 128)], [(1, 2, .ofNat 0)], [(0, .inl 74), (1, .inr (false, (1, .ofNat 0))), (2, .inr (false, (2, .ofNat 0)))], [], [], [], []), ((0, 2, .ofNat 128), (0, 0, .ofNat 0), (0, 0, .ofNat 0)), 0, 0)]
set_option maxRecDepth 1000000 in
theorem cv584 {gh : sxGh} (hg : sxGd sxKw gh) : sxCtV sxKw gh ct584 := sxMeB_ok (cts := []) (cuts := cu584) (sp := []) 81 (by decide +kernel) hg (by decide) (by decide) (fun _ h => absurd h List.not_mem_nil)
/-- LotBeliefs.Survey.take -/
def ct585 : sxCt := (69, 5, (2, [(1, .ofNat 0, .ofNat 63)], [], [(0, .inl 74), (1, .inl 11), (2, .inl 19), (3, .inr (false, (1, .ofNat 0))), (4, .inl 32)], [], [], [], []), [(21, 0), (22, 0), (25, 0), (26, 0), (32, 1), (32, 2), (32, 3), (32, 4), (32, 9), (32, 11), (32, 12), (74, 2), (74, 3), (74, 6), (74, 7), (33000037, 0), (75000077, 0)], [
  (3, [(2, .ofNat 0, .ofNat 63)], [(1, 2, .ofNat 0), (2, 1, .ofNat 0)], [], [], [(74, (0, .ofNat 1), .inr (false, (0, .ofNat 1))), (74, (0, .ofNat 2), .inr (false, (2, .ofNat 0)))], [], [])], [], 0, 0)
def cu585 : List sxCu := [
  (115, (7, [(1, .ofNat 0, .ofNat 63), (2, .ofNat 0, .ofNat 7), (3, .negSucc 0, .ofNat 5), (4, .ofNat 0, .ofNat 5040), (5, .ofNat 0, .ofNat 12), (6, .negSucc 2147483647, .ofNat 2147483647)], [(2, 5, .ofNat 0), (5, 2, .ofNat 5)], [(0, .inl 74), (1, .inl 11), (2, .inl 19), (3, .inr (false, (1, .ofNat 0))), (4, .inl 32), (5, .inr (false, (2, .ofNat 0))), (6, .inr (false, (3, .ofNat 0))), (7, .inr (false, (4, .ofNat 0)))], [], [(11, (0, .ofNat 2), .inr (false, (5, .ofNat 0))), (32, (0, .ofNat 0), .inl 11), (32, (0, .ofNat 1), .inl 19), (32, (0, .ofNat 2), .inr (false, (0, .ofNat 4))), (32, (0, .ofNat 3), .inr (false, (1, .ofNat 0))), (74, (0, .ofNat 0), .inr (false, (0, .ofNat 4))), (74, (0, .ofNat 1), .inr (false, (0, .ofNat 1))), (74, (0, .ofNat 2), .inr (false, (1, .ofNat 0))), (74, (0, .ofNat 3), .inl 75), (74, (0, .ofNat 5), .inr (false, (6, .ofNat 0))), (74, (0, .ofNat 7), .inl 77)], [], []), ((0, 4, .ofNat 5040), (0, 0, .ofNat 0), (0, 0, .ofNat 0)), 0, 0), 
  (34, (3, [(1, .ofNat 0, .ofNat 63), (2, .ofNat 0, .ofNat 128)], [], [(0, .inl 74), (1, .inl 11), (2, .inl 19), (3, .inr (false, (1, .ofNat 0))), (4, .inl 32), (5, .inr (false, (2, .ofNat 0)))], [], [(74, (0, .ofNat 1), .inr (false, (0, .ofNat 1))), (74, (0, .ofNat 2), .inr (false, (1, .ofNat 0))), (74, (0, .ofNat 5), .inr (false, (0, .negSucc 0)))], [], []), ((0, 2, .ofNat 5177), (0, 0, .ofNat 0), (0, 0, .ofNat 0)), 0, 0), 
  (75, (5, [(1, .ofNat 0, .ofNat 63), (2, .ofNat 0, .ofNat 7), (3, .ofNat 0, .ofNat 7), (4, .ofNat 0, .ofNat 12)], [(2, 4, .ofNat 0), (4, 2, .ofNat 5)], [(0, .inl 74), (1, .inl 11), (2, .inl 19), (3, .inr (false, (1, .ofNat 0))), (4, .inl 32), (5, .inr (false, (2, .ofNat 0))), (6, .inr (false, (3, .ofNat 0)))], [], [(11, (0, .ofNat 2), .inr (false, (4, .ofNat 0))), (74, (0, .ofNat 1), .inr (false, (0, .ofNat 1))), (74, (0, .ofNat 2), .inr (false, (1, .ofNat 0))), (74, (0, .ofNat 3), .inl 75), (74, (0, .ofNat 5), .inr (false, (0, .negSucc 0))), (74, (0, .ofNat 7), .inl 77)], [], []), ((0, 3, .ofNat 5048), (0, 0, .ofNat 0), (0, 0, .ofNat 0)), 0, 0)]
set_option maxRecDepth 1000000 in
theorem cv585 {gh : sxGh} (hg : sxGd sxKw gh) : sxCtV sxKw gh ct585 := sxMeB_ok (cts := [ct580, ct527, ct577, ct578]) (cuts := cu585) (sp := []) 179 (by decide +kernel) hg (by decide) (by decide) (List.forall_mem_cons.mpr ⟨cv580 hg, (List.forall_mem_cons.mpr ⟨cv527 hg, (List.forall_mem_cons.mpr ⟨cv577 hg, (List.forall_mem_cons.mpr ⟨cv578 hg, (fun _ h => absurd h List.not_mem_nil)⟩)⟩)⟩)⟩)
/-- LotBeliefs.Survey.digits -/
def ct615 : sxCt := (71, 0, (2, [(1, .ofNat 0, .ofNat 7)], [], [(0, .inl 70), (1, .inr (false, (1, .ofNat 0)))], [], [], [], []), [], [
  (3, [(2, .negSucc 9223372036854775807, .ofNat 9223372036854775807)], [], [], [.inr (true, (2, .ofNat 0))], [], [], [])], [], 0, 0)
def cu615 : List sxCu := [
  (5, (4, [(1, .ofNat 0, .ofNat 7), (2, .negSucc 9223372036854775807, .ofNat 9223372036854775807), (3, .ofNat 0, .ofNat 7)], [], [(0, .inl 70), (1, .inr (false, (1, .ofNat 0))), (2, .inr (true, (2, .ofNat 0))), (4, .inr (false, (3, .ofNat 0)))], [], [], [], []), ((0, 3, .ofNat 7), (0, 0, .ofNat 0), (0, 0, .ofNat 0)), 0, 0)]
set_option maxRecDepth 1000000 in
theorem cv615 {gh : sxGh} (hg : sxGd sxKw gh) : sxCtV sxKw gh ct615 := sxMeB_ok (cts := []) (cuts := cu615) (sp := []) 81 (by decide +kernel) hg (by decide) (by decide) (fun _ h => absurd h List.not_mem_nil)
/-- LotBeliefs.Survey.note -/
def ct616 : sxCt := (70, 1, (4, [(1, .ofNat 0, .ofNat 4095), (2, .negSucc 2147483647, .ofNat 2147483647), (3, .ofNat 0, .ofNat 7)], [], [(0, .inl 70), (1, .inr (false, (1, .ofNat 0))), (2, .inr (false, (2, .ofNat 0))), (3, .inr (false, (3, .ofNat 0)))], [], [], [], []), [(70, 6), (70, 7), (71, 0), (72, 0)], [
  (5, [(4, .negSucc 2147483647, .ofNat 2147483647)], [(2, 4, .ofNat 0)], [], [], [(70, (0, .ofNat 5), .inr (false, (4, .ofNat 0)))], [], [])], [], 0, 0)
def cu616 : List sxCu := []
set_option maxRecDepth 1000000 in
theorem cv616 {gh : sxGh} (hg : sxGd sxKw gh) : sxCtV sxKw gh ct616 := sxMeB_ok (cts := [ct615]) (cuts := cu616) (sp := []) 141 (by decide +kernel) hg (by decide) (by decide) (List.forall_mem_cons.mpr ⟨cv615 hg, (fun _ h => absurd h List.not_mem_nil)⟩)
/-- LotBeliefs.Survey.advance -/
def ct617 : sxCt := (72, 1, (2, [(1, .ofNat 0, .ofNat 7)], [], [(0, .inl 70), (1, .inr (false, (1, .ofNat 0)))], [], [], [], []), [(73, 0)], [
  (3, [(2, .negSucc 0, .ofNat 5)], [(2, 1, .negSucc 0)], [], [.inr (false, (2, .ofNat 0))], [], [], [])], [], 0, 0)
def cu617 : List sxCu := [
  (4, (3, [(1, .ofNat 0, .ofNat 7), (2, .negSucc 1, .ofNat 5)], [(2, 1, .negSucc 1)], [(0, .inl 70), (1, .inr (false, (1, .ofNat 0))), (2, .inr (false, (2, .ofNat 0)))], [], [], [], []), ((2, 0, .ofNat 15), (0, 0, .ofNat 0), (0, 0, .ofNat 0)), 0, 0), 
  (41, (4, [(1, .ofNat 2, .ofNat 7), (2, .ofNat 0, .ofNat 5), (3, .ofNat 0, .ofNat 6)], [(2, 1, .negSucc 1), (3, 1, .negSucc 0)], [(0, .inl 70), (1, .inr (false, (1, .ofNat 0))), (2, .inr (false, (2, .ofNat 0))), (3, .inr (false, (3, .ofNat 0)))], [], [(70, (0, .ofNat 7), .inl 73)], [], []), ((3, 0, .ofNat 6), (0, 0, .ofNat 0), (0, 0, .ofNat 0)), 0, 0), 
  (83, (6, [(1, .ofNat 2, .ofNat 7), (2, .ofNat 0, .ofNat 5), (3, .ofNat 0, .ofNat 6), (4, .ofNat 1, .ofNat 6), (5, .ofNat 1, .ofNat 6)], [(2, 1, .negSucc 1), (2, 4, .negSucc 0), (2, 5, .negSucc 0), (3, 1, .negSucc 0), (4, 1, .negSucc 0), (5, 1, .negSucc 0)], [(0, .inl 70), (1, .inr (false, (1, .ofNat 0))), (2, .inr (false, (2, .ofNat 0))), (3, .inr (false, (3, .ofNat 0))), (4, .inr (false, (4, .ofNat 0))), (5, .inr (false, (5, .ofNat 0)))], [], [(70, (0, .ofNat 7), .inl 73)], [], []), ((0, 4, .ofNat 6), (0, 0, .ofNat 0), (0, 0, .ofNat 0)), 0, 0)]
set_option maxRecDepth 1000000 in
theorem cv617 {gh : sxGh} (hg : sxGd sxKw gh) : sxCtV sxKw gh ct617 := sxMeB_ok (cts := []) (cuts := cu617) (sp := []) 196 (by decide +kernel) hg (by decide) (by decide) (fun _ h => absurd h List.not_mem_nil)
/-- LotBeliefs.Course.goBack -/
def ct618 : sxCt := (3, 1, (2, [(1, .ofNat 0, .ofNat 5)], [], [(0, .inl 32), (1, .inl 73), (2, .inr (false, (1, .ofNat 0)))], [], [], [], []), [(32, 11), (32, 12), (33000037, 0)], [
  (3, [(2, .ofNat 0, .ofNat 17)], [], [], [], [(32, (0, .ofNat 10), .inr (false, (2, .ofNat 0)))], [], [])], [], 0, 0)
def cu618 : List sxCu := [
  (12, (3, [(1, .ofNat 0, .ofNat 5), (2, .ofNat 0, .ofNat 17)], [], [(0, .inl 32), (1, .inl 73), (2, .inr (false, (1, .ofNat 0))), (3, .inr (false, (2, .ofNat 0)))], [], [(32, (0, .ofNat 10), .inr (false, (0, .ofNat 0))), (32, (0, .ofNat 11), .inr (false, (0, .ofNat 0)))], [], []), ((0, 2, .ofNat 23), (0, 0, .ofNat 0), (0, 0, .ofNat 0)), 0, 0), 
  (46, (4, [(1, .ofNat 0, .ofNat 5), (2, .ofNat 0, .ofNat 5), (3, .ofNat 0, .ofNat 17)], [], [(0, .inl 32), (1, .inl 73), (2, .inr (false, (1, .ofNat 0))), (3, .inr (false, (2, .ofNat 0)))], [], [(32, (0, .ofNat 4), .inl 33), (32, (0, .ofNat 10), .inr (false, (3, .ofNat 0)))], [], []), ((0, 2, .ofNat 5), (0, 0, .ofNat 0), (0, 0, .ofNat 0)), 0, 0)]
set_option maxRecDepth 1000000 in
theorem cv618 {gh : sxGh} (hg : sxGd sxKw gh) : sxCtV sxKw gh ct618 := sxMeB_ok (cts := [ct540]) (cuts := cu618) (sp := []) 123 (by decide +kernel) hg (by decide) (by decide) (List.forall_mem_cons.mpr ⟨cv540 hg, (fun _ h => absurd h List.not_mem_nil)⟩)
/-- LotBeliefs.Course.play -/
def ct619 : sxCt := (2, 4, (3, [(1, .ofNat 0, .ofNat 7), (2, .ofNat 0, .ofNat 5)], [], [(0, .inl 32), (1, .inl 73), (2, .inr (false, (1, .ofNat 0))), (3, .inr (false, (2, .ofNat 0)))], [], [], [], []), [(21, 0), (22, 0), (25, 0), (26, 0), (32, 9), (32, 11), (32, 12), (33000037, 0)], [
  (5, [(3, .ofNat 0, .ofNat 4095), (4, .negSucc 2147483647, .ofNat 2147483647)], [], [], [], [(32, (0, .ofNat 8), .inr (false, (3, .ofNat 0))), (32, (0, .ofNat 11), .inr (false, (4, .ofNat 0)))], [], [])], [], 0, 0)
def cu619 : List sxCu := [
  (9, (4, [(1, .ofNat 0, .ofNat 7), (2, .ofNat 0, .ofNat 5), (3, .ofNat 0, .ofNat 7)], [(2, 3, .ofNat 0), (3, 1, .ofNat 5)], [(0, .inl 32), (1, .inl 73), (2, .inr (false, (1, .ofNat 0))), (3, .inr (false, (2, .ofNat 0))), (4, .inr (false, (3, .ofNat 0)))], [], [], [], []), ((0, 3, .ofNat 7), (0, 0, .ofNat 0), (0, 0, .ofNat 0)), 0, 0)]
set_option maxRecDepth 1000000 in
theorem cv619 {gh : sxGh} (hg : sxGd sxKw gh) : sxCtV sxKw gh ct619 := sxMeB_ok (cts := [ct618, ct540, ct420, ct411, ct574, ct410]) (cuts := cu619) (sp := []) 132 (by decide +kernel) hg (by decide) (by decide) (List.forall_mem_cons.mpr ⟨cv618 hg, (List.forall_mem_cons.mpr ⟨cv540 hg, (List.forall_mem_cons.mpr ⟨cv420 hg, (List.forall_mem_cons.mpr ⟨cv411 hg, (List.forall_mem_cons.mpr ⟨cv574 hg, (List.forall_mem_cons.mpr ⟨cv410 hg, (fun _ h => absurd h List.not_mem_nil)⟩)⟩)⟩)⟩)⟩)⟩)
/-- LotBeliefs.Survey.take -/
def ct620 : sxCt := (69, 5, (2, [(1, .ofNat 0, .ofNat 63)], [], [(0, .inl 70), (1, .inl 11), (2, .inl 23), (3, .inr (false, (1, .ofNat 0))), (4, .inl 32)], [], [], [], []), [(21, 0), (22, 0), (25, 0), (26, 0), (32, 1), (32, 2), (32, 3), (32, 4), (32, 9), (32, 11), (32, 12), (70, 2), (70, 3), (70, 6), (70, 7), (33000037, 0), (71000073, 0)], [
  (3, [(2, .ofNat 0, .ofNat 63)], [(1, 2, .ofNat 0), (2, 1, .ofNat 0)], [], [], [(70, (0, .ofNat 1), .inr (false, (0, .ofNat 1))), (70, (0, .ofNat 2), .inr (false, (2, .ofNat 0)))], [], [])], [], 0, 0)
def cu620 : List sxCu := [
  (115, (7, [(1, .ofNat 0, .ofNat 63), (2, .ofNat 0, .ofNat 7), (3, .negSucc 0, .ofNat 5), (4, .ofNat 0, .ofNat 5040), (5, .ofNat 0, .ofNat 12), (6, .negSucc 2147483647, .ofNat 2147483647)], [(2, 5, .ofNat 0), (5, 2, .ofNat 5)], [(0, .inl 70), (1, .inl 11), (2, .inl 23), (3, .inr (false, (1, .ofNat 0))), (4, .inl 32), (5, .inr (false, (2, .ofNat 0))), (6, .inr (false, (3, .ofNat 0))), (7, .inr (false, (4, .ofNat 0)))], [], [(11, (0, .ofNat 2), .inr (false, (5, .ofNat 0))), (32, (0, .ofNat 0), .inl 11), (32, (0, .ofNat 1), .inl 23), (32, (0, .ofNat 2), .inr (false, (0, .ofNat 3))), (32, (0, .ofNat 3), .inr (false, (1, .ofNat 0))), (70, (0, .ofNat 0), .inr (false, (0, .ofNat 3))), (70, (0, .ofNat 1), .inr (false, (0, .ofNat 1))), (70, (0, .ofNat 2), .inr (false, (1, .ofNat 0))), (70, (0, .ofNat 3), .inl 71), (70, (0, .ofNat 5), .inr (false, (6, .ofNat 0))), (70, (0, .ofNat 7), .inl 73)], [], []), ((0, 4, .ofNat 5040), (0, 0, .ofNat 0), (0, 0, .ofNat 0)), 0, 0), 
  (34, (3, [(1, .ofNat 0, .ofNat 63), (2, .ofNat 0, .ofNat 128)], [], [(0, .inl 70), (1, .inl 11), (2, .inl 23), (3, .inr (false, (1, .ofNat 0))), (4, .inl 32), (5, .inr (false, (2, .ofNat 0)))], [], [(70, (0, .ofNat 1), .inr (false, (0, .ofNat 1))), (70, (0, .ofNat 2), .inr (false, (1, .ofNat 0))), (70, (0, .ofNat 5), .inr (false, (0, .negSucc 0)))], [], []), ((0, 2, .ofNat 5177), (0, 0, .ofNat 0), (0, 0, .ofNat 0)), 0, 0), 
  (75, (5, [(1, .ofNat 0, .ofNat 63), (2, .ofNat 0, .ofNat 7), (3, .ofNat 0, .ofNat 7), (4, .ofNat 0, .ofNat 12)], [(2, 4, .ofNat 0), (4, 2, .ofNat 5)], [(0, .inl 70), (1, .inl 11), (2, .inl 23), (3, .inr (false, (1, .ofNat 0))), (4, .inl 32), (5, .inr (false, (2, .ofNat 0))), (6, .inr (false, (3, .ofNat 0)))], [], [(11, (0, .ofNat 2), .inr (false, (4, .ofNat 0))), (70, (0, .ofNat 1), .inr (false, (0, .ofNat 1))), (70, (0, .ofNat 2), .inr (false, (1, .ofNat 0))), (70, (0, .ofNat 3), .inl 71), (70, (0, .ofNat 5), .inr (false, (0, .negSucc 0))), (70, (0, .ofNat 7), .inl 73)], [], []), ((0, 3, .ofNat 5048), (0, 0, .ofNat 0), (0, 0, .ofNat 0)), 0, 0)]
set_option maxRecDepth 1000000 in
theorem cv620 {gh : sxGh} (hg : sxGd sxKw gh) : sxCtV sxKw gh ct620 := sxMeB_ok (cts := [ct619, ct527, ct616, ct617]) (cuts := cu620) (sp := []) 179 (by decide +kernel) hg (by decide) (by decide) (List.forall_mem_cons.mpr ⟨cv619 hg, (List.forall_mem_cons.mpr ⟨cv527 hg, (List.forall_mem_cons.mpr ⟨cv616 hg, (List.forall_mem_cons.mpr ⟨cv617 hg, (fun _ h => absurd h List.not_mem_nil)⟩)⟩)⟩)⟩)
/-- LotBeliefs.Survey.never -/
def ct621 : sxCt := (76, 0, (2, [(1, .ofNat 0, .ofNat 7)], [], [(0, .inl 70), (1, .inr (false, (1, .ofNat 0)))], [], [], [], []), [], [
  (3, [(2, .ofNat 0, .ofNat 127)], [], [], [.inr (false, (2, .ofNat 0))], [], [], [])], [], 0, 0)
def cu621 : List sxCu := [
  (8, (4, [(1, .ofNat 0, .ofNat 7), (2, .ofNat 0, .ofNat 127), (3, .ofNat 0, .ofNat 128)], [], [(0, .inl 70), (1, .inr (false, (1, .ofNat 0))), (2, .inr (false, (2, .ofNat 0))), (3, .inr (false, (3, .ofNat 0)))], [], [], [], []), ((0, 3, .ofNat 128), (0, 0, .ofNat 0), (0, 0, .ofNat 0)), 0, 0)]
set_option maxRecDepth 1000000 in
theorem cv621 {gh : sxGh} (hg : sxGd sxKw gh) : sxCtV sxKw gh ct621 := sxMeB_ok (cts := []) (cuts := cu621) (sp := []) 90 (by decide +kernel) hg (by decide) (by decide) (fun _ h => absurd h List.not_mem_nil)
/-- LotBeliefs.Survey.always -/
def ct622 : sxCt := (75, 0, (2, [(1, .ofNat 0, .ofNat 7)], [], [(0, .inl 70), (1, .inr (false, (1, .ofNat 0)))], [], [], [], []), [], [
  (3, [(2, .ofNat 0, .ofNat 127)], [], [], [.inr (false, (2, .ofNat 0))], [], [], [])], [], 0, 0)
def cu622 : List sxCu := [
  (8, (4, [(1, .ofNat 0, .ofNat 7), (2, .ofNat 0, .ofNat 127), (3, .ofNat 0, .ofNat 128)], [], [(0, .inl 70), (1, .inr (false, (1, .ofNat 0))), (2, .inr (false, (2, .ofNat 0))), (3, .inr (false, (3, .ofNat 0)))], [], [], [], []), ((0, 3, .ofNat 128), (0, 0, .ofNat 0), (0, 0, .ofNat 0)), 0, 0)]
set_option maxRecDepth 1000000 in
theorem cv622 {gh : sxGh} (hg : sxGd sxKw gh) : sxCtV sxKw gh ct622 := sxMeB_ok (cts := []) (cuts := cu622) (sp := []) 88 (by decide +kernel) hg (by decide) (by decide) (fun _ h => absurd h List.not_mem_nil)
/-- LotBeliefs.Survey.unlike -/
def ct623 : sxCt := (74, 0, (1, [], [], [(0, .inl 70)], [], [], [], []), [], [
  (2, [(1, .ofNat 0, .ofNat 128)], [], [], [.inr (false, (1, .ofNat 0))], [], [], [])], [], 0, 0)
def cu623 : List sxCu := [
  (4, (3, [(1, .ofNat 0, .ofNat 128), (2, .ofNat 0, .ofNat 128)], [(1, 2, .ofNat 0)], [(0, .inl 70), (1, .inr (false, (1, .ofNat 0))), (2, .inr (false, (2, .ofNat 0)))], [], [], [], []), ((0, 2, .ofNat 128), (0, 0, .ofNat 0), (0, 0, .ofNat 0)), 0, 0)]
set_option maxRecDepth 1000000 in
theorem cv623 {gh : sxGh} (hg : sxGd sxKw gh) : sxCtV sxKw gh ct623 := sxMeB_ok (cts := []) (cuts := cu623) (sp := []) 81 (by decide +kernel) hg (by decide) (by decide) (fun _ h => absurd h List.not_mem_nil)
/-- LotBeliefs.Survey.take -/
def ct624 : sxCt := (69, 5, (2, [(1, .ofNat 0, .ofNat 63)], [], [(0, .inl 70), (1, .inl 11), (2, .inl 19), (3, .inr (false, (1, .ofNat 0))), (4, .inl 32)], [], [], [], []), [(21, 0), (22, 0), (25, 0), (26, 0), (32, 1), (32, 2), (32, 3), (32, 4), (32, 9), (32, 11), (32, 12), (70, 2), (70, 3), (70, 6), (70, 7), (33000037, 0), (71000073, 0)], [
  (3, [(2, .ofNat 0, .ofNat 63)], [(1, 2, .ofNat 0), (2, 1, .ofNat 0)], [], [], [(70, (0, .ofNat 1), .inr (false, (0, .ofNat 1))), (70, (0, .ofNat 2), .inr (false, (2, .ofNat 0)))], [], [])], [], 0, 0)
def cu624 : List sxCu := [
  (115, (7, [(1, .ofNat 0, .ofNat 63), (2, .ofNat 0, .ofNat 7), (3, .negSucc 0, .ofNat 5), (4, .ofNat 0, .ofNat 5040), (5, .ofNat 0, .ofNat 12), (6, .negSucc 2147483647, .ofNat 2147483647)], [(2, 5, .ofNat 0), (5, 2, .ofNat 5)], [(0, .inl 70), (1, .inl 11), (2, .inl 19), (3, .inr (false, (1, .ofNat 0))), (4, .inl 32), (5, .inr (false, (2, .ofNat 0))), (6, .inr (false, (3, .ofNat 0))), (7, .inr (false, (4, .ofNat 0)))], [], [(11, (0, .ofNat 2), .inr (false, (5, .ofNat 0))), (32, (0, .ofNat 0), .inl 11), (32, (0, .ofNat 1), .inl 19), (32, (0, .ofNat 2), .inr (false, (0, .ofNat 3))), (32, (0, .ofNat 3), .inr (false, (1, .ofNat 0))), (70, (0, .ofNat 0), .inr (false, (0, .ofNat 3))), (70, (0, .ofNat 1), .inr (false, (0, .ofNat 1))), (70, (0, .ofNat 2), .inr (false, (1, .ofNat 0))), (70, (0, .ofNat 3), .inl 71), (70, (0, .ofNat 5), .inr (false, (6, .ofNat 0))), (70, (0, .ofNat 7), .inl 73)], [], []), ((0, 4, .ofNat 5040), (0, 0, .ofNat 0), (0, 0, .ofNat 0)), 0, 0), 
  (34, (3, [(1, .ofNat 0, .ofNat 63), (2, .ofNat 0, .ofNat 128)], [], [(0, .inl 70), (1, .inl 11), (2, .inl 19), (3, .inr (false, (1, .ofNat 0))), (4, .inl 32), (5, .inr (false, (2, .ofNat 0)))], [], [(70, (0, .ofNat 1), .inr (false, (0, .ofNat 1))), (70, (0, .ofNat 2), .inr (false, (1, .ofNat 0))), (70, (0, .ofNat 5), .inr (false, (0, .negSucc 0)))], [], []), ((0, 2, .ofNat 5177), (0, 0, .ofNat 0), (0, 0, .ofNat 0)), 0, 0), 
  (75, (5, [(1, .ofNat 0, .ofNat 63), (2, .ofNat 0, .ofNat 7), (3, .ofNat 0, .ofNat 7), (4, .ofNat 0, .ofNat 12)], [(2, 4, .ofNat 0), (4, 2, .ofNat 5)], [(0, .inl 70), (1, .inl 11), (2, .inl 19), (3, .inr (false, (1, .ofNat 0))), (4, .inl 32), (5, .inr (false, (2, .ofNat 0))), (6, .inr (false, (3, .ofNat 0)))], [], [(11, (0, .ofNat 2), .inr (false, (4, .ofNat 0))), (70, (0, .ofNat 1), .inr (false, (0, .ofNat 1))), (70, (0, .ofNat 2), .inr (false, (1, .ofNat 0))), (70, (0, .ofNat 3), .inl 71), (70, (0, .ofNat 5), .inr (false, (0, .negSucc 0))), (70, (0, .ofNat 7), .inl 73)], [], []), ((0, 3, .ofNat 5048), (0, 0, .ofNat 0), (0, 0, .ofNat 0)), 0, 0)]
set_option maxRecDepth 1000000 in
theorem cv624 {gh : sxGh} (hg : sxGd sxKw gh) : sxCtV sxKw gh ct624 := sxMeB_ok (cts := [ct619, ct527, ct616, ct617]) (cuts := cu624) (sp := []) 179 (by decide +kernel) hg (by decide) (by decide) (List.forall_mem_cons.mpr ⟨cv619 hg, (List.forall_mem_cons.mpr ⟨cv527 hg, (List.forall_mem_cons.mpr ⟨cv616 hg, (List.forall_mem_cons.mpr ⟨cv617 hg, (fun _ h => absurd h List.not_mem_nil)⟩)⟩)⟩)⟩)
/-- LotBeliefs.Survey.digits -/
def ct654 : sxCt := (71, 0, (2, [(1, .ofNat 0, .ofNat 7)], [], [(0, .inl 66), (1, .inr (false, (1, .ofNat 0)))], [], [], [], []), [], [
  (3, [(2, .negSucc 9223372036854775807, .ofNat 9223372036854775807)], [], [], [.inr (true, (2, .ofNat 0))], [], [], [])], [], 0, 0)
def cu654 : List sxCu := [
  (5, (4, [(1, .ofNat 0, .ofNat 7), (2, .negSucc 9223372036854775807, .ofNat 9223372036854775807), (3, .ofNat 0, .ofNat 7)], [], [(0, .inl 66), (1, .inr (false, (1, .ofNat 0))), (2, .inr (true, (2, .ofNat 0))), (4, .inr (false, (3, .ofNat 0)))], [], [], [], []), ((0, 3, .ofNat 7), (0, 0, .ofNat 0), (0, 0, .ofNat 0)), 0, 0)]
set_option maxRecDepth 1000000 in
theorem cv654 {gh : sxGh} (hg : sxGd sxKw gh) : sxCtV sxKw gh ct654 := sxMeB_ok (cts := []) (cuts := cu654) (sp := []) 81 (by decide +kernel) hg (by decide) (by decide) (fun _ h => absurd h List.not_mem_nil)
/-- LotBeliefs.Survey.note -/
def ct655 : sxCt := (70, 1, (4, [(1, .ofNat 0, .ofNat 4095), (2, .negSucc 2147483647, .ofNat 2147483647), (3, .ofNat 0, .ofNat 7)], [], [(0, .inl 66), (1, .inr (false, (1, .ofNat 0))), (2, .inr (false, (2, .ofNat 0))), (3, .inr (false, (3, .ofNat 0)))], [], [], [], []), [(66, 6), (66, 7), (67, 0), (68, 0)], [
  (5, [(4, .negSucc 2147483647, .ofNat 2147483647)], [(2, 4, .ofNat 0)], [], [], [(66, (0, .ofNat 5), .inr (false, (4, .ofNat 0)))], [], [])], [], 0, 0)
def cu655 : List sxCu := []
set_option maxRecDepth 1000000 in
theorem cv655 {gh : sxGh} (hg : sxGd sxKw gh) : sxCtV sxKw gh ct655 := sxMeB_ok (cts := [ct654]) (cuts := cu655) (sp := []) 141 (by decide +kernel) hg (by decide) (by decide) (List.forall_mem_cons.mpr ⟨cv654 hg, (fun _ h => absurd h List.not_mem_nil)⟩)
/-- LotBeliefs.Survey.advance -/
def ct656 : sxCt := (72, 1, (2, [(1, .ofNat 0, .ofNat 7)], [], [(0, .inl 66), (1, .inr (false, (1, .ofNat 0)))], [], [], [], []), [(69, 0)], [
  (3, [(2, .negSucc 0, .ofNat 5)], [(2, 1, .negSucc 0)], [], [.inr (false, (2, .ofNat 0))], [], [], [])], [], 0, 0)
def cu656 : List sxCu := [
  (4, (3, [(1, .ofNat 0, .ofNat 7), (2, .negSucc 1, .ofNat 5)], [(2, 1, .negSucc 1)], [(0, .inl 66), (1, .inr (false, (1, .ofNat 0))), (2, .inr (false, (2, .ofNat 0)))], [], [], [], []), ((2, 0, .ofNat 15), (0, 0, .ofNat 0), (0, 0, .ofNat 0)), 0, 0), 
  (41, (4, [(1, .ofNat 2, .ofNat 7), (2, .ofNat 0, .ofNat 5), (3, .ofNat 0, .ofNat 6)], [(2, 1, .negSucc 1), (3, 1, .negSucc 0)], [(0, .inl 66), (1, .inr (false, (1, .ofNat 0))), (2, .inr (false, (2, .ofNat 0))), (3, .inr (false, (3, .ofNat 0)))], [], [(66, (0, .ofNat 7), .inl 69)], [], []), ((3, 0, .ofNat 6), (0, 0, .ofNat 0), (0, 0, .ofNat 0)), 0, 0), 
  (83, (6, [(1, .ofNat 2, .ofNat 7), (2, .ofNat 0, .ofNat 5), (3, .ofNat 0, .ofNat 6), (4, .ofNat 1, .ofNat 6), (5, .ofNat 1, .ofNat 6)], [(2, 1, .negSucc 1), (2, 4, .negSucc 0), (2, 5, .negSucc 0), (3, 1, .negSucc 0), (4, 1, .negSucc 0), (5, 1, .negSucc 0)], [(0, .inl 66), (1, .inr (false, (1, .ofNat 0))), (2, .inr (false, (2, .ofNat 0))), (3, .inr (false, (3, .ofNat 0))), (4, .inr (false, (4, .ofNat 0))), (5, .inr (false, (5, .ofNat 0)))], [], [(66, (0, .ofNat 7), .inl 69)], [], []), ((0, 4, .ofNat 6), (0, 0, .ofNat 0), (0, 0, .ofNat 0)), 0, 0)]
set_option maxRecDepth 1000000 in
theorem cv656 {gh : sxGh} (hg : sxGd sxKw gh) : sxCtV sxKw gh ct656 := sxMeB_ok (cts := []) (cuts := cu656) (sp := []) 196 (by decide +kernel) hg (by decide) (by decide) (fun _ h => absurd h List.not_mem_nil)
/-- LotBeliefs.Course.goBack -/
def ct657 : sxCt := (3, 1, (2, [(1, .ofNat 0, .ofNat 5)], [], [(0, .inl 32), (1, .inl 69), (2, .inr (false, (1, .ofNat 0)))], [], [], [], []), [(32, 11), (32, 12), (33000037, 0)], [
  (3, [(2, .ofNat 0, .ofNat 17)], [], [], [], [(32, (0, .ofNat 10), .inr (false, (2, .ofNat 0)))], [], [])], [], 0, 0)
def cu657 : List sxCu := [
  (12, (3, [(1, .ofNat 0, .ofNat 5), (2, .ofNat 0, .ofNat 17)], [], [(0, .inl 32), (1, .inl 69), (2, .inr (false, (1, .ofNat 0))), (3, .inr (false, (2, .ofNat 0)))], [], [(32, (0, .ofNat 10), .inr (false, (0, .ofNat 0))), (32, (0, .ofNat 11), .inr (false, (0, .ofNat 0)))], [], []), ((0, 2, .ofNat 23), (0, 0, .ofNat 0), (0, 0, .ofNat 0)), 0, 0), 
  (46, (4, [(1, .ofNat 0, .ofNat 5), (2, .ofNat 0, .ofNat 5), (3, .ofNat 0, .ofNat 17)], [], [(0, .inl 32), (1, .inl 69), (2, .inr (false, (1, .ofNat 0))), (3, .inr (false, (2, .ofNat 0)))], [], [(32, (0, .ofNat 4), .inl 33), (32, (0, .ofNat 10), .inr (false, (3, .ofNat 0)))], [], []), ((0, 2, .ofNat 5), (0, 0, .ofNat 0), (0, 0, .ofNat 0)), 0, 0)]
set_option maxRecDepth 1000000 in
theorem cv657 {gh : sxGh} (hg : sxGd sxKw gh) : sxCtV sxKw gh ct657 := sxMeB_ok (cts := [ct540]) (cuts := cu657) (sp := []) 123 (by decide +kernel) hg (by decide) (by decide) (List.forall_mem_cons.mpr ⟨cv540 hg, (fun _ h => absurd h List.not_mem_nil)⟩)
/-- LotBeliefs.Course.play -/
def ct658 : sxCt := (2, 4, (3, [(1, .ofNat 0, .ofNat 7), (2, .ofNat 0, .ofNat 5)], [], [(0, .inl 32), (1, .inl 69), (2, .inr (false, (1, .ofNat 0))), (3, .inr (false, (2, .ofNat 0)))], [], [], [], []), [(21, 0), (22, 0), (25, 0), (26, 0), (32, 9), (32, 11), (32, 12), (33000037, 0)], [
  (5, [(3, .ofNat 0, .ofNat 4095), (4, .negSucc 2147483647, .ofNat 2147483647)], [], [], [], [(32, (0, .ofNat 8), .inr (false, (3, .ofNat 0))), (32, (0, .ofNat 11), .inr (false, (4, .ofNat 0)))], [], [])], [], 0, 0)
def cu658 : List sxCu := [
  (9, (4, [(1, .ofNat 0, .ofNat 7), (2, .ofNat 0, .ofNat 5), (3, .ofNat 0, .ofNat 7)], [(2, 3, .ofNat 0), (3, 1, .ofNat 5)], [(0, .inl 32), (1, .inl 69), (2, .inr (false, (1, .ofNat 0))), (3, .inr (false, (2, .ofNat 0))), (4, .inr (false, (3, .ofNat 0)))], [], [], [], []), ((0, 3, .ofNat 7), (0, 0, .ofNat 0), (0, 0, .ofNat 0)), 0, 0)]
set_option maxRecDepth 1000000 in
theorem cv658 {gh : sxGh} (hg : sxGd sxKw gh) : sxCtV sxKw gh ct658 := sxMeB_ok (cts := [ct657, ct540, ct420, ct411, ct574, ct410]) (cuts := cu658) (sp := []) 132 (by decide +kernel) hg (by decide) (by decide) (List.forall_mem_cons.mpr ⟨cv657 hg, (List.forall_mem_cons.mpr ⟨cv540 hg, (List.forall_mem_cons.mpr ⟨cv420 hg, (List.forall_mem_cons.mpr ⟨cv411 hg, (List.forall_mem_cons.mpr ⟨cv574 hg, (List.forall_mem_cons.mpr ⟨cv410 hg, (fun _ h => absurd h List.not_mem_nil)⟩)⟩)⟩)⟩)⟩)⟩)
/-- LotBeliefs.Survey.take -/
def ct659 : sxCt := (69, 5, (2, [(1, .ofNat 0, .ofNat 63)], [], [(0, .inl 66), (1, .inl 11), (2, .inl 23), (3, .inr (false, (1, .ofNat 0))), (4, .inl 32)], [], [], [], []), [(21, 0), (22, 0), (25, 0), (26, 0), (32, 1), (32, 2), (32, 3), (32, 4), (32, 9), (32, 11), (32, 12), (66, 2), (66, 3), (66, 6), (66, 7), (33000037, 0), (67000069, 0)], [
  (3, [(2, .ofNat 0, .ofNat 63)], [(1, 2, .ofNat 0), (2, 1, .ofNat 0)], [], [], [(66, (0, .ofNat 1), .inr (false, (0, .ofNat 1))), (66, (0, .ofNat 2), .inr (false, (2, .ofNat 0)))], [], [])], [], 0, 0)
def cu659 : List sxCu := [
  (115, (7, [(1, .ofNat 0, .ofNat 63), (2, .ofNat 0, .ofNat 7), (3, .negSucc 0, .ofNat 5), (4, .ofNat 0, .ofNat 5040), (5, .ofNat 0, .ofNat 12), (6, .negSucc 2147483647, .ofNat 2147483647)], [(2, 5, .ofNat 0), (5, 2, .ofNat 5)], [(0, .inl 66), (1, .inl 11), (2, .inl 23), (3, .inr (false, (1, .ofNat 0))), (4, .inl 32), (5, .inr (false, (2, .ofNat 0))), (6, .inr (false, (3, .ofNat 0))), (7, .inr (false, (4, .ofNat 0)))], [], [(11, (0, .ofNat 2), .inr (false, (5, .ofNat 0))), (32, (0, .ofNat 0), .inl 11), (32, (0, .ofNat 1), .inl 23), (32, (0, .ofNat 2), .inr (false, (0, .ofNat 2))), (32, (0, .ofNat 3), .inr (false, (1, .ofNat 0))), (66, (0, .ofNat 0), .inr (false, (0, .ofNat 2))), (66, (0, .ofNat 1), .inr (false, (0, .ofNat 1))), (66, (0, .ofNat 2), .inr (false, (1, .ofNat 0))), (66, (0, .ofNat 3), .inl 67), (66, (0, .ofNat 5), .inr (false, (6, .ofNat 0))), (66, (0, .ofNat 7), .inl 69)], [], []), ((0, 4, .ofNat 5040), (0, 0, .ofNat 0), (0, 0, .ofNat 0)), 0, 0), 
  (34, (3, [(1, .ofNat 0, .ofNat 63), (2, .ofNat 0, .ofNat 128)], [], [(0, .inl 66), (1, .inl 11), (2, .inl 23), (3, .inr (false, (1, .ofNat 0))), (4, .inl 32), (5, .inr (false, (2, .ofNat 0)))], [], [(66, (0, .ofNat 1), .inr (false, (0, .ofNat 1))), (66, (0, .ofNat 2), .inr (false, (1, .ofNat 0))), (66, (0, .ofNat 5), .inr (false, (0, .negSucc 0)))], [], []), ((0, 2, .ofNat 5177), (0, 0, .ofNat 0), (0, 0, .ofNat 0)), 0, 0), 
  (75, (5, [(1, .ofNat 0, .ofNat 63), (2, .ofNat 0, .ofNat 7), (3, .ofNat 0, .ofNat 7), (4, .ofNat 0, .ofNat 12)], [(2, 4, .ofNat 0), (4, 2, .ofNat 5)], [(0, .inl 66), (1, .inl 11), (2, .inl 23), (3, .inr (false, (1, .ofNat 0))), (4, .inl 32), (5, .inr (false, (2, .ofNat 0))), (6, .inr (false, (3, .ofNat 0)))], [], [(11, (0, .ofNat 2), .inr (false, (4, .ofNat 0))), (66, (0, .ofNat 1), .inr (false, (0, .ofNat 1))), (66, (0, .ofNat 2), .inr (false, (1, .ofNat 0))), (66, (0, .ofNat 3), .inl 67), (66, (0, .ofNat 5), .inr (false, (0, .negSucc 0))), (66, (0, .ofNat 7), .inl 69)], [], []), ((0, 3, .ofNat 5048), (0, 0, .ofNat 0), (0, 0, .ofNat 0)), 0, 0)]
set_option maxRecDepth 1000000 in
theorem cv659 {gh : sxGh} (hg : sxGd sxKw gh) : sxCtV sxKw gh ct659 := sxMeB_ok (cts := [ct658, ct527, ct655, ct656]) (cuts := cu659) (sp := []) 179 (by decide +kernel) hg (by decide) (by decide) (List.forall_mem_cons.mpr ⟨cv658 hg, (List.forall_mem_cons.mpr ⟨cv527 hg, (List.forall_mem_cons.mpr ⟨cv655 hg, (List.forall_mem_cons.mpr ⟨cv656 hg, (fun _ h => absurd h List.not_mem_nil)⟩)⟩)⟩)⟩)
/-- LotBeliefs.Survey.never -/
def ct660 : sxCt := (76, 0, (2, [(1, .ofNat 0, .ofNat 7)], [], [(0, .inl 66), (1, .inr (false, (1, .ofNat 0)))], [], [], [], []), [], [
  (3, [(2, .ofNat 0, .ofNat 127)], [], [], [.inr (false, (2, .ofNat 0))], [], [], [])], [], 0, 0)
def cu660 : List sxCu := [
  (8, (4, [(1, .ofNat 0, .ofNat 7), (2, .ofNat 0, .ofNat 127), (3, .ofNat 0, .ofNat 128)], [], [(0, .inl 66), (1, .inr (false, (1, .ofNat 0))), (2, .inr (false, (2, .ofNat 0))), (3, .inr (false, (3, .ofNat 0)))], [], [], [], []), ((0, 3, .ofNat 128), (0, 0, .ofNat 0), (0, 0, .ofNat 0)), 0, 0)]
set_option maxRecDepth 1000000 in
theorem cv660 {gh : sxGh} (hg : sxGd sxKw gh) : sxCtV sxKw gh ct660 := sxMeB_ok (cts := []) (cuts := cu660) (sp := []) 90 (by decide +kernel) hg (by decide) (by decide) (fun _ h => absurd h List.not_mem_nil)
/-- LotBeliefs.Survey.always -/
def ct661 : sxCt := (75, 0, (2, [(1, .ofNat 0, .ofNat 7)], [], [(0, .inl 66), (1, .inr (false, (1, .ofNat 0)))], [], [], [], []), [], [
  (3, [(2, .ofNat 0, .ofNat 127)], [], [], [.inr (false, (2, .ofNat 0))], [], [], [])], [], 0, 0)
def cu661 : List sxCu := [
  (8, (4, [(1, .ofNat 0, .ofNat 7), (2, .ofNat 0, .ofNat 127), (3, .ofNat 0, .ofNat 128)], [], [(0, .inl 66), (1, .inr (false, (1, .ofNat 0))), (2, .inr (false, (2, .ofNat 0))), (3, .inr (false, (3, .ofNat 0)))], [], [], [], []), ((0, 3, .ofNat 128), (0, 0, .ofNat 0), (0, 0, .ofNat 0)), 0, 0)]
set_option maxRecDepth 1000000 in
theorem cv661 {gh : sxGh} (hg : sxGd sxKw gh) : sxCtV sxKw gh ct661 := sxMeB_ok (cts := []) (cuts := cu661) (sp := []) 88 (by decide +kernel) hg (by decide) (by decide) (fun _ h => absurd h List.not_mem_nil)
/-- LotBeliefs.Survey.unlike -/
def ct662 : sxCt := (74, 0, (1, [], [], [(0, .inl 66)], [], [], [], []), [], [
  (2, [(1, .ofNat 0, .ofNat 128)], [], [], [.inr (false, (1, .ofNat 0))], [], [], [])], [], 0, 0)
def cu662 : List sxCu := [
  (4, (3, [(1, .ofNat 0, .ofNat 128), (2, .ofNat 0, .ofNat 128)], [(1, 2, .ofNat 0)], [(0, .inl 66), (1, .inr (false, (1, .ofNat 0))), (2, .inr (false, (2, .ofNat 0)))], [], [], [], []), ((0, 2, .ofNat 128), (0, 0, .ofNat 0), (0, 0, .ofNat 0)), 0, 0)]
set_option maxRecDepth 1000000 in
theorem cv662 {gh : sxGh} (hg : sxGd sxKw gh) : sxCtV sxKw gh ct662 := sxMeB_ok (cts := []) (cuts := cu662) (sp := []) 81 (by decide +kernel) hg (by decide) (by decide) (fun _ h => absurd h List.not_mem_nil)
/-- LotBeliefs.Survey.take -/
def ct663 : sxCt := (69, 5, (2, [(1, .ofNat 0, .ofNat 63)], [], [(0, .inl 66), (1, .inl 11), (2, .inl 19), (3, .inr (false, (1, .ofNat 0))), (4, .inl 32)], [], [], [], []), [(21, 0), (22, 0), (25, 0), (26, 0), (32, 1), (32, 2), (32, 3), (32, 4), (32, 9), (32, 11), (32, 12), (66, 2), (66, 3), (66, 6), (66, 7), (33000037, 0), (67000069, 0)], [
  (3, [(2, .ofNat 0, .ofNat 63)], [(1, 2, .ofNat 0), (2, 1, .ofNat 0)], [], [], [(66, (0, .ofNat 1), .inr (false, (0, .ofNat 1))), (66, (0, .ofNat 2), .inr (false, (2, .ofNat 0)))], [], [])], [], 0, 0)
def cu663 : List sxCu := [
  (115, (7, [(1, .ofNat 0, .ofNat 63), (2, .ofNat 0, .ofNat 7), (3, .negSucc 0, .ofNat 5), (4, .ofNat 0, .ofNat 5040), (5, .ofNat 0, .ofNat 12), (6, .negSucc 2147483647, .ofNat 2147483647)], [(2, 5, .ofNat 0), (5, 2, .ofNat 5)], [(0, .inl 66), (1, .inl 11), (2, .inl 19), (3, .inr (false, (1, .ofNat 0))), (4, .inl 32), (5, .inr (false, (2, .ofNat 0))), (6, .inr (false, (3, .ofNat 0))), (7, .inr (false, (4, .ofNat 0)))], [], [(11, (0, .ofNat 2), .inr (false, (5, .ofNat 0))), (32, (0, .ofNat 0), .inl 11), (32, (0, .ofNat 1), .inl 19), (32, (0, .ofNat 2), .inr (false, (0, .ofNat 2))), (32, (0, .ofNat 3), .inr (false, (1, .ofNat 0))), (66, (0, .ofNat 0), .inr (false, (0, .ofNat 2))), (66, (0, .ofNat 1), .inr (false, (0, .ofNat 1))), (66, (0, .ofNat 2), .inr (false, (1, .ofNat 0))), (66, (0, .ofNat 3), .inl 67), (66, (0, .ofNat 5), .inr (false, (6, .ofNat 0))), (66, (0, .ofNat 7), .inl 69)], [], []), ((0, 4, .ofNat 5040), (0, 0, .ofNat 0), (0, 0, .ofNat 0)), 0, 0), 
  (34, (3, [(1, .ofNat 0, .ofNat 63), (2, .ofNat 0, .ofNat 128)], [], [(0, .inl 66), (1, .inl 11), (2, .inl 19), (3, .inr (false, (1, .ofNat 0))), (4, .inl 32), (5, .inr (false, (2, .ofNat 0)))], [], [(66, (0, .ofNat 1), .inr (false, (0, .ofNat 1))), (66, (0, .ofNat 2), .inr (false, (1, .ofNat 0))), (66, (0, .ofNat 5), .inr (false, (0, .negSucc 0)))], [], []), ((0, 2, .ofNat 5177), (0, 0, .ofNat 0), (0, 0, .ofNat 0)), 0, 0), 
  (75, (5, [(1, .ofNat 0, .ofNat 63), (2, .ofNat 0, .ofNat 7), (3, .ofNat 0, .ofNat 7), (4, .ofNat 0, .ofNat 12)], [(2, 4, .ofNat 0), (4, 2, .ofNat 5)], [(0, .inl 66), (1, .inl 11), (2, .inl 19), (3, .inr (false, (1, .ofNat 0))), (4, .inl 32), (5, .inr (false, (2, .ofNat 0))), (6, .inr (false, (3, .ofNat 0)))], [], [(11, (0, .ofNat 2), .inr (false, (4, .ofNat 0))), (66, (0, .ofNat 1), .inr (false, (0, .ofNat 1))), (66, (0, .ofNat 2), .inr (false, (1, .ofNat 0))), (66, (0, .ofNat 3), .inl 67), (66, (0, .ofNat 5), .inr (false, (0, .negSucc 0))), (66, (0, .ofNat 7), .inl 69)], [], []), ((0, 3, .ofNat 5048), (0, 0, .ofNat 0), (0, 0, .ofNat 0)), 0, 0)]
set_option maxRecDepth 1000000 in
theorem cv663 {gh : sxGh} (hg : sxGd sxKw gh) : sxCtV sxKw gh ct663 := sxMeB_ok (cts := [ct658, ct527, ct655, ct656]) (cuts := cu663) (sp := []) 179 (by decide +kernel) hg (by decide) (by decide) (List.forall_mem_cons.mpr ⟨cv658 hg, (List.forall_mem_cons.mpr ⟨cv527 hg, (List.forall_mem_cons.mpr ⟨cv655 hg, (List.forall_mem_cons.mpr ⟨cv656 hg, (fun _ h => absurd h List.not_mem_nil)⟩)⟩)⟩)⟩)
/-- LotBeliefs.Survey.digits -/
def ct693 : sxCt := (71, 0, (2, [(1, .ofNat 0, .ofNat 7)], [], [(0, .inl 62), (1, .inr (false, (1, .ofNat 0)))], [], [], [], []), [], [
  (3, [(2, .negSucc 9223372036854775807, .ofNat 9223372036854775807)], [], [], [.inr (true, (2, .ofNat 0))], [], [], [])], [], 0, 0)
def cu693 : List sxCu := [
  (5, (4, [(1, .ofNat 0, .ofNat 7), (2, .negSucc 9223372036854775807, .ofNat 9223372036854775807), (3, .ofNat 0, .ofNat 7)], [], [(0, .inl 62), (1, .inr (false, (1, .ofNat 0))), (2, .inr (true, (2, .ofNat 0))), (4, .inr (false, (3, .ofNat 0)))], [], [], [], []), ((0, 3, .ofNat 7), (0, 0, .ofNat 0), (0, 0, .ofNat 0)), 0, 0)]
set_option maxRecDepth 1000000 in
theorem cv693 {gh : sxGh} (hg : sxGd sxKw gh) : sxCtV sxKw gh ct693 := sxMeB_ok (cts := []) (cuts := cu693) (sp := []) 81 (by decide +kernel) hg (by decide) (by decide) (fun _ h => absurd h List.not_mem_nil)
/-- LotBeliefs.Survey.note -/
def ct694 : sxCt := (70, 1, (4, [(1, .ofNat 0, .ofNat 4095), (2, .negSucc 2147483647, .ofNat 2147483647), (3, .ofNat 0, .ofNat 7)], [], [(0, .inl 62), (1, .inr (false, (1, .ofNat 0))), (2, .inr (false, (2, .ofNat 0))), (3, .inr (false, (3, .ofNat 0)))], [], [], [], []), [(62, 6), (62, 7), (63, 0), (64, 0)], [
  (5, [(4, .negSucc 2147483647, .ofNat 2147483647)], [(2, 4, .ofNat 0)], [], [], [(62, (0, .ofNat 5), .inr (false, (4, .ofNat 0)))], [], [])], [], 0, 0)
def cu694 : List sxCu := []
set_option maxRecDepth 1000000 in
theorem cv694 {gh : sxGh} (hg : sxGd sxKw gh) : sxCtV sxKw gh ct694 := sxMeB_ok (cts := [ct693]) (cuts := cu694) (sp := []) 141 (by decide +kernel) hg (by decide) (by decide) (List.forall_mem_cons.mpr ⟨cv693 hg, (fun _ h => absurd h List.not_mem_nil)⟩)
/-- LotBeliefs.Survey.advance -/
def ct695 : sxCt := (72, 1, (2, [(1, .ofNat 0, .ofNat 7)], [], [(0, .inl 62), (1, .inr (false, (1, .ofNat 0)))], [], [], [], []), [(65, 0)], [
  (3, [(2, .negSucc 0, .ofNat 5)], [(2, 1, .negSucc 0)], [], [.inr (false, (2, .ofNat 0))], [], [], [])], [], 0, 0)
def cu695 : List sxCu := [
  (4, (3, [(1, .ofNat 0, .ofNat 7), (2, .negSucc 1, .ofNat 5)], [(2, 1, .negSucc 1)], [(0, .inl 62), (1, .inr (false, (1, .ofNat 0))), (2, .inr (false, (2, .ofNat 0)))], [], [], [], []), ((2, 0, .ofNat 15), (0, 0, .ofNat 0), (0, 0, .ofNat 0)), 0, 0), 
  (41, (4, [(1, .ofNat 2, .ofNat 7), (2, .ofNat 0, .ofNat 5), (3, .ofNat 0, .ofNat 6)], [(2, 1, .negSucc 1), (3, 1, .negSucc 0)], [(0, .inl 62), (1, .inr (false, (1, .ofNat 0))), (2, .inr (false, (2, .ofNat 0))), (3, .inr (false, (3, .ofNat 0)))], [], [(62, (0, .ofNat 7), .inl 65)], [], []), ((3, 0, .ofNat 6), (0, 0, .ofNat 0), (0, 0, .ofNat 0)), 0, 0), 
  (83, (6, [(1, .ofNat 2, .ofNat 7), (2, .ofNat 0, .ofNat 5), (3, .ofNat 0, .ofNat 6), (4, .ofNat 1, .ofNat 6), (5, .ofNat 1, .ofNat 6)], [(2, 1, .negSucc 1), (2, 4, .negSucc 0), (2, 5, .negSucc 0), (3, 1, .negSucc 0), (4, 1, .negSucc 0), (5, 1, .negSucc 0)], [(0, .inl 62), (1, .inr (false, (1, .ofNat 0))), (2, .inr (false, (2, .ofNat 0))), (3, .inr (false, (3, .ofNat 0))), (4, .inr (false, (4, .ofNat 0))), (5, .inr (false, (5, .ofNat 0)))], [], [(62, (0, .ofNat 7), .inl 65)], [], []), ((0, 4, .ofNat 6), (0, 0, .ofNat 0), (0, 0, .ofNat 0)), 0, 0)]
set_option maxRecDepth 1000000 in
theorem cv695 {gh : sxGh} (hg : sxGd sxKw gh) : sxCtV sxKw gh ct695 := sxMeB_ok (cts := []) (cuts := cu695) (sp := []) 196 (by decide +kernel) hg (by decide) (by decide) (fun _ h => absurd h List.not_mem_nil)
/-- LotBeliefs.Course.goBack -/
def ct696 : sxCt := (3, 1, (2, [(1, .ofNat 0, .ofNat 5)], [], [(0, .inl 32), (1, .inl 65), (2, .inr (false, (1, .ofNat 0)))], [], [], [], []), [(32, 11), (32, 12), (33000037, 0)], [
  (3, [(2, .ofNat 0, .ofNat 17)], [], [], [], [(32, (0, .ofNat 10), .inr (false, (2, .ofNat 0)))], [], [])], [], 0, 0)
def cu696 : List sxCu := [
  (12, (3, [(1, .ofNat 0, .ofNat 5), (2, .ofNat 0, .ofNat 17)], [], [(0, .inl 32), (1, .inl 65), (2, .inr (false, (1, .ofNat 0))), (3, .inr (false, (2, .ofNat 0)))], [], [(32, (0, .ofNat 10), .inr (false, (0, .ofNat 0))), (32, (0, .ofNat 11), .inr (false, (0, .ofNat 0)))], [], []), ((0, 2, .ofNat 23), (0, 0, .ofNat 0), (0, 0, .ofNat 0)), 0, 0), 
  (46, (4, [(1, .ofNat 0, .ofNat 5), (2, .ofNat 0, .ofNat 5), (3, .ofNat 0, .ofNat 17)], [], [(0, .inl 32), (1, .inl 65), (2, .inr (false, (1, .ofNat 0))), (3, .inr (false, (2, .ofNat 0)))], [], [(32, (0, .ofNat 4), .inl 33), (32, (0, .ofNat 10), .inr (false, (3, .ofNat 0)))], [], []), ((0, 2, .ofNat 5), (0, 0, .ofNat 0), (0, 0, .ofNat 0)), 0, 0)]
set_option maxRecDepth 1000000 in
theorem cv696 {gh : sxGh} (hg : sxGd sxKw gh) : sxCtV sxKw gh ct696 := sxMeB_ok (cts := [ct540]) (cuts := cu696) (sp := []) 123 (by decide +kernel) hg (by decide) (by decide) (List.forall_mem_cons.mpr ⟨cv540 hg, (fun _ h => absurd h List.not_mem_nil)⟩)
/-- LotBeliefs.Course.play -/
def ct697 : sxCt := (2, 4, (3, [(1, .ofNat 0, .ofNat 7), (2, .ofNat 0, .ofNat 5)], [], [(0, .inl 32), (1, .inl 65), (2, .inr (false, (1, .ofNat 0))), (3, .inr (false, (2, .ofNat 0)))], [], [], [], []), [(21, 0), (22, 0), (25, 0), (26, 0), (32, 9), (32, 11), (32, 12), (33000037, 0)], [
  (5, [(3, .ofNat 0, .ofNat 4095), (4, .negSucc 2147483647, .ofNat 2147483647)], [], [], [], [(32, (0, .ofNat 8), .inr (false, (3, .ofNat 0))), (32, (0, .ofNat 11), .inr (false, (4, .ofNat 0)))], [], [])], [], 0, 0)
def cu697 : List sxCu := [
  (9, (4, [(1, .ofNat 0, .ofNat 7), (2, .ofNat 0, .ofNat 5), (3, .ofNat 0, .ofNat 7)], [(2, 3, .ofNat 0), (3, 1, .ofNat 5)], [(0, .inl 32), (1, .inl 65), (2, .inr (false, (1, .ofNat 0))), (3, .inr (false, (2, .ofNat 0))), (4, .inr (false, (3, .ofNat 0)))], [], [], [], []), ((0, 3, .ofNat 7), (0, 0, .ofNat 0), (0, 0, .ofNat 0)), 0, 0)]
set_option maxRecDepth 1000000 in
theorem cv697 {gh : sxGh} (hg : sxGd sxKw gh) : sxCtV sxKw gh ct697 := sxMeB_ok (cts := [ct696, ct540, ct420, ct411, ct574, ct410]) (cuts := cu697) (sp := []) 132 (by decide +kernel) hg (by decide) (by decide) (List.forall_mem_cons.mpr ⟨cv696 hg, (List.forall_mem_cons.mpr ⟨cv540 hg, (List.forall_mem_cons.mpr ⟨cv420 hg, (List.forall_mem_cons.mpr ⟨cv411 hg, (List.forall_mem_cons.mpr ⟨cv574 hg, (List.forall_mem_cons.mpr ⟨cv410 hg, (fun _ h => absurd h List.not_mem_nil)⟩)⟩)⟩)⟩)⟩)⟩)
/-- LotBeliefs.Survey.take -/
def ct698 : sxCt := (69, 5, (2, [(1, .ofNat 0, .ofNat 63)], [], [(0, .inl 62), (1, .inl 11), (2, .inl 23), (3, .inr (false, (1, .ofNat 0))), (4, .inl 32)], [], [], [], []), [(21, 0), (22, 0), (25, 0), (26, 0), (32, 1), (32, 2), (32, 3), (32, 4), (32, 9), (32, 11), (32, 12), (62, 2), (62, 3), (62, 6), (62, 7), (33000037, 0), (63000065, 0)], [
  (3, [(2, .ofNat 0, .ofNat 63)], [(1, 2, .ofNat 0), (2, 1, .ofNat 0)], [], [], [(62, (0, .ofNat 1), .inr (false, (0, .ofNat 1))), (62, (0, .ofNat 2), .inr (false, (2, .ofNat 0)))], [], [])], [], 0, 0)
def cu698 : List sxCu := [
  (115, (7, [(1, .ofNat 0, .ofNat 63), (2, .ofNat 0, .ofNat 7), (3, .negSucc 0, .ofNat 5), (4, .ofNat 0, .ofNat 5040), (5, .ofNat 0, .ofNat 12), (6, .negSucc 2147483647, .ofNat 2147483647)], [(2, 5, .ofNat 0), (5, 2, .ofNat 5)], [(0, .inl 62), (1, .inl 11), (2, .inl 23), (3, .inr (false, (1, .ofNat 0))), (4, .inl 32), (5, .inr (false, (2, .ofNat 0))), (6, .inr (false, (3, .ofNat 0))), (7, .inr (false, (4, .ofNat 0)))], [], [(11, (0, .ofNat 2), .inr (false, (5, .ofNat 0))), (32, (0, .ofNat 0), .inl 11), (32, (0, .ofNat 1), .inl 23), (32, (0, .ofNat 2), .inr (false, (0, .ofNat 1))), (32, (0, .ofNat 3), .inr (false, (1, .ofNat 0))), (62, (0, .ofNat 0), .inr (false, (0, .ofNat 1))), (62, (0, .ofNat 1), .inr (false, (0, .ofNat 1))), (62, (0, .ofNat 2), .inr (false, (1, .ofNat 0))), (62, (0, .ofNat 3), .inl 63), (62, (0, .ofNat 5), .inr (false, (6, .ofNat 0))), (62, (0, .ofNat 7), .inl 65)], [], []), ((0, 4, .ofNat 5040), (0, 0, .ofNat 0), (0, 0, .ofNat 0)), 0, 0), 
  (34, (3, [(1, .ofNat 0, .ofNat 63), (2, .ofNat 0, .ofNat 128)], [], [(0, .inl 62), (1, .inl 11), (2, .inl 23), (3, .inr (false, (1, .ofNat 0))), (4, .inl 32), (5, .inr (false, (2, .ofNat 0)))], [], [(62, (0, .ofNat 1), .inr (false, (0, .ofNat 1))), (62, (0, .ofNat 2), .inr (false, (1, .ofNat 0))), (62, (0, .ofNat 5), .inr (false, (0, .negSucc 0)))], [], []), ((0, 2, .ofNat 5177), (0, 0, .ofNat 0), (0, 0, .ofNat 0)), 0, 0), 
  (75, (5, [(1, .ofNat 0, .ofNat 63), (2, .ofNat 0, .ofNat 7), (3, .ofNat 0, .ofNat 7), (4, .ofNat 0, .ofNat 12)], [(2, 4, .ofNat 0), (4, 2, .ofNat 5)], [(0, .inl 62), (1, .inl 11), (2, .inl 23), (3, .inr (false, (1, .ofNat 0))), (4, .inl 32), (5, .inr (false, (2, .ofNat 0))), (6, .inr (false, (3, .ofNat 0)))], [], [(11, (0, .ofNat 2), .inr (false, (4, .ofNat 0))), (62, (0, .ofNat 1), .inr (false, (0, .ofNat 1))), (62, (0, .ofNat 2), .inr (false, (1, .ofNat 0))), (62, (0, .ofNat 3), .inl 63), (62, (0, .ofNat 5), .inr (false, (0, .negSucc 0))), (62, (0, .ofNat 7), .inl 65)], [], []), ((0, 3, .ofNat 5048), (0, 0, .ofNat 0), (0, 0, .ofNat 0)), 0, 0)]
set_option maxRecDepth 1000000 in
theorem cv698 {gh : sxGh} (hg : sxGd sxKw gh) : sxCtV sxKw gh ct698 := sxMeB_ok (cts := [ct697, ct527, ct694, ct695]) (cuts := cu698) (sp := []) 179 (by decide +kernel) hg (by decide) (by decide) (List.forall_mem_cons.mpr ⟨cv697 hg, (List.forall_mem_cons.mpr ⟨cv527 hg, (List.forall_mem_cons.mpr ⟨cv694 hg, (List.forall_mem_cons.mpr ⟨cv695 hg, (fun _ h => absurd h List.not_mem_nil)⟩)⟩)⟩)⟩)
/-- LotBeliefs.Survey.never -/
def ct699 : sxCt := (76, 0, (2, [(1, .ofNat 0, .ofNat 7)], [], [(0, .inl 62), (1, .inr (false, (1, .ofNat 0)))], [], [], [], []), [], [
  (3, [(2, .ofNat 0, .ofNat 127)], [], [], [.inr (false, (2, .ofNat 0))], [], [], [])], [], 0, 0)
def cu699 : List sxCu := [
  (8, (4, [(1, .ofNat 0, .ofNat 7), (2, .ofNat 0, .ofNat 127), (3, .ofNat 0, .ofNat 128)], [], [(0, .inl 62), (1, .inr (false, (1, .ofNat 0))), (2, .inr (false, (2, .ofNat 0))), (3, .inr (false, (3, .ofNat 0)))], [], [], [], []), ((0, 3, .ofNat 128), (0, 0, .ofNat 0), (0, 0, .ofNat 0)), 0, 0)]
set_option maxRecDepth 1000000 in
theorem cv699 {gh : sxGh} (hg : sxGd sxKw gh) : sxCtV sxKw gh ct699 := sxMeB_ok (cts := []) (cuts := cu699) (sp := []) 90 (by decide +kernel) hg (by decide) (by decide) (fun _ h => absurd h List.not_mem_nil)
/-- LotBeliefs.Survey.always -/
def ct700 : sxCt := (75, 0, (2, [(1, .ofNat 0, .ofNat 7)], [], [(0, .inl 62), (1, .inr (false, (1, .ofNat 0)))], [], [], [], []), [], [
  (3, [(2, .ofNat 0, .ofNat 127)], [], [], [.inr (false, (2, .ofNat 0))], [], [], [])], [], 0, 0)
def cu700 : List sxCu := [
  (8, (4, [(1, .ofNat 0, .ofNat 7), (2, .ofNat 0, .ofNat 127), (3, .ofNat 0, .ofNat 128)], [], [(0, .inl 62), (1, .inr (false, (1, .ofNat 0))), (2, .inr (false, (2, .ofNat 0))), (3, .inr (false, (3, .ofNat 0)))], [], [], [], []), ((0, 3, .ofNat 128), (0, 0, .ofNat 0), (0, 0, .ofNat 0)), 0, 0)]
set_option maxRecDepth 1000000 in
theorem cv700 {gh : sxGh} (hg : sxGd sxKw gh) : sxCtV sxKw gh ct700 := sxMeB_ok (cts := []) (cuts := cu700) (sp := []) 88 (by decide +kernel) hg (by decide) (by decide) (fun _ h => absurd h List.not_mem_nil)
/-- LotBeliefs.Survey.unlike -/
def ct701 : sxCt := (74, 0, (1, [], [], [(0, .inl 62)], [], [], [], []), [], [
  (2, [(1, .ofNat 0, .ofNat 128)], [], [], [.inr (false, (1, .ofNat 0))], [], [], [])], [], 0, 0)
def cu701 : List sxCu := [
  (4, (3, [(1, .ofNat 0, .ofNat 128), (2, .ofNat 0, .ofNat 128)], [(1, 2, .ofNat 0)], [(0, .inl 62), (1, .inr (false, (1, .ofNat 0))), (2, .inr (false, (2, .ofNat 0)))], [], [], [], []), ((0, 2, .ofNat 128), (0, 0, .ofNat 0), (0, 0, .ofNat 0)), 0, 0)]
set_option maxRecDepth 1000000 in
theorem cv701 {gh : sxGh} (hg : sxGd sxKw gh) : sxCtV sxKw gh ct701 := sxMeB_ok (cts := []) (cuts := cu701) (sp := []) 81 (by decide +kernel) hg (by decide) (by decide) (fun _ h => absurd h List.not_mem_nil)
/-- LotBeliefs.Survey.take -/
def ct702 : sxCt := (69, 5, (2, [(1, .ofNat 0, .ofNat 63)], [], [(0, .inl 62), (1, .inl 11), (2, .inl 19), (3, .inr (false, (1, .ofNat 0))), (4, .inl 32)], [], [], [], []), [(21, 0), (22, 0), (25, 0), (26, 0), (32, 1), (32, 2), (32, 3), (32, 4), (32, 9), (32, 11), (32, 12), (62, 2), (62, 3), (62, 6), (62, 7), (33000037, 0), (63000065, 0)], [
  (3, [(2, .ofNat 0, .ofNat 63)], [(1, 2, .ofNat 0), (2, 1, .ofNat 0)], [], [], [(62, (0, .ofNat 1), .inr (false, (0, .ofNat 1))), (62, (0, .ofNat 2), .inr (false, (2, .ofNat 0)))], [], [])], [], 0, 0)
def cu702 : List sxCu := [
  (115, (7, [(1, .ofNat 0, .ofNat 63), (2, .ofNat 0, .ofNat 7), (3, .negSucc 0, .ofNat 5), (4, .ofNat 0, .ofNat 5040), (5, .ofNat 0, .ofNat 12), (6, .negSucc 2147483647, .ofNat 2147483647)], [(2, 5, .ofNat 0), (5, 2, .ofNat 5)], [(0, .inl 62), (1, .inl 11), (2, .inl 19), (3, .inr (false, (1, .ofNat 0))), (4, .inl 32), (5, .inr (false, (2, .ofNat 0))), (6, .inr (false, (3, .ofNat 0))), (7, .inr (false, (4, .ofNat 0)))], [], [(11, (0, .ofNat 2), .inr (false, (5, .ofNat 0))), (32, (0, .ofNat 0), .inl 11), (32, (0, .ofNat 1), .inl 19), (32, (0, .ofNat 2), .inr (false, (0, .ofNat 1))), (32, (0, .ofNat 3), .inr (false, (1, .ofNat 0))), (62, (0, .ofNat 0), .inr (false, (0, .ofNat 1))), (62, (0, .ofNat 1), .inr (false, (0, .ofNat 1))), (62, (0, .ofNat 2), .inr (false, (1, .ofNat 0))), (62, (0, .ofNat 3), .inl 63), (62, (0, .ofNat 5), .inr (false, (6, .ofNat 0))), (62, (0, .ofNat 7), .inl 65)], [], []), ((0, 4, .ofNat 5040), (0, 0, .ofNat 0), (0, 0, .ofNat 0)), 0, 0), 
  (34, (3, [(1, .ofNat 0, .ofNat 63), (2, .ofNat 0, .ofNat 128)], [], [(0, .inl 62), (1, .inl 11), (2, .inl 19), (3, .inr (false, (1, .ofNat 0))), (4, .inl 32), (5, .inr (false, (2, .ofNat 0)))], [], [(62, (0, .ofNat 1), .inr (false, (0, .ofNat 1))), (62, (0, .ofNat 2), .inr (false, (1, .ofNat 0))), (62, (0, .ofNat 5), .inr (false, (0, .negSucc 0)))], [], []), ((0, 2, .ofNat 5177), (0, 0, .ofNat 0), (0, 0, .ofNat 0)), 0, 0), 
  (75, (5, [(1, .ofNat 0, .ofNat 63), (2, .ofNat 0, .ofNat 7), (3, .ofNat 0, .ofNat 7), (4, .ofNat 0, .ofNat 12)], [(2, 4, .ofNat 0), (4, 2, .ofNat 5)], [(0, .inl 62), (1, .inl 11), (2, .inl 19), (3, .inr (false, (1, .ofNat 0))), (4, .inl 32), (5, .inr (false, (2, .ofNat 0))), (6, .inr (false, (3, .ofNat 0)))], [], [(11, (0, .ofNat 2), .inr (false, (4, .ofNat 0))), (62, (0, .ofNat 1), .inr (false, (0, .ofNat 1))), (62, (0, .ofNat 2), .inr (false, (1, .ofNat 0))), (62, (0, .ofNat 3), .inl 63), (62, (0, .ofNat 5), .inr (false, (0, .negSucc 0))), (62, (0, .ofNat 7), .inl 65)], [], []), ((0, 3, .ofNat 5048), (0, 0, .ofNat 0), (0, 0, .ofNat 0)), 0, 0)]
set_option maxRecDepth 1000000 in
theorem cv702 {gh : sxGh} (hg : sxGd sxKw gh) : sxCtV sxKw gh ct702 := sxMeB_ok (cts := [ct697, ct527, ct694, ct695]) (cuts := cu702) (sp := []) 179 (by decide +kernel) hg (by decide) (by decide) (List.forall_mem_cons.mpr ⟨cv697 hg, (List.forall_mem_cons.mpr ⟨cv527 hg, (List.forall_mem_cons.mpr ⟨cv694 hg, (List.forall_mem_cons.mpr ⟨cv695 hg, (fun _ h => absurd h List.not_mem_nil)⟩)⟩)⟩)⟩)
/-- LotBeliefs.Survey.digits -/
def ct732 : sxCt := (71, 0, (2, [(1, .ofNat 0, .ofNat 7)], [], [(0, .inl 58), (1, .inr (false, (1, .ofNat 0)))], [], [], [], []), [], [
  (3, [(2, .negSucc 9223372036854775807, .ofNat 9223372036854775807)], [], [], [.inr (true, (2, .ofNat 0))], [], [], [])], [], 0, 0)
def cu732 : List sxCu := [
  (5, (4, [(1, .ofNat 0, .ofNat 7), (2, .negSucc 9223372036854775807, .ofNat 9223372036854775807), (3, .ofNat 0, .ofNat 7)], [], [(0, .inl 58), (1, .inr (false, (1, .ofNat 0))), (2, .inr (true, (2, .ofNat 0))), (4, .inr (false, (3, .ofNat 0)))], [], [], [], []), ((0, 3, .ofNat 7), (0, 0, .ofNat 0), (0, 0, .ofNat 0)), 0, 0)]
set_option maxRecDepth 1000000 in
theorem cv732 {gh : sxGh} (hg : sxGd sxKw gh) : sxCtV sxKw gh ct732 := sxMeB_ok (cts := []) (cuts := cu732) (sp := []) 81 (by decide +kernel) hg (by decide) (by decide) (fun _ h => absurd h List.not_mem_nil)
/-- LotBeliefs.Survey.note -/
def ct733 : sxCt := (70, 1, (4, [(1, .ofNat 0, .ofNat 4095), (2, .negSucc 2147483647, .ofNat 2147483647), (3, .ofNat 0, .ofNat 7)], [], [(0, .inl 58), (1, .inr (false, (1, .ofNat 0))), (2, .inr (false, (2, .ofNat 0))), (3, .inr (false, (3, .ofNat 0)))], [], [], [], []), [(58, 6), (58, 7), (59, 0), (60, 0)], [
  (5, [(4, .negSucc 2147483647, .ofNat 2147483647)], [(2, 4, .ofNat 0)], [], [], [(58, (0, .ofNat 5), .inr (false, (4, .ofNat 0)))], [], [])], [], 0, 0)
def cu733 : List sxCu := []
set_option maxRecDepth 1000000 in
theorem cv733 {gh : sxGh} (hg : sxGd sxKw gh) : sxCtV sxKw gh ct733 := sxMeB_ok (cts := [ct732]) (cuts := cu733) (sp := []) 141 (by decide +kernel) hg (by decide) (by decide) (List.forall_mem_cons.mpr ⟨cv732 hg, (fun _ h => absurd h List.not_mem_nil)⟩)
/-- LotBeliefs.Survey.advance -/
def ct734 : sxCt := (72, 1, (2, [(1, .ofNat 0, .ofNat 7)], [], [(0, .inl 58), (1, .inr (false, (1, .ofNat 0)))], [], [], [], []), [(61, 0)], [
  (3, [(2, .negSucc 0, .ofNat 5)], [(2, 1, .negSucc 0)], [], [.inr (false, (2, .ofNat 0))], [], [], [])], [], 0, 0)
def cu734 : List sxCu := [
  (4, (3, [(1, .ofNat 0, .ofNat 7), (2, .negSucc 1, .ofNat 5)], [(2, 1, .negSucc 1)], [(0, .inl 58), (1, .inr (false, (1, .ofNat 0))), (2, .inr (false, (2, .ofNat 0)))], [], [], [], []), ((2, 0, .ofNat 15), (0, 0, .ofNat 0), (0, 0, .ofNat 0)), 0, 0), 
  (41, (4, [(1, .ofNat 2, .ofNat 7), (2, .ofNat 0, .ofNat 5), (3, .ofNat 0, .ofNat 6)], [(2, 1, .negSucc 1), (3, 1, .negSucc 0)], [(0, .inl 58), (1, .inr (false, (1, .ofNat 0))), (2, .inr (false, (2, .ofNat 0))), (3, .inr (false, (3, .ofNat 0)))], [], [(58, (0, .ofNat 7), .inl 61)], [], []), ((3, 0, .ofNat 6), (0, 0, .ofNat 0), (0, 0, .ofNat 0)), 0, 0), 
  (83, (6, [(1, .ofNat 2, .ofNat 7), (2, .ofNat 0, .ofNat 5), (3, .ofNat 0, .ofNat 6), (4, .ofNat 1, .ofNat 6), (5, .ofNat 1, .ofNat 6)], [(2, 1, .negSucc 1), (2, 4, .negSucc 0), (2, 5, .negSucc 0), (3, 1, .negSucc 0), (4, 1, .negSucc 0), (5, 1, .negSucc 0)], [(0, .inl 58), (1, .inr (false, (1, .ofNat 0))), (2, .inr (false, (2, .ofNat 0))), (3, .inr (false, (3, .ofNat 0))), (4, .inr (false, (4, .ofNat 0))), (5, .inr (false, (5, .ofNat 0)))], [], [(58, (0, .ofNat 7), .inl 61)], [], []), ((0, 4, .ofNat 6), (0, 0, .ofNat 0), (0, 0, .ofNat 0)), 0, 0)]
set_option maxRecDepth 1000000 in
theorem cv734 {gh : sxGh} (hg : sxGd sxKw gh) : sxCtV sxKw gh ct734 := sxMeB_ok (cts := []) (cuts := cu734) (sp := []) 196 (by decide +kernel) hg (by decide) (by decide) (fun _ h => absurd h List.not_mem_nil)
/-- LotBeliefs.Course.goBack -/
def ct735 : sxCt := (3, 1, (2, [(1, .ofNat 0, .ofNat 5)], [], [(0, .inl 32), (1, .inl 61), (2, .inr (false, (1, .ofNat 0)))], [], [], [], []), [(32, 11), (32, 12), (33000037, 0)], [
  (3, [(2, .ofNat 0, .ofNat 17)], [], [], [], [(32, (0, .ofNat 10), .inr (false, (2, .ofNat 0)))], [], [])], [], 0, 0)
def cu735 : List sxCu := [
  (12, (3, [(1, .ofNat 0, .ofNat 5), (2, .ofNat 0, .ofNat 17)], [], [(0, .inl 32), (1, .inl 61), (2, .inr (false, (1, .ofNat 0))), (3, .inr (false, (2, .ofNat 0)))], [], [(32, (0, .ofNat 10), .inr (false, (0, .ofNat 0))), (32, (0, .ofNat 11), .inr (false, (0, .ofNat 0)))], [], []), ((0, 2, .ofNat 23), (0, 0, .ofNat 0), (0, 0, .ofNat 0)), 0, 0), 
  (46, (4, [(1, .ofNat 0, .ofNat 5), (2, .ofNat 0, .ofNat 5), (3, .ofNat 0, .ofNat 17)], [], [(0, .inl 32), (1, .inl 61), (2, .inr (false, (1, .ofNat 0))), (3, .inr (false, (2, .ofNat 0)))], [], [(32, (0, .ofNat 4), .inl 33), (32, (0, .ofNat 10), .inr (false, (3, .ofNat 0)))], [], []), ((0, 2, .ofNat 5), (0, 0, .ofNat 0), (0, 0, .ofNat 0)), 0, 0)]
set_option maxRecDepth 1000000 in
theorem cv735 {gh : sxGh} (hg : sxGd sxKw gh) : sxCtV sxKw gh ct735 := sxMeB_ok (cts := [ct540]) (cuts := cu735) (sp := []) 123 (by decide +kernel) hg (by decide) (by decide) (List.forall_mem_cons.mpr ⟨cv540 hg, (fun _ h => absurd h List.not_mem_nil)⟩)
/-- LotBeliefs.Course.play -/
def ct736 : sxCt := (2, 4, (3, [(1, .ofNat 0, .ofNat 7), (2, .ofNat 0, .ofNat 5)], [], [(0, .inl 32), (1, .inl 61), (2, .inr (false, (1, .ofNat 0))), (3, .inr (false, (2, .ofNat 0)))], [], [], [], []), [(21, 0), (22, 0), (25, 0), (26, 0), (32, 9), (32, 11), (32, 12), (33000037, 0)], [
  (5, [(3, .ofNat 0, .ofNat 4095), (4, .negSucc 2147483647, .ofNat 2147483647)], [], [], [], [(32, (0, .ofNat 8), .inr (false, (3, .ofNat 0))), (32, (0, .ofNat 11), .inr (false, (4, .ofNat 0)))], [], [])], [], 0, 0)
def cu736 : List sxCu := [
  (9, (4, [(1, .ofNat 0, .ofNat 7), (2, .ofNat 0, .ofNat 5), (3, .ofNat 0, .ofNat 7)], [(2, 3, .ofNat 0), (3, 1, .ofNat 5)], [(0, .inl 32), (1, .inl 61), (2, .inr (false, (1, .ofNat 0))), (3, .inr (false, (2, .ofNat 0))), (4, .inr (false, (3, .ofNat 0)))], [], [], [], []), ((0, 3, .ofNat 7), (0, 0, .ofNat 0), (0, 0, .ofNat 0)), 0, 0)]
set_option maxRecDepth 1000000 in
theorem cv736 {gh : sxGh} (hg : sxGd sxKw gh) : sxCtV sxKw gh ct736 := sxMeB_ok (cts := [ct735, ct540, ct420, ct411, ct574, ct410]) (cuts := cu736) (sp := []) 132 (by decide +kernel) hg (by decide) (by decide) (List.forall_mem_cons.mpr ⟨cv735 hg, (List.forall_mem_cons.mpr ⟨cv540 hg, (List.forall_mem_cons.mpr ⟨cv420 hg, (List.forall_mem_cons.mpr ⟨cv411 hg, (List.forall_mem_cons.mpr ⟨cv574 hg, (List.forall_mem_cons.mpr ⟨cv410 hg, (fun _ h => absurd h List.not_mem_nil)⟩)⟩)⟩)⟩)⟩)⟩)
/-- LotBeliefs.Survey.take -/
def ct737 : sxCt := (69, 5, (2, [(1, .ofNat 0, .ofNat 63)], [], [(0, .inl 58), (1, .inl 11), (2, .inl 23), (3, .inr (false, (1, .ofNat 0))), (4, .inl 32)], [], [], [], []), [(21, 0), (22, 0), (25, 0), (26, 0), (32, 1), (32, 2), (32, 3), (32, 4), (32, 9), (32, 11), (32, 12), (58, 2), (58, 3), (58, 6), (58, 7), (33000037, 0), (59000061, 0)], [
  (3, [(2, .ofNat 0, .ofNat 63)], [(1, 2, .ofNat 0), (2, 1, .ofNat 0)], [], [], [(58, (0, .ofNat 1), .inr (false, (0, .ofNat 1))), (58, (0, .ofNat 2), .inr (false, (2, .ofNat 0)))], [], [])], [], 0, 0)
def cu737 : List sxCu := [
  (115, (7, [(1, .ofNat 0, .ofNat 63), (2, .ofNat 0, .ofNat 7), (3, .negSucc 0, .ofNat 5), (4, .ofNat 0, .ofNat 5040), (5, .ofNat 0, .ofNat 12), (6, .negSucc 2147483647, .ofNat 2147483647)], [(2, 5, .ofNat 0), (5, 2, .ofNat 5)], [(0, .inl 58), (1, .inl 11), (2, .inl 23), (3, .inr (false, (1, .ofNat 0))), (4, .inl 32), (5, .inr (false, (2, .ofNat 0))), (6, .inr (false, (3, .ofNat 0))), (7, .inr (false, (4, .ofNat 0)))], [], [(11, (0, .ofNat 2), .inr (false, (5, .ofNat 0))), (32, (0, .ofNat 0), .inl 11), (32, (0, .ofNat 1), .inl 23), (32, (0, .ofNat 2), .inr (false, (0, .ofNat 0))), (32, (0, .ofNat 3), .inr (false, (1, .ofNat 0))), (58, (0, .ofNat 0), .inr (false, (0, .ofNat 0))), (58, (0, .ofNat 1), .inr (false, (0, .ofNat 1))), (58, (0, .ofNat 2), .inr (false, (1, .ofNat 0))), (58, (0, .ofNat 3), .inl 59), (58, (0, .ofNat 5), .inr (false, (6, .ofNat 0))), (58, (0, .ofNat 7), .inl 61)], [], []), ((0, 4, .ofNat 5040), (0, 0, .ofNat 0), (0, 0, .ofNat 0)), 0, 0), 
  (34, (3, [(1, .ofNat 0, .ofNat 63), (2, .ofNat 0, .ofNat 128)], [], [(0, .inl 58), (1, .inl 11), (2, .inl 23), (3, .inr (false, (1, .ofNat 0))), (4, .inl 32), (5, .inr (false, (2, .ofNat 0)))], [], [(58, (0, .ofNat 1), .inr (false, (0, .ofNat 1))), (58, (0, .ofNat 2), .inr (false, (1, .ofNat 0))), (58, (0, .ofNat 5), .inr (false, (0, .negSucc 0)))], [], []), ((0, 2, .ofNat 5177), (0, 0, .ofNat 0), (0, 0, .ofNat 0)), 0, 0), 
  (75, (5, [(1, .ofNat 0, .ofNat 63), (2, .ofNat 0, .ofNat 7), (3, .ofNat 0, .ofNat 7), (4, .ofNat 0, .ofNat 12)], [(2, 4, .ofNat 0), (4, 2, .ofNat 5)], [(0, .inl 58), (1, .inl 11), (2, .inl 23), (3, .inr (false, (1, .ofNat 0))), (4, .inl 32), (5, .inr (false, (2, .ofNat 0))), (6, .inr (false, (3, .ofNat 0)))], [], [(11, (0, .ofNat 2), .inr (false, (4, .ofNat 0))), (58, (0, .ofNat 1), .inr (false, (0, .ofNat 1))), (58, (0, .ofNat 2), .inr (false, (1, .ofNat 0))), (58, (0, .ofNat 3), .inl 59), (58, (0, .ofNat 5), .inr (false, (0, .negSucc 0))), (58, (0, .ofNat 7), .inl 61)], [], []), ((0, 3, .ofNat 5048), (0, 0, .ofNat 0), (0, 0, .ofNat 0)), 0, 0)]
set_option maxRecDepth 1000000 in
theorem cv737 {gh : sxGh} (hg : sxGd sxKw gh) : sxCtV sxKw gh ct737 := sxMeB_ok (cts := [ct736, ct527, ct733, ct734]) (cuts := cu737) (sp := []) 179 (by decide +kernel) hg (by decide) (by decide) (List.forall_mem_cons.mpr ⟨cv736 hg, (List.forall_mem_cons.mpr ⟨cv527 hg, (List.forall_mem_cons.mpr ⟨cv733 hg, (List.forall_mem_cons.mpr ⟨cv734 hg, (fun _ h => absurd h List.not_mem_nil)⟩)⟩)⟩)⟩)
/-- LotBeliefs.Survey.never -/
def ct738 : sxCt := (76, 0, (2, [(1, .ofNat 0, .ofNat 7)], [], [(0, .inl 58), (1, .inr (false, (1, .ofNat 0)))], [], [], [], []), [], [
  (3, [(2, .ofNat 0, .ofNat 127)], [], [], [.inr (false, (2, .ofNat 0))], [], [], [])], [], 0, 0)
def cu738 : List sxCu := [
  (8, (4, [(1, .ofNat 0, .ofNat 7), (2, .ofNat 0, .ofNat 127), (3, .ofNat 0, .ofNat 128)], [], [(0, .inl 58), (1, .inr (false, (1, .ofNat 0))), (2, .inr (false, (2, .ofNat 0))), (3, .inr (false, (3, .ofNat 0)))], [], [], [], []), ((0, 3, .ofNat 128), (0, 0, .ofNat 0), (0, 0, .ofNat 0)), 0, 0)]
set_option maxRecDepth 1000000 in
theorem cv738 {gh : sxGh} (hg : sxGd sxKw gh) : sxCtV sxKw gh ct738 := sxMeB_ok (cts := []) (cuts := cu738) (sp := []) 90 (by decide +kernel) hg (by decide) (by decide) (fun _ h => absurd h List.not_mem_nil)
/-- LotBeliefs.Survey.always -/
def ct739 : sxCt := (75, 0, (2, [(1, .ofNat 0, .ofNat 7)], [], [(0, .inl 58), (1, .inr (false, (1, .ofNat 0)))], [], [], [], []), [], [
  (3, [(2, .ofNat 0, .ofNat 127)], [], [], [.inr (false, (2, .ofNat 0))], [], [], [])], [], 0, 0)
def cu739 : List sxCu := [
  (8, (4, [(1, .ofNat 0, .ofNat 7), (2, .ofNat 0, .ofNat 127), (3, .ofNat 0, .ofNat 128)], [], [(0, .inl 58), (1, .inr (false, (1, .ofNat 0))), (2, .inr (false, (2, .ofNat 0))), (3, .inr (false, (3, .ofNat 0)))], [], [], [], []), ((0, 3, .ofNat 128), (0, 0, .ofNat 0), (0, 0, .ofNat 0)), 0, 0)]
set_option maxRecDepth 1000000 in
theorem cv739 {gh : sxGh} (hg : sxGd sxKw gh) : sxCtV sxKw gh ct739 := sxMeB_ok (cts := []) (cuts := cu739) (sp := []) 88 (by decide +kernel) hg (by decide) (by decide) (fun _ h => absurd h List.not_mem_nil)
/-- LotBeliefs.Survey.unlike -/
def ct740 : sxCt := (74, 0, (1, [], [], [(0, .inl 58)], [], [], [], []), [], [
  (2, [(1, .ofNat 0, .ofNat 128)], [], [], [.inr (false, (1, .ofNat 0))], [], [], [])], [], 0, 0)
def cu740 : List sxCu := [
  (4, (3, [(1, .ofNat 0, .ofNat 128), (2, .ofNat 0, .ofNat 128)], [(1, 2, .ofNat 0)], [(0, .inl 58), (1, .inr (false, (1, .ofNat 0))), (2, .inr (false, (2, .ofNat 0)))], [], [], [], []), ((0, 2, .ofNat 128), (0, 0, .ofNat 0), (0, 0, .ofNat 0)), 0, 0)]
set_option maxRecDepth 1000000 in
theorem cv740 {gh : sxGh} (hg : sxGd sxKw gh) : sxCtV sxKw gh ct740 := sxMeB_ok (cts := []) (cuts := cu740) (sp := []) 81 (by decide +kernel) hg (by decide) (by decide) (fun _ h => absurd h List.not_mem_nil)
/-- LotBeliefs.Survey.take -/
def ct741 : sxCt := (69, 5, (2, [(1, .ofNat 0, .ofNat 63)], [], [(0, .inl 58), (1, .inl 11), (2, .inl 19), (3, .inr (false, (1, .ofNat 0))), (4, .inl 32)], [], [], [], []), [(21, 0), (22, 0), (25, 0), (26, 0), (32, 1), (32, 2), (32, 3), (32, 4), (32, 9), (32, 11), (32, 12), (58, 2), (58, 3), (58, 6), (58, 7), (33000037, 0), (59000061, 0)], [
  (3, [(2, .ofNat 0, .ofNat 63)], [(1, 2, .ofNat 0), (2, 1, .ofNat 0)], [], [], [(58, (0, .ofNat 1), .inr (false, (0, .ofNat 1))), (58, (0, .ofNat 2), .inr (false, (2, .ofNat 0)))], [], [])], [], 0, 0)
def cu741 : List sxCu := [
  (115, (7, [(1, .ofNat 0, .ofNat 63), (2, .ofNat 0, .ofNat 7), (3, .negSucc 0, .ofNat 5), (4, .ofNat 0, .ofNat 5040), (5, .ofNat 0, .ofNat 12), (6, .negSucc 2147483647, .ofNat 2147483647)], [(2, 5, .ofNat 0), (5, 2, .ofNat 5)], [(0, .inl 58), (1, .inl 11), (2, .inl 19), (3, .inr (false, (1, .ofNat 0))), (4, .inl 32), (5, .inr (false, (2, .ofNat 0))), (6, .inr (false, (3, .ofNat 0))), (7, .inr (false, (4, .ofNat 0)))], [], [(11, (0, .ofNat 2), .inr (false, (5, .ofNat 0))), (32, (0, .ofNat 0), .inl 11), (32, (0, .ofNat 1), .inl 19), (32, (0, .ofNat 2), .inr (false, (0, .ofNat 0))), (32, (0, .ofNat 3), .inr (false, (1, .ofNat 0))), (58, (0, .ofNat 0), .inr (false, (0, .ofNat 0))), (58, (0, .ofNat 1), .inr (false, (0, .ofNat 1))), (58, (0, .ofNat 2), .inr (false, (1, .ofNat 0))), (58, (0, .ofNat 3), .inl 59), (58, (0, .ofNat 5), .inr (false, (6, .ofNat 0))), (58, (0, .ofNat 7), .inl 61)], [], []), ((0, 4, .ofNat 5040), (0, 0, .ofNat 0), (0, 0, .ofNat 0)), 0, 0), 
  (34, (3, [(1, .ofNat 0, .ofNat 63), (2, .ofNat 0, .ofNat 128)], [], [(0, .inl 58), (1, .inl 11), (2, .inl 19), (3, .inr (false, (1, .ofNat 0))), (4, .inl 32), (5, .inr (false, (2, .ofNat 0)))], [], [(58, (0, .ofNat 1), .inr (false, (0, .ofNat 1))), (58, (0, .ofNat 2), .inr (false, (1, .ofNat 0))), (58, (0, .ofNat 5), .inr (false, (0, .negSucc 0)))], [], []), ((0, 2, .ofNat 5177), (0, 0, .ofNat 0), (0, 0, .ofNat 0)), 0, 0), 
  (75, (5, [(1, .ofNat 0, .ofNat 63), (2, .ofNat 0, .ofNat 7), (3, .ofNat 0, .ofNat 7), (4, .ofNat 0, .ofNat 12)], [(2, 4, .ofNat 0), (4, 2, .ofNat 5)], [(0, .inl 58), (1, .inl 11), (2, .inl 19), (3, .inr (false, (1, .ofNat 0))), (4, .inl 32), (5, .inr (false, (2, .ofNat 0))), (6, .inr (false, (3, .ofNat 0)))], [], [(11, (0, .ofNat 2), .inr (false, (4, .ofNat 0))), (58, (0, .ofNat 1), .inr (false, (0, .ofNat 1))), (58, (0, .ofNat 2), .inr (false, (1, .ofNat 0))), (58, (0, .ofNat 3), .inl 59), (58, (0, .ofNat 5), .inr (false, (0, .negSucc 0))), (58, (0, .ofNat 7), .inl 61)], [], []), ((0, 3, .ofNat 5048), (0, 0, .ofNat 0), (0, 0, .ofNat 0)), 0, 0)]
set_option maxRecDepth 1000000 in
theorem cv741 {gh : sxGh} (hg : sxGd sxKw gh) : sxCtV sxKw gh ct741 := sxMeB_ok (cts := [ct736, ct527, ct733, ct734]) (cuts := cu741) (sp := []) 179 (by decide +kernel) hg (by decide) (by decide) (List.forall_mem_cons.mpr ⟨cv736 hg, (List.forall_mem_cons.mpr ⟨cv527 hg, (List.forall_mem_cons.mpr ⟨cv733 hg, (List.forall_mem_cons.mpr ⟨cv734 hg, (fun _ h => absurd h List.not_mem_nil)⟩)⟩)⟩)⟩)
/-- LotBeliefs.Survey.take -/
def ct742 : sxCt := (69, 5, (2, [(1, .ofNat 0, .ofNat 63)], [], [(0, .inl 74), (1, .inl 3), (2, .inl 23), (3, .inr (false, (1, .ofNat 0))), (4, .inl 32)], [], [], [], []), [(21, 0), (22, 0), (25, 0), (26, 0), (32, 1), (32, 2), (32, 3), (32, 4), (32, 9), (32, 11), (32, 12), (74, 2), (74, 3), (74, 6), (74, 7), (33000037, 0), (75000077, 0)], [
  (3, [(2, .ofNat 0, .ofNat 63)], [(1, 2, .ofNat 0), (2, 1, .ofNat 0)], [], [], [(74, (0, .ofNat 1), .inr (false, (0, .ofNat 1))), (74, (0, .ofNat 2), .inr (false, (2, .ofNat 0)))], [], [])], [], 0, 0)
def cu742 : List sxCu := [
  (115, (7, [(1, .ofNat 0, .ofNat 63), (2, .ofNat 0, .ofNat 7), (3, .negSucc 0, .ofNat 5), (4, .ofNat 0, .ofNat 5040), (5, .ofNat 0, .ofNat 12), (6, .negSucc 2147483647, .ofNat 2147483647)], [(2, 5, .ofNat 0), (5, 2, .ofNat 5)], [(0, .inl 74), (1, .inl 3), (2, .inl 23), (3, .inr (false, (1, .ofNat 0))), (4, .inl 32), (5, .inr (false, (2, .ofNat 0))), (6, .inr (false, (3, .ofNat 0))), (7, .inr (false, (4, .ofNat 0)))], [], [(3, (0, .ofNat 2), .inr (false, (5, .ofNat 0))), (32, (0, .ofNat 0), .inl 3), (32, (0, .ofNat 1), .inl 23), (32, (0, .ofNat 2), .inr (false, (0, .ofNat 4))), (32, (0, .ofNat 3), .inr (false, (1, .ofNat 0))), (74, (0, .ofNat 0), .inr (false, (0, .ofNat 4))), (74, (0, .ofNat 1), .inr (false, (0, .ofNat 1))), (74, (0, .ofNat 2), .inr (false, (1, .ofNat 0))), (74, (0, .ofNat 3), .inl 75), (74, (0, .ofNat 5), .inr (false, (6, .ofNat 0))), (74, (0, .ofNat 7), .inl 77)], [], []), ((0, 4, .ofNat 5040), (0, 0, .ofNat 0), (0, 0, .ofNat 0)), 0, 0), 
  (34, (3, [(1, .ofNat 0, .ofNat 63), (2, .ofNat 0, .ofNat 128)], [], [(0, .inl 74), (1, .inl 3), (2, .inl 23), (3, .inr (false, (1, .ofNat 0))), (4, .inl 32), (5, .inr (false, (2, .ofNat 0)))], [], [(74, (0, .ofNat 1), .inr (false, (0, .ofNat 1))), (74, (0, .ofNat 2), .inr (false, (1, .ofNat 0))), (74, (0, .ofNat 5), .inr (false, (0, .negSucc 0)))], [], []), ((0, 2, .ofNat 5177), (0, 0, .ofNat 0), (0, 0, .ofNat 0)), 0, 0), 
  (75, (5, [(1, .ofNat 0, .ofNat 63), (2, .ofNat 0, .ofNat 7), (3, .ofNat 0, .ofNat 7), (4, .ofNat 0, .ofNat 12)], [(2, 4, .ofNat 0), (4, 2, .ofNat 5)], [(0, .inl 74), (1, .inl 3), (2, .inl 23), (3, .inr (false, (1, .ofNat 0))), (4, .inl 32), (5, .inr (false, (2, .ofNat 0))), (6, .inr (false, (3, .ofNat 0)))], [], [(3, (0, .ofNat 2), .inr (false, (4, .ofNat 0))), (74, (0, .ofNat 1), .inr (false, (0, .ofNat 1))), (74, (0, .ofNat 2), .inr (false, (1, .ofNat 0))), (74, (0, .ofNat 3), .inl 75), (74, (0, .ofNat 5), .inr (false, (0, .negSucc 0))), (74, (0, .ofNat 7), .inl 77)], [], []), ((0, 3, .ofNat 5048), (0, 0, .ofNat 0), (0, 0, .ofNat 0)), 0, 0)]
set_option maxRecDepth 1000000 in
theorem cv742 {gh : sxGh} (hg : sxGd sxKw gh) : sxCtV sxKw gh ct742 := sxMeB_ok (cts := [ct580, ct527, ct577, ct578]) (cuts := cu742) (sp := []) 179 (by decide +kernel) hg (by decide) (by decide) (List.forall_mem_cons.mpr ⟨cv580 hg, (List.forall_mem_cons.mpr ⟨cv527 hg, (List.forall_mem_cons.mpr ⟨cv577 hg, (List.forall_mem_cons.mpr ⟨cv578 hg, (fun _ h => absurd h List.not_mem_nil)⟩)⟩)⟩)⟩)
/-- LotBeliefs.Survey.take -/
def ct743 : sxCt := (69, 5, (2, [(1, .ofNat 0, .ofNat 63)], [], [(0, .inl 74), (1, .inl 3), (2, .inl 19), (3, .inr (false, (1, .ofNat 0))), (4, .inl 32)], [], [], [], []), [(21, 0), (22, 0), (25, 0), (26, 0), (32, 1), (32, 2), (32, 3), (32, 4), (32, 9), (32, 11), (32, 12), (74, 2), (74, 3), (74, 6), (74, 7), (33000037, 0), (75000077, 0)], [
  (3, [(2, .ofNat 0, .ofNat 63)], [(1, 2, .ofNat 0), (2, 1, .ofNat 0)], [], [], [(74, (0, .ofNat 1), .inr (false, (0, .ofNat 1))), (74, (0, .ofNat 2), .inr (false, (2, .ofNat 0)))], [], [])], [], 0, 0)
def cu743 : List sxCu := [
  (115, (7, [(1, .ofNat 0, .ofNat 63), (2, .ofNat 0, .ofNat 7), (3, .negSucc 0, .ofNat 5), (4, .ofNat 0, .ofNat 5040), (5, .ofNat 0, .ofNat 12), (6, .negSucc 2147483647, .ofNat 2147483647)], [(2, 5, .ofNat 0), (5, 2, .ofNat 5)], [(0, .inl 74), (1, .inl 3), (2, .inl 19), (3, .inr (false, (1, .ofNat 0))), (4, .inl 32), (5, .inr (false, (2, .ofNat 0))), (6, .inr (false, (3, .ofNat 0))), (7, .inr (false, (4, .ofNat 0)))], [], [(3, (0, .ofNat 2), .inr (false, (5, .ofNat 0))), (32, (0, .ofNat 0), .inl 3), (32, (0, .ofNat 1), .inl 19), (32, (0, .ofNat 2), .inr (false, (0, .ofNat 4))), (32, (0, .ofNat 3), .inr (false, (1, .ofNat 0))), (74, (0, .ofNat 0), .inr (false, (0, .ofNat 4))), (74, (0, .ofNat 1), .inr (false, (0, .ofNat 1))), (74, (0, .ofNat 2), .inr (false, (1, .ofNat 0))), (74, (0, .ofNat 3), .inl 75), (74, (0, .ofNat 5), .inr (false, (6, .ofNat 0))), (74, (0, .ofNat 7), .inl 77)], [], []), ((0, 4, .ofNat 5040), (0, 0, .ofNat 0), (0, 0, .ofNat 0)), 0, 0), 
  (34, (3, [(1, .ofNat 0, .ofNat 63), (2, .ofNat 0, .ofNat 128)], [], [(0, .inl 74), (1, .inl 3), (2, .inl 19), (3, .inr (false, (1, .ofNat 0))), (4, .inl 32), (5, .inr (false, (2, .ofNat 0)))], [], [(74, (0, .ofNat 1), .inr (false, (0, .ofNat 1))), (74, (0, .ofNat 2), .inr (false, (1, .ofNat 0))), (74, (0, .ofNat 5), .inr (false, (0, .negSucc 0)))], [], []), ((0, 2, .ofNat 5177), (0, 0, .ofNat 0), (0, 0, .ofNat 0)), 0, 0), 
  (75, (5, [(1, .ofNat 0, .ofNat 63), (2, .ofNat 0, .ofNat 7), (3, .ofNat 0, .ofNat 7), (4, .ofNat 0, .ofNat 12)], [(2, 4, .ofNat 0), (4, 2, .ofNat 5)], [(0, .inl 74), (1, .inl 3), (2, .inl 19), (3, .inr (false, (1, .ofNat 0))), (4, .inl 32), (5, .inr (false, (2, .ofNat 0))), (6, .inr (false, (3, .ofNat 0)))], [], [(3, (0, .ofNat 2), .inr (false, (4, .ofNat 0))), (74, (0, .ofNat 1), .inr (false, (0, .ofNat 1))), (74, (0, .ofNat 2), .inr (false, (1, .ofNat 0))), (74, (0, .ofNat 3), .inl 75), (74, (0, .ofNat 5), .inr (false, (0, .negSucc 0))), (74, (0, .ofNat 7), .inl 77)], [], []), ((0, 3, .ofNat 5048), (0, 0, .ofNat 0), (0, 0, .ofNat 0)), 0, 0)]
set_option maxRecDepth 1000000 in
theorem cv743 {gh : sxGh} (hg : sxGd sxKw gh) : sxCtV sxKw gh ct743 := sxMeB_ok (cts := [ct580, ct527, ct577, ct578]) (cuts := cu743) (sp := []) 179 (by decide +kernel) hg (by decide) (by decide) (List.forall_mem_cons.mpr ⟨cv580 hg, (List.forall_mem_cons.mpr ⟨cv527 hg, (List.forall_mem_cons.mpr ⟨cv577 hg, (List.forall_mem_cons.mpr ⟨cv578 hg, (fun _ h => absurd h List.not_mem_nil)⟩)⟩)⟩)⟩)
/-- LotBeliefs.Survey.take -/
def ct744 : sxCt := (69, 5, (2, [(1, .ofNat 0, .ofNat 63)], [], [(0, .inl 70), (1, .inl 3), (2, .inl 23), (3, .inr (false, (1, .ofNat 0))), (4, .inl 32)], [], [], [], []), [(21, 0), (22, 0), (25, 0), (26, 0), (32, 1), (32, 2), (32, 3), (32, 4), (32, 9), (32, 11), (32, 12), (70, 2), (70, 3), (70, 6), (70, 7), (33000037, 0), (71000073, 0)], [
  (3, [(2, .ofNat 0, .ofNat 63)], [(1, 2, .ofNat 0), (2, 1, .ofNat 0)], [], [], [(70, (0, .ofNat 1), .inr (false, (0, .ofNat 1))), (70, (0, .ofNat 2), .inr (false, (2, .ofNat 0)))], [], [])], [], 0, 0)
def cu744 : List sxCu := [
  (115, (7, [(1, .ofNat 0, .ofNat 63), (2, .ofNat 0, .ofNat 7), (3, .negSucc 0, .ofNat 5), (4, .ofNat 0, .ofNat 5040), (5, .ofNat 0, .ofNat 12), (6, .negSucc 2147483647, .ofNat 2147483647)], [(2, 5, .ofNat 0), (5, 2, .ofNat 5)], [(0, .inl 70), (1, .inl 3), (2, .inl 23), (3, .inr (false, (1, .ofNat 0))), (4, .inl 32), (5, .inr (false, (2, .ofNat 0))), (6, .inr (false, (3, .ofNat 0))), (7, .inr (false, (4, .ofNat 0)))], [], [(3, (0, .ofNat 2), .inr (false, (5, .ofNat 0))), (32, (0, .ofNat 0), .inl 3), (32, (0, .ofNat 1), .inl 23), (32, (0, .ofNat 2), .inr (false, (0, .ofNat 3))), (32, (0, .ofNat 3), .inr (false, (1, .ofNat 0))), (70, (0, .ofNat 0), .inr (false, (0, .ofNat 3))), (70, (0, .ofNat 1), .inr (false, (0, .ofNat 1))), (70, (0, .ofNat 2), .inr (false, (1, .ofNat 0))), (70, (0, .ofNat 3), .inl 71), (70, (0, .ofNat 5), .inr (false, (6, .ofNat 0))), (70, (0, .ofNat 7), .inl 73)], [], []), ((0, 4, .ofNat 5040), (0, 0, .ofNat 0), (0, 0, .ofNat 0)), 0, 0), 
  (34, (3, [(1, .ofNat 0, .ofNat 63), (2, .ofNat 0, .ofNat 128)], [], [(0, .inl 70), (1, .inl 3), (2, .inl 23), (3, .inr (false, (1, .ofNat 0))), (4, .inl 32), (5, .inr (false, (2, .ofNat 0)))], [], [(70, (0, .ofNat 1), .inr (false, (0, .ofNat 1))), (70, (0, .ofNat 2), .inr (false, (1, .ofNat 0))), (70, (0, .ofNat 5), .inr (false, (0, .negSucc 0)))], [], []), ((0, 2, .ofNat 5177), (0, 0, .ofNat 0), (0, 0, .ofNat 0)), 0, 0), 
  (75, (5, [(1, .ofNat 0, .ofNat 63), (2, .ofNat 0, .ofNat 7), (3, .ofNat 0, .ofNat 7), (4, .ofNat 0, .ofNat 12)], [(2, 4, .ofNat 0), (4, 2, .ofNat 5)], [(0, .inl 70), (1, .inl 3), (2, .inl 23), (3, .inr (false, (1, .ofNat 0))), (4, .inl 32), (5, .inr (false, (2, .ofNat 0))), (6, .inr (false, (3, .ofNat 0)))], [], [(3, (0, .ofNat 2), .inr (false, (4, .ofNat 0))), (70, (0, .ofNat 1), .inr (false, (0, .ofNat 1))), (70, (0, .ofNat 2), .inr (false, (1, .ofNat 0))), (70, (0, .ofNat 3), .inl 71), (70, (0, .ofNat 5), .inr (false, (0, .negSucc 0))), (70, (0, .ofNat 7), .inl 73)], [], []), ((0, 3, .ofNat 5048), (0, 0, .ofNat 0), (0, 0, .ofNat 0)), 0, 0)]
set_option maxRecDepth 1000000 in
theorem cv744 {gh : sxGh} (hg : sxGd sxKw gh) : sxCtV sxKw gh ct744 := sxMeB_ok (cts := [ct619, ct527, ct616, ct617]) (cuts := cu744) (sp := []) 179 (by decide +kernel) hg (by decide) (by decide) (List.forall_mem_cons.mpr ⟨cv619 hg, (List.forall_mem_cons.mpr ⟨cv527 hg, (List.forall_mem_cons.mpr ⟨cv616 hg, (List.forall_mem_cons.mpr ⟨cv617 hg, (fun _ h => absurd h List.not_mem_nil)⟩)⟩)⟩)⟩)
/-- LotBeliefs.Survey.take -/
def ct745 : sxCt := (69, 5, (2, [(1, .ofNat 0, .ofNat 63)], [], [(0, .inl 70), (1, .inl 3), (2, .inl 19), (3, .inr (false, (1, .ofNat 0))), (4, .inl 32)], [], [], [], []), [(21, 0), (22, 0), (25, 0), (26, 0), (32, 1), (32, 2), (32, 3), (32, 4), (32, 9), (32, 11), (32, 12), (70, 2), (70, 3), (70, 6), (70, 7), (33000037, 0), (71000073, 0)], [
  (3, [(2, .ofNat 0, .ofNat 63)], [(1, 2, .ofNat 0), (2, 1, .ofNat 0)], [], [], [(70, (0, .ofNat 1), .inr (false, (0, .ofNat 1))), (70, (0, .ofNat 2), .inr (false, (2, .ofNat 0)))], [], [])], [], 0, 0)
def cu745 : List sxCu := [
  (115, (7, [(1, .ofNat 0, .ofNat 63), (2, .ofNat 0, .ofNat 7), (3, .negSucc 0, .ofNat 5), (4, .ofNat 0, .ofNat 5040), (5, .ofNat 0, .ofNat 12), (6, .negSucc 2147483647, .ofNat 2147483647)], [(2, 5, .ofNat 0), (5, 2, .ofNat 5)], [(0, .inl 70), (1, .inl 3), (2, .inl 19), (3, .inr (false, (1, .ofNat 0))), (4, .inl 32), (5, .inr (false, (2, .ofNat 0))), (6, .inr (false, (3, .ofNat 0))), (7, .inr (false, (4, .ofNat 0)))], [], [(3, (0, .ofNat 2), .inr (false, (5, .ofNat 0))), (32, (0, .ofNat 0), .inl 3), (32, (0, .ofNat 1), .inl 19), (32, (0, .ofNat 2), .inr (false, (0, .ofNat 3))), (32, (0, .ofNat 3), .inr (false, (1, .ofNat 0))), (70, (0, .ofNat 0), .inr (false, (0, .ofNat 3))), (70, (0, .ofNat 1), .inr (false, (0, .ofNat 1))), (70, (0, .ofNat 2), .inr (false, (1, .ofNat 0))), (70, (0, .ofNat 3), .inl 71), (70, (0, .ofNat 5), .inr (false, (6, .ofNat 0))), (70, (0, .ofNat 7), .inl 73)], [], []), ((0, 4, .ofNat 5040), (0, 0, .ofNat 0), (0, 0, .ofNat 0)), 0, 0), 
  (34, (3, [(1, .ofNat 0, .ofNat 63), (2, .ofNat 0, .ofNat 128)], [], [(0, .inl 70), (1, .inl 3), (2, .inl 19), (3, .inr (false, (1, .ofNat 0))), (4, .inl 32), (5, .inr (false, (2, .ofNat 0)))], [], [(70, (0, .ofNat 1), .inr (false, (0, .ofNat 1))), (70, (0, .ofNat 2), .inr (false, (1, .ofNat 0))), (70, (0, .ofNat 5), .inr (false, (0, .negSucc 0)))], [], []), ((0, 2, .ofNat 5177), (0, 0, .ofNat 0), (0, 0, .ofNat 0)), 0, 0), 
  (75, (5, [(1, .ofNat 0, .ofNat 63), (2, .ofNat 0, .ofNat 7), (3, .ofNat 0, .ofNat 7), (4, .ofNat 0, .ofNat 12)], [(2, 4, .ofNat 0), (4, 2, .ofNat 5)], [(0, .inl 70), (1, .inl 3), (2, .inl 19), (3, .inr (false, (1, .ofNat 0))), (4, .inl 32), (5, .inr (false, (2, .ofNat 0))), (6, .inr (false, (3, .ofNat 0)))], [], [(3, (0, .ofNat 2), .inr (false, (4, .ofNat 0))), (70, (0, .ofNat 1), .inr (false, (0, .ofNat 1))), (70, (0, .ofNat 2), .inr (false, (1, .ofNat 0))), (70, (0, .ofNat 3), .inl 71), (70, (0, .ofNat 5), .inr (false, (0, .negSucc 0))), (70, (0, .ofNat 7), .inl 73)], [], []), ((0, 3, .ofNat 5048), (0, 0, .ofNat 0), (0, 0, .ofNat 0)), 0, 0)]
set_option maxRecDepth 1000000 in
theorem cv745 {gh : sxGh} (hg : sxGd sxKw gh) : sxCtV sxKw gh ct745 := sxMeB_ok (cts := [ct619, ct527, ct616, ct617]) (cuts := cu745) (sp := []) 179 (by decide +kernel) hg (by decide) (by decide) (List.forall_mem_cons.mpr ⟨cv619 hg, (List.forall_mem_cons.mpr ⟨cv527 hg, (List.forall_mem_cons.mpr ⟨cv616 hg, (List.forall_mem_cons.mpr ⟨cv617 hg, (fun _ h => absurd h List.not_mem_nil)⟩)⟩)⟩)⟩)
/-- LotBeliefs.Survey.take -/
def ct746 : sxCt := (69, 5, (2, [(1, .ofNat 0, .ofNat 63)], [], [(0, .inl 66), (1, .inl 3), (2, .inl 23), (3, .inr (false, (1, .ofNat 0))), (4, .inl 32)], [], [], [], []), [(21, 0), (22, 0), (25, 0), (26, 0), (32, 1), (32, 2), (32, 3), (32, 4), (32, 9), (32, 11), (32, 12), (66, 2), (66, 3), (66, 6), (66, 7), (33000037, 0), (67000069, 0)], [
  (3, [(2, .ofNat 0, .ofNat 63)], [(1, 2, .ofNat 0), (2, 1, .ofNat 0)], [], [], [(66, (0, .ofNat 1), .inr (false, (0, .ofNat 1))), (66, (0, .ofNat 2), .inr (false, (2, .ofNat 0)))], [], [])], [], 0, 0)
def cu746 : List sxCu := [
  (115, (7, [(1, .ofNat 0, .ofNat 63), (2, .ofNat 0, .ofNat 7), (3, .negSucc 0, .ofNat 5), (4, .ofNat 0, .ofNat 5040), (5, .ofNat 0, .ofNat 12), (6, .negSucc 2147483647, .ofNat 2147483647)], [(2, 5, .ofNat 0), (5, 2, .ofNat 5)], [(0, .inl 66), (1, .inl 3), (2, .inl 23), (3, .inr (false, (1, .ofNat 0))), (4, .inl 32), (5, .inr (false, (2, .ofNat 0))), (6, .inr (false, (3, .ofNat 0))), (7, .inr (false, (4, .ofNat 0)))], [], [(3, (0, .ofNat 2), .inr (false, (5, .ofNat 0))), (32, (0, .ofNat 0), .inl 3), (32, (0, .ofNat 1), .inl 23), (32, (0, .ofNat 2), .inr (false, (0, .ofNat 2))), (32, (0, .ofNat 3), .inr (false, (1, .ofNat 0))), (66, (0, .ofNat 0), .inr (false, (0, .ofNat 2))), (66, (0, .ofNat 1), .inr (false, (0, .ofNat 1))), (66, (0, .ofNat 2), .inr (false, (1, .ofNat 0))), (66, (0, .ofNat 3), .inl 67), (66, (0, .ofNat 5), .inr (false, (6, .ofNat 0))), (66, (0, .ofNat 7), .inl 69)], [], []), ((0, 4, .ofNat 5040), (0, 0, .ofNat 0), (0, 0, .ofNat 0)), 0, 0), 
  (34, (3, [(1, .ofNat 0, .ofNat 63), (2, .ofNat 0, .ofNat 128)], [], [(0, .inl 66), (1, .inl 3), (2, .inl 23), (3, .inr (false, (1, .ofNat 0))), (4, .inl 32), (5, .inr (false, (2, .ofNat 0)))], [], [(66, (0, .ofNat 1), .inr (false, (0, .ofNat 1))), (66, (0, .ofNat 2), .inr (false, (1, .ofNat 0))), (66, (0, .ofNat 5), .inr (false, (0, .negSucc 0)))], [], []), ((0, 2, .ofNat 5177), (0, 0, .ofNat 0), (0, 0, .ofNat 0)), 0, 0), 
  (75, (5, [(1, .ofNat 0, .ofNat 63), (2, .ofNat 0, .ofNat 7), (3, .ofNat 0, .ofNat 7), (4, .ofNat 0, .ofNat 12)], [(2, 4, .ofNat 0), (4, 2, .ofNat 5)], [(0, .inl 66), (1, .inl 3), (2, .inl 23), (3, .inr (false, (1, .ofNat 0))), (4, .inl 32), (5, .inr (false, (2, .ofNat 0))), (6, .inr (false, (3, .ofNat 0)))], [], [(3, (0, .ofNat 2), .inr (false, (4, .ofNat 0))), (66, (0, .ofNat 1), .inr (false, (0, .ofNat 1))), (66, (0, .ofNat 2), .inr (false, (1, .ofNat 0))), (66, (0, .ofNat 3), .inl 67), (66, (0, .ofNat 5), .inr (false, (0, .negSucc 0))), (66, (0, .ofNat 7), .inl 69)], [], []), ((0, 3, .ofNat 5048), (0, 0, .ofNat 0), (0, 0, .ofNat 0)), 0, 0)]
set_option maxRecDepth 1000000 in
theorem cv746 {gh : sxGh} (hg : sxGd sxKw gh) : sxCtV sxKw gh ct746 := sxMeB_ok (cts := [ct658, ct527, ct655, ct656]) (cuts := cu746) (sp := []) 179 (by decide +kernel) hg (by decide) (by decide) (List.forall_mem_cons.mpr ⟨cv658 hg, (List.forall_mem_cons.mpr ⟨cv527 hg, (List.forall_mem_cons.mpr ⟨cv655 hg, (List.forall_mem_cons.mpr ⟨cv656 hg, (fun _ h => absurd h List.not_mem_nil)⟩)⟩)⟩)⟩)
/-- LotBeliefs.Survey.take -/
def ct747 : sxCt := (69, 5, (2, [(1, .ofNat 0, .ofNat 63)], [], [(0, .inl 66), (1, .inl 3), (2, .inl 19), (3, .inr (false, (1, .ofNat 0))), (4, .inl 32)], [], [], [], []), [(21, 0), (22, 0), (25, 0), (26, 0), (32, 1), (32, 2), (32, 3), (32, 4), (32, 9), (32, 11), (32, 12), (66, 2), (66, 3), (66, 6), (66, 7), (33000037, 0), (67000069, 0)], [
  (3, [(2, .ofNat 0, .ofNat 63)], [(1, 2, .ofNat 0), (2, 1, .ofNat 0)], [], [], [(66, (0, .ofNat 1), .inr (false, (0, .ofNat 1))), (66, (0, .ofNat 2), .inr (false, (2, .ofNat 0)))], [], [])], [], 0, 0)
def cu747 : List sxCu := [
  (115, (7, [(1, .ofNat 0, .ofNat 63), (2, .ofNat 0, .ofNat 7), (3, .negSucc 0, .ofNat 5), (4, .ofNat 0, .ofNat 5040), (5, .ofNat 0, .ofNat 12), (6, .negSucc 2147483647, .ofNat 2147483647)], [(2, 5, .ofNat 0), (5, 2, .ofNat 5)], [(0, .inl 66), (1, .inl 3), (2, .inl 19), (3, .inr (false, (1, .ofNat 0))), (4, .inl 32), (5, .inr (false, (2, .ofNat 0))), (6, .inr (false, (3, .ofNat 0))), (7, .inr (false, (4, .ofNat 0)))], [], [(3, (0, .ofNat 2), .inr (false, (5, .ofNat 0))), (32, (0, .ofNat 0), .inl 3), (32, (0, .ofNat 1), .inl 19), (32, (0, .ofNat 2), .inr (false, (0, .ofNat 2))), (32, (0, .ofNat 3), .inr (false, (1, .ofNat 0))), (66, (0, .ofNat 0), .inr (false, (0, .ofNat 2))), (66, (0, .ofNat 1), .inr (false, (0, .ofNat 1))), (66, (0, .ofNat 2), .inr (false, (1, .ofNat 0))), (66, (0, .ofNat 3), .inl 67), (66, (0, .ofNat 5), .inr (false, (6, .ofNat 0))), (66, (0, .ofNat 7), .inl 69)], [], []), ((0, 4, .ofNat 5040), (0, 0, .ofNat 0), (0, 0, .ofNat 0)), 0, 0), 
  (34, (3, [(1, .ofNat 0, .ofNat 63), (2, .ofNat 0, .ofNat 128)], [], [(0, .inl 66), (1, .inl 3), (2, .inl 19), (3, .inr (false, (1, .ofNat 0))), (4, .inl 32), (5, .inr (false, (2, .ofNat 0)))], [], [(66, (0, .ofNat 1), .inr (false, (0, .ofNat 1))), (66, (0, .ofNat 2), .inr (false, (1, .ofNat 0))), (66, (0, .ofNat 5), .inr (false, (0, .negSucc 0)))], [], []), ((0, 2, .ofNat 5177), (0, 0, .ofNat 0), (0, 0, .ofNat 0)), 0, 0), 
  (75, (5, [(1, .ofNat 0, .ofNat 63), (2, .ofNat 0, .ofNat 7), (3, .ofNat 0, .ofNat 7), (4, .ofNat 0, .ofNat 12)], [(2, 4, .ofNat 0), (4, 2, .ofNat 5)], [(0, .inl 66), (1, .inl 3), (2, .inl 19), (3, .inr (false, (1, .ofNat 0))), (4, .inl 32), (5, .inr (false, (2, .ofNat 0))), (6, .inr (false, (3, .ofNat 0)))], [], [(3, (0, .ofNat 2), .inr (false, (4, .ofNat 0))), (66, (0, .ofNat 1), .inr (false, (0, .ofNat 1))), (66, (0, .ofNat 2), .inr (false, (1, .ofNat 0))), (66, (0, .ofNat 3), .inl 67), (66, (0, .ofNat 5), .inr (false, (0, .negSucc 0))), (66, (0, .ofNat 7), .inl 69)], [], []), ((0, 3, .ofNat 5048), (0, 0, .ofNat 0), (0, 0, .ofNat 0)), 0, 0)]
set_option maxRecDepth 1000000 in
theorem cv747 {gh : sxGh} (hg : sxGd sxKw gh) : sxCtV sxKw gh ct747 := sxMeB_ok (cts := [ct658, ct527, ct655, ct656]) (cuts := cu747) (sp := []) 179 (by decide +kernel) hg (by decide) (by decide) (List.forall_mem_cons.mpr ⟨cv658 hg, (List.forall_mem_cons.mpr ⟨cv527 hg, (List.forall_mem_cons.mpr ⟨cv655 hg, (List.forall_mem_cons.mpr ⟨cv656 hg, (fun _ h => absurd h List.not_mem_nil)⟩)⟩)⟩)⟩)
/-- LotBeliefs.Survey.take -/
def ct748 : sxCt := (69, 5, (2, [(1, .ofNat 0, .ofNat 63)], [], [(0, .inl 62), (1, .inl 3), (2, .inl 23), (3, .inr (false, (1, .ofNat 0))), (4, .inl 32)], [], [], [], []), [(21, 0), (22, 0), (25, 0), (26, 0), (32, 1), (32, 2), (32, 3), (32, 4), (32, 9), (32, 11), (32, 12), (62, 2), (62, 3), (62, 6), (62, 7), (33000037, 0), (63000065, 0)], [
  (3, [(2, .ofNat 0, .ofNat 63)], [(1, 2, .ofNat 0), (2, 1, .ofNat 0)], [], [], [(62, (0, .ofNat 1), .inr (false, (0, .ofNat 1))), (62, (0, .ofNat 2), .inr (false, (2, .ofNat 0)))], [], [])], [], 0, 0)
def cu748 : List sxCu := [
  (115, (7, [(1, .ofNat 0, .ofNat 63), (2, .ofNat 0, .ofNat 7), (3, .negSucc 0, .ofNat 5), (4, .ofNat 0, .ofNat 5040), (5, .ofNat 0, .ofNat 12), (6, .negSucc 2147483647, .ofNat 2147483647)], [(2, 5, .ofNat 0), (5, 2, .ofNat 5)], [(0, .inl 62), (1, .inl 3), (2, .inl 23), (3, .inr (false, (1, .ofNat 0))), (4, .inl 32), (5, .inr (false, (2, .ofNat 0))), (6, .inr (false, (3, .ofNat 0))), (7, .inr (false, (4, .ofNat 0)))], [], [(3, (0, .ofNat 2), .inr (false, (5, .ofNat 0))), (32, (0, .ofNat 0), .inl 3), (32, (0, .ofNat 1), .inl 23), (32, (0, .ofNat 2), .inr (false, (0, .ofNat 1))), (32, (0, .ofNat 3), .inr (false, (1, .ofNat 0))), (62, (0, .ofNat 0), .inr (false, (0, .ofNat 1))), (62, (0, .ofNat 1), .inr (false, (0, .ofNat 1))), (62, (0, .ofNat 2), .inr (false, (1, .ofNat 0))), (62, (0, .ofNat 3), .inl 63), (62, (0, .ofNat 5), .inr (false, (6, .ofNat 0))), (62, (0, .ofNat 7), .inl 65)], [], []), ((0, 4, .ofNat 5040), (0, 0, .ofNat 0), (0, 0, .ofNat 0)), 0, 0), 
  (34, (3, [(1, .ofNat 0, .ofNat 63), (2, .ofNat 0, .ofNat 128)], [], [(0, .inl 62), (1, .inl 3), (2, .inl 23), (3, .inr (false, (1, .ofNat 0))), (4, .inl 32), (5, .inr (false, (2, .ofNat 0)))], [], [(62, (0, .ofNat 1), .inr (false, (0, .ofNat 1))), (62, (0, .ofNat 2), .inr (false, (1, .ofNat 0))), (62, (0, .ofNat 5), .inr (false, (0, .negSucc 0)))], [], []), ((0, 2, .ofNat 5177), (0, 0, .ofNat 0), (0, 0, .ofNat 0)), 0, 0), 
  (75, (5, [(1, .ofNat 0, .ofNat 63), (2, .ofNat 0, .ofNat 7), (3, .ofNat 0, .ofNat 7), (4, .ofNat 0, .ofNat 12)], [(2, 4, .ofNat 0), (4, 2, .ofNat 5)], [(0, .inl 62), (1, .inl 3), (2, .inl 23), (3, .inr (false, (1, .ofNat 0))), (4, .inl 32), (5, .inr (false, (2, .ofNat 0))), (6, .inr (false, (3, .ofNat 0)))], [], [(3, (0, .ofNat 2), .inr (false, (4, .ofNat 0))), (62, (0, .ofNat 1), .inr (false, (0, .ofNat 1))), (62, (0, .ofNat 2), .inr (false, (1, .ofNat 0))), (62, (0, .ofNat 3), .inl 63), (62, (0, .ofNat 5), .inr (false, (0, .negSucc 0))), (62, (0, .ofNat 7), .inl 65)], [], []), ((0, 3, .ofNat 5048), (0, 0, .ofNat 0), (0, 0, .ofNat 0)), 0, 0)]
set_option maxRecDepth 1000000 in
theorem cv748 {gh : sxGh} (hg : sxGd sxKw gh) : sxCtV sxKw gh ct748 := sxMeB_ok (cts := [ct697, ct527, ct694, ct695]) (cuts := cu748) (sp := []) 179 (by decide +kernel) hg (by decide) (by decide) (List.forall_mem_cons.mpr ⟨cv697 hg, (List.forall_mem_cons.mpr ⟨cv527 hg, (List.forall_mem_cons.mpr ⟨cv694 hg, (List.forall_mem_cons.mpr ⟨cv695 hg, (fun _ h => absurd h List.not_mem_nil)⟩)⟩)⟩)⟩)
/-- LotBeliefs.Survey.take -/
def ct749 : sxCt := (69, 5, (2, [(1, .ofNat 0, .ofNat 63)], [], [(0, .inl 62), (1, .inl 3), (2, .inl 19), (3, .inr (false, (1, .ofNat 0))), (4, .inl 32)], [], [], [], []), [(21, 0), (22, 0), (25, 0), (26, 0), (32, 1), (32, 2), (32, 3), (32, 4), (32, 9), (32, 11), (32, 12), (62, 2), (62, 3), (62, 6), (62, 7), (33000037, 0), (63000065, 0)], [
  (3, [(2, .ofNat 0, .ofNat 63)], [(1, 2, .ofNat 0), (2, 1, .ofNat 0)], [], [], [(62, (0, .ofNat 1), .inr (false, (0, .ofNat 1))), (62, (0, .ofNat 2), .inr (false, (2, .ofNat 0)))], [], [])], [], 0, 0)
def cu749 : List sxCu := [
  (115, (7, [(1, .ofNat 0, .ofNat 63), (2, .ofNat 0, .ofNat 7), (3, .negSucc 0, .ofNat 5), (4, .ofNat 0, .ofNat 5040), (5, .ofNat 0, .ofNat 12), (6, .negSucc 2147483647, .ofNat 2147483647)], [(2, 5, .ofNat 0), (5, 2, .ofNat 5)], [(0, .inl 62), (1, .inl 3), (2, .inl 19), (3, .inr (false, (1, .ofNat 0))), (4, .inl 32), (5, .inr (false, (2, .ofNat 0))), (6, .inr (false, (3, .ofNat 0))), (7, .inr (false, (4, .ofNat 0)))], [], [(3, (0, .ofNat 2), .inr (false, (5, .ofNat 0))), (32, (0, .ofNat 0), .inl 3), (32, (0, .ofNat 1), .inl 19), (32, (0, .ofNat 2), .inr (false, (0, .ofNat 1))), (32, (0, .ofNat 3), .inr (false, (1, .ofNat 0))), (62, (0, .ofNat 0), .inr (false, (0, .ofNat 1))), (62, (0, .ofNat 1), .inr (false, (0, .ofNat 1))), (62, (0, .ofNat 2), .inr (false, (1, .ofNat 0))), (62, (0, .ofNat 3), .inl 63), (62, (0, .ofNat 5), .inr (false, (6, .ofNat 0))), (62, (0, .ofNat 7), .inl 65)], [], []), ((0, 4, .ofNat 5040), (0, 0, .ofNat 0), (0, 0, .ofNat 0)), 0, 0), 
  (34, (3, [(1, .ofNat 0, .ofNat 63), (2, .ofNat 0, .ofNat 128)], [], [(0, .inl 62), (1, .inl 3), (2, .inl 19), (3, .inr (false, (1, .ofNat 0))), (4, .inl 32), (5, .inr (false, (2, .ofNat 0)))], [], [(62, (0, .ofNat 1), .inr (false, (0, .ofNat 1))), (62, (0, .ofNat 2), .inr (false, (1, .ofNat 0))), (62, (0, .ofNat 5), .inr (false, (0, .negSucc 0)))], [], []), ((0, 2, .ofNat 5177), (0, 0, .ofNat 0), (0, 0, .ofNat 0)), 0, 0), 
  (75, (5, [(1, .ofNat 0, .ofNat 63), (2, .ofNat 0, .ofNat 7), (3, .ofNat 0, .ofNat 7), (4, .ofNat 0, .ofNat 12)], [(2, 4, .ofNat 0), (4, 2, .ofNat 5)], [(0, .inl 62), (1, .inl 3), (2, .inl 19), (3, .inr (false, (1, .ofNat 0))), (4, .inl 32), (5, .inr (false, (2, .ofNat 0))), (6, .inr (false, (3, .ofNat 0)))], [], [(3, (0, .ofNat 2), .inr (false, (4, .ofNat 0))), (62, (0, .ofNat 1), .inr (false, (0, .ofNat 1))), (62, (0, .ofNat 2), .inr (false, (1, .ofNat 0))), (62, (0, .ofNat 3), .inl 63), (62, (0, .ofNat 5), .inr (false, (0, .negSucc 0))), (62, (0, .ofNat 7), .inl 65)], [], []), ((0, 3, .ofNat 5048), (0, 0, .ofNat 0), (0, 0, .ofNat 0)), 0, 0)]
set_option maxRecDepth 1000000 in
theorem cv749 {gh : sxGh} (hg : sxGd sxKw gh) : sxCtV sxKw gh ct749 := sxMeB_ok (cts := [ct697, ct527, ct694, ct695]) (cuts := cu749) (sp := []) 179 (by decide +kernel) hg (by decide) (by decide) (List.forall_mem_cons.mpr ⟨cv697 hg, (List.forall_mem_cons.mpr ⟨cv527 hg, (List.forall_mem_cons.mpr ⟨cv694 hg, (List.forall_mem_cons.mpr ⟨cv695 hg, (fun _ h => absurd h List.not_mem_nil)⟩)⟩)⟩)⟩)
/-- LotBeliefs.Survey.take -/
def ct750 : sxCt := (69, 5, (2, [(1, .ofNat 0, .ofNat 63)], [], [(0, .inl 58), (1, .inl 3), (2, .inl 23), (3, .inr (false, (1, .ofNat 0))), (4, .inl 32)], [], [], [], []), [(21, 0), (22, 0), (25, 0), (26, 0), (32, 1), (32, 2), (32, 3), (32, 4), (32, 9), (32, 11), (32, 12), (58, 2), (58, 3), (58, 6), (58, 7), (33000037, 0), (59000061, 0)], [
  (3, [(2, .ofNat 0, .ofNat 63)], [(1, 2, .ofNat 0), (2, 1, .ofNat 0)], [], [], [(58, (0, .ofNat 1), .inr (false, (0, .ofNat 1))), (58, (0, .ofNat 2), .inr (false, (2, .ofNat 0)))], [], [])], [], 0, 0)
def cu750 : List sxCu := [
  (115, (7, [(1, .ofNat 0, .ofNat 63), (2, .ofNat 0, .ofNat 7), (3, .negSucc 0, .ofNat 5), (4, .ofNat 0, .ofNat 5040), (5, .ofNat 0, .ofNat 12), (6, .negSucc 2147483647, .ofNat 2147483647)], [(2, 5, .ofNat 0), (5, 2, .ofNat 5)], [(0, .inl 58), (1, .inl 3), (2, .inl 23), (3, .inr (false, (1, .ofNat 0))), (4, .inl 32), (5, .inr (false, (2, .ofNat 0))), (6, .inr (false, (3, .ofNat 0))), (7, .inr (false, (4, .ofNat 0)))], [], [(3, (0, .ofNat 2), .inr (false, (5, .ofNat 0))), (32, (0, .ofNat 0), .inl 3), (32, (0, .ofNat 1), .inl 23), (32, (0, .ofNat 2), .inr (false, (0, .ofNat 0))), (32, (0, .ofNat 3), .inr (false, (1, .ofNat 0))), (58, (0, .ofNat 0), .inr (false, (0, .ofNat 0))), (58, (0, .ofNat 1), .inr (false, (0, .ofNat 1))), (58, (0, .ofNat 2), .inr (false, (1, .ofNat 0))), (58, (0, .ofNat 3), .inl 59), (58, (0, .ofNat 5), .inr (false, (6, .ofNat 0))), (58, (0, .ofNat 7), .inl 61)], [], []), ((0, 4, .ofNat 5040), (0, 0, .ofNat 0), (0, 0, .ofNat 0)), 0, 0), 
  (34, (3, [(1, .ofNat 0, .ofNat 63), (2, .ofNat 0, .ofNat 128)], [], [(0, .inl 58), (1, .inl 3), (2, .inl 23), (3, .inr (false, (1, .ofNat 0))), (4, .inl 32), (5, .inr (false, (2, .ofNat 0)))], [], [(58, (0, .ofNat 1), .inr (false, (0, .ofNat 1))), (58, (0, .ofNat 2), .inr (false, (1, .ofNat 0))), (58, (0, .ofNat 5), .inr (false, (0, .negSucc 0)))], [], []), ((0, 2, .ofNat 5177), (0, 0, .ofNat 0), (0, 0, .ofNat 0)), 0, 0), 
  (75, (5, [(1, .ofNat 0, .ofNat 63), (2, .ofNat 0, .ofNat 7), (3, .ofNat 0, .ofNat 7), (4, .ofNat 0, .ofNat 12)], [(2, 4, .ofNat 0), (4, 2, .ofNat 5)], [(0, .inl 58), (1, .inl 3), (2, .inl 23), (3, .inr (false, (1, .ofNat 0))), (4, .inl 32), (5, .inr (false, (2, .ofNat 0))), (6, .inr (false, (3, .ofNat 0)))], [], [(3, (0, .ofNat 2), .inr (false, (4, .ofNat 0))), (58, (0, .ofNat 1), .inr (false, (0, .ofNat 1))), (58, (0, .ofNat 2), .inr (false, (1, .ofNat 0))), (58, (0, .ofNat 3), .inl 59), (58, (0, .ofNat 5), .inr (false, (0, .negSucc 0))), (58, (0, .ofNat 7), .inl 61)], [], []), ((0, 3, .ofNat 5048), (0, 0, .ofNat 0), (0, 0, .ofNat 0)), 0, 0)]
set_option maxRecDepth 1000000 in
theorem cv750 {gh : sxGh} (hg : sxGd sxKw gh) : sxCtV sxKw gh ct750 := sxMeB_ok (cts := [ct736, ct527, ct733, ct734]) (cuts := cu750) (sp := []) 179 (by decide +kernel) hg (by decide) (by decide) (List.forall_mem_cons.mpr ⟨cv736 hg, (List.forall_mem_cons.mpr ⟨cv527 hg, (List.forall_mem_cons.mpr ⟨cv733 hg, (List.forall_mem_cons.mpr ⟨cv734 hg, (fun _ h => absurd h List.not_mem_nil)⟩)⟩)⟩)⟩)
/-- LotBeliefs.Survey.take -/
def ct751 : sxCt := (69, 5, (2, [(1, .ofNat 0, .ofNat 63)], [], [(0, .inl 58), (1, .inl 3), (2, .inl 19), (3, .inr (false, (1, .ofNat 0))), (4, .inl 32)], [], [], [], []), [(21, 0), (22, 0), (25, 0), (26, 0), (32, 1), (32, 2), (32, 3), (32, 4), (32, 9), (32, 11), (32, 12), (58, 2), (58, 3), (58, 6), (58, 7), (33000037, 0), (59000061, 0)], [
  (3, [(2, .ofNat 0, .ofNat 63)], [(1, 2, .ofNat 0), (2, 1, .ofNat 0)], [], [], [(58, (0, .ofNat 1), .inr (false, (0, .ofNat 1))), (58, (0, .ofNat 2), .inr (false, (2, .ofNat 0)))], [], [])], [], 0, 0)
def cu751 : List sxCu := [
  (115, (7, [(1, .ofNat 0, .ofNat 63), (2, .ofNat 0, .ofNat 7), (3, .negSucc 0, .ofNat 5), (4, .ofNat 0, .ofNat 5040), (5, .ofNat 0, .ofNat 12), (6, .negSucc 2147483647, .ofNat 2147483647)], [(2, 5, .ofNat 0), (5, 2, .ofNat 5)], [(0, .inl 58), (1, .inl 3), (2, .inl 19), (3, .inr (false, (1, .ofNat 0))), (4, .inl 32), (5, .inr (false, (2, .ofNat 0))), (6, .inr (false, (3, .ofNat 0))), (7, .inr (false, (4, .ofNat 0)))], [], [(3, (0, .ofNat 2), .inr (false, (5, .ofNat 0))), (32, (0, .ofNat 0), .inl 3), (32, (0, .ofNat 1), .inl 19), (32, (0, .ofNat 2), .inr (false, (0, .ofNat 0))), (32, (0, .ofNat 3), .inr (false, (1, .ofNat 0))), (58, (0, .ofNat 0), .inr (false, (0, .ofNat 0))), (58, (0, .ofNat 1), .inr (false, (0, .ofNat 1))), (58, (0, .ofNat 2), .inr (false, (1, .ofNat 0))), (58, (0, .ofNat 3), .inl 59), (58, (0, .ofNat 5), .inr (false, (6, .ofNat 0))), (58, (0, .ofNat 7), .inl 61)], [], []), ((0, 4, .ofNat 5040), (0, 0, .ofNat 0), (0, 0, .ofNat 0)), 0, 0), 
  (34, (3, [(1, .ofNat 0, .ofNat 63), (2, .ofNat 0, .ofNat 128)], [], [(0, .inl 58), (1, .inl 3), (2, .inl 19), (3, .inr (false, (1, .ofNat 0))), (4, .inl 32), (5, .inr (false, (2, .ofNat 0)))], [], [(58, (0, .ofNat 1), .inr (false, (0, .ofNat 1))), (58, (0, .ofNat 2), .inr (false, (1, .ofNat 0))), (58, (0, .ofNat 5), .inr (false, (0, .negSucc 0)))], [], []), ((0, 2, .ofNat 5177), (0, 0, .ofNat 0), (0, 0, .ofNat 0)), 0, 0), 
  (75, (5, [(1, .ofNat 0, .ofNat 63), (2, .ofNat 0, .ofNat 7), (3, .ofNat 0, .ofNat 7), (4, .ofNat 0, .ofNat 12)], [(2, 4, .ofNat 0), (4, 2, .ofNat 5)], [(0, .inl 58), (1, .inl 3), (2, .inl 19), (3, .inr (false, (1, .ofNat 0))), (4, .inl 32), (5, .inr (false, (2, .ofNat 0))), (6, .inr (false, (3, .ofNat 0)))], [], [(3, (0, .ofNat 2), .inr (false, (4, .ofNat 0))), (58, (0, .ofNat 1), .inr (false, (0, .ofNat 1))), (58, (0, .ofNat 2), .inr (false, (1, .ofNat 0))), (58, (0, .ofNat 3), .inl 59), (58, (0, .ofNat 5), .inr (false, (0, .negSucc 0))), (58, (0, .ofNat 7), .inl 61)], [], []), ((0, 3, .ofNat 5048), (0, 0, .ofNat 0), (0, 0, .ofNat 0)), 0, 0)]
set_option maxRecDepth 1000000 in
theorem cv751 {gh : sxGh} (hg : sxGd sxKw gh) : sxCtV sxKw gh ct751 := sxMeB_ok (cts := [ct736, ct527, ct733, ct734]) (cuts := cu751) (sp := []) 179 (by decide +kernel) hg (by decide) (by decide) (List.forall_mem_cons.mpr ⟨cv736 hg, (List.forall_mem_cons.mpr ⟨cv527 hg, (List.forall_mem_cons.mpr ⟨cv733 hg, (List.forall_mem_cons.mpr ⟨cv734 hg, (fun _ h => absurd h List.not_mem_nil)⟩)⟩)⟩)⟩)
/-- LotBeliefs.ends -/
def ct752 : sxCt := (134, 6, (2, [(1, .negSucc 2147483647, .ofNat 2147483647)], [], [(0, .inl 0), (1, .inr (false, (1, .ofNat 0)))], [], [], [], []), [(21, 0), (22, 0), (25, 0), (26, 0), (30, 0), (32, 1), (32, 2), (32, 3), (32, 4), (32, 9), (32, 11), (32, 12), (58, 2), (58, 3), (58, 6), (58, 7), (62, 2), (62, 3), (62, 6), (62, 7), (66, 2), (66, 3), (66, 6), (66, 7), (70, 2), (70, 3), (70, 6), (70, 7), (74, 2), (74, 3), (74, 6), (74, 7), (33000037, 0), (59000061, 0), (63000065, 0), (67000069, 0), (71000073, 0), (75000077, 0)], [
  (3, [(1, .ofNat 0, .ofNat 2), (2, .ofNat 0, .ofNat 128)], [], [], [.inr (false, (2, .ofNat 0))], [], [], [])], [
  (1, (3, [(2, .negSucc 2147483647, .ofNat 2147483647)], [], [], [], [(30, (0, .ofNat 1), .inr (false, (2, .ofNat 0)))], [], [])), 
  (2, (3, [(1, .ofNat 0, .ofNat 2), (2, .negSucc 2147483647, .ofNat 2147483647)], [], [], [], [(30, (0, .ofNat 2), .inr (false, (2, .ofNat 0)))], [], []))], 1, 6)
def cu752 : List sxCu := []
set_option maxRecDepth 1000000 in
theorem cv752 {gh : sxGh} (hg : sxGd sxKw gh) : sxCtV sxKw gh ct752 := sxMeB_ok (cts := [ct659, ct663, ct698, ct702, ct581, ct585, ct737, ct741, ct742, ct743, ct744, ct745, ct746, ct747, ct620, ct624, ct748, ct749, ct750, ct751, ct662, ct701, ct584, ct740, ct623, ct661, ct700, ct583, ct739, ct622, ct660, ct699, ct582, ct738, ct621]) (cuts := cu752) (sp := []) 770 (by decide +kernel) hg (by decide) (by decide) (List.forall_mem_cons.mpr ⟨cv659 hg, (List.forall_mem_cons.mpr ⟨cv663 hg, (List.forall_mem_cons.mpr ⟨cv698 hg, (List.forall_mem_cons.mpr ⟨cv702 hg, (List.forall_mem_cons.mpr ⟨cv581 hg, (List.forall_mem_cons.mpr ⟨cv585 hg, (List.forall_mem_cons.mpr ⟨cv737 hg, (List.forall_mem_cons.mpr ⟨cv741 hg, (List.forall_mem_cons.mpr ⟨cv742 hg, (List.forall_mem_cons.mpr ⟨cv743 hg, (List.forall_mem_cons.mpr ⟨cv744 hg, (List.forall_mem_cons.mpr ⟨cv745 hg, (List.forall_mem_cons.mpr ⟨cv746 hg, (List.forall_mem_cons.mpr ⟨cv747 hg, (List.forall_mem_cons.mpr ⟨cv620 hg, (List.forall_mem_cons.mpr ⟨cv624 hg, (List.forall_mem_cons.mpr ⟨cv748 hg, (List.forall_mem_cons.mpr ⟨cv749 hg, (List.forall_mem_cons.mpr ⟨cv750 hg, (List.forall_mem_cons.mpr ⟨cv751 hg, (List.forall_mem_cons.mpr ⟨cv662 hg, (List.forall_mem_cons.mpr ⟨cv701 hg, (List.forall_mem_cons.mpr ⟨cv584 hg, (List.forall_mem_cons.mpr ⟨cv740 hg, (List.forall_mem_cons.mpr ⟨cv623 hg, (List.forall_mem_cons.mpr ⟨cv661 hg, (List.forall_mem_cons.mpr ⟨cv700 hg, (List.forall_mem_cons.mpr ⟨cv583 hg, (List.forall_mem_cons.mpr ⟨cv739 hg, (List.forall_mem_cons.mpr ⟨cv622 hg, (List.forall_mem_cons.mpr ⟨cv660 hg, (List.forall_mem_cons.mpr ⟨cv699 hg, (List.forall_mem_cons.mpr ⟨cv582 hg, (List.forall_mem_cons.mpr ⟨cv738 hg, (List.forall_mem_cons.mpr ⟨cv621 hg, (fun _ h => absurd h List.not_mem_nil)⟩)⟩)⟩)⟩)⟩)⟩)⟩)⟩)⟩)⟩)⟩)⟩)⟩)⟩)⟩)⟩)⟩)⟩)⟩)⟩)⟩)⟩)⟩)⟩)⟩)⟩)⟩)⟩)⟩)⟩)⟩)⟩)⟩)⟩)⟩)
/-- LotBeliefsModel.leaves -/
def ct806 : sxCt := (262, 0, (3, [(1, .ofNat 0, .ofNat 15), (2, .ofNat 1, .ofNat 17)], [], [(0, .inl 78), (1, .inr (false, (1, .ofNat 0)))], [], [(78, (0, .ofNat 44), .inr (false, (2, .ofNat 0)))], [(561, (2, .ofNat 0), .inr (false, .ofNat 0, .ofNat 6))], []), [(78, 45), (561, 0)], [
  (3, [], [], [], [], [(78, (0, .ofNat 44), .inr (false, (2, .negSucc 0)))], [(561, (2, .ofNat 0), .inr (false, .ofNat 0, .ofNat 6))], [])], [], 0, 0)
def cu806 : List sxCu := [
  (12, (4, [(1, .ofNat 0, .ofNat 15), (2, .ofNat 1, .ofNat 17), (3, .ofNat 0, .ofNat 16)], [(1, 3, .ofNat 0), (3, 2, .ofNat 14)], [(0, .inl 78), (1, .inr (false, (1, .ofNat 0))), (2, .inr (false, (3, .ofNat 0)))], [], [(78, (0, .ofNat 44), .inr (false, (2, .negSucc 0)))], [(561, (2, .ofNat 0), .inr (false, .ofNat 0, .ofNat 6))], []), ((0, 3, .ofNat 16), (0, 0, .ofNat 0), (0, 0, .ofNat 0)), 0, 0)]
set_option maxRecDepth 1000000 in
theorem cv806 {gh : sxGh} (hg : sxGd sxKw gh) : sxCtV sxKw gh ct806 := sxMeB_ok (cts := []) (cuts := cu806) (sp := []) 85 (by decide +kernel) hg (by decide) (by decide) (fun _ h => absurd h List.not_mem_nil)
/-- LotBeliefsModel.leaves -/
def ct815 : sxCt := (262, 0, (3, [(1, .ofNat 0, .ofNat 16), (2, .ofNat 1, .ofNat 17)], [], [(0, .inl 78), (1, .inr (false, (1, .ofNat 0)))], [], [(78, (0, .ofNat 44), .inr (false, (2, .ofNat 0)))], [(561, (2, .ofNat 0), .inr (false, .ofNat 0, .ofNat 6))], []), [(78, 45), (561, 0)], [
  (3, [], [], [], [], [(78, (0, .ofNat 44), .inr (false, (2, .negSucc 0)))], [(561, (2, .ofNat 0), .inr (false, .ofNat 0, .ofNat 6))], [])], [], 0, 0)
def cu815 : List sxCu := [
  (12, (4, [(1, .ofNat 0, .ofNat 16), (2, .ofNat 1, .ofNat 17), (3, .ofNat 0, .ofNat 16)], [(1, 3, .ofNat 0)], [(0, .inl 78), (1, .inr (false, (1, .ofNat 0))), (2, .inr (false, (3, .ofNat 0)))], [], [(78, (0, .ofNat 44), .inr (false, (2, .negSucc 0)))], [(561, (2, .ofNat 0), .inr (false, .ofNat 0, .ofNat 6))], []), ((0, 3, .ofNat 16), (0, 0, .ofNat 0), (0, 0, .ofNat 0)), 0, 0)]
set_option maxRecDepth 1000000 in
theorem cv815 {gh : sxGh} (hg : sxGd sxKw gh) : sxCtV sxKw gh ct815 := sxMeB_ok (cts := []) (cuts := cu815) (sp := []) 85 (by decide +kernel) hg (by decide) (by decide) (fun _ h => absurd h List.not_mem_nil)
/-- LotBeliefsModel.kills -/
def ct819 : sxCt := (263, 1, (3, [(1, .ofNat 0, .ofNat 51), (2, .ofNat 0, .ofNat 17)], [(2, 1, .ofNat 0)], [(0, .inl 78), (1, .inr (false, (1, .ofNat 0)))], [], [(78, (0, .ofNat 44), .inr (false, (2, .ofNat 0)))], [(561, (2, .ofNat 0), .inr (false, .ofNat 0, .ofNat 6))], []), [(78, 45), (78, 47), (561, 0), (563, 0)], [
  (4, [(3, .ofNat 0, .ofNat 17)], [(3, 1, .ofNat 0), (3, 2, .ofNat 0)], [], [], [(78, (0, .ofNat 44), .inr (false, (3, .ofNat 0)))], [(561, (3, .ofNat 0), .inr (false, .ofNat 0, .ofNat 6))], [])], [], 0, 0)
def cu819 : List sxCu := [
  (2, (5, [(1, .ofNat 0, .ofNat 51), (2, .ofNat 0, .ofNat 17), (3, .ofNat 0, .ofNat 17), (4, .ofNat 0, .ofNat 17)], [(4, 1, .ofNat 0), (4, 2, .ofNat 0), (2, 1, .ofNat 0)], [(0, .inl 78), (1, .inr (false, (1, .ofNat 0))), (2, .inr (false, (3, .ofNat 0)))], [], [(78, (0, .ofNat 44), .inr (false, (4, .ofNat 0)))], [(561, (4, .ofNat 0), .inr (false, .ofNat 0, .ofNat 6))], []), ((4, 3, .ofNat 17), (0, 0, .ofNat 0), (0, 0, .ofNat 0)), 0, 0)]
set_option maxRecDepth 1000000 in
theorem cv819 {gh : sxGh} (hg : sxGd sxKw gh) : sxCtV sxKw gh ct819 := sxMeB_ok (cts := [ct815]) (cuts := cu819) (sp := []) 121 (by decide +kernel) hg (by decide) (by decide) (List.forall_mem_cons.mpr ⟨cv815 hg, (fun _ h => absurd h List.not_mem_nil)⟩)
/-- LotBeliefsModel.ones -/
def ct821 : sxCt := (225, 0, (2, [(1, .ofNat 0, .ofNat 127)], [], [(0, .inr (true, (1, .ofNat 0)))], [], [], [], []), [], [
  (3, [(2, .negSucc 2147483647, .ofNat 2147483647)], [], [], [.inr (false, (2, .ofNat 0))], [], [], [])], [], 0, 0)
def cu821 : List sxCu := [
  (4, (4, [(1, .ofNat 0, .ofNat 127), (2, .negSucc 2147483647, .ofNat 2147483647), (3, .ofNat 0, .ofNat 64)], [], [(0, .inr (true, (1, .ofNat 0))), (2, .inr (false, (2, .ofNat 0))), (3, .inr (false, (3, .ofNat 0)))], [], [], [], []), ((0, 3, .ofNat 64), (0, 0, .ofNat 0), (0, 0, .ofNat 0)), 0, 0)]
set_option maxRecDepth 1000000 in
theorem cv821 {gh : sxGh} (hg : sxGd sxKw gh) : sxCtV sxKw gh ct821 := sxMeB_ok (cts := []) (cuts := cu821) (sp := []) 80 (by decide +kernel) hg (by decide) (by decide) (fun _ h => absurd h List.not_mem_nil)
/-- Integer.bitCount -/
def ct891 : sxCt := (328, 0, (2, [(1, .ofNat 0, .ofNat 39)], [], [(0, .inr (false, (1, .ofNat 0)))], [], [], [], []), [], [
  (3, [(2, .ofNat 0, .ofNat 63)], [], [], [.inr (false, (2, .ofNat 0))], [], [], [])], [], 0, 0)
def cu891 : List sxCu := []
set_option maxRecDepth 1000000 in
theorem cv891 {gh : sxGh} (hg : sxGd sxKw gh) : sxCtV sxKw gh ct891 := sxMeB_ok (cts := []) (cuts := cu891) (sp := []) 102 (by decide +kernel) hg (by decide) (by decide) (fun _ h => absurd h List.not_mem_nil)
/-- Integer.bitCount -/
def ct895 : sxCt := (328, 0, (2, [(1, .ofNat 0, .ofNat 63)], [], [(0, .inr (false, (1, .ofNat 0)))], [], [], [], []), [], [
  (3, [(2, .ofNat 0, .ofNat 63)], [], [], [.inr (false, (2, .ofNat 0))], [], [], [])], [], 0, 0)
def cu895 : List sxCu := []
set_option maxRecDepth 1000000 in
theorem cv895 {gh : sxGh} (hg : sxGd sxKw gh) : sxCtV sxKw gh ct895 := sxMeB_ok (cts := []) (cuts := cu895) (sp := []) 102 (by decide +kernel) hg (by decide) (by decide) (fun _ h => absurd h List.not_mem_nil)
/-- Integer.bitCount -/
def ct896 : sxCt := (328, 0, (2, [(1, .ofNat 0, .ofNat 64)], [], [(0, .inr (false, (1, .ofNat 0)))], [], [], [], []), [], [
  (3, [(2, .ofNat 0, .ofNat 63)], [], [], [.inr (false, (2, .ofNat 0))], [], [], [])], [], 0, 0)
def cu896 : List sxCu := []
set_option maxRecDepth 1000000 in
theorem cv896 {gh : sxGh} (hg : sxGd sxKw gh) : sxCtV sxKw gh ct896 := sxMeB_ok (cts := []) (cuts := cu896) (sp := []) 102 (by decide +kernel) hg (by decide) (by decide) (fun _ h => absurd h List.not_mem_nil)
/-- LotBeliefs.Survey.heldInAll -/
def ct897 : sxCt := (77, 1, (2, [(1, .ofNat 1, .ofNat 64)], [], [(0, .inl 74), (1, .inr (false, (1, .ofNat 0)))], [], [], [], []), [], [
  (3, [(2, .negSucc 2147483647, .ofNat 2147483647)], [], [], [.inr (false, (2, .ofNat 0))], [], [], [])], [], 0, 0)
def cu897 : List sxCu := [
  (4, (4, [(1, .ofNat 1, .ofNat 64), (2, .negSucc 2147483647, .ofNat 2147483647), (3, .ofNat 0, .ofNat 128)], [], [(0, .inl 74), (1, .inr (false, (1, .ofNat 0))), (2, .inr (false, (2, .ofNat 0))), (3, .inr (false, (3, .ofNat 0)))], [], [], [], []), ((0, 3, .ofNat 128), (0, 0, .ofNat 0), (0, 0, .ofNat 0)), 0, 0)]
set_option maxRecDepth 1000000 in
theorem cv897 {gh : sxGh} (hg : sxGd sxKw gh) : sxCtV sxKw gh ct897 := sxMeB_ok (cts := [ct896]) (cuts := cu897) (sp := []) 86 (by decide +kernel) hg (by decide) (by decide) (List.forall_mem_cons.mpr ⟨cv896 hg, (fun _ h => absurd h List.not_mem_nil)⟩)
/-- LotBeliefs.Survey.heldInAll -/
def ct899 : sxCt := (77, 1, (2, [(1, .ofNat 1, .ofNat 64)], [], [(0, .inl 70), (1, .inr (false, (1, .ofNat 0)))], [], [], [], []), [], [
  (3, [(2, .negSucc 2147483647, .ofNat 2147483647)], [], [], [.inr (false, (2, .ofNat 0))], [], [], [])], [], 0, 0)
def cu899 : List sxCu := [
  (4, (4, [(1, .ofNat 1, .ofNat 64), (2, .negSucc 2147483647, .ofNat 2147483647), (3, .ofNat 0, .ofNat 128)], [], [(0, .inl 70), (1, .inr (false, (1, .ofNat 0))), (2, .inr (false, (2, .ofNat 0))), (3, .inr (false, (3, .ofNat 0)))], [], [], [], []), ((0, 3, .ofNat 128), (0, 0, .ofNat 0), (0, 0, .ofNat 0)), 0, 0)]
set_option maxRecDepth 1000000 in
theorem cv899 {gh : sxGh} (hg : sxGd sxKw gh) : sxCtV sxKw gh ct899 := sxMeB_ok (cts := [ct896]) (cuts := cu899) (sp := []) 86 (by decide +kernel) hg (by decide) (by decide) (List.forall_mem_cons.mpr ⟨cv896 hg, (fun _ h => absurd h List.not_mem_nil)⟩)
/-- LotBeliefs.Survey.heldInAll -/
def ct900 : sxCt := (77, 1, (2, [(1, .ofNat 1, .ofNat 64)], [], [(0, .inl 66), (1, .inr (false, (1, .ofNat 0)))], [], [], [], []), [], [
  (3, [(2, .negSucc 2147483647, .ofNat 2147483647)], [], [], [.inr (false, (2, .ofNat 0))], [], [], [])], [], 0, 0)
def cu900 : List sxCu := [
  (4, (4, [(1, .ofNat 1, .ofNat 64), (2, .negSucc 2147483647, .ofNat 2147483647), (3, .ofNat 0, .ofNat 128)], [], [(0, .inl 66), (1, .inr (false, (1, .ofNat 0))), (2, .inr (false, (2, .ofNat 0))), (3, .inr (false, (3, .ofNat 0)))], [], [], [], []), ((0, 3, .ofNat 128), (0, 0, .ofNat 0), (0, 0, .ofNat 0)), 0, 0)]
set_option maxRecDepth 1000000 in
theorem cv900 {gh : sxGh} (hg : sxGd sxKw gh) : sxCtV sxKw gh ct900 := sxMeB_ok (cts := [ct896]) (cuts := cu900) (sp := []) 86 (by decide +kernel) hg (by decide) (by decide) (List.forall_mem_cons.mpr ⟨cv896 hg, (fun _ h => absurd h List.not_mem_nil)⟩)
/-- LotBeliefs.Survey.heldInAll -/
def ct901 : sxCt := (77, 1, (2, [(1, .ofNat 1, .ofNat 64)], [], [(0, .inl 62), (1, .inr (false, (1, .ofNat 0)))], [], [], [], []), [], [
  (3, [(2, .negSucc 2147483647, .ofNat 2147483647)], [], [], [.inr (false, (2, .ofNat 0))], [], [], [])], [], 0, 0)
def cu901 : List sxCu := [
  (4, (4, [(1, .ofNat 1, .ofNat 64), (2, .negSucc 2147483647, .ofNat 2147483647), (3, .ofNat 0, .ofNat 128)], [], [(0, .inl 62), (1, .inr (false, (1, .ofNat 0))), (2, .inr (false, (2, .ofNat 0))), (3, .inr (false, (3, .ofNat 0)))], [], [], [], []), ((0, 3, .ofNat 128), (0, 0, .ofNat 0), (0, 0, .ofNat 0)), 0, 0)]
set_option maxRecDepth 1000000 in
theorem cv901 {gh : sxGh} (hg : sxGd sxKw gh) : sxCtV sxKw gh ct901 := sxMeB_ok (cts := [ct896]) (cuts := cu901) (sp := []) 86 (by decide +kernel) hg (by decide) (by decide) (List.forall_mem_cons.mpr ⟨cv896 hg, (fun _ h => absurd h List.not_mem_nil)⟩)
/-- LotBeliefs.Survey.heldInAll -/
def ct902 : sxCt := (77, 1, (2, [(1, .ofNat 1, .ofNat 64)], [], [(0, .inl 58), (1, .inr (false, (1, .ofNat 0)))], [], [], [], []), [], [
  (3, [(2, .negSucc 2147483647, .ofNat 2147483647)], [], [], [.inr (false, (2, .ofNat 0))], [], [], [])], [], 0, 0)
def cu902 : List sxCu := [
  (4, (4, [(1, .ofNat 1, .ofNat 64), (2, .negSucc 2147483647, .ofNat 2147483647), (3, .ofNat 0, .ofNat 128)], [], [(0, .inl 58), (1, .inr (false, (1, .ofNat 0))), (2, .inr (false, (2, .ofNat 0))), (3, .inr (false, (3, .ofNat 0)))], [], [], [], []), ((0, 3, .ofNat 128), (0, 0, .ofNat 0), (0, 0, .ofNat 0)), 0, 0)]
set_option maxRecDepth 1000000 in
theorem cv902 {gh : sxGh} (hg : sxGd sxKw gh) : sxCtV sxKw gh ct902 := sxMeB_ok (cts := [ct896]) (cuts := cu902) (sp := []) 86 (by decide +kernel) hg (by decide) (by decide) (List.forall_mem_cons.mpr ⟨cv896 hg, (fun _ h => absurd h List.not_mem_nil)⟩)
/-- Integer.bitCount -/
def ct903 : sxCt := (328, 0, (2, [(1, .ofNat 0, .ofNat 127)], [], [(0, .inr (false, (1, .ofNat 0)))], [], [], [], []), [], [
  (3, [(2, .ofNat 0, .ofNat 63)], [], [], [.inr (false, (2, .ofNat 0))], [], [], [])], [], 0, 0)
def cu903 : List sxCu := []
set_option maxRecDepth 1000000 in
theorem cv903 {gh : sxGh} (hg : sxGd sxKw gh) : sxCtV sxKw gh ct903 := sxMeB_ok (cts := []) (cuts := cu903) (sp := []) 102 (by decide +kernel) hg (by decide) (by decide) (fun _ h => absurd h List.not_mem_nil)
/-- LotBeliefs.Survey.bestEnd -/
def ct904 : sxCt := (78, 1, (2, [(1, .ofNat 0, .ofNat 4095)], [], [(0, .inl 74), (1, .inr (false, (1, .ofNat 0)))], [], [], [], []), [], [
  (3, [(2, .ofNat 0, .ofNat 127)], [], [], [.inr (false, (2, .ofNat 0))], [], [], [])], [], 0, 0)
def cu904 : List sxCu := [
  (7, (5, [(1, .ofNat 0, .ofNat 4095), (2, .ofNat 0, .ofNat 127), (3, .negSucc 0, .ofNat 63), (4, .ofNat 0, .ofNat 128)], [(2, 4, .ofNat 0)], [(0, .inl 74), (1, .inr (false, (1, .ofNat 0))), (2, .inr (false, (2, .ofNat 0))), (3, .inr (false, (3, .ofNat 0))), (4, .inr (false, (4, .ofNat 0)))], [], [], [], []), ((0, 4, .ofNat 128), (0, 0, .ofNat 0), (0, 0, .ofNat 0)), 0, 0)]
set_option maxRecDepth 1000000 in
theorem cv904 {gh : sxGh} (hg : sxGd sxKw gh) : sxCtV sxKw gh ct904 := sxMeB_ok (cts := [ct903]) (cuts := cu904) (sp := []) 122 (by decide +kernel) hg (by decide) (by decide) (List.forall_mem_cons.mpr ⟨cv903 hg, (fun _ h => absurd h List.not_mem_nil)⟩)
/-- LotBeliefs.Survey.bestEnd -/
def ct905 : sxCt := (78, 1, (2, [(1, .ofNat 0, .ofNat 4095)], [], [(0, .inl 70), (1, .inr (false, (1, .ofNat 0)))], [], [], [], []), [], [
  (3, [(2, .ofNat 0, .ofNat 127)], [], [], [.inr (false, (2, .ofNat 0))], [], [], [])], [], 0, 0)
def cu905 : List sxCu := [
  (7, (5, [(1, .ofNat 0, .ofNat 4095), (2, .ofNat 0, .ofNat 127), (3, .negSucc 0, .ofNat 63), (4, .ofNat 0, .ofNat 128)], [(2, 4, .ofNat 0)], [(0, .inl 70), (1, .inr (false, (1, .ofNat 0))), (2, .inr (false, (2, .ofNat 0))), (3, .inr (false, (3, .ofNat 0))), (4, .inr (false, (4, .ofNat 0)))], [], [], [], []), ((0, 4, .ofNat 128), (0, 0, .ofNat 0), (0, 0, .ofNat 0)), 0, 0)]
set_option maxRecDepth 1000000 in
theorem cv905 {gh : sxGh} (hg : sxGd sxKw gh) : sxCtV sxKw gh ct905 := sxMeB_ok (cts := [ct903]) (cuts := cu905) (sp := []) 122 (by decide +kernel) hg (by decide) (by decide) (List.forall_mem_cons.mpr ⟨cv903 hg, (fun _ h => absurd h List.not_mem_nil)⟩)
/-- LotBeliefs.Survey.bestEnd -/
def ct906 : sxCt := (78, 1, (2, [(1, .ofNat 0, .ofNat 4095)], [], [(0, .inl 66), (1, .inr (false, (1, .ofNat 0)))], [], [], [], []), [], [
  (3, [(2, .ofNat 0, .ofNat 127)], [], [], [.inr (false, (2, .ofNat 0))], [], [], [])], [], 0, 0)
def cu906 : List sxCu := [
  (7, (5, [(1, .ofNat 0, .ofNat 4095), (2, .ofNat 0, .ofNat 127), (3, .negSucc 0, .ofNat 63), (4, .ofNat 0, .ofNat 128)], [(2, 4, .ofNat 0)], [(0, .inl 66), (1, .inr (false, (1, .ofNat 0))), (2, .inr (false, (2, .ofNat 0))), (3, .inr (false, (3, .ofNat 0))), (4, .inr (false, (4, .ofNat 0)))], [], [], [], []), ((0, 4, .ofNat 128), (0, 0, .ofNat 0), (0, 0, .ofNat 0)), 0, 0)]
set_option maxRecDepth 1000000 in
theorem cv906 {gh : sxGh} (hg : sxGd sxKw gh) : sxCtV sxKw gh ct906 := sxMeB_ok (cts := [ct903]) (cuts := cu906) (sp := []) 122 (by decide +kernel) hg (by decide) (by decide) (List.forall_mem_cons.mpr ⟨cv903 hg, (fun _ h => absurd h List.not_mem_nil)⟩)
/-- LotBeliefs.Survey.bestEnd -/
def ct907 : sxCt := (78, 1, (2, [(1, .ofNat 0, .ofNat 4095)], [], [(0, .inl 62), (1, .inr (false, (1, .ofNat 0)))], [], [], [], []), [], [
  (3, [(2, .ofNat 0, .ofNat 127)], [], [], [.inr (false, (2, .ofNat 0))], [], [], [])], [], 0, 0)
def cu907 : List sxCu := [
  (7, (5, [(1, .ofNat 0, .ofNat 4095), (2, .ofNat 0, .ofNat 127), (3, .negSucc 0, .ofNat 63), (4, .ofNat 0, .ofNat 128)], [(2, 4, .ofNat 0)], [(0, .inl 62), (1, .inr (false, (1, .ofNat 0))), (2, .inr (false, (2, .ofNat 0))), (3, .inr (false, (3, .ofNat 0))), (4, .inr (false, (4, .ofNat 0)))], [], [], [], []), ((0, 4, .ofNat 128), (0, 0, .ofNat 0), (0, 0, .ofNat 0)), 0, 0)]
set_option maxRecDepth 1000000 in
theorem cv907 {gh : sxGh} (hg : sxGd sxKw gh) : sxCtV sxKw gh ct907 := sxMeB_ok (cts := [ct903]) (cuts := cu907) (sp := []) 122 (by decide +kernel) hg (by decide) (by decide) (List.forall_mem_cons.mpr ⟨cv903 hg, (fun _ h => absurd h List.not_mem_nil)⟩)
/-- LotBeliefs.Survey.bestEnd -/
def ct908 : sxCt := (78, 1, (2, [(1, .ofNat 0, .ofNat 4095)], [], [(0, .inl 58), (1, .inr (false, (1, .ofNat 0)))], [], [], [], []), [], [
  (3, [(2, .ofNat 0, .ofNat 127)], [], [], [.inr (false, (2, .ofNat 0))], [], [], [])], [], 0, 0)
def cu908 : List sxCu := [
  (7, (5, [(1, .ofNat 0, .ofNat 4095), (2, .ofNat 0, .ofNat 127), (3, .negSucc 0, .ofNat 63), (4, .ofNat 0, .ofNat 128)], [(2, 4, .ofNat 0)], [(0, .inl 58), (1, .inr (false, (1, .ofNat 0))), (2, .inr (false, (2, .ofNat 0))), (3, .inr (false, (3, .ofNat 0))), (4, .inr (false, (4, .ofNat 0)))], [], [], [], []), ((0, 4, .ofNat 128), (0, 0, .ofNat 0), (0, 0, .ofNat 0)), 0, 0)]
set_option maxRecDepth 1000000 in
theorem cv908 {gh : sxGh} (hg : sxGd sxKw gh) : sxCtV sxKw gh ct908 := sxMeB_ok (cts := [ct903]) (cuts := cu908) (sp := []) 122 (by decide +kernel) hg (by decide) (by decide) (List.forall_mem_cons.mpr ⟨cv903 hg, (fun _ h => absurd h List.not_mem_nil)⟩)
/-- LotBeliefs.best -/
def ct909 : sxCt := (136, 6, (1, [], [], [(0, .inl 0)], [], [], [], []), [(21, 0), (22, 0), (25, 0), (26, 0), (28, 0), (30, 0), (32, 1), (32, 2), (32, 3), (32, 4), (32, 9), (32, 11), (32, 12), (58, 2), (58, 3), (58, 6), (58, 7), (62, 2), (62, 3), (62, 6), (62, 7), (66, 2), (66, 3), (66, 6), (66, 7), (70, 2), (70, 3), (70, 6), (70, 7), (74, 2), (74, 3), (74, 6), (74, 7), (33000037, 0), (59000061, 0), (63000065, 0), (67000069, 0), (71000073, 0), (75000077, 0)], [
  (2, [(1, .ofNat 0, .ofNat 63)], [], [], [.inr (false, (1, .ofNat 0))], [], [], [])], [
  (2, (2, [(1, .negSucc 2147483647, .ofNat 2147483647)], [], [], [], [(30, (0, .ofNat 2), .inr (false, (1, .ofNat 0)))], [], []))], 1, 6)
def cu909 : List sxCu := []
set_option maxRecDepth 1000000 in
theorem cv909 {gh : sxGh} (hg : sxGd sxKw gh) : sxCtV sxKw gh ct909 := sxMeB_ok (cts := [ct384, ct525, ct581, ct585, ct659, ct663, ct737, ct741, ct742, ct743, ct744, ct745, ct746, ct747, ct620, ct748, ct749, ct750, ct624, ct751, ct698, ct702, ct904, ct905, ct906, ct907, ct908, ct388, ct903]) (cuts := cu909) (sp := []) 1078 (by decide +kernel) hg (by decide) (by decide) (List.forall_mem_cons.mpr ⟨cv384 hg, (List.forall_mem_cons.mpr ⟨cv525 hg, (List.forall_mem_cons.mpr ⟨cv581 hg, (List.forall_mem_cons.mpr ⟨cv585 hg, (List.forall_mem_cons.mpr ⟨cv659 hg, (List.forall_mem_cons.mpr ⟨cv663 hg, (List.forall_mem_cons.mpr ⟨cv737 hg, (List.forall_mem_cons.mpr ⟨cv741 hg, (List.forall_mem_cons.mpr ⟨cv742 hg, (List.forall_mem_cons.mpr ⟨cv743 hg, (List.forall_mem_cons.mpr ⟨cv744 hg, (List.forall_mem_cons.mpr ⟨cv745 hg, (List.forall_mem_cons.mpr ⟨cv746 hg, (List.forall_mem_cons.mpr ⟨cv747 hg, (List.forall_mem_cons.mpr ⟨cv620 hg, (List.forall_mem_cons.mpr ⟨cv748 hg, (List.forall_mem_cons.mpr ⟨cv749 hg, (List.forall_mem_cons.mpr ⟨cv750 hg, (List.forall_mem_cons.mpr ⟨cv624 hg, (List.forall_mem_cons.mpr ⟨cv751 hg, (List.forall_mem_cons.mpr ⟨cv698 hg, (List.forall_mem_cons.mpr ⟨cv702 hg, (List.forall_mem_cons.mpr ⟨cv904 hg, (List.forall_mem_cons.mpr ⟨cv905 hg, (List.forall_mem_cons.mpr ⟨cv906 hg, (List.forall_mem_cons.mpr ⟨cv907 hg, (List.forall_mem_cons.mpr ⟨cv908 hg, (List.forall_mem_cons.mpr ⟨cv388 hg, (List.forall_mem_cons.mpr ⟨cv903 hg, (fun _ h => absurd h List.not_mem_nil)⟩)⟩)⟩)⟩)⟩)⟩)⟩)⟩)⟩)⟩)⟩)⟩)⟩)⟩)⟩)⟩)⟩)⟩)⟩)⟩)⟩)⟩)⟩)⟩)⟩)⟩)⟩)⟩)⟩)
/-- LotBeliefsModel.isWhole -/
def ct961 : sxCt := (300, 1, (3, [(1, .ofNat 0, .ofNat 4095), (2, .ofNat 0, .ofNat 51)], [], [(0, .inl 78), (1, .inr (false, (1, .ofNat 0))), (2, .inr (false, (2, .ofNat 0)))], [], [], [], []), [], [
  (3, [], [], [], [.inr (false, (0, .ofNat 0))], [], [], []), 
  (3, [], [], [], [.inr (false, (0, .ofNat 1))], [], [], [])], [], 0, 0)
def cu961 : List sxCu := [
  (15, (4, [(1, .ofNat 0, .ofNat 4095), (2, .ofNat 0, .ofNat 51), (3, .ofNat 0, .ofNat 12)], [], [(0, .inl 78), (1, .inr (false, (1, .ofNat 0))), (2, .inr (false, (2, .ofNat 0))), (3, .inr (false, (3, .ofNat 0)))], [], [], [], []), ((0, 3, .ofNat 12), (0, 0, .ofNat 0), (0, 0, .ofNat 0)), 0, 0)]
set_option maxRecDepth 1000000 in
theorem cv961 {gh : sxGh} (hg : sxGd sxKw gh) : sxCtV sxKw gh ct961 := sxMeB_ok (cts := [ct531]) (cuts := cu961) (sp := []) 112 (by decide +kernel) hg (by decide) (by decide) (List.forall_mem_cons.mpr ⟨cv531 hg, (fun _ h => absurd h List.not_mem_nil)⟩)
/-- LotBeliefsModel.whole -/
def ct962 : sxCt := (302, 2, (3, [(1, .negSucc 2147483647, .ofNat 2147483647), (2, .negSucc 2147483647, .ofNat 2147483647)], [], [(0, .inl 78), (1, .inr (false, (1, .ofNat 0))), (2, .inr (false, (2, .ofNat 0)))], [], [], [], []), [(78, 1), (80, 0)], [
  (5, [(3, .negSucc 0, .ofNat 4095), (4, .ofNat 0, .ofNat 1)], [(4, 3, .ofNat 1)], [], [.inr (false, (3, .ofNat 0))], [(78, (0, .ofNat 0), .inr (false, (4, .ofNat 0)))], [], [])], [], 0, 0)
def cu962 : List sxCu := [
  (33, (5, [(1, .ofNat 0, .ofNat 51), (2, .negSucc 2147483647, .ofNat 2147483647), (3, .ofNat 0, .ofNat 4096), (4, .ofNat 0, .ofNat 4096)], [(3, 4, .ofNat 0)], [(0, .inl 78), (1, .inr (false, (1, .ofNat 0))), (2, .inr (false, (2, .ofNat 0))), (3, .inr (false, (3, .ofNat 0))), (4, .inr (false, (4, .ofNat 0)))], [], [(78, (0, .ofNat 0), .inr (false, (0, .ofNat 0)))], [], []), ((0, 4, .ofNat 4096), (0, 0, .ofNat 0), (0, 0, .ofNat 0)), 0, 0)]
set_option maxRecDepth 1000000 in
theorem cv962 {gh : sxGh} (hg : sxGd sxKw gh) : sxCtV sxKw gh ct962 := sxMeB_ok (cts := [ct961]) (cuts := cu962) (sp := []) 193 (by decide +kernel) hg (by decide) (by decide) (List.forall_mem_cons.mpr ⟨cv961 hg, (fun _ h => absurd h List.not_mem_nil)⟩)
/-- LotBeliefs.Subsets.fill -/
def ct963 : sxCt := (58, 0, (2, [(1, .ofNat 0, .ofNat 51)], [], [(0, .inl 45), (1, .inl 3), (2, .inr (false, (1, .ofNat 0)))], [], [], [], []), [(45, 2), (45, 3), (46, 0), (580, 0)], [
  (5, [(2, .ofNat 0, .ofNat 12), (3, .ofNat 1, .ofNat 4096), (4, .negSucc 9223372036854775807, .ofNat 9223372036854775807)], [], [], [], [(45, (0, .ofNat 1), .inr (false, (2, .ofNat 0))), (45, (0, .ofNat 2), .inr (false, (3, .ofNat 0))), (46, (0, .ofNat 0), .inr (true, (4, .ofNat 0)))], [], [])], [], 0, 0)
def cu963 : List sxCu := [
  (40, (6, [(1, .ofNat 0, .ofNat 51), (2, .ofNat 0, .ofNat 12), (3, .ofNat 0, .ofNat 12), (4, .ofNat 1, .ofNat 4096), (5, .negSucc 9223372036854775807, .ofNat 9223372036854775807)], [], [(0, .inl 45), (1, .inl 3), (2, .inr (false, (1, .ofNat 0))), (3, .inr (false, (2, .ofNat 0)))], [], [(3, (0, .ofNat 2), .inr (false, (3, .ofNat 0))), (3, (0, .ofNat 11), .inl 8), (45, (0, .ofNat 0), .inl 46), (45, (0, .ofNat 1), .inr (false, (3, .ofNat 0))), (45, (0, .ofNat 2), .inr (false, (4, .ofNat 0))), (46, (0, .ofNat 0), .inr (true, (5, .ofNat 0)))], [], []), ((0, 2, .ofNat 12), (0, 0, .ofNat 2049), (0, 0, .ofNat 0)), 0, 0), 
  (56, (8, [(1, .ofNat 0, .ofNat 51), (2, .ofNat 0, .ofNat 11), (3, .ofNat 1, .ofNat 2048), (4, .ofNat 0, .ofNat 2048), (5, .ofNat 1, .ofNat 12), (6, .ofNat 1, .ofNat 4096), (7, .negSucc 9223372036854775807, .ofNat 9223372036854775807)], [(2, 5, .negSucc 0)], [(0, .inl 45), (1, .inl 3), (2, .inr (false, (1, .ofNat 0))), (3, .inr (false, (2, .ofNat 0))), (4, .inr (false, (3, .ofNat 0))), (5, .inr (false, (4, .ofNat 0)))], [], [(3, (0, .ofNat 2), .inr (false, (5, .ofNat 0))), (3, (0, .ofNat 11), .inl 8), (45, (0, .ofNat 0), .inl 46), (45, (0, .ofNat 1), .inr (false, (5, .ofNat 0))), (45, (0, .ofNat 2), .inr (false, (6, .ofNat 0))), (46, (0, .ofNat 0), .inr (true, (7, .ofNat 0)))], [], []), ((0, 2, .ofNat 12), (0, 4, .ofNat 2048), (0, 0, .ofNat 0)), 0, 0)]
set_option maxRecDepth 1000000 in
theorem cv963 {gh : sxGh} (hg : sxGd sxKw gh) : sxCtV sxKw gh ct963 := sxMeB_ok (cts := []) (cuts := cu963) (sp := []) 124 (by decide +kernel) hg (by decide) (by decide) (fun _ h => absurd h List.not_mem_nil)
/-- LotBeliefs.Subsets.isWhole -/
def ct989 : sxCt := (65, 0, (2, [(1, .ofNat 0, .ofNat 4095)], [], [(0, .inl 45), (1, .inr (false, (1, .ofNat 0)))], [], [], [], []), [], [
  (2, [], [], [], [.inr (false, (0, .ofNat 0))], [], [], []), 
  (2, [], [], [], [.inr (false, (0, .ofNat 1))], [], [], [])], [], 0, 0)
def cu989 : List sxCu := [
  (15, (3, [(1, .ofNat 0, .ofNat 4095), (2, .ofNat 0, .ofNat 12)], [], [(0, .inl 45), (1, .inr (false, (1, .ofNat 0))), (2, .inr (false, (2, .ofNat 0)))], [], [(45, (0, .ofNat 0), .inl 46)], [], []), ((0, 2, .ofNat 12), (0, 0, .ofNat 0), (0, 0, .ofNat 0)), 0, 0)]
set_option maxRecDepth 1000000 in
theorem cv989 {gh : sxGh} (hg : sxGd sxKw gh) : sxCtV sxKw gh ct989 := sxMeB_ok (cts := []) (cuts := cu989) (sp := []) 112 (by decide +kernel) hg (by decide) (by decide) (fun _ h => absurd h List.not_mem_nil)
/-- LotBeliefs.Subsets.wholeAt -/
def ct990 : sxCt := (64, 1, (2, [(1, .negSucc 2147483647, .ofNat 2147483647)], [], [(0, .inl 45), (1, .inr (false, (1, .ofNat 0)))], [], [], [], []), [], [
  (3, [(2, .negSucc 0, .ofNat 4095)], [], [], [.inr (false, (2, .ofNat 0))], [], [], [])], [], 0, 0)
def cu990 : List sxCu := [
  (4, (4, [(1, .negSucc 2147483647, .ofNat 2147483647), (2, .ofNat 0, .ofNat 4096), (3, .ofNat 0, .ofNat 4096)], [(2, 3, .ofNat 0)], [(0, .inl 45), (1, .inr (false, (1, .ofNat 0))), (2, .inr (false, (2, .ofNat 0))), (3, .inr (false, (3, .ofNat 0)))], [], [], [], []), ((0, 3, .ofNat 4096), (0, 0, .ofNat 0), (0, 0, .ofNat 0)), 0, 0)]
set_option maxRecDepth 1000000 in
theorem cv990 {gh : sxGh} (hg : sxGd sxKw gh) : sxCtV sxKw gh ct990 := sxMeB_ok (cts := [ct989]) (cuts := cu990) (sp := []) 86 (by decide +kernel) hg (by decide) (by decide) (List.forall_mem_cons.mpr ⟨cv989 hg, (fun _ h => absurd h List.not_mem_nil)⟩)
/-- LotBeliefsModel.whole -/
def ct991 : sxCt := (302, 2, (3, [(1, .ofNat 0, .ofNat 51), (2, .negSucc 2147483647, .ofNat 2147483647)], [], [(0, .inl 78), (1, .inr (false, (1, .ofNat 0))), (2, .inr (false, (2, .ofNat 0)))], [], [], [], []), [(78, 1)], [
  (4, [(3, .negSucc 0, .ofNat 4095)], [], [], [.inr (false, (3, .ofNat 0))], [(78, (0, .ofNat 0), .inr (false, (0, .ofNat 0)))], [], [])], [], 0, 0)
def cu991 : List sxCu := [
  (33, (5, [(1, .ofNat 0, .ofNat 51), (2, .negSucc 2147483647, .ofNat 2147483647), (3, .ofNat 0, .ofNat 4096), (4, .ofNat 0, .ofNat 4096)], [(3, 4, .ofNat 0)], [(0, .inl 78), (1, .inr (false, (1, .ofNat 0))), (2, .inr (false, (2, .ofNat 0))), (3, .inr (false, (3, .ofNat 0))), (4, .inr (false, (4, .ofNat 0)))], [], [(78, (0, .ofNat 0), .inr (false, (0, .ofNat 0)))], [], []), ((0, 4, .ofNat 4096), (0, 0, .ofNat 0), (0, 0, .ofNat 0)), 0, 0)]
set_option maxRecDepth 1000000 in
theorem cv991 {gh : sxGh} (hg : sxGd sxKw gh) : sxCtV sxKw gh ct991 := sxMeB_ok (cts := [ct961]) (cuts := cu991) (sp := []) 125 (by decide +kernel) hg (by decide) (by decide) (List.forall_mem_cons.mpr ⟨cv961 hg, (fun _ h => absurd h List.not_mem_nil)⟩)
/-- LotBeliefsModel.ones -/
def ct1006 : sxCt := (225, 0, (2, [(1, .ofNat 0, .ofNat 39)], [], [(0, .inr (true, (1, .ofNat 0)))], [], [], [], []), [], [
  (3, [(2, .negSucc 2147483647, .ofNat 2147483647)], [], [], [.inr (false, (2, .ofNat 0))], [], [], [])], [], 0, 0)
def cu1006 : List sxCu := [
  (4, (4, [(1, .ofNat 0, .ofNat 39), (2, .negSucc 2147483647, .ofNat 2147483647), (3, .ofNat 0, .ofNat 64)], [], [(0, .inr (true, (1, .ofNat 0))), (2, .inr (false, (2, .ofNat 0))), (3, .inr (false, (3, .ofNat 0)))], [], [], [], []), ((0, 3, .ofNat 64), (0, 0, .ofNat 0), (0, 0, .ofNat 0)), 0, 0)]
set_option maxRecDepth 1000000 in
theorem cv1006 {gh : sxGh} (hg : sxGd sxKw gh) : sxCtV sxKw gh ct1006 := sxMeB_ok (cts := []) (cuts := cu1006) (sp := []) 80 (by decide +kernel) hg (by decide) (by decide) (fun _ h => absurd h List.not_mem_nil)
/-- LotBeliefsModel.ones -/
def ct1011 : sxCt := (225, 0, (2, [(1, .ofNat 0, .ofNat 63)], [], [(0, .inr (true, (1, .ofNat 0)))], [], [], [], []), [], [
  (3, [(2, .negSucc 2147483647, .ofNat 2147483647)], [], [], [.inr (false, (2, .ofNat 0))], [], [], [])], [], 0, 0)
def cu1011 : List sxCu := [
  (4, (4, [(1, .ofNat 0, .ofNat 63), (2, .negSucc 2147483647, .ofNat 2147483647), (3, .ofNat 0, .ofNat 64)], [], [(0, .inr (true, (1, .ofNat 0))), (2, .inr (false, (2, .ofNat 0))), (3, .inr (false, (3, .ofNat 0)))], [], [], [], []), ((0, 3, .ofNat 64), (0, 0, .ofNat 0), (0, 0, .ofNat 0)), 0, 0)]
set_option maxRecDepth 1000000 in
theorem cv1011 {gh : sxGh} (hg : sxGd sxKw gh) : sxCtV sxKw gh ct1011 := sxMeB_ok (cts := []) (cuts := cu1011) (sp := []) 80 (by decide +kernel) hg (by decide) (by decide) (fun _ h => absurd h List.not_mem_nil)
/-- LotBeliefsModel.proof -/
def ct1017 : sxCt := (303, 2, (2, [(1, .negSucc 2147483647, .ofNat 2147483647)], [], [(0, .inl 78), (1, .inr (false, (1, .ofNat 0)))], [], [], [], []), [(78, 1), (80, 0)], [
  (4, [(2, .negSucc 0, .ofNat 4095), (3, .ofNat 0, .ofNat 1)], [(3, 2, .ofNat 1)], [], [.inr (false, (2, .ofNat 0))], [(78, (0, .ofNat 0), .inr (false, (3, .ofNat 0)))], [], [])], [], 0, 0)
def cu1017 : List sxCu := [
  (32, (4, [(1, .ofNat 0, .ofNat 51), (2, .negSucc 0, .ofNat 4095), (3, .ofNat 0, .ofNat 4096)], [(2, 3, .negSucc 0)], [(0, .inl 78), (1, .inr (false, (1, .ofNat 0))), (2, .inr (false, (2, .ofNat 0))), (3, .inr (false, (3, .ofNat 0)))], [], [(78, (0, .ofNat 0), .inr (false, (0, .ofNat 0)))], [], []), ((0, 3, .ofNat 4096), (0, 0, .ofNat 0), (0, 0, .ofNat 0)), 0, 0)]
set_option maxRecDepth 1000000 in
theorem cv1017 {gh : sxGh} (hg : sxGd sxKw gh) : sxCtV sxKw gh ct1017 := sxMeB_ok (cts := [ct532, ct531]) (cuts := cu1017) (sp := []) 262 (by decide +kernel) hg (by decide) (by decide) (List.forall_mem_cons.mpr ⟨cv532 hg, (List.forall_mem_cons.mpr ⟨cv531 hg, (fun _ h => absurd h List.not_mem_nil)⟩)⟩)
/-- LotBeliefs.Subsets.proving -/
def ct1022 : sxCt := (62, 1, (2, [(1, .negSucc 9223372036854775807, .ofNat 9223372036854775807)], [], [(0, .inl 45), (1, .inr (true, (1, .ofNat 0)))], [], [], [], []), [], [
  (3, [(2, .negSucc 0, .ofNat 4095)], [], [], [.inr (false, (2, .ofNat 0))], [], [], [])], [], 0, 0)
def cu1022 : List sxCu := [
  (9, (5, [(1, .negSucc 9223372036854775807, .ofNat 9223372036854775807), (2, .negSucc 0, .ofNat 4095), (3, .ofNat 0, .ofNat 63), (4, .ofNat 0, .ofNat 4096)], [(2, 4, .negSucc 0)], [(0, .inl 45), (1, .inr (true, (1, .ofNat 0))), (3, .inr (false, (2, .ofNat 0))), (4, .inr (false, (3, .ofNat 0))), (5, .inr (false, (4, .ofNat 0)))], [], [], [], []), ((0, 4, .ofNat 4096), (0, 0, .ofNat 0), (0, 0, .ofNat 0)), 0, 0)]
set_option maxRecDepth 1000000 in
theorem cv1022 {gh : sxGh} (hg : sxGd sxKw gh) : sxCtV sxKw gh ct1022 := sxMeB_ok (cts := [ct526]) (cuts := cu1022) (sp := []) 170 (by decide +kernel) hg (by decide) (by decide) (List.forall_mem_cons.mpr ⟨cv526 hg, (fun _ h => absurd h List.not_mem_nil)⟩)
/-- LotBeliefsModel.proof -/
def ct1023 : sxCt := (303, 2, (2, [(1, .ofNat 0, .ofNat 51)], [], [(0, .inl 78), (1, .inr (false, (1, .ofNat 0)))], [], [], [], []), [(78, 1)], [
  (3, [(2, .negSucc 0, .ofNat 4095)], [], [], [.inr (false, (2, .ofNat 0))], [(78, (0, .ofNat 0), .inr (false, (0, .ofNat 0)))], [], [])], [], 0, 0)
def cu1023 : List sxCu := [
  (32, (4, [(1, .ofNat 0, .ofNat 51), (2, .negSucc 0, .ofNat 4095), (3, .ofNat 0, .ofNat 4096)], [(2, 3, .negSucc 0)], [(0, .inl 78), (1, .inr (false, (1, .ofNat 0))), (2, .inr (false, (2, .ofNat 0))), (3, .inr (false, (3, .ofNat 0)))], [], [(78, (0, .ofNat 0), .inr (false, (0, .ofNat 0)))], [], []), ((0, 3, .ofNat 4096), (0, 0, .ofNat 0), (0, 0, .ofNat 0)), 0, 0)]
set_option maxRecDepth 1000000 in
theorem cv1023 {gh : sxGh} (hg : sxGd sxKw gh) : sxCtV sxKw gh ct1023 := sxMeB_ok (cts := [ct532, ct531]) (cuts := cu1023) (sp := []) 194 (by decide +kernel) hg (by decide) (by decide) (List.forall_mem_cons.mpr ⟨cv532 hg, (List.forall_mem_cons.mpr ⟨cv531 hg, (fun _ h => absurd h List.not_mem_nil)⟩)⟩)
/-- LotBeliefs.split -/
def ct1024 : sxCt := (141, 3, (3, [(1, .negSucc 2147483647, .ofNat 2147483647), (2, .negSucc 2147483647, .ofNat 2147483647)], [], [(0, .inl 0), (1, .inr (false, (1, .ofNat 0))), (2, .inr (false, (2, .ofNat 0)))], [], [], [], []), [(30, 0)], [
  (4, [(1, .ofNat 0, .ofNat 51), (2, .ofNat 0, .ofNat 1), (3, .ofNat 0, .ofNat 127)], [], [], [.inr (false, (3, .ofNat 0))], [], [], [])], [
  (1, (4, [(3, .negSucc 2147483647, .ofNat 2147483647)], [], [], [], [(30, (0, .ofNat 1), .inr (false, (3, .ofNat 0)))], [], []))], 1, 6)
def cu1024 : List sxCu := [
  (27, (6, [(1, .ofNat 0, .ofNat 51), (2, .ofNat 0, .ofNat 1), (3, .ofNat 0, .ofNat 5), (4, .ofNat 0, .ofNat 127), (5, .ofNat 1, .ofNat 6)], [(3, 5, .negSucc 0)], [(0, .inl 0), (1, .inr (false, (1, .ofNat 0))), (2, .inr (false, (2, .ofNat 0))), (3, .inr (false, (3, .ofNat 0))), (4, .inr (false, (4, .ofNat 0))), (5, .inr (false, (5, .ofNat 0)))], [], [], [], []), ((0, 5, .ofNat 6), (0, 0, .ofNat 0), (0, 0, .ofNat 0)), 0, 0)]
set_option maxRecDepth 1000000 in
theorem cv1024 {gh : sxGh} (hg : sxGd sxKw gh) : sxCtV sxKw gh ct1024 := sxMeB_ok (cts := [ct58]) (cuts := cu1024) (sp := []) 725 (by decide +kernel) hg (by decide) (by decide) (List.forall_mem_cons.mpr ⟨cv58 hg, (fun _ h => absurd h List.not_mem_nil)⟩)
/-- LotBeliefsModel.atomOf -/
def ct1030 : sxCt := (216, 0, (3, [(1, .ofNat 0, .ofNat 5), (2, .ofNat 0, .ofNat 6)], [], [(0, .inr (false, (1, .ofNat 0))), (1, .inr (false, (2, .ofNat 0)))], [], [], [], []), [], [
  (4, [(3, .negSucc 9223372036854775807, .ofNat 9223372036854775807)], [], [], [.inr (true, (3, .ofNat 0))], [], [], [])], [], 0, 0)
def cu1030 : List sxCu := []
set_option maxRecDepth 1000000 in
theorem cv1030 {gh : sxGh} (hg : sxGd sxKw gh) : sxCtV sxKw gh ct1030 := sxMeB_ok (cts := []) (cuts := cu1030) (sp := []) 1349 (by decide +kernel) hg (by decide) (by decide) (fun _ h => absurd h List.not_mem_nil)
/-- LotBeliefsModel.split -/
def ct1031 : sxCt := (304, 2, (3, [(1, .negSucc 2147483647, .ofNat 2147483647), (2, .negSucc 2147483647, .ofNat 2147483647)], [], [(0, .inl 78), (1, .inr (false, (1, .ofNat 0))), (2, .inr (false, (2, .ofNat 0)))], [], [], [], []), [(78, 1), (80, 0)], [
  (5, [(3, .negSucc 2147483647, .ofNat 2147483647), (4, .ofNat 0, .ofNat 1)], [], [], [.inr (false, (3, .ofNat 0))], [(78, (0, .ofNat 0), .inr (false, (4, .ofNat 0)))], [], [])], [], 0, 0)
def cu1031 : List sxCu := [
  (45, (6, [(1, .ofNat 0, .ofNat 51), (2, .ofNat 0, .ofNat 1), (3, .negSucc 0, .ofNat 5), (4, .negSucc 2147483647, .ofNat 2147483647), (5, .ofNat 0, .ofNat 6)], [(3, 5, .negSucc 0)], [(0, .inl 78), (1, .inr (false, (1, .ofNat 0))), (2, .inr (false, (2, .ofNat 0))), (3, .inr (false, (3, .ofNat 0))), (4, .inr (false, (4, .ofNat 0))), (5, .inr (false, (5, .ofNat 0)))], [], [(78, (0, .ofNat 0), .inr (false, (0, .ofNat 0)))], [], []), ((0, 5, .ofNat 6), (0, 0, .ofNat 0), (0, 0, .ofNat 0)), 0, 0)]
set_option maxRecDepth 1000000 in
theorem cv1031 {gh : sxGh} (hg : sxGd sxKw gh) : sxCtV sxKw gh ct1031 := sxMeB_ok (cts := [ct1030, ct0]) (cuts := cu1031) (sp := []) 334 (by decide +kernel) hg (by decide) (by decide) (List.forall_mem_cons.mpr ⟨cv1030 hg, (List.forall_mem_cons.mpr ⟨cv0 hg, (fun _ h => absurd h List.not_mem_nil)⟩)⟩)
/-- LotBeliefsModel.split -/
def ct1032 : sxCt := (304, 2, (3, [(1, .ofNat 0, .ofNat 51), (2, .ofNat 0, .ofNat 1)], [], [(0, .inl 78), (1, .inr (false, (1, .ofNat 0))), (2, .inr (false, (2, .ofNat 0)))], [], [], [], []), [(78, 1)], [
  (4, [(3, .negSucc 2147483647, .ofNat 2147483647)], [], [], [.inr (false, (3, .ofNat 0))], [(78, (0, .ofNat 0), .inr (false, (0, .ofNat 0)))], [], [])], [], 0, 0)
def cu1032 : List sxCu := [
  (45, (6, [(1, .ofNat 0, .ofNat 51), (2, .ofNat 0, .ofNat 1), (3, .negSucc 0, .ofNat 5), (4, .negSucc 2147483647, .ofNat 2147483647), (5, .ofNat 0, .ofNat 6)], [(3, 5, .negSucc 0)], [(0, .inl 78), (1, .inr (false, (1, .ofNat 0))), (2, .inr (false, (2, .ofNat 0))), (3, .inr (false, (3, .ofNat 0))), (4, .inr (false, (4, .ofNat 0))), (5, .inr (false, (5, .ofNat 0)))], [], [(78, (0, .ofNat 0), .inr (false, (0, .ofNat 0)))], [], []), ((0, 5, .ofNat 6), (0, 0, .ofNat 0), (0, 0, .ofNat 0)), 0, 0)]
set_option maxRecDepth 1000000 in
theorem cv1032 {gh : sxGh} (hg : sxGd sxKw gh) : sxCtV sxKw gh ct1032 := sxMeB_ok (cts := [ct1030, ct0]) (cuts := cu1032) (sp := []) 200 (by decide +kernel) hg (by decide) (by decide) (List.forall_mem_cons.mpr ⟨cv1030 hg, (List.forall_mem_cons.mpr ⟨cv0 hg, (fun _ h => absurd h List.not_mem_nil)⟩)⟩)
/-- LotBeliefs.likely -/
def ct1069 : sxCt := (142, 3, (2, [(1, .negSucc 2147483647, .ofNat 2147483647)], [], [(0, .inl 0), (1, .inr (false, (1, .ofNat 0)))], [], [], [], []), [(30, 0)], [
  (3, [(1, .ofNat 0, .ofNat 51), (2, .negSucc 0, .ofNat 63)], [], [], [.inr (false, (2, .ofNat 0))], [], [], [])], [
  (1, (3, [(2, .negSucc 2147483647, .ofNat 2147483647)], [], [], [], [(30, (0, .ofNat 1), .inr (false, (2, .ofNat 0)))], [], []))], 1, 6)
def cu1069 : List sxCu := [
  (12, (5, [(1, .ofNat 0, .ofNat 51), (2, .negSucc 0, .ofNat 63), (3, .negSucc 0, .ofNat 63), (4, .ofNat 0, .ofNat 64)], [(2, 4, .negSucc 0), (3, 2, .ofNat 63), (3, 4, .ofNat 62)], [(0, .inl 0), (1, .inr (false, (1, .ofNat 0))), (2, .inr (false, (2, .ofNat 0))), (3, .inr (false, (3, .ofNat 0))), (4, .inr (false, (4, .ofNat 0)))], [], [], [], []), ((0, 4, .ofNat 64), (0, 0, .ofNat 0), (0, 0, .ofNat 0)), 0, 0)]
set_option maxRecDepth 1000000 in
theorem cv1069 {gh : sxGh} (hg : sxGd sxKw gh) : sxCtV sxKw gh ct1069 := sxMeB_ok (cts := [ct384, ct525, ct526]) (cuts := cu1069) (sp := []) 184 (by decide +kernel) hg (by decide) (by decide) (List.forall_mem_cons.mpr ⟨cv384 hg, (List.forall_mem_cons.mpr ⟨cv525 hg, (List.forall_mem_cons.mpr ⟨cv526 hg, (fun _ h => absurd h List.not_mem_nil)⟩)⟩)⟩)
/-- LotBeliefsModel.likely -/
def ct1070 : sxCt := (305, 2, (2, [(1, .negSucc 2147483647, .ofNat 2147483647)], [], [(0, .inl 78), (1, .inr (false, (1, .ofNat 0)))], [], [], [], []), [(78, 1), (80, 0)], [
  (4, [(2, .negSucc 0, .ofNat 63), (3, .ofNat 0, .ofNat 1)], [(3, 2, .ofNat 1)], [], [.inr (false, (2, .ofNat 0))], [(78, (0, .ofNat 0), .inr (false, (3, .ofNat 0)))], [], [])], [], 0, 0)
def cu1070 : List sxCu := [
  (35, (5, [(1, .ofNat 0, .ofNat 51), (2, .negSucc 0, .ofNat 63), (3, .negSucc 0, .ofNat 2147483647), (4, .ofNat 0, .ofNat 64)], [(2, 4, .negSucc 0)], [(0, .inl 78), (1, .inr (false, (1, .ofNat 0))), (2, .inr (false, (2, .ofNat 0))), (3, .inr (false, (3, .ofNat 0))), (4, .inr (false, (4, .ofNat 0)))], [], [(78, (0, .ofNat 0), .inr (false, (0, .ofNat 0)))], [], []), ((0, 4, .ofNat 64), (0, 0, .ofNat 13), (0, 0, .ofNat 0)), 0, 0), 
  (73, (8, [(1, .ofNat 0, .ofNat 51), (2, .negSucc 0, .ofNat 62), (3, .negSucc 0, .ofNat 2147483647), (4, .ofNat 0, .ofNat 63), (5, .negSucc 2147483647, .ofNat 2147483647), (6, .ofNat 0, .ofNat 12), (7, .ofNat 0, .ofNat 6)], [(2, 4, .negSucc 0)], [(0, .inl 78), (1, .inr (false, (1, .ofNat 0))), (2, .inr (false, (2, .ofNat 0))), (3, .inr (false, (3, .ofNat 0))), (4, .inr (false, (4, .ofNat 0))), (5, .inr (false, (5, .ofNat 0))), (6, .inr (false, (6, .ofNat 0)))], [], [(78, (0, .ofNat 0), .inr (false, (0, .ofNat 0))), (78, (0, .ofNat 12), .inl 82), (78, (0, .ofNat 19), .inl 89), (82, (0, .ofNat 0), .inr (false, (7, .ofNat 0)))], [], []), ((0, 4, .ofNat 64), (0, 6, .ofNat 12), (0, 0, .ofNat 0)), 0, 0)]
set_option maxRecDepth 1000000 in
theorem cv1070 {gh : sxGh} (hg : sxGd sxKw gh) : sxCtV sxKw gh ct1070 := sxMeB_ok (cts := []) (cuts := cu1070) (sp := []) 228 (by decide +kernel) hg (by decide) (by decide) (fun _ h => absurd h List.not_mem_nil)
/-- LotBeliefsModel.likely -/
def ct1071 : sxCt := (305, 2, (2, [(1, .ofNat 0, .ofNat 51)], [], [(0, .inl 78), (1, .inr (false, (1, .ofNat 0)))], [], [], [], []), [(78, 1)], [
  (3, [(2, .negSucc 0, .ofNat 63)], [], [], [.inr (false, (2, .ofNat 0))], [(78, (0, .ofNat 0), .inr (false, (0, .ofNat 0)))], [], [])], [], 0, 0)
def cu1071 : List sxCu := [
  (35, (5, [(1, .ofNat 0, .ofNat 51), (2, .negSucc 0, .ofNat 63), (3, .negSucc 0, .ofNat 2147483647), (4, .ofNat 0, .ofNat 64)], [(2, 4, .negSucc 0)], [(0, .inl 78), (1, .inr (false, (1, .ofNat 0))), (2, .inr (false, (2, .ofNat 0))), (3, .inr (false, (3, .ofNat 0))), (4, .inr (false, (4, .ofNat 0)))], [], [(78, (0, .ofNat 0), .inr (false, (0, .ofNat 0)))], [], []), ((0, 4, .ofNat 64), (0, 0, .ofNat 13), (0, 0, .ofNat 0)), 0, 0), 
  (73, (8, [(1, .ofNat 0, .ofNat 51), (2, .negSucc 0, .ofNat 62), (3, .negSucc 0, .ofNat 2147483647), (4, .ofNat 0, .ofNat 63), (5, .negSucc 2147483647, .ofNat 2147483647), (6, .ofNat 0, .ofNat 12), (7, .ofNat 0, .ofNat 6)], [(2, 4, .negSucc 0)], [(0, .inl 78), (1, .inr (false, (1, .ofNat 0))), (2, .inr (false, (2, .ofNat 0))), (3, .inr (false, (3, .ofNat 0))), (4, .inr (false, (4, .ofNat 0))), (5, .inr (false, (5, .ofNat 0))), (6, .inr (false, (6, .ofNat 0)))], [], [(78, (0, .ofNat 0), .inr (false, (0, .ofNat 0))), (78, (0, .ofNat 12), .inl 82), (78, (0, .ofNat 19), .inl 89), (82, (0, .ofNat 0), .inr (false, (7, .ofNat 0)))], [], []), ((0, 4, .ofNat 64), (0, 6, .ofNat 12), (0, 0, .ofNat 0)), 0, 0)]
set_option maxRecDepth 1000000 in
theorem cv1071 {gh : sxGh} (hg : sxGd sxKw gh) : sxCtV sxKw gh ct1071 := sxMeB_ok (cts := []) (cuts := cu1071) (sp := []) 160 (by decide +kernel) hg (by decide) (by decide) (fun _ h => absurd h List.not_mem_nil)
/-- LotBeliefs.copyOrder -/
def ct1075 : sxCt := (183, 0, (2, [(1, .ofNat 0, .ofNat 5)], [], [(0, .inl 0), (1, .inr (false, (1, .ofNat 0)))], [], [], [], []), [(31, 0)], [
  (2, [], [], [], [], [], [], [])], [], 0, 0)
def cu1075 : List sxCu := [
  (2, (3, [(1, .ofNat 0, .ofNat 5), (2, .ofNat 0, .ofNat 12)], [], [(0, .inl 0), (1, .inr (false, (1, .ofNat 0))), (2, .inr (false, (2, .ofNat 0)))], [], [], [], []), ((0, 2, .ofNat 12), (0, 0, .ofNat 0), (0, 0, .ofNat 0)), 0, 0)]
set_option maxRecDepth 1000000 in
theorem cv1075 {gh : sxGh} (hg : sxGd sxKw gh) : sxCtV sxKw gh ct1075 := sxMeB_ok (cts := []) (cuts := cu1075) (sp := []) 111 (by decide +kernel) hg (by decide) (by decide) (fun _ h => absurd h List.not_mem_nil)
/-- LotBeliefs.Course.bury -/
def ct1081 : sxCt := (5, 1, (2, [(1, .ofNat 0, .ofNat 16)], [], [(0, .inl 32), (1, .inr (false, (1, .ofNat 0)))], [], [], [], []), [(32, 11), (32, 12), (34, 0), (36, 0), (37, 0)], [
  (3, [(2, .negSucc 2147483647, .ofNat 2147483647)], [], [], [], [(32, (0, .ofNat 11), .inr (false, (2, .ofNat 0)))], [], [])], [], 0, 0)
def cu1081 : List sxCu := [
  (22, (5, [(1, .ofNat 0, .ofNat 16), (2, .ofNat 0, .ofNat 17), (3, .ofNat 0, .ofNat 17), (4, .negSucc 2147483647, .ofNat 2147483647)], [(2, 3, .ofNat 0)], [(0, .inl 32), (1, .inr (false, (1, .ofNat 0))), (2, .inr (false, (2, .ofNat 0))), (3, .inr (false, (3, .ofNat 0)))], [], [(32, (0, .ofNat 11), .inr (false, (4, .ofNat 0)))], [], []), ((0, 3, .ofNat 17), (0, 0, .ofNat 0), (0, 0, .ofNat 0)), 0, 0)]
set_option maxRecDepth 1000000 in
theorem cv1081 {gh : sxGh} (hg : sxGd sxKw gh) : sxCtV sxKw gh ct1081 := sxMeB_ok (cts := [ct393, ct394]) (cuts := cu1081) (sp := []) 185 (by decide +kernel) hg (by decide) (by decide) (List.forall_mem_cons.mpr ⟨cv393 hg, (List.forall_mem_cons.mpr ⟨cv394 hg, (fun _ h => absurd h List.not_mem_nil)⟩)⟩)
/-- LotBeliefs.Course.lives -/
def ct1082 : sxCt := (6, 0, (3, [(1, .ofNat 0, .ofNat 16), (2, .ofNat 0, .ofNat 16)], [], [(0, .inl 32), (1, .inr (false, (1, .ofNat 0))), (2, .inr (false, (2, .ofNat 0)))], [], [], [], []), [(33000036, 0)], [
  (3, [], [], [], [.inr (false, (0, .ofNat 0))], [], [], []), 
  (3, [], [], [], [.inr (false, (0, .ofNat 1))], [], [], [])], [], 0, 0)
def cu1082 : List sxCu := []
set_option maxRecDepth 1000000 in
theorem cv1082 {gh : sxGh} (hg : sxGd sxKw gh) : sxCtV sxKw gh ct1082 := sxMeB_ok (cts := []) (cuts := cu1082) (sp := []) 196 (by decide +kernel) hg (by decide) (by decide) (fun _ h => absurd h List.not_mem_nil)
/-- LotBeliefs.Course.play -/
def ct1083 : sxCt := (2, 4, (3, [(1, .ofNat 0, .ofNat 17), (2, .ofNat 0, .ofNat 1)], [], [(0, .inl 32), (1, .inl 31), (2, .inr (false, (1, .ofNat 0))), (3, .inr (false, (2, .ofNat 0)))], [], [], [], []), [(21, 0), (22, 0), (25, 0), (26, 0), (32, 9), (32, 11), (32, 12), (33000037, 0)], [
  (5, [(3, .ofNat 0, .ofNat 4095), (4, .negSucc 2147483647, .ofNat 2147483647)], [], [], [], [(32, (0, .ofNat 8), .inr (false, (3, .ofNat 0))), (32, (0, .ofNat 11), .inr (false, (4, .ofNat 0)))], [], [])], [], 0, 0)
def cu1083 : List sxCu := [
  (9, (4, [(1, .ofNat 0, .ofNat 17), (2, .ofNat 0, .ofNat 1), (3, .ofNat 0, .ofNat 17)], [(2, 3, .ofNat 0), (3, 1, .ofNat 1)], [(0, .inl 32), (1, .inl 31), (2, .inr (false, (1, .ofNat 0))), (3, .inr (false, (2, .ofNat 0))), (4, .inr (false, (3, .ofNat 0)))], [], [], [], []), ((0, 3, .ofNat 17), (0, 0, .ofNat 0), (0, 0, .ofNat 0)), 0, 0)]
set_option maxRecDepth 1000000 in
theorem cv1083 {gh : sxGh} (hg : sxGd sxKw gh) : sxCtV sxKw gh ct1083 := sxMeB_ok (cts := [ct536, ct391, ct1081, ct411, ct1082, ct410]) (cuts := cu1083) (sp := []) 134 (by decide +kernel) hg (by decide) (by decide) (List.forall_mem_cons.mpr ⟨cv536 hg, (List.forall_mem_cons.mpr ⟨cv391 hg, (List.forall_mem_cons.mpr ⟨cv1081 hg, (List.forall_mem_cons.mpr ⟨cv411 hg, (List.forall_mem_cons.mpr ⟨cv1082 hg, (List.forall_mem_cons.mpr ⟨cv410 hg, (fun _ h => absurd h List.not_mem_nil)⟩)⟩)⟩)⟩)⟩)⟩)
/-- LotBeliefs.laySalts -/
def ct1097 : sxCt := (188, 1, (2, [(1, .ofNat 0, .ofNat 39)], [], [(0, .inl 0), (1, .inr (false, (1, .ofNat 0)))], [], [], [], []), [(31, 0)], [
  (3, [(2, .ofNat 0, .ofNat 17)], [], [], [.inr (false, (2, .ofNat 0))], [], [], [])], [], 0, 0)
def cu1097 : List sxCu := [
  (4, (4, [(1, .ofNat 0, .ofNat 39), (2, .ofNat 0, .ofNat 5), (3, .ofNat 0, .ofNat 5)], [(2, 3, .ofNat 0)], [(0, .inl 0), (1, .inr (false, (1, .ofNat 0))), (2, .inr (false, (2, .ofNat 0))), (3, .inr (false, (3, .ofNat 0)))], [], [], [], []), ((0, 3, .ofNat 5), (0, 0, .ofNat 0), (0, 0, .ofNat 0)), 0, 0)]
set_option maxRecDepth 1000000 in
theorem cv1097 {gh : sxGh} (hg : sxGd sxKw gh) : sxCtV sxKw gh ct1097 := sxMeB_ok (cts := [ct1075]) (cuts := cu1097) (sp := []) 127 (by decide +kernel) hg (by decide) (by decide) (List.forall_mem_cons.mpr ⟨cv1075 hg, (fun _ h => absurd h List.not_mem_nil)⟩)
/-- LotBeliefs.salted -/
def ct1098 : sxCt := (143, 6, (2, [(1, .negSucc 2147483647, .ofNat 2147483647)], [], [(0, .inl 0), (1, .inr (false, (1, .ofNat 0)))], [], [], [], []), [(21, 0), (22, 0), (25, 0), (26, 0), (30, 0), (31, 0), (32, 1), (32, 2), (32, 3), (32, 4), (32, 9), (32, 11), (32, 12), (33000037, 0)], [
  (3, [(1, .ofNat 0, .ofNat 4095), (2, .negSucc 0, .ofNat 31)], [], [], [.inr (false, (2, .ofNat 0))], [], [], [])], [
  (1, (3, [(2, .negSucc 2147483647, .ofNat 2147483647)], [], [], [], [(30, (0, .ofNat 1), .inr (false, (2, .ofNat 0)))], [], []))], 1, 6)
def cu1098 : List sxCu := [
  (20, (5, [(1, .ofNat 0, .ofNat 4095), (2, .negSucc 0, .ofNat 31), (3, .ofNat 0, .ofNat 6), (4, .ofNat 0, .ofNat 32)], [(2, 4, .negSucc 0)], [(0, .inl 0), (1, .inr (false, (1, .ofNat 0))), (2, .inr (false, (2, .ofNat 0))), (3, .inr (false, (3, .ofNat 0))), (4, .inr (false, (4, .ofNat 0)))], [], [], [], []), ((0, 4, .ofNat 32), (0, 0, .ofNat 0), (0, 0, .ofNat 0)), 0, 0)]
set_option maxRecDepth 1000000 in
theorem cv1098 {gh : sxGh} (hg : sxGd sxKw gh) : sxCtV sxKw gh ct1098 := sxMeB_ok (cts := [ct1083, ct1097, ct891]) (cuts := cu1098) (sp := []) 380 (by decide +kernel) hg (by decide) (by decide) (List.forall_mem_cons.mpr ⟨cv1083 hg, (List.forall_mem_cons.mpr ⟨cv1097 hg, (List.forall_mem_cons.mpr ⟨cv891 hg, (fun _ h => absurd h List.not_mem_nil)⟩)⟩)⟩)
/-- LotBeliefs.Survey.heldInAll -/
def ct1118 : sxCt := (77, 1, (2, [(1, .ofNat 0, .ofNat 4095)], [], [(0, .inl 74), (1, .inr (false, (1, .ofNat 0)))], [], [], [], []), [], [
  (3, [(2, .negSucc 2147483647, .ofNat 2147483647)], [], [], [.inr (false, (2, .ofNat 0))], [], [], [])], [], 0, 0)
def cu1118 : List sxCu := [
  (4, (4, [(1, .ofNat 0, .ofNat 4095), (2, .negSucc 2147483647, .ofNat 2147483647), (3, .ofNat 0, .ofNat 128)], [], [(0, .inl 74), (1, .inr (false, (1, .ofNat 0))), (2, .inr (false, (2, .ofNat 0))), (3, .inr (false, (3, .ofNat 0)))], [], [], [], []), ((0, 3, .ofNat 128), (0, 0, .ofNat 0), (0, 0, .ofNat 0)), 0, 0)]
set_option maxRecDepth 1000000 in
theorem cv1118 {gh : sxGh} (hg : sxGd sxKw gh) : sxCtV sxKw gh ct1118 := sxMeB_ok (cts := [ct903]) (cuts := cu1118) (sp := []) 86 (by decide +kernel) hg (by decide) (by decide) (List.forall_mem_cons.mpr ⟨cv903 hg, (fun _ h => absurd h List.not_mem_nil)⟩)
/-- LotBeliefs.Survey.heldInAll -/
def ct1119 : sxCt := (77, 1, (2, [(1, .ofNat 0, .ofNat 4095)], [], [(0, .inl 70), (1, .inr (false, (1, .ofNat 0)))], [], [], [], []), [], [
  (3, [(2, .negSucc 2147483647, .ofNat 2147483647)], [], [], [.inr (false, (2, .ofNat 0))], [], [], [])], [], 0, 0)
def cu1119 : List sxCu := [
  (4, (4, [(1, .ofNat 0, .ofNat 4095), (2, .negSucc 2147483647, .ofNat 2147483647), (3, .ofNat 0, .ofNat 128)], [], [(0, .inl 70), (1, .inr (false, (1, .ofNat 0))), (2, .inr (false, (2, .ofNat 0))), (3, .inr (false, (3, .ofNat 0)))], [], [], [], []), ((0, 3, .ofNat 128), (0, 0, .ofNat 0), (0, 0, .ofNat 0)), 0, 0)]
set_option maxRecDepth 1000000 in
theorem cv1119 {gh : sxGh} (hg : sxGd sxKw gh) : sxCtV sxKw gh ct1119 := sxMeB_ok (cts := [ct903]) (cuts := cu1119) (sp := []) 86 (by decide +kernel) hg (by decide) (by decide) (List.forall_mem_cons.mpr ⟨cv903 hg, (fun _ h => absurd h List.not_mem_nil)⟩)
/-- LotBeliefsModel.begins -/
def ct1120 : sxCt := (260, 0, (2, [(1, .ofNat 0, .ofNat 3)], [], [(0, .inl 78), (1, .inr (false, (1, .ofNat 0)))], [], [], [], []), [(78, 45), (78, 46), (78, 47), (78, 48), (78, 49), (562000566, 0)], [
  (2, [], [], [], [], [(78, (0, .ofNat 44), .inr (false, (0, .ofNat 0))), (78, (0, .ofNat 45), .inr (false, (0, .ofNat 0))), (78, (0, .ofNat 46), .inr (false, (0, .ofNat 0))), (78, (0, .ofNat 47), .inr (false, (0, .ofNat 0))), (78, (0, .ofNat 48), .inr (false, (1, .ofNat 0)))], [], [])], [], 0, 0)
def cu1120 : List sxCu := [
  (27, (3, [(1, .ofNat 0, .ofNat 3), (2, .ofNat 0, .ofNat 17)], [], [(0, .inl 78), (1, .inr (false, (1, .ofNat 0))), (2, .inr (false, (2, .ofNat 0)))], [], [(78, (0, .ofNat 44), .inr (false, (0, .ofNat 0))), (78, (0, .ofNat 45), .inr (false, (0, .ofNat 0))), (78, (0, .ofNat 46), .inr (false, (0, .ofNat 0))), (78, (0, .ofNat 47), .inr (false, (0, .ofNat 0))), (78, (0, .ofNat 48), .inr (false, (1, .ofNat 0)))], [], []), ((0, 2, .ofNat 17), (0, 0, .ofNat 0), (0, 0, .ofNat 0)), 0, 0)]
set_option maxRecDepth 1000000 in
theorem cv1120 {gh : sxGh} (hg : sxGd sxKw gh) : sxCtV sxKw gh ct1120 := sxMeB_ok (cts := []) (cuts := cu1120) (sp := []) 108 (by decide +kernel) hg (by decide) (by decide) (fun _ h => absurd h List.not_mem_nil)
/-- LotBeliefs.Survey.heldInAll -/
def ct1174 : sxCt := (77, 1, (2, [(1, .ofNat 0, .ofNat 4095)], [], [(0, .inl 66), (1, .inr (false, (1, .ofNat 0)))], [], [], [], []), [], [
  (3, [(2, .negSucc 2147483647, .ofNat 2147483647)], [], [], [.inr (false, (2, .ofNat 0))], [], [], [])], [], 0, 0)
def cu1174 : List sxCu := [
  (4, (4, [(1, .ofNat 0, .ofNat 4095), (2, .negSucc 2147483647, .ofNat 2147483647), (3, .ofNat 0, .ofNat 128)], [], [(0, .inl 66), (1, .inr (false, (1, .ofNat 0))), (2, .inr (false, (2, .ofNat 0))), (3, .inr (false, (3, .ofNat 0)))], [], [], [], []), ((0, 3, .ofNat 128), (0, 0, .ofNat 0), (0, 0, .ofNat 0)), 0, 0)]
set_option maxRecDepth 1000000 in
theorem cv1174 {gh : sxGh} (hg : sxGd sxKw gh) : sxCtV sxKw gh ct1174 := sxMeB_ok (cts := [ct903]) (cuts := cu1174) (sp := []) 86 (by decide +kernel) hg (by decide) (by decide) (List.forall_mem_cons.mpr ⟨cv903 hg, (fun _ h => absurd h List.not_mem_nil)⟩)
/-- LotBeliefsModel.begins -/
def ct1175 : sxCt := (260, 0, (2, [(1, .ofNat 0, .ofNat 2)], [], [(0, .inl 78), (1, .inr (false, (1, .ofNat 0)))], [], [], [], []), [(78, 45), (78, 46), (78, 47), (78, 48), (78, 49), (562000566, 0)], [
  (2, [], [], [], [], [(78, (0, .ofNat 44), .inr (false, (0, .ofNat 0))), (78, (0, .ofNat 45), .inr (false, (0, .ofNat 0))), (78, (0, .ofNat 46), .inr (false, (0, .ofNat 0))), (78, (0, .ofNat 47), .inr (false, (0, .ofNat 0))), (78, (0, .ofNat 48), .inr (false, (1, .ofNat 0)))], [], [])], [], 0, 0)
def cu1175 : List sxCu := [
  (27, (3, [(1, .ofNat 0, .ofNat 2), (2, .ofNat 0, .ofNat 17)], [], [(0, .inl 78), (1, .inr (false, (1, .ofNat 0))), (2, .inr (false, (2, .ofNat 0)))], [], [(78, (0, .ofNat 44), .inr (false, (0, .ofNat 0))), (78, (0, .ofNat 45), .inr (false, (0, .ofNat 0))), (78, (0, .ofNat 46), .inr (false, (0, .ofNat 0))), (78, (0, .ofNat 47), .inr (false, (0, .ofNat 0))), (78, (0, .ofNat 48), .inr (false, (1, .ofNat 0)))], [], []), ((0, 2, .ofNat 17), (0, 0, .ofNat 0), (0, 0, .ofNat 0)), 0, 0)]
set_option maxRecDepth 1000000 in
theorem cv1175 {gh : sxGh} (hg : sxGd sxKw gh) : sxCtV sxKw gh ct1175 := sxMeB_ok (cts := []) (cuts := cu1175) (sp := []) 108 (by decide +kernel) hg (by decide) (by decide) (fun _ h => absurd h List.not_mem_nil)
/-- LotBeliefs.Survey.heldInAll -/
def ct1229 : sxCt := (77, 1, (2, [(1, .ofNat 0, .ofNat 4095)], [], [(0, .inl 62), (1, .inr (false, (1, .ofNat 0)))], [], [], [], []), [], [
  (3, [(2, .negSucc 2147483647, .ofNat 2147483647)], [], [], [.inr (false, (2, .ofNat 0))], [], [], [])], [], 0, 0)
def cu1229 : List sxCu := [
  (4, (4, [(1, .ofNat 0, .ofNat 4095), (2, .negSucc 2147483647, .ofNat 2147483647), (3, .ofNat 0, .ofNat 128)], [], [(0, .inl 62), (1, .inr (false, (1, .ofNat 0))), (2, .inr (false, (2, .ofNat 0))), (3, .inr (false, (3, .ofNat 0)))], [], [], [], []), ((0, 3, .ofNat 128), (0, 0, .ofNat 0), (0, 0, .ofNat 0)), 0, 0)]
set_option maxRecDepth 1000000 in
theorem cv1229 {gh : sxGh} (hg : sxGd sxKw gh) : sxCtV sxKw gh ct1229 := sxMeB_ok (cts := [ct903]) (cuts := cu1229) (sp := []) 86 (by decide +kernel) hg (by decide) (by decide) (List.forall_mem_cons.mpr ⟨cv903 hg, (fun _ h => absurd h List.not_mem_nil)⟩)
/-- LotBeliefsModel.begins -/
def ct1230 : sxCt := (260, 0, (2, [(1, .ofNat 0, .ofNat 1)], [], [(0, .inl 78), (1, .inr (false, (1, .ofNat 0)))], [], [], [], []), [(78, 45), (78, 46), (78, 47), (78, 48), (78, 49), (562000566, 0)], [
  (2, [], [], [], [], [(78, (0, .ofNat 44), .inr (false, (0, .ofNat 0))), (78, (0, .ofNat 45), .inr (false, (0, .ofNat 0))), (78, (0, .ofNat 46), .inr (false, (0, .ofNat 0))), (78, (0, .ofNat 47), .inr (false, (0, .ofNat 0))), (78, (0, .ofNat 48), .inr (false, (1, .ofNat 0)))], [], [])], [], 0, 0)
def cu1230 : List sxCu := [
  (27, (3, [(1, .ofNat 0, .ofNat 1), (2, .ofNat 0, .ofNat 17)], [], [(0, .inl 78), (1, .inr (false, (1, .ofNat 0))), (2, .inr (false, (2, .ofNat 0)))], [], [(78, (0, .ofNat 44), .inr (false, (0, .ofNat 0))), (78, (0, .ofNat 45), .inr (false, (0, .ofNat 0))), (78, (0, .ofNat 46), .inr (false, (0, .ofNat 0))), (78, (0, .ofNat 47), .inr (false, (0, .ofNat 0))), (78, (0, .ofNat 48), .inr (false, (1, .ofNat 0)))], [], []), ((0, 2, .ofNat 17), (0, 0, .ofNat 0), (0, 0, .ofNat 0)), 0, 0)]
set_option maxRecDepth 1000000 in
theorem cv1230 {gh : sxGh} (hg : sxGd sxKw gh) : sxCtV sxKw gh ct1230 := sxMeB_ok (cts := []) (cuts := cu1230) (sp := []) 108 (by decide +kernel) hg (by decide) (by decide) (fun _ h => absurd h List.not_mem_nil)
/-- LotBeliefs.Survey.heldInAll -/
def ct1284 : sxCt := (77, 1, (2, [(1, .ofNat 0, .ofNat 4095)], [], [(0, .inl 58), (1, .inr (false, (1, .ofNat 0)))], [], [], [], []), [], [
  (3, [(2, .negSucc 2147483647, .ofNat 2147483647)], [], [], [.inr (false, (2, .ofNat 0))], [], [], [])], [], 0, 0)
def cu1284 : List sxCu := [
  (4, (4, [(1, .ofNat 0, .ofNat 4095), (2, .negSucc 2147483647, .ofNat 2147483647), (3, .ofNat 0, .ofNat 128)], [], [(0, .inl 58), (1, .inr (false, (1, .ofNat 0))), (2, .inr (false, (2, .ofNat 0))), (3, .inr (false, (3, .ofNat 0)))], [], [], [], []), ((0, 3, .ofNat 128), (0, 0, .ofNat 0), (0, 0, .ofNat 0)), 0, 0)]
set_option maxRecDepth 1000000 in
theorem cv1284 {gh : sxGh} (hg : sxGd sxKw gh) : sxCtV sxKw gh ct1284 := sxMeB_ok (cts := [ct903]) (cuts := cu1284) (sp := []) 86 (by decide +kernel) hg (by decide) (by decide) (List.forall_mem_cons.mpr ⟨cv903 hg, (fun _ h => absurd h List.not_mem_nil)⟩)
/-- LotBeliefs.drawRow -/
def ct1285 : sxCt := (185, 1, (2, [(1, .negSucc 2147483647, .ofNat 2147483647)], [], [(0, .inl 0), (1, .inr (false, (1, .ofNat 0)))], [], [], [], []), [(31, 0)], [
  (2, [], [], [], [], [], [], [])], [], 0, 0)
def cu1285 : List sxCu := [
  (2, (3, [(1, .negSucc 2147483647, .ofNat 2147483647), (2, .ofNat 0, .ofNat 12)], [], [(0, .inl 0), (1, .inr (false, (1, .ofNat 0))), (2, .inr (false, (2, .ofNat 0)))], [], [], [], []), ((0, 2, .ofNat 25), (0, 0, .ofNat 0), (0, 0, .ofNat 0)), 0, 0), 
  (38, (4, [(1, .negSucc 2147483647, .ofNat 2147483647), (2, .negSucc 2147483647, .ofNat 2147483647), (3, .negSucc 0, .ofNat 11)], [], [(0, .inl 0), (1, .inr (false, (1, .ofNat 0))), (2, .inr (false, (2, .ofNat 0))), (3, .inr (false, (3, .ofNat 0)))], [], [], [], []), ((3, 0, .ofNat 1), (0, 0, .ofNat 0), (0, 0, .ofNat 0)), 0, 0)]
set_option maxRecDepth 1000000 in
theorem cv1285 {gh : sxGh} (hg : sxGd sxKw gh) : sxCtV sxKw gh ct1285 := sxMeB_ok (cts := []) (cuts := cu1285) (sp := []) 142 (by decide +kernel) hg (by decide) (by decide) (fun _ h => absurd h List.not_mem_nil)
/-- LotBeliefs.drawn -/
def ct1286 : sxCt := (146, 6, (4, [(1, .negSucc 2147483647, .ofNat 2147483647), (2, .negSucc 2147483647, .ofNat 2147483647), (3, .negSucc 2147483647, .ofNat 2147483647)], [], [(0, .inl 0), (1, .inr (false, (1, .ofNat 0))), (2, .inr (false, (2, .ofNat 0))), (3, .inr (false, (3, .ofNat 0)))], [], [], [], []), [(21, 0), (22, 0), (25, 0), (26, 0), (30, 0), (31, 0), (32, 1), (32, 2), (32, 3), (32, 4), (32, 9), (32, 11), (32, 12), (33000037, 0)], [
  (5, [(1, .ofNat 0, .ofNat 4), (3, .ofNat 1, .ofNat 60), (4, .negSucc 2147483647, .ofNat 2147483647)], [], [], [.inr (false, (4, .ofNat 0))], [], [], [])], [
  (1, (5, [(4, .negSucc 2147483647, .ofNat 2147483647)], [], [], [], [(30, (0, .ofNat 1), .inr (false, (4, .ofNat 0)))], [], []))], 1, 6)
def cu1286 : List sxCu := [
  (33, (8, [(1, .ofNat 0, .ofNat 4), (2, .negSucc 2147483647, .ofNat 2147483647), (3, .ofNat 1, .ofNat 60), (4, .ofNat 0, .ofNat 4095), (5, .negSucc 2147483647, .ofNat 2147483647), (6, .ofNat 0, .ofNat 63), (7, .ofNat 0, .ofNat 63)], [], [(0, .inl 0), (1, .inr (false, (1, .ofNat 0))), (2, .inr (false, (2, .ofNat 0))), (3, .inr (false, (3, .ofNat 0))), (4, .inr (false, (4, .ofNat 0))), (5, .inr (false, (5, .ofNat 0))), (6, .inr (false, (6, .ofNat 0)))], [], [(0, (0, .ofNat 7), .inl 27), (27, (0, .ofNat 2), .inr (false, (7, .ofNat 0)))], [], []), ((0, 6, .ofNat 63), (0, 0, .ofNat 0), (0, 0, .ofNat 0)), 0, 0)]
set_option maxRecDepth 1000000 in
theorem cv1286 {gh : sxGh} (hg : sxGd sxKw gh) : sxCtV sxKw gh ct1286 := sxMeB_ok (cts := [ct537, ct384, ct525, ct1285, ct526]) (cuts := cu1286) (sp := []) 330 (by decide +kernel) hg (by decide) (by decide) (List.forall_mem_cons.mpr ⟨cv537 hg, (List.forall_mem_cons.mpr ⟨cv384 hg, (List.forall_mem_cons.mpr ⟨cv525 hg, (List.forall_mem_cons.mpr ⟨cv1285 hg, (List.forall_mem_cons.mpr ⟨cv526 hg, (fun _ h => absurd h List.not_mem_nil)⟩)⟩)⟩)⟩)⟩)
/-- LotBeliefsModel.rowBy -/
def ct1287 : sxCt := (291, 0, (2, [(1, .negSucc 2147483647, .ofNat 2147483647)], [], [(0, .inl 78), (1, .inr (false, (1, .ofNat 0)))], [], [], [], []), [(78, 44), (560, 0)], [
  (3, [(2, .ofNat 0, .ofNat 12)], [], [], [], [(78, (0, .ofNat 43), .inr (false, (2, .ofNat 0)))], [], [])], [], 0, 0)
def cu1287 : List sxCu := [
  (14, (4, [(1, .negSucc 2147483647, .ofNat 2147483647), (2, .ofNat 0, .ofNat 12), (3, .ofNat 0, .ofNat 12)], [], [(0, .inl 78), (1, .inr (false, (1, .ofNat 0))), (2, .inr (false, (1, .ofNat 0))), (3, .inr (false, (2, .ofNat 0)))], [], [(78, (0, .ofNat 12), .inl 82), (78, (0, .ofNat 43), .inr (false, (3, .ofNat 0))), (82, (0, .ofNat 1), .inr (false, (3, .ofNat 0)))], [], []), ((0, 2, .ofNat 25), (0, 0, .ofNat 0), (0, 0, .ofNat 0)), 0, 0), 
  (42, (5, [(1, .negSucc 2147483647, .ofNat 2147483647), (2, .negSucc 2147483647, .ofNat 2147483647), (3, .negSucc 0, .ofNat 11), (4, .ofNat 0, .ofNat 12)], [(3, 4, .negSucc 0)], [(0, .inl 78), (1, .inr (false, (1, .ofNat 0))), (2, .inr (false, (2, .ofNat 0))), (3, .inr (false, (3, .ofNat 0)))], [], [(78, (0, .ofNat 12), .inl 82), (78, (0, .ofNat 43), .inr (false, (4, .ofNat 0))), (82, (0, .ofNat 1), .inr (false, (4, .ofNat 0)))], [], []), ((3, 0, .ofNat 1), (0, 0, .ofNat 0), (0, 0, .ofNat 0)), 0, 0)]
set_option maxRecDepth 1000000 in
theorem cv1287 {gh : sxGh} (hg : sxGd sxKw gh) : sxCtV sxKw gh ct1287 := sxMeB_ok (cts := []) (cuts := cu1287) (sp := []) 125 (by decide +kernel) hg (by decide) (by decide) (fun _ h => absurd h List.not_mem_nil)
/-- LotBeliefs.runSchool -/
def ct1300 : sxCt := (189, 5, (2, [(1, .ofNat 0, .ofNat 1)], [], [(0, .inl 0), (1, .inl 32), (2, .inr (false, (1, .ofNat 0)))], [], [], [], []), [(21, 0), (22, 0), (25, 0), (26, 0), (31, 0), (32, 1), (32, 2), (32, 3), (32, 4), (32, 9), (32, 11), (32, 12), (33000037, 0)], [
  (6, [(2, .ofNat 0, .ofNat 4), (3, .ofNat 0, .ofNat 63), (4, .ofNat 0, .ofNat 4095), (5, .negSucc 2147483647, .ofNat 2147483647)], [], [], [], [(32, (0, .ofNat 2), .inr (false, (2, .ofNat 0))), (32, (0, .ofNat 3), .inr (false, (3, .ofNat 0))), (32, (0, .ofNat 8), .inr (false, (4, .ofNat 0))), (32, (0, .ofNat 11), .inr (false, (5, .ofNat 0)))], [], [])], [], 0, 0)
def cu1300 : List sxCu := [
  (2, (3, [(1, .ofNat 0, .ofNat 1), (2, .ofNat 0, .ofNat 12)], [], [(0, .inl 0), (1, .inl 32), (2, .inr (false, (1, .ofNat 0))), (3, .inr (false, (2, .ofNat 0)))], [], [], [], []), ((0, 2, .ofNat 12), (0, 0, .ofNat 0), (0, 0, .ofNat 0)), 0, 0)]
set_option maxRecDepth 1000000 in
theorem cv1300 {gh : sxGh} (hg : sxGd sxKw gh) : sxCtV sxKw gh ct1300 := sxMeB_ok (cts := [ct537]) (cuts := cu1300) (sp := []) 241 (by decide +kernel) hg (by decide) (by decide) (List.forall_mem_cons.mpr ⟨cv537 hg, (fun _ h => absurd h List.not_mem_nil)⟩)
/-- LotBeliefs.right -/
def ct1350 : sxCt := (150, 6, (2, [(1, .negSucc 2147483647, .ofNat 2147483647)], [], [(0, .inl 0), (1, .inr (false, (1, .ofNat 0)))], [], [], [], []), [(21, 0), (22, 0), (25, 0), (26, 0), (30, 0), (31, 0), (32, 1), (32, 2), (32, 3), (32, 4), (32, 9), (32, 11), (32, 12), (33000037, 0)], [
  (7, [(1, .ofNat 0, .ofNat 1), (2, .negSucc 0, .ofNat 51), (3, .ofNat 0, .ofNat 4), (4, .ofNat 0, .ofNat 63), (5, .ofNat 0, .ofNat 4095), (6, .negSucc 2147483647, .ofNat 2147483647)], [], [], [.inr (false, (2, .ofNat 0))], [(32, (0, .ofNat 2), .inr (false, (3, .ofNat 0))), (32, (0, .ofNat 3), .inr (false, (4, .ofNat 0))), (32, (0, .ofNat 8), .inr (false, (5, .ofNat 0))), (32, (0, .ofNat 11), .inr (false, (6, .ofNat 0)))], [], [])], [
  (1, (3, [(2, .negSucc 2147483647, .ofNat 2147483647)], [], [], [], [(30, (0, .ofNat 1), .inr (false, (2, .ofNat 0)))], [], []))], 1, 6)
def cu1350 : List sxCu := [
  (17, (7, [(1, .ofNat 0, .ofNat 1), (2, .ofNat 0, .ofNat 52), (3, .ofNat 0, .ofNat 4), (4, .ofNat 0, .ofNat 63), (5, .ofNat 0, .ofNat 4095), (6, .negSucc 2147483647, .ofNat 2147483647)], [], [(0, .inl 0), (1, .inr (false, (1, .ofNat 0))), (2, .inr (false, (2, .ofNat 0)))], [], [(0, (0, .ofNat 12), .inl 32), (32, (0, .ofNat 2), .inr (false, (3, .ofNat 0))), (32, (0, .ofNat 3), .inr (false, (4, .ofNat 0))), (32, (0, .ofNat 8), .inr (false, (5, .ofNat 0))), (32, (0, .ofNat 11), .inr (false, (6, .ofNat 0)))], [], []), ((0, 2, .ofNat 52), (0, 0, .ofNat 0), (0, 0, .ofNat 0)), 0, 0)]
set_option maxRecDepth 1000000 in
theorem cv1350 {gh : sxGh} (hg : sxGd sxKw gh) : sxCtV sxKw gh ct1350 := sxMeB_ok (cts := [ct431, ct529, ct524, ct1300]) (cuts := cu1350) (sp := []) 153 (by decide +kernel) hg (by decide) (by decide) (List.forall_mem_cons.mpr ⟨cv431 hg, (List.forall_mem_cons.mpr ⟨cv529 hg, (List.forall_mem_cons.mpr ⟨cv524 hg, (List.forall_mem_cons.mpr ⟨cv1300 hg, (fun _ h => absurd h List.not_mem_nil)⟩)⟩)⟩)⟩)
/-- LotBeliefsModel.togetherIn -/
def ct1367 : sxCt := (275, 0, (3, [(1, .negSucc 2147483647, .ofNat 2147483647), (2, .ofNat 0, .ofNat 51)], [], [(0, .inl 78), (1, .inr (false, (1, .ofNat 0))), (2, .inr (false, (2, .ofNat 0)))], [], [], [], []), [], [
  (4, [(3, .negSucc 9223372036854775807, .ofNat 9223372036854775807)], [], [], [.inr (true, (3, .ofNat 0))], [], [], [])], [], 0, 0)
def cu1367 : List sxCu := [
  (10, (5, [(1, .negSucc 2147483647, .ofNat 2147483647), (2, .ofNat 0, .ofNat 51), (3, .negSucc 9223372036854775807, .ofNat 9223372036854775807), (4, .ofNat 0, .ofNat 12)], [], [(0, .inl 78), (1, .inr (false, (1, .ofNat 0))), (2, .inr (false, (2, .ofNat 0))), (3, .inr (true, (3, .ofNat 0))), (5, .inr (false, (4, .ofNat 0)))], [], [(78, (0, .ofNat 19), .inl 89)], [], []), ((0, 4, .ofNat 12), (0, 0, .ofNat 0), (0, 0, .ofNat 0)), 0, 0)]
set_option maxRecDepth 1000000 in
theorem cv1367 {gh : sxGh} (hg : sxGd sxKw gh) : sxCtV sxKw gh ct1367 := sxMeB_ok (cts := []) (cuts := cu1367) (sp := []) 97 (by decide +kernel) hg (by decide) (by decide) (fun _ h => absurd h List.not_mem_nil)
/-- LotBeliefs.killer -/
def ct1370 : sxCt := (152, 6, (2, [(1, .negSucc 2147483647, .ofNat 2147483647)], [], [(0, .inl 0), (1, .inr (false, (1, .ofNat 0)))], [], [], [], []), [(21, 0), (22, 0), (25, 0), (26, 0), (30, 0), (32, 1), (32, 2), (32, 3), (32, 4), (32, 9), (32, 11), (32, 12), (33000037, 0)], [
  (7, [(1, .ofNat 0, .ofNat 11), (2, .negSucc 0, .ofNat 11), (3, .ofNat 0, .ofNat 4), (4, .ofNat 0, .ofNat 63), (5, .ofNat 0, .ofNat 4095), (6, .negSucc 2147483647, .ofNat 2147483647)], [], [], [.inr (false, (2, .ofNat 0))], [(32, (0, .ofNat 2), .inr (false, (3, .ofNat 0))), (32, (0, .ofNat 3), .inr (false, (4, .ofNat 0))), (32, (0, .ofNat 8), .inr (false, (5, .ofNat 0))), (32, (0, .ofNat 11), .inr (false, (6, .ofNat 0)))], [], [])], [
  (0, (3, [(2, .negSucc 2147483647, .ofNat 2147483647)], [], [], [], [(30, (0, .ofNat 0), .inr (false, (2, .ofNat 0)))], [], []))], 1, 6)
def cu1370 : List sxCu := [
  (36, (8, [(1, .ofNat 0, .ofNat 11), (2, .negSucc 9223372036854775807, .ofNat 9223372036854775807), (3, .ofNat 0, .ofNat 12), (4, .ofNat 0, .ofNat 4), (5, .ofNat 0, .ofNat 63), (6, .ofNat 0, .ofNat 4095), (7, .negSucc 2147483647, .ofNat 2147483647)], [], [(0, .inl 0), (1, .inr (false, (1, .ofNat 0))), (2, .inr (true, (2, .ofNat 0))), (4, .inr (false, (3, .ofNat 0)))], [], [(0, (0, .ofNat 7), .inl 27), (0, (0, .ofNat 12), .inl 32), (27, (0, .ofNat 0), .inl 28), (27, (0, .ofNat 1), .inr (false, (4, .ofNat 0))), (27, (0, .ofNat 2), .inr (false, (5, .ofNat 0))), (32, (0, .ofNat 2), .inr (false, (4, .ofNat 0))), (32, (0, .ofNat 3), .inr (false, (5, .ofNat 0))), (32, (0, .ofNat 7), .inl 36), (32, (0, .ofNat 8), .inr (false, (6, .ofNat 0))), (32, (0, .ofNat 11), .inr (false, (7, .ofNat 0)))], [], []), ((0, 3, .ofNat 12), (0, 0, .ofNat 0), (0, 0, .ofNat 0)), 0, 0)]
set_option maxRecDepth 1000000 in
theorem cv1370 {gh : sxGh} (hg : sxGd sxKw gh) : sxCtV sxKw gh ct1370 := sxMeB_ok (cts := [ct430]) (cuts := cu1370) (sp := []) 392 (by decide +kernel) hg (by decide) (by decide) (List.forall_mem_cons.mpr ⟨cv430 hg, (fun _ h => absurd h List.not_mem_nil)⟩)
/-- LotBeliefs.following -/
def ct1373 : sxCt := (154, 3, (3, [(1, .negSucc 2147483647, .ofNat 2147483647), (2, .negSucc 2147483647, .ofNat 2147483647)], [], [(0, .inl 0), (1, .inr (false, (1, .ofNat 0))), (2, .inr (false, (2, .ofNat 0)))], [], [], [], []), [(30, 0)], [
  (4, [(1, .ofNat 0, .ofNat 4095), (2, .ofNat 0, .ofNat 51), (3, .ofNat 0, .ofNat 4095)], [], [], [.inr (false, (3, .ofNat 0))], [], [], [])], [
  (1, (4, [(3, .negSucc 2147483647, .ofNat 2147483647)], [], [], [], [(30, (0, .ofNat 1), .inr (false, (3, .ofNat 0)))], [], []))], 1, 6)
def cu1373 : List sxCu := [
  (33, (6, [(1, .ofNat 0, .ofNat 4095), (2, .ofNat 0, .ofNat 51), (3, .negSucc 9223372036854775807, .ofNat 9223372036854775807), (4, .ofNat 0, .ofNat 4095), (5, .ofNat 0, .ofNat 12)], [], [(0, .inl 0), (1, .inr (false, (1, .ofNat 0))), (2, .inr (false, (2, .ofNat 0))), (3, .inr (true, (3, .ofNat 0))), (5, .inr (false, (4, .ofNat 0))), (6, .inr (false, (5, .ofNat 0)))], [], [], [], []), ((0, 5, .ofNat 12), (0, 0, .ofNat 0), (0, 0, .ofNat 0)), 0, 0)]
set_option maxRecDepth 1000000 in
theorem cv1373 {gh : sxGh} (hg : sxGd sxKw gh) : sxCtV sxKw gh ct1373 := sxMeB_ok (cts := [ct529, ct524]) (cuts := cu1373) (sp := []) 295 (by decide +kernel) hg (by decide) (by decide) (List.forall_mem_cons.mpr ⟨cv529 hg, (List.forall_mem_cons.mpr ⟨cv524 hg, (fun _ h => absurd h List.not_mem_nil)⟩)⟩)
/-- LotBeliefsModel.followingOf -/
def ct1374 : sxCt := (298, 0, (2, [(1, .negSucc 9223372036854775807, .ofNat 9223372036854775807)], [], [(0, .inl 78), (1, .inr (true, (1, .ofNat 0)))], [], [], [], []), [], [
  (3, [(2, .ofNat 0, .ofNat 4095)], [], [], [.inr (false, (2, .ofNat 0))], [], [], [])], [], 0, 0)
def cu1374 : List sxCu := [
  (5, (4, [(1, .negSucc 9223372036854775807, .ofNat 9223372036854775807), (2, .ofNat 0, .ofNat 4095), (3, .ofNat 0, .ofNat 12)], [], [(0, .inl 78), (1, .inr (true, (1, .ofNat 0))), (3, .inr (false, (2, .ofNat 0))), (4, .inr (false, (3, .ofNat 0)))], [], [], [], []), ((0, 3, .ofNat 12), (0, 0, .ofNat 0), (0, 0, .ofNat 0)), 0, 0)]
set_option maxRecDepth 1000000 in
theorem cv1374 {gh : sxGh} (hg : sxGd sxKw gh) : sxCtV sxKw gh ct1374 := sxMeB_ok (cts := []) (cuts := cu1374) (sp := []) 104 (by decide +kernel) hg (by decide) (by decide) (fun _ h => absurd h List.not_mem_nil)
/-- LotBeliefs.eldest -/
def ct1375 : sxCt := (155, 6, (2, [(1, .negSucc 2147483647, .ofNat 2147483647)], [], [(0, .inl 0), (1, .inr (false, (1, .ofNat 0)))], [], [], [], []), [(21, 0), (22, 0), (25, 0), (26, 0), (30, 0), (32, 1), (32, 2), (32, 3), (32, 4), (32, 9), (32, 11), (32, 12), (33000037, 0)], [
  (7, [(1, .ofNat 0, .ofNat 51), (2, .negSucc 0, .ofNat 16), (3, .ofNat 0, .ofNat 4), (4, .ofNat 0, .ofNat 63), (5, .ofNat 0, .ofNat 4095), (6, .negSucc 2147483647, .ofNat 2147483647)], [], [], [.inr (false, (2, .ofNat 0))], [(32, (0, .ofNat 2), .inr (false, (3, .ofNat 0))), (32, (0, .ofNat 3), .inr (false, (4, .ofNat 0))), (32, (0, .ofNat 8), .inr (false, (5, .ofNat 0))), (32, (0, .ofNat 11), .inr (false, (6, .ofNat 0)))], [], [])], [
  (1, (3, [(2, .negSucc 2147483647, .ofNat 2147483647)], [], [], [], [(30, (0, .ofNat 1), .inr (false, (2, .ofNat 0)))], [], []))], 1, 6)
def cu1375 : List sxCu := [
  (20, (8, [(1, .ofNat 0, .ofNat 51), (2, .ofNat 0, .ofNat 4095), (3, .ofNat 0, .ofNat 12), (4, .ofNat 0, .ofNat 4), (5, .ofNat 0, .ofNat 63), (6, .ofNat 0, .ofNat 4095), (7, .negSucc 2147483647, .ofNat 2147483647)], [], [(0, .inl 0), (1, .inr (false, (1, .ofNat 0))), (2, .inr (false, (2, .ofNat 0))), (3, .inr (false, (3, .ofNat 0)))], [], [(0, (0, .ofNat 7), .inl 27), (0, (0, .ofNat 12), .inl 32), (27, (0, .ofNat 0), .inl 28), (27, (0, .ofNat 1), .inr (false, (4, .ofNat 0))), (27, (0, .ofNat 2), .inr (false, (5, .ofNat 0))), (32, (0, .ofNat 2), .inr (false, (4, .ofNat 0))), (32, (0, .ofNat 3), .inr (false, (5, .ofNat 0))), (32, (0, .ofNat 8), .inr (false, (6, .ofNat 0))), (32, (0, .ofNat 11), .inr (false, (7, .ofNat 0)))], [], []), ((0, 3, .ofNat 12), (0, 0, .ofNat 0), (0, 0, .ofNat 0)), 0, 0)]
set_option maxRecDepth 1000000 in
theorem cv1375 {gh : sxGh} (hg : sxGd sxKw gh) : sxCtV sxKw gh ct1375 := sxMeB_ok (cts := [ct430, ct431]) (cuts := cu1375) (sp := []) 309 (by decide +kernel) hg (by decide) (by decide) (List.forall_mem_cons.mpr ⟨cv430 hg, (List.forall_mem_cons.mpr ⟨cv431 hg, (fun _ h => absurd h List.not_mem_nil)⟩)⟩)
end SXC
