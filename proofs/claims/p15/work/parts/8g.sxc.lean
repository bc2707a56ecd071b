/-! SX: contracts, by program -/
section SXC
/-- LotBeliefs.fate -/
def ct517 : sxCt := (131, 6, (3, [(1, .negSucc 2147483647, .ofNat 2147483647), (2, .negSucc 2147483647, .ofNat 2147483647)], [], [(0, .inl 0), (1, .inr (false, (1, .ofNat 0))), (2, .inr (false, (2, .ofNat 0)))], [], [], [], []), [(21, 0), (22, 0), (25, 0), (26, 0), (30, 0), (32, 1), (32, 2), (32, 3), (32, 4), (32, 9), (32, 11), (32, 12), (33000037, 0)], [
  (8, [(1, .ofNat 0, .ofNat 11), (2, .ofNat 0, .ofNat 4), (3, .negSucc 50, .ofNat 52), (4, .ofNat 0, .ofNat 4), (5, .ofNat 0, .ofNat 63), (6, .ofNat 0, .ofNat 4095), (7, .negSucc 2147483647, .ofNat 2147483647)], [], [], [.inr (false, (3, .ofNat 0))], [(32, (0, .ofNat 2), .inr (false, (4, .ofNat 0))), (32, (0, .ofNat 3), .inr (false, (5, .ofNat 0))), (32, (0, .ofNat 8), .inr (false, (6, .ofNat 0))), (32, (0, .ofNat 11), .inr (false, (7, .ofNat 0)))], [], [])], [
  (0, (4, [(3, .negSucc 2147483647, .ofNat 2147483647)], [], [], [], [(30, (0, .ofNat 0), .inr (false, (3, .ofNat 0)))], [], [])), 
  (1, (4, [(1, .ofNat 0, .ofNat 11), (3, .negSucc 2147483647, .ofNat 2147483647)], [], [], [], [(30, (0, .ofNat 1), .inr (false, (3, .ofNat 0)))], [], []))], 1, 6)
def cu517 : List sxCu := []
set_option maxRecDepth 1000000 in
theorem cv517 {gh : sxGh} (hg : sxGd sxKw gh) : sxCtV sxKw gh ct517 := sxMeB_ok (cts := [ct427]) (cuts := cu517) (sp := []) 771 (by decide +kernel) hg (by decide) (by decide) (List.forall_mem_cons.mpr ⟨cv427 hg, (fun _ h => absurd h List.not_mem_nil)⟩)
/-- LotBeliefs.Jar.common -/
def ct521 : sxCt := (28, 0, (3, [(1, .ofNat 0, .ofNat 4095), (2, .ofNat 0, .ofNat 51)], [], [(0, .inl 11), (1, .inr (false, (1, .ofNat 0))), (2, .inr (false, (2, .ofNat 0)))], [], [], [], []), [], [
  (4, [(3, .negSucc 9223372036854775807, .ofNat 9223372036854775807)], [], [], [.inr (true, (3, .ofNat 0))], [], [], [])], [], 0, 0)
def cu521 : List sxCu := [
  (10, (5, [(1, .ofNat 0, .ofNat 4095), (2, .ofNat 0, .ofNat 51), (3, .negSucc 9223372036854775807, .ofNat 9223372036854775807), (4, .ofNat 0, .ofNat 12)], [], [(0, .inl 11), (1, .inr (false, (1, .ofNat 0))), (2, .inr (false, (2, .ofNat 0))), (3, .inr (true, (3, .ofNat 0))), (5, .inr (false, (4, .ofNat 0)))], [], [(11, (0, .ofNat 11), .inl 16)], [], []), ((0, 4, .ofNat 12), (0, 0, .ofNat 0), (0, 0, .ofNat 0)), 0, 0)]
set_option maxRecDepth 1000000 in
theorem cv521 {gh : sxGh} (hg : sxGd sxKw gh) : sxCtV sxKw gh ct521 := sxMeB_ok (cts := []) (cuts := cu521) (sp := []) 90 (by decide +kernel) hg (by decide) (by decide) (fun _ h => absurd h List.not_mem_nil)
/-- LotBeliefs.Jar.slipsSoIn -/
def ct522 : sxCt := (26, 1, (2, [(1, .ofNat 0, .ofNat 63)], [], [(0, .inl 11), (1, .inr (false, (1, .ofNat 0)))], [], [], [], []), [], [
  (3, [(2, .ofNat 0, .ofNat 4095)], [], [], [.inr (false, (2, .ofNat 0))], [], [], [])], [], 0, 0)
def cu522 : List sxCu := [
  (4, (4, [(1, .ofNat 0, .ofNat 63), (2, .ofNat 0, .ofNat 4095), (3, .ofNat 0, .ofNat 12)], [], [(0, .inl 11), (1, .inr (false, (1, .ofNat 0))), (2, .inr (false, (2, .ofNat 0))), (3, .inr (false, (3, .ofNat 0)))], [], [], [], []), ((0, 3, .ofNat 12), (0, 0, .ofNat 0), (0, 0, .ofNat 0)), 0, 0)]
set_option maxRecDepth 1000000 in
theorem cv522 {gh : sxGh} (hg : sxGd sxKw gh) : sxCtV sxKw gh ct522 := sxMeB_ok (cts := []) (cuts := cu522) (sp := []) 103 (by decide +kernel) hg (by decide) (by decide) (fun _ h => absurd h List.not_mem_nil)
/-- Integer.bitCount -/
def ct523 : sxCt := (327, 0, (2, [(1, .ofNat 0, .ofNat 4095)], [], [(0, .inr (false, (1, .ofNat 0)))], [], [], [], []), [], [
  (3, [(2, .ofNat 0, .ofNat 63)], [], [], [.inr (false, (2, .ofNat 0))], [], [], [])], [], 0, 0)
def cu523 : List sxCu := []
set_option maxRecDepth 1000000 in
theorem cv523 {gh : sxGh} (hg : sxGd sxKw gh) : sxCtV sxKw gh ct523 := sxMeB_ok (cts := []) (cuts := cu523) (sp := []) 102 (by decide +kernel) hg (by decide) (by decide) (fun _ h => absurd h List.not_mem_nil)
/-- LotBeliefs.Course.hurtsInAll -/
def ct524 : sxCt := (12, 2, (1, [], [], [(0, .inl 32)], [], [], [], []), [], [
  (2, [(1, .negSucc 2147483647, .ofNat 2147483647)], [], [], [.inr (false, (1, .ofNat 0))], [], [], [])], [], 0, 0)
def cu524 : List sxCu := [
  (4, (3, [(1, .negSucc 2147483647, .ofNat 2147483647), (2, .ofNat 0, .ofNat 12)], [], [(0, .inl 32), (1, .inr (false, (1, .ofNat 0))), (2, .inr (false, (2, .ofNat 0)))], [], [], [], []), ((0, 2, .ofNat 12), (0, 0, .ofNat 0), (0, 0, .ofNat 0)), 0, 0)]
set_option maxRecDepth 1000000 in
theorem cv524 {gh : sxGh} (hg : sxGd sxKw gh) : sxCtV sxKw gh ct524 := sxMeB_ok (cts := []) (cuts := cu524) (sp := []) 211 (by decide +kernel) hg (by decide) (by decide) (fun _ h => absurd h List.not_mem_nil)
/-- LotBeliefs.Course.gone -/
def ct525 : sxCt := (13, 0, (2, [(1, .ofNat 0, .ofNat 1)], [], [(0, .inl 32), (1, .inr (false, (1, .ofNat 0)))], [], [], [], []), [], [
  (3, [(2, .ofNat 0, .ofNat 12)], [], [], [.inr (false, (2, .ofNat 0))], [], [], [])], [], 0, 0)
def cu525 : List sxCu := [
  (4, (4, [(1, .ofNat 0, .ofNat 1), (2, .ofNat 0, .ofNat 12), (3, .ofNat 0, .ofNat 12)], [(2, 3, .ofNat 0)], [(0, .inl 32), (1, .inr (false, (1, .ofNat 0))), (2, .inr (false, (2, .ofNat 0))), (3, .inr (false, (3, .ofNat 0)))], [], [], [], []), ((0, 3, .ofNat 12), (0, 0, .ofNat 0), (0, 0, .ofNat 0)), 0, 0)]
set_option maxRecDepth 1000000 in
theorem cv525 {gh : sxGh} (hg : sxGd sxKw gh) : sxCtV sxKw gh ct525 := sxMeB_ok (cts := []) (cuts := cu525) (sp := []) 129 (by decide +kernel) hg (by decide) (by decide) (fun _ h => absurd h List.not_mem_nil)
/-- LotBeliefs.Jar.common -/
def ct526 : sxCt := (28, 0, (3, [(1, .ofNat 0, .ofNat 4095), (2, .ofNat 0, .ofNat 51)], [], [(0, .inl 3), (1, .inr (false, (1, .ofNat 0))), (2, .inr (false, (2, .ofNat 0)))], [], [], [], []), [], [
  (4, [(3, .negSucc 9223372036854775807, .ofNat 9223372036854775807)], [], [], [.inr (true, (3, .ofNat 0))], [], [], [])], [], 0, 0)
def cu526 : List sxCu := [
  (10, (5, [(1, .ofNat 0, .ofNat 4095), (2, .ofNat 0, .ofNat 51), (3, .negSucc 9223372036854775807, .ofNat 9223372036854775807), (4, .ofNat 0, .ofNat 12)], [], [(0, .inl 3), (1, .inr (false, (1, .ofNat 0))), (2, .inr (false, (2, .ofNat 0))), (3, .inr (true, (3, .ofNat 0))), (5, .inr (false, (4, .ofNat 0)))], [], [(3, (0, .ofNat 11), .inl 8)], [], []), ((0, 4, .ofNat 12), (0, 0, .ofNat 0), (0, 0, .ofNat 0)), 0, 0)]
set_option maxRecDepth 1000000 in
theorem cv526 {gh : sxGh} (hg : sxGd sxKw gh) : sxCtV sxKw gh ct526 := sxMeB_ok (cts := []) (cuts := cu526) (sp := []) 90 (by decide +kernel) hg (by decide) (by decide) (fun _ h => absurd h List.not_mem_nil)
/-- LotBeliefs.year -/
def ct527 : sxCt := (132, 6, (2, [(1, .negSucc 2147483647, .ofNat 2147483647)], [], [(0, .inl 0), (1, .inr (false, (1, .ofNat 0)))], [], [], [], []), [(21, 0), (22, 0), (25, 0), (26, 0), (30, 0), (32, 1), (32, 2), (32, 3), (32, 4), (32, 9), (32, 11), (32, 12), (33000037, 0)], [
  (7, [(1, .ofNat 0, .ofNat 5), (2, .negSucc 2147483647, .ofNat 2147483647), (3, .ofNat 0, .ofNat 4), (4, .ofNat 0, .ofNat 63), (5, .ofNat 0, .ofNat 4095), (6, .negSucc 2147483647, .ofNat 2147483647)], [], [], [.inr (false, (2, .ofNat 0))], [(32, (0, .ofNat 2), .inr (false, (3, .ofNat 0))), (32, (0, .ofNat 3), .inr (false, (4, .ofNat 0))), (32, (0, .ofNat 8), .inr (false, (5, .ofNat 0))), (32, (0, .ofNat 11), .inr (false, (6, .ofNat 0)))], [], [])], [
  (1, (3, [(2, .negSucc 2147483647, .ofNat 2147483647)], [], [], [], [(30, (0, .ofNat 1), .inr (false, (2, .ofNat 0)))], [], []))], 1, 6)
def cu527 : List sxCu := []
set_option maxRecDepth 1000000 in
theorem cv527 {gh : sxGh} (hg : sxGd sxKw gh) : sxCtV sxKw gh ct527 := sxMeB_ok (cts := [ct427, ct524, ct525, ct384, ct522, ct521, ct526, ct523]) (cuts := cu527) (sp := []) 462 (by decide +kernel) hg (by decide) (by decide) (List.forall_mem_cons.mpr ⟨cv427 hg, (List.forall_mem_cons.mpr ⟨cv524 hg, (List.forall_mem_cons.mpr ⟨cv525 hg, (List.forall_mem_cons.mpr ⟨cv384 hg, (List.forall_mem_cons.mpr ⟨cv522 hg, (List.forall_mem_cons.mpr ⟨cv521 hg, (List.forall_mem_cons.mpr ⟨cv526 hg, (List.forall_mem_cons.mpr ⟨cv523 hg, (fun _ h => absurd h List.not_mem_nil)⟩)⟩)⟩)⟩)⟩)⟩)⟩)⟩)
/-- LotBeliefsModel.togetherIn -/
def ct528 : sxCt := (274, 0, (3, [(1, .ofNat 0, .ofNat 4095), (2, .ofNat 0, .ofNat 51)], [], [(0, .inl 78), (1, .inr (false, (1, .ofNat 0))), (2, .inr (false, (2, .ofNat 0)))], [], [], [], []), [], [
  (4, [(3, .negSucc 9223372036854775807, .ofNat 9223372036854775807)], [], [], [.inr (true, (3, .ofNat 0))], [], [], [])], [], 0, 0)
def cu528 : List sxCu := [
  (10, (5, [(1, .ofNat 0, .ofNat 4095), (2, .ofNat 0, .ofNat 51), (3, .negSucc 9223372036854775807, .ofNat 9223372036854775807), (4, .ofNat 0, .ofNat 12)], [], [(0, .inl 78), (1, .inr (false, (1, .ofNat 0))), (2, .inr (false, (2, .ofNat 0))), (3, .inr (true, (3, .ofNat 0))), (5, .inr (false, (4, .ofNat 0)))], [], [(78, (0, .ofNat 19), .inl 89)], [], []), ((0, 4, .ofNat 12), (0, 0, .ofNat 0), (0, 0, .ofNat 0)), 0, 0)]
set_option maxRecDepth 1000000 in
theorem cv528 {gh : sxGh} (hg : sxGd sxKw gh) : sxCtV sxKw gh ct528 := sxMeB_ok (cts := []) (cuts := cu528) (sp := []) 97 (by decide +kernel) hg (by decide) (by decide) (fun _ h => absurd h List.not_mem_nil)
/-- LotBeliefsModel.ones -/
def ct529 : sxCt := (224, 0, (2, [(1, .ofNat 0, .ofNat 4095)], [], [(0, .inr (true, (1, .ofNat 0)))], [], [], [], []), [], [
  (3, [(2, .negSucc 2147483647, .ofNat 2147483647)], [], [], [.inr (false, (2, .ofNat 0))], [], [], [])], [], 0, 0)
def cu529 : List sxCu := [
  (4, (4, [(1, .ofNat 0, .ofNat 4095), (2, .negSucc 2147483647, .ofNat 2147483647), (3, .ofNat 0, .ofNat 64)], [], [(0, .inr (true, (1, .ofNat 0))), (2, .inr (false, (2, .ofNat 0))), (3, .inr (false, (3, .ofNat 0)))], [], [], [], []), ((0, 3, .ofNat 64), (0, 0, .ofNat 0), (0, 0, .ofNat 0)), 0, 0)]
set_option maxRecDepth 1000000 in
theorem cv529 {gh : sxGh} (hg : sxGd sxKw gh) : sxCtV sxKw gh ct529 := sxMeB_ok (cts := []) (cuts := cu529) (sp := []) 80 (by decide +kernel) hg (by decide) (by decide) (fun _ h => absurd h List.not_mem_nil)
/-- LotBeliefs.copyOrder -/
def ct532 : sxCt := (183, 0, (2, [(1, .ofNat 0, .ofNat 1)], [], [(0, .inl 0), (1, .inr (false, (1, .ofNat 0)))], [], [], [], []), [(31, 0)], [
  (2, [], [], [], [], [], [], [])], [], 0, 0)
def cu532 : List sxCu := [
  (2, (3, [(1, .ofNat 0, .ofNat 1), (2, .ofNat 0, .ofNat 12)], [], [(0, .inl 0), (1, .inr (false, (1, .ofNat 0))), (2, .inr (false, (2, .ofNat 0)))], [], [], [], []), ((0, 2, .ofNat 12), (0, 0, .ofNat 0), (0, 0, .ofNat 0)), 0, 0)]
set_option maxRecDepth 1000000 in
theorem cv532 {gh : sxGh} (hg : sxGd sxKw gh) : sxCtV sxKw gh ct532 := sxMeB_ok (cts := []) (cuts := cu532) (sp := []) 111 (by decide +kernel) hg (by decide) (by decide) (fun _ h => absurd h List.not_mem_nil)
/-- LotBeliefs.Course.goBack -/
def ct533 : sxCt := (3, 1, (2, [(1, .ofNat 0, .ofNat 1)], [], [(0, .inl 32), (1, .inl 31), (2, .inr (false, (1, .ofNat 0)))], [], [], [], []), [(32, 11), (32, 12), (33000037, 0)], [
  (3, [(2, .ofNat 0, .ofNat 17)], [], [], [], [(32, (0, .ofNat 10), .inr (false, (2, .ofNat 0)))], [], [])], [], 0, 0)
def cu533 : List sxCu := [
  (12, (3, [(1, .ofNat 0, .ofNat 1), (2, .ofNat 0, .ofNat 17)], [], [(0, .inl 32), (1, .inl 31), (2, .inr (false, (1, .ofNat 0))), (3, .inr (false, (2, .ofNat 0)))], [], [(32, (0, .ofNat 10), .inr (false, (0, .ofNat 0))), (32, (0, .ofNat 11), .inr (false, (0, .ofNat 0)))], [], []), ((0, 2, .ofNat 19), (0, 0, .ofNat 0), (0, 0, .ofNat 0)), 0, 0), 
  (46, (4, [(1, .ofNat 0, .ofNat 1), (2, .ofNat 0, .ofNat 1), (3, .ofNat 0, .ofNat 17)], [], [(0, .inl 32), (1, .inl 31), (2, .inr (false, (1, .ofNat 0))), (3, .inr (false, (2, .ofNat 0)))], [], [(32, (0, .ofNat 4), .inl 33), (32, (0, .ofNat 10), .inr (false, (3, .ofNat 0)))], [], []), ((0, 2, .ofNat 1), (0, 0, .ofNat 0), (0, 0, .ofNat 0)), 0, 0)]
set_option maxRecDepth 1000000 in
theorem cv533 {gh : sxGh} (hg : sxGd sxKw gh) : sxCtV sxKw gh ct533 := sxMeB_ok (cts := [ct388]) (cuts := cu533) (sp := []) 125 (by decide +kernel) hg (by decide) (by decide) (List.forall_mem_cons.mpr ⟨cv388 hg, (fun _ h => absurd h List.not_mem_nil)⟩)
/-- LotBeliefs.Course.play -/
def ct534 : sxCt := (2, 4, (3, [(1, .ofNat 0, .ofNat 12), (2, .ofNat 0, .ofNat 1)], [], [(0, .inl 32), (1, .inl 31), (2, .inr (false, (1, .ofNat 0))), (3, .inr (false, (2, .ofNat 0)))], [], [], [], []), [(21, 0), (22, 0), (25, 0), (26, 0), (32, 9), (32, 11), (32, 12), (33000037, 0)], [
  (5, [(3, .ofNat 0, .ofNat 4095), (4, .negSucc 2147483647, .ofNat 2147483647)], [], [], [], [(32, (0, .ofNat 8), .inr (false, (3, .ofNat 0))), (32, (0, .ofNat 11), .inr (false, (4, .ofNat 0)))], [], [])], [], 0, 0)
def cu534 : List sxCu := [
  (9, (4, [(1, .ofNat 0, .ofNat 12), (2, .ofNat 0, .ofNat 1), (3, .ofNat 0, .ofNat 12)], [(2, 3, .ofNat 0), (3, 1, .ofNat 1)], [(0, .inl 32), (1, .inl 31), (2, .inr (false, (1, .ofNat 0))), (3, .inr (false, (2, .ofNat 0))), (4, .inr (false, (3, .ofNat 0)))], [], [], [], []), ((0, 3, .ofNat 12), (0, 0, .ofNat 0), (0, 0, .ofNat 0)), 0, 0)]
set_option maxRecDepth 1000000 in
theorem cv534 {gh : sxGh} (hg : sxGd sxKw gh) : sxCtV sxKw gh ct534 := sxMeB_ok (cts := [ct533, ct388, ct425, ct408, ct426, ct407]) (cuts := cu534) (sp := []) 134 (by decide +kernel) hg (by decide) (by decide) (List.forall_mem_cons.mpr ⟨cv533 hg, (List.forall_mem_cons.mpr ⟨cv388 hg, (List.forall_mem_cons.mpr ⟨cv425 hg, (List.forall_mem_cons.mpr ⟨cv408 hg, (List.forall_mem_cons.mpr ⟨cv426 hg, (List.forall_mem_cons.mpr ⟨cv407 hg, (fun _ h => absurd h List.not_mem_nil)⟩)⟩)⟩)⟩)⟩)⟩)
/-- LotBeliefs.touchy -/
def ct535 : sxCt := (133, 6, (1, [], [], [(0, .inl 0)], [], [], [], []), [(21, 0), (22, 0), (25, 0), (26, 0), (31, 0), (32, 1), (32, 2), (32, 3), (32, 4), (32, 9), (32, 11), (32, 12), (33000037, 0)], [
  (6, [(1, .ofNat 0, .ofNat 11), (2, .ofNat 0, .ofNat 4), (3, .ofNat 0, .ofNat 63), (4, .ofNat 0, .ofNat 4095), (5, .negSucc 2147483647, .ofNat 2147483647)], [], [], [.inr (false, (1, .ofNat 0))], [(32, (0, .ofNat 2), .inr (false, (2, .ofNat 0))), (32, (0, .ofNat 3), .inr (false, (3, .ofNat 0))), (32, (0, .ofNat 8), .inr (false, (4, .ofNat 0))), (32, (0, .ofNat 11), .inr (false, (5, .ofNat 0)))], [], [])], [], 0, 0)
def cu535 : List sxCu := [
  (21, (8, [(1, .ofNat 0, .ofNat 4095), (2, .ofNat 0, .ofNat 11), (3, .ofNat 0, .ofNat 11), (4, .ofNat 0, .ofNat 4), (5, .ofNat 0, .ofNat 63), (6, .ofNat 0, .ofNat 4095), (7, .negSucc 2147483647, .ofNat 2147483647)], [(2, 3, .ofNat 0)], [(0, .inl 0), (1, .inr (false, (1, .ofNat 0))), (2, .inr (false, (2, .ofNat 0))), (3, .inr (false, (3, .ofNat 0)))], [], [(0, (0, .ofNat 7), .inl 27), (0, (0, .ofNat 12), .inl 32), (27, (0, .ofNat 0), .inl 28), (27, (0, .ofNat 1), .inr (false, (4, .ofNat 0))), (27, (0, .ofNat 2), .inr (false, (5, .ofNat 0))), (32, (0, .ofNat 2), .inr (false, (4, .ofNat 0))), (32, (0, .ofNat 3), .inr (false, (5, .ofNat 0))), (32, (0, .ofNat 8), .inr (false, (6, .ofNat 0))), (32, (0, .ofNat 11), .inr (false, (7, .ofNat 0)))], [], []), ((0, 3, .ofNat 11), (0, 0, .ofNat 0), (0, 0, .ofNat 0)), 0, 0)]
set_option maxRecDepth 1000000 in
theorem cv535 {gh : sxGh} (hg : sxGd sxKw gh) : sxCtV sxKw gh ct535 := sxMeB_ok (cts := [ct427, ct534, ct532]) (cuts := cu535) (sp := []) 685 (by decide +kernel) hg (by decide) (by decide) (List.forall_mem_cons.mpr ⟨cv427 hg, (List.forall_mem_cons.mpr ⟨cv534 hg, (List.forall_mem_cons.mpr ⟨cv532 hg, (fun _ h => absurd h List.not_mem_nil)⟩)⟩)⟩)
/-- LotBeliefs.Course.seat -/
def ct537 : sxCt := (4, 0, (2, [(1, .ofNat 0, .ofNat 6)], [], [(0, .inl 32), (1, .inr (false, (1, .ofNat 0)))], [], [], [], []), [(32, 11), (32, 12), (34000037, 0)], [
  (3, [(2, .ofNat 1, .ofNat 17)], [], [], [], [(32, (0, .ofNat 10), .inr (false, (2, .ofNat 0)))], [], [])], [], 0, 0)
def cu537 : List sxCu := []
set_option maxRecDepth 1000000 in
theorem cv537 {gh : sxGh} (hg : sxGd sxKw gh) : sxCtV sxKw gh ct537 := sxMeB_ok (cts := []) (cuts := cu537) (sp := []) 103 (by decide +kernel) hg (by decide) (by decide) (fun _ h => absurd h List.not_mem_nil)
/-- LotBeliefs.Course.lives -/
def ct571 : sxCt := (6, 0, (3, [(1, .ofNat 0, .ofNat 6), (2, .ofNat 0, .ofNat 6)], [], [(0, .inl 32), (1, .inr (false, (1, .ofNat 0))), (2, .inr (false, (2, .ofNat 0)))], [], [], [], []), [(33000036, 0)], [
  (3, [], [], [], [.inr (false, (0, .ofNat 0))], [], [], []), 
  (3, [], [], [], [.inr (false, (0, .ofNat 1))], [], [], [])], [], 0, 0)
def cu571 : List sxCu := []
set_option maxRecDepth 1000000 in
theorem cv571 {gh : sxGh} (hg : sxGd sxKw gh) : sxCtV sxKw gh ct571 := sxMeB_ok (cts := []) (cuts := cu571) (sp := []) 196 (by decide +kernel) hg (by decide) (by decide) (fun _ h => absurd h List.not_mem_nil)
/-- LotBeliefs.Survey.digits -/
def ct573 : sxCt := (71, 0, (2, [(1, .ofNat 0, .ofNat 7)], [], [(0, .inl 74), (1, .inr (false, (1, .ofNat 0)))], [], [], [], []), [], [
  (3, [(2, .negSucc 9223372036854775807, .ofNat 9223372036854775807)], [], [], [.inr (true, (2, .ofNat 0))], [], [], [])], [], 0, 0)
def cu573 : List sxCu := [
  (5, (4, [(1, .ofNat 0, .ofNat 7), (2, .negSucc 9223372036854775807, .ofNat 9223372036854775807), (3, .ofNat 0, .ofNat 7)], [], [(0, .inl 74), (1, .inr (false, (1, .ofNat 0))), (2, .inr (true, (2, .ofNat 0))), (4, .inr (false, (3, .ofNat 0)))], [], [], [], []), ((0, 3, .ofNat 7), (0, 0, .ofNat 0), (0, 0, .ofNat 0)), 0, 0)]
set_option maxRecDepth 1000000 in
theorem cv573 {gh : sxGh} (hg : sxGd sxKw gh) : sxCtV sxKw gh ct573 := sxMeB_ok (cts := []) (cuts := cu573) (sp := []) 81 (by decide +kernel) hg (by decide) (by decide) (fun _ h => absurd h List.not_mem_nil)
/-- LotBeliefs.Survey.note -/
def ct574 : sxCt := (70, 1, (4, [(1, .ofNat 0, .ofNat 4095), (2, .negSucc 2147483647, .ofNat 2147483647), (3, .ofNat 0, .ofNat 7)], [], [(0, .inl 74), (1, .inr (false, (1, .ofNat 0))), (2, .inr (false, (2, .ofNat 0))), (3, .inr (false, (3, .ofNat 0)))], [], [], [], []), [(74, 6), (74, 7), (75, 0), (76, 0)], [
  (5, [(4, .negSucc 2147483647, .ofNat 2147483647)], [(2, 4, .ofNat 0)], [], [], [(74, (0, .ofNat 5), .inr (false, (4, .ofNat 0)))], [], [])], [], 0, 0)
def cu574 : List sxCu := []
set_option maxRecDepth 1000000 in
theorem cv574 {gh : sxGh} (hg : sxGd sxKw gh) : sxCtV sxKw gh ct574 := sxMeB_ok (cts := [ct573]) (cuts := cu574) (sp := []) 141 (by decide +kernel) hg (by decide) (by decide) (List.forall_mem_cons.mpr ⟨cv573 hg, (fun _ h => absurd h List.not_mem_nil)⟩)
/-- LotBeliefs.Survey.advance -/
def ct575 : sxCt := (72, 1, (2, [(1, .ofNat 0, .ofNat 7)], [], [(0, .inl 74), (1, .inr (false, (1, .ofNat 0)))], [], [], [], []), [(77, 0)], [
  (3, [(2, .negSucc 0, .ofNat 5)], [(2, 1, .negSucc 0)], [], [.inr (false, (2, .ofNat 0))], [], [], [])], [], 0, 0)
def cu575 : List sxCu := [
  (4, (3, [(1, .ofNat 0, .ofNat 7), (2, .negSucc 1, .ofNat 5)], [(2, 1, .negSucc 1)], [(0, .inl 74), (1, .inr (false, (1, .ofNat 0))), (2, .inr (false, (2, .ofNat 0)))], [], [], [], []), ((2, 0, .ofNat 15), (0, 0, .ofNat 0), (0, 0, .ofNat 0)), 0, 0), 
  (41, (4, [(1, .ofNat 2, .ofNat 7), (2, .ofNat 0, .ofNat 5), (3, .ofNat 0, .ofNat 6)], [(2, 1, .negSucc 1), (3, 1, .negSucc 0)], [(0, .inl 74), (1, .inr (false, (1, .ofNat 0))), (2, .inr (false, (2, .ofNat 0))), (3, .inr (false, (3, .ofNat 0)))], [], [(74, (0, .ofNat 7), .inl 77)], [], []), ((3, 0, .ofNat 6), (0, 0, .ofNat 0), (0, 0, .ofNat 0)), 0, 0), 
  (83, (6, [(1, .ofNat 2, .ofNat 7), (2, .ofNat 0, .ofNat 5), (3, .ofNat 0, .ofNat 6), (4, .ofNat 1, .ofNat 6), (5, .ofNat 1, .ofNat 6)], [(2, 1, .negSucc 1), (2, 4, .negSucc 0), (2, 5, .negSucc 0), (3, 1, .negSucc 0), (4, 1, .negSucc 0), (5, 1, .negSucc 0)], [(0, .inl 74), (1, .inr (false, (1, .ofNat 0))), (2, .inr (false, (2, .ofNat 0))), (3, .inr (false, (3, .ofNat 0))), (4, .inr (false, (4, .ofNat 0))), (5, .inr (false, (5, .ofNat 0)))], [], [(74, (0, .ofNat 7), .inl 77)], [], []), ((0, 4, .ofNat 6), (0, 0, .ofNat 0), (0, 0, .ofNat 0)), 0, 0)]
set_option maxRecDepth 1000000 in
theorem cv575 {gh : sxGh} (hg : sxGd sxKw gh) : sxCtV sxKw gh ct575 := sxMeB_ok (cts := []) (cuts := cu575) (sp := []) 196 (by decide +kernel) hg (by decide) (by decide) (fun _ h => absurd h List.not_mem_nil)
/-- LotBeliefs.Course.goBack -/
def ct576 : sxCt := (3, 1, (2, [(1, .ofNat 0, .ofNat 5)], [], [(0, .inl 32), (1, .inl 77), (2, .inr (false, (1, .ofNat 0)))], [], [], [], []), [(32, 11), (32, 12), (33000037, 0)], [
  (3, [(2, .ofNat 0, .ofNat 17)], [], [], [], [(32, (0, .ofNat 10), .inr (false, (2, .ofNat 0)))], [], [])], [], 0, 0)
def cu576 : List sxCu := [
  (12, (3, [(1, .ofNat 0, .ofNat 5), (2, .ofNat 0, .ofNat 17)], [], [(0, .inl 32), (1, .inl 77), (2, .inr (false, (1, .ofNat 0))), (3, .inr (false, (2, .ofNat 0)))], [], [(32, (0, .ofNat 10), .inr (false, (0, .ofNat 0))), (32, (0, .ofNat 11), .inr (false, (0, .ofNat 0)))], [], []), ((0, 2, .ofNat 23), (0, 0, .ofNat 0), (0, 0, .ofNat 0)), 0, 0), 
  (46, (4, [(1, .ofNat 0, .ofNat 5), (2, .ofNat 0, .ofNat 5), (3, .ofNat 0, .ofNat 17)], [], [(0, .inl 32), (1, .inl 77), (2, .inr (false, (1, .ofNat 0))), (3, .inr (false, (2, .ofNat 0)))], [], [(32, (0, .ofNat 4), .inl 33), (32, (0, .ofNat 10), .inr (false, (3, .ofNat 0)))], [], []), ((0, 2, .ofNat 5), (0, 0, .ofNat 0), (0, 0, .ofNat 0)), 0, 0)]
set_option maxRecDepth 1000000 in
theorem cv576 {gh : sxGh} (hg : sxGd sxKw gh) : sxCtV sxKw gh ct576 := sxMeB_ok (cts := [ct537]) (cuts := cu576) (sp := []) 123 (by decide +kernel) hg (by decide) (by decide) (List.forall_mem_cons.mpr ⟨cv537 hg, (fun _ h => absurd h List.not_mem_nil)⟩)
/-- LotBeliefs.Course.play -/
def ct577 : sxCt := (2, 4, (3, [(1, .ofNat 0, .ofNat 7), (2, .ofNat 0, .ofNat 5)], [], [(0, .inl 32), (1, .inl 77), (2, .inr (false, (1, .ofNat 0))), (3, .inr (false, (2, .ofNat 0)))], [], [], [], []), [(21, 0), (22, 0), (25, 0), (26, 0), (32, 9), (32, 11), (32, 12), (33000037, 0)], [
  (5, [(3, .ofNat 0, .ofNat 4095), (4, .negSucc 2147483647, .ofNat 2147483647)], [], [], [], [(32, (0, .ofNat 8), .inr (false, (3, .ofNat 0))), (32, (0, .ofNat 11), .inr (false, (4, .ofNat 0)))], [], [])], [], 0, 0)
def cu577 : List sxCu := [
  (9, (4, [(1, .ofNat 0, .ofNat 7), (2, .ofNat 0, .ofNat 5), (3, .ofNat 0, .ofNat 7)], [(2, 3, .ofNat 0), (3, 1, .ofNat 5)], [(0, .inl 32), (1, .inl 77), (2, .inr (false, (1, .ofNat 0))), (3, .inr (false, (2, .ofNat 0))), (4, .inr (false, (3, .ofNat 0)))], [], [], [], []), ((0, 3, .ofNat 7), (0, 0, .ofNat 0), (0, 0, .ofNat 0)), 0, 0)]
set_option maxRecDepth 1000000 in
theorem cv577 {gh : sxGh} (hg : sxGd sxKw gh) : sxCtV sxKw gh ct577 := sxMeB_ok (cts := [ct576, ct537, ct417, ct408, ct571, ct407]) (cuts := cu577) (sp := []) 132 (by decide +kernel) hg (by decide) (by decide) (List.forall_mem_cons.mpr ⟨cv576 hg, (List.forall_mem_cons.mpr ⟨cv537 hg, (List.forall_mem_cons.mpr ⟨cv417 hg, (List.forall_mem_cons.mpr ⟨cv408 hg, (List.forall_mem_cons.mpr ⟨cv571 hg, (List.forall_mem_cons.mpr ⟨cv407 hg, (fun _ h => absurd h List.not_mem_nil)⟩)⟩)⟩)⟩)⟩)⟩)
/-- LotBeliefs.Survey.take -/
def ct578 : sxCt := (69, 5, (2, [(1, .ofNat 0, .ofNat 63)], [], [(0, .inl 74), (1, .inl 11), (2, .inl 23), (3, .inr (false, (1, .ofNat 0))), (4, .inl 32)], [], [], [], []), [(21, 0), (22, 0), (25, 0), (26, 0), (32, 1), (32, 2), (32, 3), (32, 4), (32, 9), (32, 11), (32, 12), (74, 2), (74, 3), (74, 6), (74, 7), (33000037, 0), (75000077, 0)], [
  (3, [(2, .ofNat 0, .ofNat 63)], [(1, 2, .ofNat 0), (2, 1, .ofNat 0)], [], [], [(74, (0, .ofNat 1), .inr (false, (0, .ofNat 1))), (74, (0, .ofNat 2), .inr (false, (2, .ofNat 0)))], [], [])], [], 0, 0)
def cu578 : List sxCu := [
  (115, (7, [(1, .ofNat 0, .ofNat 63), (2, .ofNat 0, .ofNat 7), (3, .negSucc 0, .ofNat 5), (4, .ofNat 0, .ofNat 5040), (5, .ofNat 0, .ofNat 12), (6, .negSucc 2147483647, .ofNat 2147483647)], [(2, 5, .ofNat 0), (5, 2, .ofNat 5)], [(0, .inl 74), (1, .inl 11), (2, .inl 23), (3, .inr (false, (1, .ofNat 0))), (4, .inl 32), (5, .inr (false, (2, .ofNat 0))), (6, .inr (false, (3, .ofNat 0))), (7, .inr (false, (4, .ofNat 0)))], [], [(11, (0, .ofNat 2), .inr (false, (5, .ofNat 0))), (32, (0, .ofNat 0), .inl 11), (32, (0, .ofNat 1), .inl 23), (32, (0, .ofNat 2), .inr (false, (0, .ofNat 4))), (32, (0, .ofNat 3), .inr (false, (1, .ofNat 0))), (74, (0, .ofNat 0), .inr (false, (0, .ofNat 4))), (74, (0, .ofNat 1), .inr (false, (0, .ofNat 1))), (74, (0, .ofNat 2), .inr (false, (1, .ofNat 0))), (74, (0, .ofNat 3), .inl 75), (74, (0, .ofNat 5), .inr (false, (6, .ofNat 0))), (74, (0, .ofNat 7), .inl 77)], [], []), ((0, 4, .ofNat 5040), (0, 0, .ofNat 0), (0, 0, .ofNat 0)), 0, 0), 
  (34, (3, [(1, .ofNat 0, .ofNat 63), (2, .ofNat 0, .ofNat 128)], [], [(0, .inl 74), (1, .inl 11), (2, .inl 23), (3, .inr (false, (1, .ofNat 0))), (4, .inl 32), (5, .inr (false, (2, .ofNat 0)))], [], [(74, (0, .ofNat 1), .inr (false, (0, .ofNat 1))), (74, (0, .ofNat 2), .inr (false, (1, .ofNat 0))), (74, (0, .ofNat 5), .inr (false, (0, .negSucc 0)))], [], []), ((0, 2, .ofNat 5177), (0, 0, .ofNat 0), (0, 0, .ofNat 0)), 0, 0), 
  (75, (5, [(1, .ofNat 0, .ofNat 63), (2, .ofNat 0, .ofNat 7), (3, .ofNat 0, .ofNat 7), (4, .ofNat 0, .ofNat 12)], [(2, 4, .ofNat 0), (4, 2, .ofNat 5)], [(0, .inl 74), (1, .inl 11), (2, .inl 23), (3, .inr (false, (1, .ofNat 0))), (4, .inl 32), (5, .inr (false, (2, .ofNat 0))), (6, .inr (false, (3, .ofNat 0)))], [], [(11, (0, .ofNat 2), .inr (false, (4, .ofNat 0))), (74, (0, .ofNat 1), .inr (false, (0, .ofNat 1))), (74, (0, .ofNat 2), .inr (false, (1, .ofNat 0))), (74, (0, .ofNat 3), .inl 75), (74, (0, .ofNat 5), .inr (false, (0, .negSucc 0))), (74, (0, .ofNat 7), .inl 77)], [], []), ((0, 3, .ofNat 5048), (0, 0, .ofNat 0), (0, 0, .ofNat 0)), 0, 0)]
set_option maxRecDepth 1000000 in
theorem cv578 {gh : sxGh} (hg : sxGd sxKw gh) : sxCtV sxKw gh ct578 := sxMeB_ok (cts := [ct577, ct524, ct574, ct575]) (cuts := cu578) (sp := []) 179 (by decide +kernel) hg (by decide) (by decide) (List.forall_mem_cons.mpr ⟨cv577 hg, (List.forall_mem_cons.mpr ⟨cv524 hg, (List.forall_mem_cons.mpr ⟨cv574 hg, (List.forall_mem_cons.mpr ⟨cv575 hg, (fun _ h => absurd h List.not_mem_nil)⟩)⟩)⟩)⟩)
/-- LotBeliefs.Survey.never -/
def ct579 : sxCt := (76, 0, (2, [(1, .ofNat 0, .ofNat 7)], [], [(0, .inl 74), (1, .inr (false, (1, .ofNat 0)))], [], [], [], []), [], [
  (3, [(2, .ofNat 0, .ofNat 127)], [], [], [.inr (false, (2, .ofNat 0))], [], [], [])], [], 0, 0)
def cu579 : List sxCu := [
  (8, (4, [(1, .ofNat 0, .ofNat 7), (2, .ofNat 0, .ofNat 127), (3, .ofNat 0, .ofNat 128)], [], [(0, .inl 74), (1, .inr (false, (1, .ofNat 0))), (2, .inr (false, (2, .ofNat 0))), (3, .inr (false, (3, .ofNat 0)))], [], [], [], []), ((0, 3, .ofNat 128), (0, 0, .ofNat 0), (0, 0, .ofNat 0)), 0, 0)]
set_option maxRecDepth 1000000 in
theorem cv579 {gh : sxGh} (hg : sxGd sxKw gh) : sxCtV sxKw gh ct579 := sxMeB_ok (cts := []) (cuts := cu579) (sp := []) 90 (by decide +kernel) hg (by decide) (by decide) (fun _ h => absurd h List.not_mem_nil)
/-- LotBeliefs.Survey.always -/
def ct580 : sxCt := (75, 0, (2, [(1, .ofNat 0, .ofNat 7)], [], [(0, .inl 74), (1, .inr (false, (1, .ofNat 0)))], [], [], [], []), [], [
  (3, [(2, .ofNat 0, .ofNat 127)], [], [], [.inr (false, (2, .ofNat 0))], [], [], [])], [], 0, 0)
def cu580 : List sxCu := [
  (8, (4, [(1, .ofNat 0, .ofNat 7), (2, .ofNat 0, .ofNat 127), (3, .ofNat 0, .ofNat 128)], [], [(0, .inl 74), (1, .inr (false, (1, .ofNat 0))), (2, .inr (false, (2, .ofNat 0))), (3, .inr (false, (3, .ofNat 0)))], [], [], [], []), ((0, 3, .ofNat 128), (0, 0, .ofNat 0), (0, 0, .ofNat 0)), 0, 0)]
set_option maxRecDepth 1000000 in
theorem cv580 {gh : sxGh} (hg : sxGd sxKw gh) : sxCtV sxKw gh ct580 := sxMeB_ok (cts := []) (cuts := cu580) (sp := []) 88 (by decide +kernel) hg (by decide) (by decide) (fun _ h => absurd h List.not_mem_nil)
/-- LotBeliefs.Survey.unlike -/
def ct581 : sxCt := (74, 0, (1, [], [], [(0, .inl 74)], [], [], [], []), [], [
  (2, [(1, .ofNat 0, .ofNat 128)], [], [], [.inr (false, (1, .ofNat 0))], [], [], [])], [], 0, 0)
def cu581 : List sxCu := [
  (4, (3, [(1, .ofNat 0, .ofNat 128), (2, .ofNat 0, .ofNat 128)], [(1, 2, .ofNat 0)], [(0, .inl 74), (1, .inr (false, (1, .ofNat 0))), (2, .inr (false, (2, .ofNat 0)))], [], [], [], []), ((0, 2, .ofNat 128), (0, 0, .ofNat 0), (0, 0, .ofNat 0)), 0, 0)]
set_option maxRecDepth 1000000 in
theorem cv581 {gh : sxGh} (hg : sxGd sxKw gh) : sxCtV sxKw gh ct581 := sxMeB_ok (cts := []) (cuts := cu581) (sp := []) 81 (by decide +kernel) hg (by decide) (by decide) (fun _ h => absurd h List.not_mem_nil)
/-- LotBeliefs.Survey.take -/
def ct582 : sxCt := (69, 5, (2, [(1, .ofNat 0, .ofNat 63)], [], [(0, .inl 74), (1, .inl 11), (2, .inl 19), (3, .inr (false, (1, .ofNat 0))), (4, .inl 32)], [], [], [], []), [(21, 0), (22, 0), (25, 0), (26, 0), (32, 1), (32, 2), (32, 3), (32, 4), (32, 9), (32, 11), (32, 12), (74, 2), (74, 3), (74, 6), (74, 7), (33000037, 0), (75000077, 0)], [
  (3, [(2, .ofNat 0, .ofNat 63)], [(1, 2, .ofNat 0), (2, 1, .ofNat 0)], [], [], [(74, (0, .ofNat 1), .inr (false, (0, .ofNat 1))), (74, (0, .ofNat 2), .inr (false, (2, .ofNat 0)))], [], [])], [], 0, 0)
def cu582 : List sxCu := [
  (115, (7, [(1, .ofNat 0, .ofNat 63), (2, .ofNat 0, .ofNat 7), (3, .negSucc 0, .ofNat 5), (4, .ofNat 0, .ofNat 5040), (5, .ofNat 0, .ofNat 12), (6, .negSucc 2147483647, .ofNat 2147483647)], [(2, 5, .ofNat 0), (5, 2, .ofNat 5)], [(0, .inl 74), (1, .inl 11), (2, .inl 19), (3, .inr (false, (1, .ofNat 0))), (4, .inl 32), (5, .inr (false, (2, .ofNat 0))), (6, .inr (false, (3, .ofNat 0))), (7, .inr (false, (4, .ofNat 0)))], [], [(11, (0, .ofNat 2), .inr (false, (5, .ofNat 0))), (32, (0, .ofNat 0), .inl 11), (32, (0, .ofNat 1), .inl 19), (32, (0, .ofNat 2), .inr (false, (0, .ofNat 4))), (32, (0, .ofNat 3), .inr (false, (1, .ofNat 0))), (74, (0, .ofNat 0), .inr (false, (0, .ofNat 4))), (74, (0, .ofNat 1), .inr (false, (0, .ofNat 1))), (74, (0, .ofNat 2), .inr (false, (1, .ofNat 0))), (74, (0, .ofNat 3), .inl 75), (74, (0, .ofNat 5), .inr (false, (6, .ofNat 0))), (74, (0, .ofNat 7), .inl 77)], [], []), ((0, 4, .ofNat 5040), (0, 0, .ofNat 0), (0, 0, .ofNat 0)), 0, 0), 
  (34, (3, [(1, .ofNat 0, .ofNat 63), (2, .ofNat 0, .ofNat 128)], [], [(0, .inl 74), (1, .inl 11), (2, .inl 19), (3, .inr (false, (1, .ofNat 0))), (4, .inl 32), (5, .inr (false, (2, .ofNat 0)))], [], [(74, (0, .ofNat 1), .inr (false, (0, .ofNat 1))), (74, (0, .ofNat 2), .inr (false, (1, .ofNat 0))), (74, (0, .ofNat 5), .inr (false, (0, .negSucc 0)))], [], []), ((0, 2, .ofNat 5177), (0, 0, .ofNat 0), (0, 0, .ofNat 0)), 0, 0), 
  (75, (5, [(1, .ofNat 0, .ofNat 63), (2, .ofNat 0, .ofNat 7), (3, .ofNat 0, .ofNat 7), (4, .ofNat 0, .ofNat 12)], [(2, 4, .ofNat 0), (4, 2, .ofNat 5)], [(0, .inl 74), (1, .inl 11), (2, .inl 19), (3, .inr (false, (1, .ofNat 0))), (4, .inl 32), (5, .inr (false, (2, .ofNat 0))), (6, .inr (false, (3, .ofNat 0)))], [], [(11, (0, .ofNat 2), .inr (false, (4, .ofNat 0))), (74, (0, .ofNat 1), .inr (false, (0, .ofNat 1))), (74, (0, .ofNat 2), .inr (false, (1, .ofNat 0))), (74, (0, .ofNat 3), .inl 75), (74, (0, .ofNat 5), .inr (false, (0, .negSucc 0))), (74, (0, .ofNat 7), .inl 77)], [], []), ((0, 3, .ofNat 5048), (0, 0, .ofNat 0), (0, 0, .ofNat 0)), 0, 0)]
set_option maxRecDepth 1000000 in
theorem cv582 {gh : sxGh} (hg : sxGd sxKw gh) : sxCtV sxKw gh ct582 := sxMeB_ok (cts := [ct577, ct524, ct574, ct575]) (cuts := cu582) (sp := []) 179 (by decide +kernel) hg (by decide) (by decide) (List.forall_mem_cons.mpr ⟨cv577 hg, (List.forall_mem_cons.mpr ⟨cv524 hg, (List.forall_mem_cons.mpr ⟨cv574 hg, (List.forall_mem_cons.mpr ⟨cv575 hg, (fun _ h => absurd h List.not_mem_nil)⟩)⟩)⟩)⟩)
/-- LotBeliefs.Survey.digits -/
def ct612 : sxCt := (71, 0, (2, [(1, .ofNat 0, .ofNat 7)], [], [(0, .inl 70), (1, .inr (false, (1, .ofNat 0)))], [], [], [], []), [], [
  (3, [(2, .negSucc 9223372036854775807, .ofNat 9223372036854775807)], [], [], [.inr (true, (2, .ofNat 0))], [], [], [])], [], 0, 0)
def cu612 : List sxCu := [
  (5, (4, [(1, .ofNat 0, .ofNat 7), (2, .negSucc 9223372036854775807, .ofNat 9223372036854775807), (3, .ofNat 0, .ofNat 7)], [], [(0, .inl 70), (1, .inr (false, (1, .ofNat 0))), (2, .inr (true, (2, .ofNat 0))), (4, .inr (false, (3, .ofNat 0)))], [], [], [], []), ((0, 3, .ofNat 7), (0, 0, .ofNat 0), (0, 0, .ofNat 0)), 0, 0)]
set_option maxRecDepth 1000000 in
theorem cv612 {gh : sxGh} (hg : sxGd sxKw gh) : sxCtV sxKw gh ct612 := sxMeB_ok (cts := []) (cuts := cu612) (sp := []) 81 (by decide +kernel) hg (by decide) (by decide) (fun _ h => absurd h List.not_mem_nil)
/-- LotBeliefs.Survey.note -/
def ct613 : sxCt := (70, 1, (4, [(1, .ofNat 0, .ofNat 4095), (2, .negSucc 2147483647, .ofNat 2147483647), (3, .ofNat 0, .ofNat 7)], [], [(0, .inl 70), (1, .inr (false, (1, .ofNat 0))), (2, .inr (false, (2, .ofNat 0))), (3, .inr (false, (3, .ofNat 0)))], [], [], [], []), [(70, 6), (70, 7), (71, 0), (72, 0)], [
  (5, [(4, .negSucc 2147483647, .ofNat 2147483647)], [(2, 4, .ofNat 0)], [], [], [(70, (0, .ofNat 5), .inr (false, (4, .ofNat 0)))], [], [])], [], 0, 0)
def cu613 : List sxCu := []
set_option maxRecDepth 1000000 in
theorem cv613 {gh : sxGh} (hg : sxGd sxKw gh) : sxCtV sxKw gh ct613 := sxMeB_ok (cts := [ct612]) (cuts := cu613) (sp := []) 141 (by decide +kernel) hg (by decide) (by decide) (List.forall_mem_cons.mpr ⟨cv612 hg, (fun _ h => absurd h List.not_mem_nil)⟩)
/-- LotBeliefs.Survey.advance -/
def ct614 : sxCt := (72, 1, (2, [(1, .ofNat 0, .ofNat 7)], [], [(0, .inl 70), (1, .inr (false, (1, .ofNat 0)))], [], [], [], []), [(73, 0)], [
  (3, [(2, .negSucc 0, .ofNat 5)], [(2, 1, .negSucc 0)], [], [.inr (false, (2, .ofNat 0))], [], [], [])], [], 0, 0)
def cu614 : List sxCu := [
  (4, (3, [(1, .ofNat 0, .ofNat 7), (2, .negSucc 1, .ofNat 5)], [(2, 1, .negSucc 1)], [(0, .inl 70), (1, .inr (false, (1, .ofNat 0))), (2, .inr (false, (2, .ofNat 0)))], [], [], [], []), ((2, 0, .ofNat 15), (0, 0, .ofNat 0), (0, 0, .ofNat 0)), 0, 0), 
  (41, (4, [(1, .ofNat 2, .ofNat 7), (2, .ofNat 0, .ofNat 5), (3, .ofNat 0, .ofNat 6)], [(2, 1, .negSucc 1), (3, 1, .negSucc 0)], [(0, .inl 70), (1, .inr (false, (1, .ofNat 0))), (2, .inr (false, (2, .ofNat 0))), (3, .inr (false, (3, .ofNat 0)))], [], [(70, (0, .ofNat 7), .inl 73)], [], []), ((3, 0, .ofNat 6), (0, 0, .ofNat 0), (0, 0, .ofNat 0)), 0, 0), 
  (83, (6, [(1, .ofNat 2, .ofNat 7), (2, .ofNat 0, .ofNat 5), (3, .ofNat 0, .ofNat 6), (4, .ofNat 1, .ofNat 6), (5, .ofNat 1, .ofNat 6)], [(2, 1, .negSucc 1), (2, 4, .negSucc 0), (2, 5, .negSucc 0), (3, 1, .negSucc 0), (4, 1, .negSucc 0), (5, 1, .negSucc 0)], [(0, .inl 70), (1, .inr (false, (1, .ofNat 0))), (2, .inr (false, (2, .ofNat 0))), (3, .inr (false, (3, .ofNat 0))), (4, .inr (false, (4, .ofNat 0))), (5, .inr (false, (5, .ofNat 0)))], [], [(70, (0, .ofNat 7), .inl 73)], [], []), ((0, 4, .ofNat 6), (0, 0, .ofNat 0), (0, 0, .ofNat 0)), 0, 0)]
set_option maxRecDepth 1000000 in
theorem cv614 {gh : sxGh} (hg : sxGd sxKw gh) : sxCtV sxKw gh ct614 := sxMeB_ok (cts := []) (cuts := cu614) (sp := []) 196 (by decide +kernel) hg (by decide) (by decide) (fun _ h => absurd h List.not_mem_nil)
/-- LotBeliefs.Course.goBack -/
def ct615 : sxCt := (3, 1, (2, [(1, .ofNat 0, .ofNat 5)], [], [(0, .inl 32), (1, .inl 73), (2, .inr (false, (1, .ofNat 0)))], [], [], [], []), [(32, 11), (32, 12), (33000037, 0)], [
  (3, [(2, .ofNat 0, .ofNat 17)], [], [], [], [(32, (0, .ofNat 10), .inr (false, (2, .ofNat 0)))], [], [])], [], 0, 0)
def cu615 : List sxCu := [
  (12, (3, [(1, .ofNat 0, .ofNat 5), (2, .ofNat 0, .ofNat 17)], [], [(0, .inl 32), (1, .inl 73), (2, .inr (false, (1, .ofNat 0))), (3, .inr (false, (2, .ofNat 0)))], [], [(32, (0, .ofNat 10), .inr (false, (0, .ofNat 0))), (32, (0, .ofNat 11), .inr (false, (0, .ofNat 0)))], [], []), ((0, 2, .ofNat 23), (0, 0, .ofNat 0), (0, 0, .ofNat 0)), 0, 0), 
  (46, (4, [(1, .ofNat 0, .ofNat 5), (2, .ofNat 0, .ofNat 5), (3, .ofNat 0, .ofNat 17)], [], [(0, .inl 32), (1, .inl 73), (2, .inr (false, (1, .ofNat 0))), (3, .inr (false, (2, .ofNat 0)))], [], [(32, (0, .ofNat 4), .inl 33), (32, (0, .ofNat 10), .inr (false, (3, .ofNat 0)))], [], []), ((0, 2, .ofNat 5), (0, 0, .ofNat 0), (0, 0, .ofNat 0)), 0, 0)]
set_option maxRecDepth 1000000 in
theorem cv615 {gh : sxGh} (hg : sxGd sxKw gh) : sxCtV sxKw gh ct615 := sxMeB_ok (cts := [ct537]) (cuts := cu615) (sp := []) 123 (by decide +kernel) hg (by decide) (by decide) (List.forall_mem_cons.mpr ⟨cv537 hg, (fun _ h => absurd h List.not_mem_nil)⟩)
/-- LotBeliefs.Course.play -/
def ct616 : sxCt := (2, 4, (3, [(1, .ofNat 0, .ofNat 7), (2, .ofNat 0, .ofNat 5)], [], [(0, .inl 32), (1, .inl 73), (2, .inr (false, (1, .ofNat 0))), (3, .inr (false, (2, .ofNat 0)))], [], [], [], []), [(21, 0), (22, 0), (25, 0), (26, 0), (32, 9), (32, 11), (32, 12), (33000037, 0)], [
  (5, [(3, .ofNat 0, .ofNat 4095), (4, .negSucc 2147483647, .ofNat 2147483647)], [], [], [], [(32, (0, .ofNat 8), .inr (false, (3, .ofNat 0))), (32, (0, .ofNat 11), .inr (false, (4, .ofNat 0)))], [], [])], [], 0, 0)
def cu616 : List sxCu := [
  (9, (4, [(1, .ofNat 0, .ofNat 7), (2, .ofNat 0, .ofNat 5), (3, .ofNat 0, .ofNat 7)], [(2, 3, .ofNat 0), (3, 1, .ofNat 5)], [(0, .inl 32), (1, .inl 73), (2, .inr (false, (1, .ofNat 0))), (3, .inr (false, (2, .ofNat 0))), (4, .inr (false, (3, .ofNat 0)))], [], [], [], []), ((0, 3, .ofNat 7), (0, 0, .ofNat 0), (0, 0, .ofNat 0)), 0, 0)]
set_option maxRecDepth 1000000 in
theorem cv616 {gh : sxGh} (hg : sxGd sxKw gh) : sxCtV sxKw gh ct616 := sxMeB_ok (cts := [ct615, ct537, ct417, ct408, ct571, ct407]) (cuts := cu616) (sp := []) 132 (by decide +kernel) hg (by decide) (by decide) (List.forall_mem_cons.mpr ⟨cv615 hg, (List.forall_mem_cons.mpr ⟨cv537 hg, (List.forall_mem_cons.mpr ⟨cv417 hg, (List.forall_mem_cons.mpr ⟨cv408 hg, (List.forall_mem_cons.mpr ⟨cv571 hg, (List.forall_mem_cons.mpr ⟨cv407 hg, (fun _ h => absurd h List.not_mem_nil)⟩)⟩)⟩)⟩)⟩)⟩)
/-- LotBeliefs.Survey.take -/
def ct617 : sxCt := (69, 5, (2, [(1, .ofNat 0, .ofNat 63)], [], [(0, .inl 70), (1, .inl 11), (2, .inl 23), (3, .inr (false, (1, .ofNat 0))), (4, .inl 32)], [], [], [], []), [(21, 0), (22, 0), (25, 0), (26, 0), (32, 1), (32, 2), (32, 3), (32, 4), (32, 9), (32, 11), (32, 12), (70, 2), (70, 3), (70, 6), (70, 7), (33000037, 0), (71000073, 0)], [
  (3, [(2, .ofNat 0, .ofNat 63)], [(1, 2, .ofNat 0), (2, 1, .ofNat 0)], [], [], [(70, (0, .ofNat 1), .inr (false, (0, .ofNat 1))), (70, (0, .ofNat 2), .inr (false, (2, .ofNat 0)))], [], [])], [], 0, 0)
def cu617 : List sxCu := [
  (115, (7, [(1, .ofNat 0, .ofNat 63), (2, .ofNat 0, .ofNat 7), (3, .negSucc 0, .ofNat 5), (4, .ofNat 0, .ofNat 5040), (5, .ofNat 0, .ofNat 12), (6, .negSucc 2147483647, .ofNat 2147483647)], [(2, 5, .ofNat 0), (5, 2, .ofNat 5)], [(0, .inl 70), (1, .inl 11), (2, .inl 23), (3, .inr (false, (1, .ofNat 0))), (4, .inl 32), (5, .inr (false, (2, .ofNat 0))), (6, .inr (false, (3, .ofNat 0))), (7, .inr (false, (4, .ofNat 0)))], [], [(11, (0, .ofNat 2), .inr (false, (5, .ofNat 0))), (32, (0, .ofNat 0), .inl 11), (32, (0, .ofNat 1), .inl 23), (32, (0, .ofNat 2), .inr (false, (0, .ofNat 3))), (32, (0, .ofNat 3), .inr (false, (1, .ofNat 0))), (70, (0, .ofNat 0), .inr (false, (0, .ofNat 3))), (70, (0, .ofNat 1), .inr (false, (0, .ofNat 1))), (70, (0, .ofNat 2), .inr (false, (1, .ofNat 0))), (70, (0, .ofNat 3), .inl 71), (70, (0, .ofNat 5), .inr (false, (6, .ofNat 0))), (70, (0, .ofNat 7), .inl 73)], [], []), ((0, 4, .ofNat 5040), (0, 0, .ofNat 0), (0, 0, .ofNat 0)), 0, 0), 
  (34, (3, [(1, .ofNat 0, .ofNat 63), (2, .ofNat 0, .ofNat 128)], [], [(0, .inl 70), (1, .inl 11), (2, .inl 23), (3, .inr (false, (1, .ofNat 0))), (4, .inl 32), (5, .inr (false, (2, .ofNat 0)))], [], [(70, (0, .ofNat 1), .inr (false, (0, .ofNat 1))), (70, (0, .ofNat 2), .inr (false, (1, .ofNat 0))), (70, (0, .ofNat 5), .inr (false, (0, .negSucc 0)))], [], []), ((0, 2, .ofNat 5177), (0, 0, .ofNat 0), (0, 0, .ofNat 0)), 0, 0), 
  (75, (5, [(1, .ofNat 0, .ofNat 63), (2, .ofNat 0, .ofNat 7), (3, .ofNat 0, .ofNat 7), (4, .ofNat 0, .ofNat 12)], [(2, 4, .ofNat 0), (4, 2, .ofNat 5)], [(0, .inl 70), (1, .inl 11), (2, .inl 23), (3, .inr (false, (1, .ofNat 0))), (4, .inl 32), (5, .inr (false, (2, .ofNat 0))), (6, .inr (false, (3, .ofNat 0)))], [], [(11, (0, .ofNat 2), .inr (false, (4, .ofNat 0))), (70, (0, .ofNat 1), .inr (false, (0, .ofNat 1))), (70, (0, .ofNat 2), .inr (false, (1, .ofNat 0))), (70, (0, .ofNat 3), .inl 71), (70, (0, .ofNat 5), .inr (false, (0, .negSucc 0))), (70, (0, .ofNat 7), .inl 73)], [], []), ((0, 3, .ofNat 5048), (0, 0, .ofNat 0), (0, 0, .ofNat 0)), 0, 0)]
set_option maxRecDepth 1000000 in
theorem cv617 {gh : sxGh} (hg : sxGd sxKw gh) : sxCtV sxKw gh ct617 := sxMeB_ok (cts := [ct616, ct524, ct613, ct614]) (cuts := cu617) (sp := []) 179 (by decide +kernel) hg (by decide) (by decide) (List.forall_mem_cons.mpr ⟨cv616 hg, (List.forall_mem_cons.mpr ⟨cv524 hg, (List.forall_mem_cons.mpr ⟨cv613 hg, (List.forall_mem_cons.mpr ⟨cv614 hg, (fun _ h => absurd h List.not_mem_nil)⟩)⟩)⟩)⟩)
/-- LotBeliefs.Survey.never -/
def ct618 : sxCt := (76, 0, (2, [(1, .ofNat 0, .ofNat 7)], [], [(0, .inl 70), (1, .inr (false, (1, .ofNat 0)))], [], [], [], []), [], [
  (3, [(2, .ofNat 0, .ofNat 127)], [], [], [.inr (false, (2, .ofNat 0))], [], [], [])], [], 0, 0)
def cu618 : List sxCu := [
  (8, (4, [(1, .ofNat 0, .ofNat 7), (2, .ofNat 0, .ofNat 127), (3, .ofNat 0, .ofNat 128)], [], [(0, .inl 70), (1, .inr (false, (1, .ofNat 0))), (2, .inr (false, (2, .ofNat 0))), (3, .inr (false, (3, .ofNat 0)))], [], [], [], []), ((0, 3, .ofNat 128), (0, 0, .ofNat 0), (0, 0, .ofNat 0)), 0, 0)]
set_option maxRecDepth 1000000 in
theorem cv618 {gh : sxGh} (hg : sxGd sxKw gh) : sxCtV sxKw gh ct618 := sxMeB_ok (cts := []) (cuts := cu618) (sp := []) 90 (by decide +kernel) hg (by decide) (by decide) (fun _ h => absurd h List.not_mem_nil)
/-- LotBeliefs.Survey.always -/
def ct619 : sxCt := (75, 0, (2, [(1, .ofNat 0, .ofNat 7)], [], [(0, .inl 70), (1, .inr (false, (1, .ofNat 0)))], [], [], [], []), [], [
  (3, [(2, .ofNat 0, .ofNat 127)], [], [], [.inr (false, (2, .ofNat 0))], [], [], [])], [], 0, 0)
def cu619 : List sxCu := [
  (8, (4, [(1, .ofNat 0, .ofNat 7), (2, .ofNat 0, .ofNat 127), (3, .ofNat 0, .ofNat 128)], [], [(0, .inl 70), (1, .inr (false, (1, .ofNat 0))), (2, .inr (false, (2, .ofNat 0))), (3, .inr (false, (3, .ofNat 0)))], [], [], [], []), ((0, 3, .ofNat 128), (0, 0, .ofNat 0), (0, 0, .ofNat 0)), 0, 0)]
set_option maxRecDepth 1000000 in
theorem cv619 {gh : sxGh} (hg : sxGd sxKw gh) : sxCtV sxKw gh ct619 := sxMeB_ok (cts := []) (cuts := cu619) (sp := []) 88 (by decide +kernel) hg (by decide) (by decide) (fun _ h => absurd h List.not_mem_nil)
/-- LotBeliefs.Survey.unlike -/
def ct620 : sxCt := (74, 0, (1, [], [], [(0, .inl 70)], [], [], [], []), [], [
  (2, [(1, .ofNat 0, .ofNat 128)], [], [], [.inr (false, (1, .ofNat 0))], [], [], [])], [], 0, 0)
def cu620 : List sxCu := [
  (4, (3, [(1, .ofNat 0, .ofNat 128), (2, .ofNat 0, .ofNat 128)], [(1, 2, .ofNat 0)], [(0, .inl 70), (1, .inr (false, (1, .ofNat 0))), (2, .inr (false, (2, .ofNat 0)))], [], [], [], []), ((0, 2, .ofNat 128), (0, 0, .ofNat 0), (0, 0, .ofNat 0)), 0, 0)]
set_option maxRecDepth 1000000 in
theorem cv620 {gh : sxGh} (hg : sxGd sxKw gh) : sxCtV sxKw gh ct620 := sxMeB_ok (cts := []) (cuts := cu620) (sp := []) 81 (by decide +kernel) hg (by decide) (by decide) (fun _ h => absurd h List.not_mem_nil)
/-- LotBeliefs.Survey.take -/
def ct621 : sxCt := (69, 5, (2, [(1, .ofNat 0, .ofNat 63)], [], [(0, .inl 70), (1, .inl 11), (2, .inl 19), (3, .inr (false, (1, .ofNat 0))), (4, .inl 32)], [], [], [], []), [(21, 0), (22, 0), (25, 0), (26, 0), (32, 1), (32, 2), (32, 3), (32, 4), (32, 9), (32, 11), (32, 12), (70, 2), (70, 3), (70, 6), (70, 7), (33000037, 0), (71000073, 0)], [
  (3, [(2, .ofNat 0, .ofNat 63)], [(1, 2, .ofNat 0), (2, 1, .ofNat 0)], [], [], [(70, (0, .ofNat 1), .inr (false, (0, .ofNat 1))), (70, (0, .ofNat 2), .inr (false, (2, .ofNat 0)))], [], [])], [], 0, 0)
def cu621 : List sxCu := [
  (115, (7, [(1, .ofNat 0, .ofNat 63), (2, .ofNat 0, .ofNat 7), (3, .negSucc 0, .ofNat 5), (4, .ofNat 0, .ofNat 5040), (5, .ofNat 0, .ofNat 12), (6, .negSucc 2147483647, .ofNat 2147483647)], [(2, 5, .ofNat 0), (5, 2, .ofNat 5)], [(0, .inl 70), (1, .inl 11), (2, .inl 19), (3, .inr (false, (1, .ofNat 0))), (4, .inl 32), (5, .inr (false, (2, .ofNat 0))), (6, .inr (false, (3, .ofNat 0))), (7, .inr (false, (4, .ofNat 0)))], [], [(11, (0, .ofNat 2), .inr (false, (5, .ofNat 0))), (32, (0, .ofNat 0), .inl 11), (32, (0, .ofNat 1), .inl 19), (32, (0, .ofNat 2), .inr (false, (0, .ofNat 3))), (32, (0, .ofNat 3), .inr (false, (1, .ofNat 0))), (70, (0, .ofNat 0), .inr (false, (0, .ofNat 3))), (70, (0, .ofNat 1), .inr (false, (0, .ofNat 1))), (70, (0, .ofNat 2), .inr (false, (1, .ofNat 0))), (70, (0, .ofNat 3), .inl 71), (70, (0, .ofNat 5), .inr (false, (6, .ofNat 0))), (70, (0, .ofNat 7), .inl 73)], [], []), ((0, 4, .ofNat 5040), (0, 0, .ofNat 0), (0, 0, .ofNat 0)), 0, 0), 
  (34, (3, [(1, .ofNat 0, .ofNat 63), (2, .ofNat 0, .ofNat 128)], [], [(0, .inl 70), (1, .inl 11), (2, .inl 19), (3, .inr (false, (1, .ofNat 0))), (4, .inl 32), (5, .inr (false, (2, .ofNat 0)))], [], [(70, (0, .ofNat 1), .inr (false, (0, .ofNat 1))), (70, (0, .ofNat 2), .inr (false, (1, .ofNat 0))), (70, (0, .ofNat 5), .inr (false, (0, .negSucc 0)))], [], []), ((0, 2, .ofNat 5177), (0, 0, .ofNat 0), (0, 0, .ofNat 0)), 0, 0), 
  (75, (5, [(1, .ofNat 0, .ofNat 63), (2, .ofNat 0, .ofNat 7), (3, .ofNat 0, .ofNat 7), (4, .ofNat 0, .ofNat 12)], [(2, 4, .ofNat 0), (4, 2, .ofNat 5)], [(0, .inl 70), (1, .inl 11), (2, .inl 19), (3, .inr (false, (1, .ofNat 0))), (4, .inl 32), (5, .inr (false, (2, .ofNat 0))), (6, .inr (false, (3, .ofNat 0)))], [], [(11, (0, .ofNat 2), .inr (false, (4, .ofNat 0))), (70, (0, .ofNat 1), .inr (false, (0, .ofNat 1))), (70, (0, .ofNat 2), .inr (false, (1, .ofNat 0))), (70, (0, .ofNat 3), .inl 71), (70, (0, .ofNat 5), .inr (false, (0, .negSucc 0))), (70, (0, .ofNat 7), .inl 73)], [], []), ((0, 3, .ofNat 5048), (0, 0, .ofNat 0), (0, 0, .ofNat 0)), 0, 0)]
set_option maxRecDepth 1000000 in
theorem cv621 {gh : sxGh} (hg : sxGd sxKw gh) : sxCtV sxKw gh ct621 := sxMeB_ok (cts := [ct616, ct524, ct613, ct614]) (cuts := cu621) (sp := []) 179 (by decide +kernel) hg (by decide) (by decide) (List.forall_mem_cons.mpr ⟨cv616 hg, (List.forall_mem_cons.mpr ⟨cv524 hg, (List.forall_mem_cons.mpr ⟨cv613 hg, (List.forall_mem_cons.mpr ⟨cv614 hg, (fun _ h => absurd h List.not_mem_nil)⟩)⟩)⟩)⟩)
/-- LotBeliefs.Survey.digits -/
def ct651 : sxCt := (71, 0, (2, [(1, .ofNat 0, .ofNat 7)], [], [(0, .inl 66), (1, .inr (false, (1, .ofNat 0)))], [], [], [], []), [], [
  (3, [(2, .negSucc 9223372036854775807, .ofNat 9223372036854775807)], [], [], [.inr (true, (2, .ofNat 0))], [], [], [])], [], 0, 0)
def cu651 : List sxCu := [
  (5, (4, [(1, .ofNat 0, .ofNat 7), (2, .negSucc 9223372036854775807, .ofNat 9223372036854775807), (3, .ofNat 0, .ofNat 7)], [], [(0, .inl 66), (1, .inr (false, (1, .ofNat 0))), (2, .inr (true, (2, .ofNat 0))), (4, .inr (false, (3, .ofNat 0)))], [], [], [], []), ((0, 3, .ofNat 7), (0, 0, .ofNat 0), (0, 0, .ofNat 0)), 0, 0)]
set_option maxRecDepth 1000000 in
theorem cv651 {gh : sxGh} (hg : sxGd sxKw gh) : sxCtV sxKw gh ct651 := sxMeB_ok (cts := []) (cuts := cu651) (sp := []) 81 (by decide +kernel) hg (by decide) (by decide) (fun _ h => absurd h List.not_mem_nil)
/-- LotBeliefs.Survey.note -/
def ct652 : sxCt := (70, 1, (4, [(1, .ofNat 0, .ofNat 4095), (2, .negSucc 2147483647, .ofNat 2147483647), (3, .ofNat 0, .ofNat 7)], [], [(0, .inl 66), (1, .inr (false, (1, .ofNat 0))), (2, .inr (false, (2, .ofNat 0))), (3, .inr (false, (3, .ofNat 0)))], [], [], [], []), [(66, 6), (66, 7), (67, 0), (68, 0)], [
  (5, [(4, .negSucc 2147483647, .ofNat 2147483647)], [(2, 4, .ofNat 0)], [], [], [(66, (0, .ofNat 5), .inr (false, (4, .ofNat 0)))], [], [])], [], 0, 0)
def cu652 : List sxCu := []
set_option maxRecDepth 1000000 in
theorem cv652 {gh : sxGh} (hg : sxGd sxKw gh) : sxCtV sxKw gh ct652 := sxMeB_ok (cts := [ct651]) (cuts := cu652) (sp := []) 141 (by decide +kernel) hg (by decide) (by decide) (List.forall_mem_cons.mpr ⟨cv651 hg, (fun _ h => absurd h List.not_mem_nil)⟩)
/-- LotBeliefs.Survey.advance -/
def ct653 : sxCt := (72, 1, (2, [(1, .ofNat 0, .ofNat 7)], [], [(0, .inl 66), (1, .inr (false, (1, .ofNat 0)))], [], [], [], []), [(69, 0)], [
  (3, [(2, .negSucc 0, .ofNat 5)], [(2, 1, .negSucc 0)], [], [.inr (false, (2, .ofNat 0))], [], [], [])], [], 0, 0)
def cu653 : List sxCu := [
  (4, (3, [(1, .ofNat 0, .ofNat 7), (2, .negSucc 1, .ofNat 5)], [(2, 1, .negSucc 1)], [(0, .inl 66), (1, .inr (false, (1, .ofNat 0))), (2, .inr (false, (2, .ofNat 0)))], [], [], [], []), ((2, 0, .ofNat 15), (0, 0, .ofNat 0), (0, 0, .ofNat 0)), 0, 0), 
  (41, (4, [(1, .ofNat 2, .ofNat 7), (2, .ofNat 0, .ofNat 5), (3, .ofNat 0, .ofNat 6)], [(2, 1, .negSucc 1), (3, 1, .negSucc 0)], [(0, .inl 66), (1, .inr (false, (1, .ofNat 0))), (2, .inr (false, (2, .ofNat 0))), (3, .inr (false, (3, .ofNat 0)))], [], [(66, (0, .ofNat 7), .inl 69)], [], []), ((3, 0, .ofNat 6), (0, 0, .ofNat 0), (0, 0, .ofNat 0)), 0, 0), 
  (83, (6, [(1, .ofNat 2, .ofNat 7), (2, .ofNat 0, .ofNat 5), (3, .ofNat 0, .ofNat 6), (4, .ofNat 1, .ofNat 6), (5, .ofNat 1, .ofNat 6)], [(2, 1, .negSucc 1), (2, 4, .negSucc 0), (2, 5, .negSucc 0), (3, 1, .negSucc 0), (4, 1, .negSucc 0), (5, 1, .negSucc 0)], [(0, .inl 66), (1, .inr (false, (1, .ofNat 0))), (2, .inr (false, (2, .ofNat 0))), (3, .inr (false, (3, .ofNat 0))), (4, .inr (false, (4, .ofNat 0))), (5, .inr (false, (5, .ofNat 0)))], [], [(66, (0, .ofNat 7), .inl 69)], [], []), ((0, 4, .ofNat 6), (0, 0, .ofNat 0), (0, 0, .ofNat 0)), 0, 0)]
set_option maxRecDepth 1000000 in
theorem cv653 {gh : sxGh} (hg : sxGd sxKw gh) : sxCtV sxKw gh ct653 := sxMeB_ok (cts := []) (cuts := cu653) (sp := []) 196 (by decide +kernel) hg (by decide) (by decide) (fun _ h => absurd h List.not_mem_nil)
/-- LotBeliefs.Course.goBack -/
def ct654 : sxCt := (3, 1, (2, [(1, .ofNat 0, .ofNat 5)], [], [(0, .inl 32), (1, .inl 69), (2, .inr (false, (1, .ofNat 0)))], [], [], [], []), [(32, 11), (32, 12), (33000037, 0)], [
  (3, [(2, .ofNat 0, .ofNat 17)], [], [], [], [(32, (0, .ofNat 10), .inr (false, (2, .ofNat 0)))], [], [])], [], 0, 0)
def cu654 : List sxCu := [
  (12, (3, [(1, .ofNat 0, .ofNat 5), (2, .ofNat 0, .ofNat 17)], [], [(0, .inl 32), (1, .inl 69), (2, .inr (false, (1, .ofNat 0))), (3, .inr (false, (2, .ofNat 0)))], [], [(32, (0, .ofNat 10), .inr (false, (0, .ofNat 0))), (32, (0, .ofNat 11), .inr (false, (0, .ofNat 0)))], [], []), ((0, 2, .ofNat 23), (0, 0, .ofNat 0), (0, 0, .ofNat 0)), 0, 0), 
  (46, (4, [(1, .ofNat 0, .ofNat 5), (2, .ofNat 0, .ofNat 5), (3, .ofNat 0, .ofNat 17)], [], [(0, .inl 32), (1, .inl 69), (2, .inr (false, (1, .ofNat 0))), (3, .inr (false, (2, .ofNat 0)))], [], [(32, (0, .ofNat 4), .inl 33), (32, (0, .ofNat 10), .inr (false, (3, .ofNat 0)))], [], []), ((0, 2, .ofNat 5), (0, 0, .ofNat 0), (0, 0, .ofNat 0)), 0, 0)]
set_option maxRecDepth 1000000 in
theorem cv654 {gh : sxGh} (hg : sxGd sxKw gh) : sxCtV sxKw gh ct654 := sxMeB_ok (cts := [ct537]) (cuts := cu654) (sp := []) 123 (by decide +kernel) hg (by decide) (by decide) (List.forall_mem_cons.mpr ⟨cv537 hg, (fun _ h => absurd h List.not_mem_nil)⟩)
/-- LotBeliefs.Course.play -/
def ct655 : sxCt := (2, 4, (3, [(1, .ofNat 0, .ofNat 7), (2, .ofNat 0, .ofNat 5)], [], [(0, .inl 32), (1, .inl 69), (2, .inr (false, (1, .ofNat 0))), (3, .inr (false, (2, .ofNat 0)))], [], [], [], []), [(21, 0), (22, 0), (25, 0), (26, 0), (32, 9), (32, 11), (32, 12), (33000037, 0)], [
  (5, [(3, .ofNat 0, .ofNat 4095), (4, .negSucc 2147483647, .ofNat 2147483647)], [], [], [], [(32, (0, .ofNat 8), .inr (false, (3, .ofNat 0))), (32, (0, .ofNat 11), .inr (false, (4, .ofNat 0)))], [], [])], [], 0, 0)
def cu655 : List sxCu := [
  (9, (4, [(1, .ofNat 0, .ofNat 7), (2, .ofNat 0, .ofNat 5), (3, .ofNat 0, .ofNat 7)], [(2, 3, .ofNat 0), (3, 1, .ofNat 5)], [(0, .inl 32), (1, .inl 69), (2, .inr (false, (1, .ofNat 0))), (3, .inr (false, (2, .ofNat 0))), (4, .inr (false, (3, .ofNat 0)))], [], [], [], []), ((0, 3, .ofNat 7), (0, 0, .ofNat 0), (0, 0, .ofNat 0)), 0, 0)]
set_option maxRecDepth 1000000 in
theorem cv655 {gh : sxGh} (hg : sxGd sxKw gh) : sxCtV sxKw gh ct655 := sxMeB_ok (cts := [ct654, ct537, ct417, ct408, ct571, ct407]) (cuts := cu655) (sp := []) 132 (by decide +kernel) hg (by decide) (by decide) (List.forall_mem_cons.mpr ⟨cv654 hg, (List.forall_mem_cons.mpr ⟨cv537 hg, (List.forall_mem_cons.mpr ⟨cv417 hg, (List.forall_mem_cons.mpr ⟨cv408 hg, (List.forall_mem_cons.mpr ⟨cv571 hg, (List.forall_mem_cons.mpr ⟨cv407 hg, (fun _ h => absurd h List.not_mem_nil)⟩)⟩)⟩)⟩)⟩)⟩)
/-- LotBeliefs.Survey.take -/
def ct656 : sxCt := (69, 5, (2, [(1, .ofNat 0, .ofNat 63)], [], [(0, .inl 66), (1, .inl 11), (2, .inl 23), (3, .inr (false, (1, .ofNat 0))), (4, .inl 32)], [], [], [], []), [(21, 0), (22, 0), (25, 0), (26, 0), (32, 1), (32, 2), (32, 3), (32, 4), (32, 9), (32, 11), (32, 12), (66, 2), (66, 3), (66, 6), (66, 7), (33000037, 0), (67000069, 0)], [
  (3, [(2, .ofNat 0, .ofNat 63)], [(1, 2, .ofNat 0), (2, 1, .ofNat 0)], [], [], [(66, (0, .ofNat 1), .inr (false, (0, .ofNat 1))), (66, (0, .ofNat 2), .inr (false, (2, .ofNat 0)))], [], [])], [], 0, 0)
def cu656 : List sxCu := [
  (115, (7, [(1, .ofNat 0, .ofNat 63), (2, .ofNat 0, .ofNat 7), (3, .negSucc 0, .ofNat 5), (4, .ofNat 0, .ofNat 5040), (5, .ofNat 0, .ofNat 12), (6, .negSucc 2147483647, .ofNat 2147483647)], [(2, 5, .ofNat 0), (5, 2, .ofNat 5)], [(0, .inl 66), (1, .inl 11), (2, .inl 23), (3, .inr (false, (1, .ofNat 0))), (4, .inl 32), (5, .inr (false, (2, .ofNat 0))), (6, .inr (false, (3, .ofNat 0))), (7, .inr (false, (4, .ofNat 0)))], [], [(11, (0, .ofNat 2), .inr (false, (5, .ofNat 0))), (32, (0, .ofNat 0), .inl 11), (32, (0, .ofNat 1), .inl 23), (32, (0, .ofNat 2), .inr (false, (0, .ofNat 2))), (32, (0, .ofNat 3), .inr (false, (1, .ofNat 0))), (66, (0, .ofNat 0), .inr (false, (0, .ofNat 2))), (66, (0, .ofNat 1), .inr (false, (0, .ofNat 1))), (66, (0, .ofNat 2), .inr (false, (1, .ofNat 0))), (66, (0, .ofNat 3), .inl 67), (66, (0, .ofNat 5), .inr (false, (6, .ofNat 0))), (66, (0, .ofNat 7), .inl 69)], [], []), ((0, 4, .ofNat 5040), (0, 0, .ofNat 0), (0, 0, .ofNat 0)), 0, 0), 
  (34, (3, [(1, .ofNat 0, .ofNat 63), (2, .ofNat 0, .ofNat 128)], [], [(0, .inl 66), (1, .inl 11), (2, .inl 23), (3, .inr (false, (1, .ofNat 0))), (4, .inl 32), (5, .inr (false, (2, .ofNat 0)))], [], [(66, (0, .ofNat 1), .inr (false, (0, .ofNat 1))), (66, (0, .ofNat 2), .inr (false, (1, .ofNat 0))), (66, (0, .ofNat 5), .inr (false, (0, .negSucc 0)))], [], []), ((0, 2, .ofNat 5177), (0, 0, .ofNat 0), (0, 0, .ofNat 0)), 0, 0), 
  (75, (5, [(1, .ofNat 0, .ofNat 63), (2, .ofNat 0, .ofNat 7), (3, .ofNat 0, .ofNat 7), (4, .ofNat 0, .ofNat 12)], [(2, 4, .ofNat 0), (4, 2, .ofNat 5)], [(0, .inl 66), (1, .inl 11), (2, .inl 23), (3, .inr (false, (1, .ofNat 0))), (4, .inl 32), (5, .inr (false, (2, .ofNat 0))), (6, .inr (false, (3, .ofNat 0)))], [], [(11, (0, .ofNat 2), .inr (false, (4, .ofNat 0))), (66, (0, .ofNat 1), .inr (false, (0, .ofNat 1))), (66, (0, .ofNat 2), .inr (false, (1, .ofNat 0))), (66, (0, .ofNat 3), .inl 67), (66, (0, .ofNat 5), .inr (false, (0, .negSucc 0))), (66, (0, .ofNat 7), .inl 69)], [], []), ((0, 3, .ofNat 5048), (0, 0, .ofNat 0), (0, 0, .ofNat 0)), 0, 0)]
set_option maxRecDepth 1000000 in
theorem cv656 {gh : sxGh} (hg : sxGd sxKw gh) : sxCtV sxKw gh ct656 := sxMeB_ok (cts := [ct655, ct524, ct652, ct653]) (cuts := cu656) (sp := []) 179 (by decide +kernel) hg (by decide) (by decide) (List.forall_mem_cons.mpr ⟨cv655 hg, (List.forall_mem_cons.mpr ⟨cv524 hg, (List.forall_mem_cons.mpr ⟨cv652 hg, (List.forall_mem_cons.mpr ⟨cv653 hg, (fun _ h => absurd h List.not_mem_nil)⟩)⟩)⟩)⟩)
/-- LotBeliefs.Survey.never -/
def ct657 : sxCt := (76, 0, (2, [(1, .ofNat 0, .ofNat 7)], [], [(0, .inl 66), (1, .inr (false, (1, .ofNat 0)))], [], [], [], []), [], [
  (3, [(2, .ofNat 0, .ofNat 127)], [], [], [.inr (false, (2, .ofNat 0))], [], [], [])], [], 0, 0)
def cu657 : List sxCu := [
  (8, (4, [(1, .ofNat 0, .ofNat 7), (2, .ofNat 0, .ofNat 127), (3, .ofNat 0, .ofNat 128)], [], [(0, .inl 66), (1, .inr (false, (1, .ofNat 0))), (2, .inr (false, (2, .ofNat 0))), (3, .inr (false, (3, .ofNat 0)))], [], [], [], []), ((0, 3, .ofNat 128), (0, 0, .ofNat 0), (0, 0, .ofNat 0)), 0, 0)]
set_option maxRecDepth 1000000 in
theorem cv657 {gh : sxGh} (hg : sxGd sxKw gh) : sxCtV sxKw gh ct657 := sxMeB_ok (cts := []) (cuts := cu657) (sp := []) 90 (by decide +kernel) hg (by decide) (by decide) (fun _ h => absurd h List.not_mem_nil)
/-- LotBeliefs.Survey.always -/
def ct658 : sxCt := (75, 0, (2, [(1, .ofNat 0, .ofNat 7)], [], [(0, .inl 66), (1, .inr (false, (1, .ofNat 0)))], [], [], [], []), [], [
  (3, [(2, .ofNat 0, .ofNat 127)], [], [], [.inr (false, (2, .ofNat 0))], [], [], [])], [], 0, 0)
def cu658 : List sxCu := [
  (8, (4, [(1, .ofNat 0, .ofNat 7), (2, .ofNat 0, .ofNat 127), (3, .ofNat 0, .ofNat 128)], [], [(0, .inl 66), (1, .inr (false, (1, .ofNat 0))), (2, .inr (false, (2, .ofNat 0))), (3, .inr (false, (3, .ofNat 0)))], [], [], [], []), ((0, 3, .ofNat 128), (0, 0, .ofNat 0), (0, 0, .ofNat 0)), 0, 0)]
set_option maxRecDepth 1000000 in
theorem cv658 {gh : sxGh} (hg : sxGd sxKw gh) : sxCtV sxKw gh ct658 := sxMeB_ok (cts := []) (cuts := cu658) (sp := []) 88 (by decide +kernel) hg (by decide) (by decide) (fun _ h => absurd h List.not_mem_nil)
/-- LotBeliefs.Survey.unlike -/
def ct659 : sxCt := (74, 0, (1, [], [], [(0, .inl 66)], [], [], [], []), [], [
  (2, [(1, .ofNat 0, .ofNat 128)], [], [], [.inr (false, (1, .ofNat 0))], [], [], [])], [], 0, 0)
def cu659 : List sxCu := [
  (4, (3, [(1, .ofNat 0, .ofNat 128), (2, .ofNat 0, .ofNat 128)], [(1, 2, .ofNat 0)], [(0, .inl 66), (1, .inr (false, (1, .ofNat 0))), (2, .inr (false, (2, .ofNat 0)))], [], [], [], []), ((0, 2, .ofNat 128), (0, 0, .ofNat 0), (0, 0, .ofNat 0)), 0, 0)]
set_option maxRecDepth 1000000 in
theorem cv659 {gh : sxGh} (hg : sxGd sxKw gh) : sxCtV sxKw gh ct659 := sxMeB_ok (cts := []) (cuts := cu659) (sp := []) 81 (by decide +kernel) hg (by decide) (by decide) (fun _ h => absurd h List.not_mem_nil)
/-- LotBeliefs.Survey.take -/
def ct660 : sxCt := (69, 5, (2, [(1, .ofNat 0, .ofNat 63)], [], [(0, .inl 66), (1, .inl 11), (2, .inl 19), (3, .inr (false, (1, .ofNat 0))), (4, .inl 32)], [], [], [], []), [(21, 0), (22, 0), (25, 0), (26, 0), (32, 1), (32, 2), (32, 3), (32, 4), (32, 9), (32, 11), (32, 12), (66, 2), (66, 3), (66, 6), (66, 7), (33000037, 0), (67000069, 0)], [
  (3, [(2, .ofNat 0, .ofNat 63)], [(1, 2, .ofNat 0), (2, 1, .ofNat 0)], [], [], [(66, (0, .ofNat 1), .inr (false, (0, .ofNat 1))), (66, (0, .ofNat 2), .inr (false, (2, .ofNat 0)))], [], [])], [], 0, 0)
def cu660 : List sxCu := [
  (115, (7, [(1, .ofNat 0, .ofNat 63), (2, .ofNat 0, .ofNat 7), (3, .negSucc 0, .ofNat 5), (4, .ofNat 0, .ofNat 5040), (5, .ofNat 0, .ofNat 12), (6, .negSucc 2147483647, .ofNat 2147483647)], [(2, 5, .ofNat 0), (5, 2, .ofNat 5)], [(0, .inl 66), (1, .inl 11), (2, .inl 19), (3, .inr (false, (1, .ofNat 0))), (4, .inl 32), (5, .inr (false, (2, .ofNat 0))), (6, .inr (false, (3, .ofNat 0))), (7, .inr (false, (4, .ofNat 0)))], [], [(11, (0, .ofNat 2), .inr (false, (5, .ofNat 0))), (32, (0, .ofNat 0), .inl 11), (32, (0, .ofNat 1), .inl 19), (32, (0, .ofNat 2), .inr (false, (0, .ofNat 2))), (32, (0, .ofNat 3), .inr (false, (1, .ofNat 0))), (66, (0, .ofNat 0), .inr (false, (0, .ofNat 2))), (66, (0, .ofNat 1), .inr (false, (0, .ofNat 1))), (66, (0, .ofNat 2), .inr (false, (1, .ofNat 0))), (66, (0, .ofNat 3), .inl 67), (66, (0, .ofNat 5), .inr (false, (6, .ofNat 0))), (66, (0, .ofNat 7), .inl 69)], [], []), ((0, 4, .ofNat 5040), (0, 0, .ofNat 0), (0, 0, .ofNat 0)), 0, 0), 
  (34, (3, [(1, .ofNat 0, .ofNat 63), (2, .ofNat 0, .ofNat 128)], [], [(0, .inl 66), (1, .inl 11), (2, .inl 19), (3, .inr (false, (1, .ofNat 0))), (4, .inl 32), (5, .inr (false, (2, .ofNat 0)))], [], [(66, (0, .ofNat 1), .inr (false, (0, .ofNat 1))), (66, (0, .ofNat 2), .inr (false, (1, .ofNat 0))), (66, (0, .ofNat 5), .inr (false, (0, .negSucc 0)))], [], []), ((0, 2, .ofNat 5177), (0, 0, .ofNat 0), (0, 0, .ofNat 0)), 0, 0), 
  (75, (5, [(1, .ofNat 0, .ofNat 63), (2, .ofNat 0, .ofNat 7), (3, .ofNat 0, .ofNat 7), (4, .ofNat 0, .ofNat 12)], [(2, 4, .ofNat 0), (4, 2, .ofNat 5)], [(0, .inl 66), (1, .inl 11), (2, .inl 19), (3, .inr (false, (1, .ofNat 0))), (4, .inl 32), (5, .inr (false, (2, .ofNat 0))), (6, .inr (false, (3, .ofNat 0)))], [], [(11, (0, .ofNat 2), .inr (false, (4, .ofNat 0))), (66, (0, .ofNat 1), .inr (false, (0, .ofNat 1))), (66, (0, .ofNat 2), .inr (false, (1, .ofNat 0))), (66, (0, .ofNat 3), .inl 67), (66, (0, .ofNat 5), .inr (false, (0, .negSucc 0))), (66, (0, .ofNat 7), .inl 69)], [], []), ((0, 3, .ofNat 5048), (0, 0, .ofNat 0), (0, 0, .ofNat 0)), 0, 0)]
set_option maxRecDepth 1000000 in
theorem cv660 {gh : sxGh} (hg : sxGd sxKw gh) : sxCtV sxKw gh ct660 := sxMeB_ok (cts := [ct655, ct524, ct652, ct653]) (cuts := cu660) (sp := []) 179 (by decide +kernel) hg (by decide) (by decide) (List.forall_mem_cons.mpr ⟨cv655 hg, (List.forall_mem_cons.mpr ⟨cv524 hg, (List.forall_mem_cons.mpr ⟨cv652 hg, (List.forall_mem_cons.mpr ⟨cv653 hg, (fun _ h => absurd h List.not_mem_nil)⟩)⟩)⟩)⟩)
/-- LotBeliefs.Survey.digits -/
def ct690 : sxCt := (71, 0, (2, [(1, .ofNat 0, .ofNat 7)], [], [(0, .inl 62), (1, .inr (false, (1, .ofNat 0)))], [], [], [], []), [], [
  (3, [(2, .negSucc 9223372036854775807, .ofNat 9223372036854775807)], [], [], [.inr (true, (2, .ofNat 0))], [], [], [])], [], 0, 0)
def cu690 : List sxCu := [
  (5, (4, [(1, .ofNat 0, .ofNat 7), (2, .negSucc 9223372036854775807, .ofNat 9223372036854775807), (3, .ofNat 0, .ofNat 7)], [], [(0, .inl 62), (1, .inr (false, (1, .ofNat 0))), (2, .inr (true, (2, .ofNat 0))), (4, .inr (false, (3, .ofNat 0)))], [], [], [], []), ((0, 3, .ofNat 7), (0, 0, .ofNat 0), (0, 0, .ofNat 0)), 0, 0)]
set_option maxRecDepth 1000000 in
theorem cv690 {gh : sxGh} (hg : sxGd sxKw gh) : sxCtV sxKw gh ct690 := sxMeB_ok (cts := []) (cuts := cu690) (sp := []) 81 (by decide +kernel) hg (by decide) (by decide) (fun _ h => absurd h List.not_mem_nil)
/-- LotBeliefs.Survey.note -/
def ct691 : sxCt := (70, 1, (4, [(1, .ofNat 0, .ofNat 4095), (2, .negSucc 2147483647, .ofNat 2147483647), (3, .ofNat 0, .ofNat 7)], [], [(0, .inl 62), (1, .inr (false, (1, .ofNat 0))), (2, .inr (false, (2, .ofNat 0))), (3, .inr (false, (3, .ofNat 0)))], [], [], [], []), [(62, 6), (62, 7), (63, 0), (64, 0)], [
  (5, [(4, .negSucc 2147483647, .ofNat 2147483647)], [(2, 4, .ofNat 0)], [], [], [(62, (0, .ofNat 5), .inr (false, (4, .ofNat 0)))], [], [])], [], 0, 0)
def cu691 : List sxCu := []
set_option maxRecDepth 1000000 in
theorem cv691 {gh : sxGh} (hg : sxGd sxKw gh) : sxCtV sxKw gh ct691 := sxMeB_ok (cts := [ct690]) (cuts := cu691) (sp := []) 141 (by decide +kernel) hg (by decide) (by decide) (List.forall_mem_cons.mpr ⟨cv690 hg, (fun _ h => absurd h List.not_mem_nil)⟩)
/-- LotBeliefs.Survey.advance -/
def ct692 : sxCt := (72, 1, (2, [(1, .ofNat 0, .ofNat 7)], [], [(0, .inl 62), (1, .inr (false, (1, .ofNat 0)))], [], [], [], []), [(65, 0)], [
  (3, [(2, .negSucc 0, .ofNat 5)], [(2, 1, .negSucc 0)], [], [.inr (false, (2, .ofNat 0))], [], [], [])], [], 0, 0)
def cu692 : List sxCu := [
  (4, (3, [(1, .ofNat 0, .ofNat 7), (2, .negSucc 1, .ofNat 5)], [(2, 1, .negSucc 1)], [(0, .inl 62), (1, .inr (false, (1, .ofNat 0))), (2, .inr (false, (2, .ofNat 0)))], [], [], [], []), ((2, 0, .ofNat 15), (0, 0, .ofNat 0), (0, 0, .ofNat 0)), 0, 0), 
  (41, (4, [(1, .ofNat 2, .ofNat 7), (2, .ofNat 0, .ofNat 5), (3, .ofNat 0, .ofNat 6)], [(2, 1, .negSucc 1), (3, 1, .negSucc 0)], [(0, .inl 62), (1, .inr (false, (1, .ofNat 0))), (2, .inr (false, (2, .ofNat 0))), (3, .inr (false, (3, .ofNat 0)))], [], [(62, (0, .ofNat 7), .inl 65)], [], []), ((3, 0, .ofNat 6), (0, 0, .ofNat 0), (0, 0, .ofNat 0)), 0, 0), 
  (83, (6, [(1, .ofNat 2, .ofNat 7), (2, .ofNat 0, .ofNat 5), (3, .ofNat 0, .ofNat 6), (4, .ofNat 1, .ofNat 6), (5, .ofNat 1, .ofNat 6)], [(2, 1, .negSucc 1), (2, 4, .negSucc 0), (2, 5, .negSucc 0), (3, 1, .negSucc 0), (4, 1, .negSucc 0), (5, 1, .negSucc 0)], [(0, .inl 62), (1, .inr (false, (1, .ofNat 0))), (2, .inr (false, (2, .ofNat 0))), (3, .inr (false, (3, .ofNat 0))), (4, .inr (false, (4, .ofNat 0))), (5, .inr (false, (5, .ofNat 0)))], [], [(62, (0, .ofNat 7), .inl 65)], [], []), ((0, 4, .ofNat 6), (0, 0, .ofNat 0), (0, 0, .ofNat 0)), 0, 0)]
set_option maxRecDepth 1000000 in
theorem cv692 {gh : sxGh} (hg : sxGd sxKw gh) : sxCtV sxKw gh ct692 := sxMeB_ok (cts := []) (cuts := cu692) (sp := []) 196 (by decide +kernel) hg (by decide) (by decide) (fun _ h => absurd h List.not_mem_nil)
/-- LotBeliefs.Course.goBack -/
def ct693 : sxCt := (3, 1, (2, [(1, .ofNat 0, .ofNat 5)], [], [(0, .inl 32), (1, .inl 65), (2, .inr (false, (1, .ofNat 0)))], [], [], [], []), [(32, 11), (32, 12), (33000037, 0)], [
  (3, [(2, .ofNat 0, .ofNat 17)], [], [], [], [(32, (0, .ofNat 10), .inr (false, (2, .ofNat 0)))], [], [])], [], 0, 0)
def cu693 : List sxCu := [
  (12, (3, [(1, .ofNat 0, .ofNat 5), (2, .ofNat 0, .ofNat 17)], [], [(0, .inl 32), (1, .inl 65), (2, .inr (false, (1, .ofNat 0))), (3, .inr (false, (2, .ofNat 0)))], [], [(32, (0, .ofNat 10), .inr (false, (0, .ofNat 0))), (32, (0, .ofNat 11), .inr (false, (0, .ofNat 0)))], [], []), ((0, 2, .ofNat 23), (0, 0, .ofNat 0), (0, 0, .ofNat 0)), 0, 0), 
  (46, (4, [(1, .ofNat 0, .ofNat 5), (2, .ofNat 0, .ofNat 5), (3, .ofNat 0, .ofNat 17)], [], [(0, .inl 32), (1, .inl 65), (2, .inr (false, (1, .ofNat 0))), (3, .inr (false, (2, .ofNat 0)))], [], [(32, (0, .ofNat 4), .inl 33), (32, (0, .ofNat 10), .inr (false, (3, .ofNat 0)))], [], []), ((0, 2, .ofNat 5), (0, 0, .ofNat 0), (0, 0, .ofNat 0)), 0, 0)]
set_option maxRecDepth 1000000 in
theorem cv693 {gh : sxGh} (hg : sxGd sxKw gh) : sxCtV sxKw gh ct693 := sxMeB_ok (cts := [ct537]) (cuts := cu693) (sp := []) 123 (by decide +kernel) hg (by decide) (by decide) (List.forall_mem_cons.mpr ⟨cv537 hg, (fun _ h => absurd h List.not_mem_nil)⟩)
/-- LotBeliefs.Course.play -/
def ct694 : sxCt := (2, 4, (3, [(1, .ofNat 0, .ofNat 7), (2, .ofNat 0, .ofNat 5)], [], [(0, .inl 32), (1, .inl 65), (2, .inr (false, (1, .ofNat 0))), (3, .inr (false, (2, .ofNat 0)))], [], [], [], []), [(21, 0), (22, 0), (25, 0), (26, 0), (32, 9), (32, 11), (32, 12), (33000037, 0)], [
  (5, [(3, .ofNat 0, .ofNat 4095), (4, .negSucc 2147483647, .ofNat 2147483647)], [], [], [], [(32, (0, .ofNat 8), .inr (false, (3, .ofNat 0))), (32, (0, .ofNat 11), .inr (false, (4, .ofNat 0)))], [], [])], [], 0, 0)
def cu694 : List sxCu := [
  (9, (4, [(1, .ofNat 0, .ofNat 7), (2, .ofNat 0, .ofNat 5), (3, .ofNat 0, .ofNat 7)], [(2, 3, .ofNat 0), (3, 1, .ofNat 5)], [(0, .inl 32), (1, .inl 65), (2, .inr (false, (1, .ofNat 0))), (3, .inr (false, (2, .ofNat 0))), (4, .inr (false, (3, .ofNat 0)))], [], [], [], []), ((0, 3, .ofNat 7), (0, 0, .ofNat 0), (0, 0, .ofNat 0)), 0, 0)]
set_option maxRecDepth 1000000 in
theorem cv694 {gh : sxGh} (hg : sxGd sxKw gh) : sxCtV sxKw gh ct694 := sxMeB_ok (cts := [ct693, ct537, ct417, ct408, ct571, ct407]) (cuts := cu694) (sp := []) 132 (by decide +kernel) hg (by decide) (by decide) (List.forall_mem_cons.mpr ⟨cv693 hg, (List.forall_mem_cons.mpr ⟨cv537 hg, (List.forall_mem_cons.mpr ⟨cv417 hg, (List.forall_mem_cons.mpr ⟨cv408 hg, (List.forall_mem_cons.mpr ⟨cv571 hg, (List.forall_mem_cons.mpr ⟨cv407 hg, (fun _ h => absurd h List.not_mem_nil)⟩)⟩)⟩)⟩)⟩)⟩)
/-- LotBeliefs.Survey.take -/
def ct695 : sxCt := (69, 5, (2, [(1, .ofNat 0, .ofNat 63)], [], [(0, .inl 62), (1, .inl 11), (2, .inl 23), (3, .inr (false, (1, .ofNat 0))), (4, .inl 32)], [], [], [], []), [(21, 0), (22, 0), (25, 0), (26, 0), (32, 1), (32, 2), (32, 3), (32, 4), (32, 9), (32, 11), (32, 12), (62, 2), (62, 3), (62, 6), (62, 7), (33000037, 0), (63000065, 0)], [
  (3, [(2, .ofNat 0, .ofNat 63)], [(1, 2, .ofNat 0), (2, 1, .ofNat 0)], [], [], [(62, (0, .ofNat 1), .inr (false, (0, .ofNat 1))), (62, (0, .ofNat 2), .inr (false, (2, .ofNat 0)))], [], [])], [], 0, 0)
def cu695 : List sxCu := [
  (115, (7, [(1, .ofNat 0, .ofNat 63), (2, .ofNat 0, .ofNat 7), (3, .negSucc 0, .ofNat 5), (4, .ofNat 0, .ofNat 5040), (5, .ofNat 0, .ofNat 12), (6, .negSucc 2147483647, .ofNat 2147483647)], [(2, 5, .ofNat 0), (5, 2, .ofNat 5)], [(0, .inl 62), (1, .inl 11), (2, .inl 23), (3, .inr (false, (1, .ofNat 0))), (4, .inl 32), (5, .inr (false, (2, .ofNat 0))), (6, .inr (false, (3, .ofNat 0))), (7, .inr (false, (4, .ofNat 0)))], [], [(11, (0, .ofNat 2), .inr (false, (5, .ofNat 0))), (32, (0, .ofNat 0), .inl 11), (32, (0, .ofNat 1), .inl 23), (32, (0, .ofNat 2), .inr (false, (0, .ofNat 1))), (32, (0, .ofNat 3), .inr (false, (1, .ofNat 0))), (62, (0, .ofNat 0), .inr (false, (0, .ofNat 1))), (62, (0, .ofNat 1), .inr (false, (0, .ofNat 1))), (62, (0, .ofNat 2), .inr (false, (1, .ofNat 0))), (62, (0, .ofNat 3), .inl 63), (62, (0, .ofNat 5), .inr (false, (6, .ofNat 0))), (62, (0, .ofNat 7), .inl 65)], [], []), ((0, 4, .ofNat 5040), (0, 0, .ofNat 0), (0, 0, .ofNat 0)), 0, 0), 
  (34, (3, [(1, .ofNat 0, .ofNat 63), (2, .ofNat 0, .ofNat 128)], [], [(0, .inl 62), (1, .inl 11), (2, .inl 23), (3, .inr (false, (1, .ofNat 0))), (4, .inl 32), (5, .inr (false, (2, .ofNat 0)))], [], [(62, (0, .ofNat 1), .inr (false, (0, .ofNat 1))), (62, (0, .ofNat 2), .inr (false, (1, .ofNat 0))), (62, (0, .ofNat 5), .inr (false, (0, .negSucc 0)))], [], []), ((0, 2, .ofNat 5177), (0, 0, .ofNat 0), (0, 0, .ofNat 0)), 0, 0), 
  (75, (5, [(1, .ofNat 0, .ofNat 63), (2, .ofNat 0, .ofNat 7), (3, .ofNat 0, .ofNat 7), (4, .ofNat 0, .ofNat 12)], [(2, 4, .ofNat 0), (4, 2, .ofNat 5)], [(0, .inl 62), (1, .inl 11), (2, .inl 23), (3, .inr (false, (1, .ofNat 0))), (4, .inl 32), (5, .inr (false, (2, .ofNat 0))), (6, .inr (false, (3, .ofNat 0)))], [], [(11, (0, .ofNat 2), .inr (false, (4, .ofNat 0))), (62, (0, .ofNat 1), .inr (false, (0, .ofNat 1))), (62, (0, .ofNat 2), .inr (false, (1, .ofNat 0))), (62, (0, .ofNat 3), .inl 63), (62, (0, .ofNat 5), .inr (false, (0, .negSucc 0))), (62, (0, .ofNat 7), .inl 65)], [], []), ((0, 3, .ofNat 5048), (0, 0, .ofNat 0), (0, 0, .ofNat 0)), 0, 0)]
set_option maxRecDepth 1000000 in
theorem cv695 {gh : sxGh} (hg : sxGd sxKw gh) : sxCtV sxKw gh ct695 := sxMeB_ok (cts := [ct694, ct524, ct691, ct692]) (cuts := cu695) (sp := []) 179 (by decide +kernel) hg (by decide) (by decide) (List.forall_mem_cons.mpr ⟨cv694 hg, (List.forall_mem_cons.mpr ⟨cv524 hg, (List.forall_mem_cons.mpr ⟨cv691 hg, (List.forall_mem_cons.mpr ⟨cv692 hg, (fun _ h => absurd h List.not_mem_nil)⟩)⟩)⟩)⟩)
/-- LotBeliefs.Survey.never -/
def ct696 : sxCt := (76, 0, (2, [(1, .ofNat 0, .ofNat 7)], [], [(0, .inl 62), (1, .inr (false, (1, .ofNat 0)))], [], [], [], []), [], [
  (3, [(2, .ofNat 0, .ofNat 127)], [], [], [.inr (false, (2, .ofNat 0))], [], [], [])], [], 0, 0)
def cu696 : List sxCu := [
  (8, (4, [(1, .ofNat 0, .ofNat 7), (2, .ofNat 0, .ofNat 127), (3, .ofNat 0, .ofNat 128)], [], [(0, .inl 62), (1, .inr (false, (1, .ofNat 0))), (2, .inr (false, (2, .ofNat 0))), (3, .inr (false, (3, .ofNat 0)))], [], [], [], []), ((0, 3, .ofNat 128), (0, 0, .ofNat 0), (0, 0, .ofNat 0)), 0, 0)]
set_option maxRecDepth 1000000 in
theorem cv696 {gh : sxGh} (hg : sxGd sxKw gh) : sxCtV sxKw gh ct696 := sxMeB_ok (cts := []) (cuts := cu696) (sp := []) 90 (by decide +kernel) hg (by decide) (by decide) (fun _ h => absurd h List.not_mem_nil)
/-- LotBeliefs.Survey.always -/
def ct697 : sxCt := (75, 0, (2, [(1, .ofNat 0, .ofNat 7)], [], [(0, .inl 62), (1, .inr (false, (1, .ofNat 0)))], [], [], [], []), [], [
  (3, [(2, .ofNat 0, .ofNat 127)], [], [], [.inr (false, (2, .ofNat 0))], [], [], [])], [], 0, 0)
def cu697 : List sxCu := [
  (8, (4, [(1, .ofNat 0, .ofNat 7), (2, .ofNat 0, .ofNat 127), (3, .ofNat 0, .ofNat 128)], [], [(0, .inl 62), (1, .inr (false, (1, .ofNat 0))), (2, .inr (false, (2, .ofNat 0))), (3, .inr (false, (3, .ofNat 0)))], [], [], [], []), ((0, 3, .ofNat 128), (0, 0, .ofNat 0), (0, 0, .ofNat 0)), 0, 0)]
set_option maxRecDepth 1000000 in
theorem cv697 {gh : sxGh} (hg : sxGd sxKw gh) : sxCtV sxKw gh ct697 := sxMeB_ok (cts := []) (cuts := cu697) (sp := []) 88 (by decide +kernel) hg (by decide) (by decide) (fun _ h => absurd h List.not_mem_nil)
/-- LotBeliefs.Survey.unlike -/
def ct698 : sxCt := (74, 0, (1, [], [], [(0, .inl 62)], [], [], [], []), [], [
  (2, [(1, .ofNat 0, .ofNat 128)], [], [], [.inr (false, (1, .ofNat 0))], [], [], [])], [], 0, 0)
def cu698 : List sxCu := [
  (4, (3, [(1, .ofNat 0, .ofNat 128), (2, .ofNat 0, .ofNat 128)], [(1, 2, .ofNat 0)], [(0, .inl 62), (1, .inr (false, (1, .ofNat 0))), (2, .inr (false, (2, .ofNat 0)))], [], [], [], []), ((0, 2, .ofNat 128), (0, 0, .ofNat 0), (0, 0, .ofNat 0)), 0, 0)]
set_option maxRecDepth 1000000 in
theorem cv698 {gh : sxGh} (hg : sxGd sxKw gh) : sxCtV sxKw gh ct698 := sxMeB_ok (cts := []) (cuts := cu698) (sp := []) 81 (by decide +kernel) hg (by decide) (by decide) (fun _ h => absurd h List.not_mem_nil)
/-- LotBeliefs.Survey.take -/
def ct699 : sxCt := (69, 5, (2, [(1, .ofNat 0, .ofNat 63)], [], [(0, .inl 62), (1, .inl 11), (2, .inl 19), (3, .inr (false, (1, .ofNat 0))), (4, .inl 32)], [], [], [], []), [(21, 0), (22, 0), (25, 0), (26, 0), (32, 1), (32, 2), (32, 3), (32, 4), (32, 9), (32, 11), (32, 12), (62, 2), (62, 3), (62, 6), (62, 7), (33000037, 0), (63000065, 0)], [
  (3, [(2, .ofNat 0, .ofNat 63)], [(1, 2, .ofNat 0), (2, 1, .ofNat 0)], [], [], [(62, (0, .ofNat 1), .inr (false, (0, .ofNat 1))), (62, (0, .ofNat 2), .inr (false, (2, .ofNat 0)))], [], [])], [], 0, 0)
def cu699 : List sxCu := [
  (115, (7, [(1, .ofNat 0, .ofNat 63), (2, .ofNat 0, .ofNat 7), (3, .negSucc 0, .ofNat 5), (4, .ofNat 0, .ofNat 5040), (5, .ofNat 0, .ofNat 12), (6, .negSucc 2147483647, .ofNat 2147483647)], [(2, 5, .ofNat 0), (5, 2, .ofNat 5)], [(0, .inl 62), (1, .inl 11), (2, .inl 19), (3, .inr (false, (1, .ofNat 0))), (4, .inl 32), (5, .inr (false, (2, .ofNat 0))), (6, .inr (false, (3, .ofNat 0))), (7, .inr (false, (4, .ofNat 0)))], [], [(11, (0, .ofNat 2), .inr (false, (5, .ofNat 0))), (32, (0, .ofNat 0), .inl 11), (32, (0, .ofNat 1), .inl 19), (32, (0, .ofNat 2), .inr (false, (0, .ofNat 1))), (32, (0, .ofNat 3), .inr (false, (1, .ofNat 0))), (62, (0, .ofNat 0), .inr (false, (0, .ofNat 1))), (62, (0, .ofNat 1), .inr (false, (0, .ofNat 1))), (62, (0, .ofNat 2), .inr (false, (1, .ofNat 0))), (62, (0, .ofNat 3), .inl 63), (62, (0, .ofNat 5), .inr (false, (6, .ofNat 0))), (62, (0, .ofNat 7), .inl 65)], [], []), ((0, 4, .ofNat 5040), (0, 0, .ofNat 0), (0, 0, .ofNat 0)), 0, 0), 
  (34, (3, [(1, .ofNat 0, .ofNat 63), (2, .ofNat 0, .ofNat 128)], [], [(0, .inl 62), (1, .inl 11), (2, .inl 19), (3, .inr (false, (1, .ofNat 0))), (4, .inl 32), (5, .inr (false, (2, .ofNat 0)))], [], [(62, (0, .ofNat 1), .inr (false, (0, .ofNat 1))), (62, (0, .ofNat 2), .inr (false, (1, .ofNat 0))), (62, (0, .ofNat 5), .inr (false, (0, .negSucc 0)))], [], []), ((0, 2, .ofNat 5177), (0, 0, .ofNat 0), (0, 0, .ofNat 0)), 0, 0), 
  (75, (5, [(1, .ofNat 0, .ofNat 63), (2, .ofNat 0, .ofNat 7), (3, .ofNat 0, .ofNat 7), (4, .ofNat 0, .ofNat 12)], [(2, 4, .ofNat 0), (4, 2, .ofNat 5)], [(0, .inl 62), (1, .inl 11), (2, .inl 19), (3, .inr (false, (1, .ofNat 0))), (4, .inl 32), (5, .inr (false, (2, .ofNat 0))), (6, .inr (false, (3, .ofNat 0)))], [], [(11, (0, .ofNat 2), .inr (false, (4, .ofNat 0))), (62, (0, .ofNat 1), .inr (false, (0, .ofNat 1))), (62, (0, .ofNat 2), .inr (false, (1, .ofNat 0))), (62, (0, .ofNat 3), .inl 63), (62, (0, .ofNat 5), .inr (false, (0, .negSucc 0))), (62, (0, .ofNat 7), .inl 65)], [], []), ((0, 3, .ofNat 5048), (0, 0, .ofNat 0), (0, 0, .ofNat 0)), 0, 0)]
set_option maxRecDepth 1000000 in
theorem cv699 {gh : sxGh} (hg : sxGd sxKw gh) : sxCtV sxKw gh ct699 := sxMeB_ok (cts := [ct694, ct524, ct691, ct692]) (cuts := cu699) (sp := []) 179 (by decide +kernel) hg (by decide) (by decide) (List.forall_mem_cons.mpr ⟨cv694 hg, (List.forall_mem_cons.mpr ⟨cv524 hg, (List.forall_mem_cons.mpr ⟨cv691 hg, (List.forall_mem_cons.mpr ⟨cv692 hg, (fun _ h => absurd h List.not_mem_nil)⟩)⟩)⟩)⟩)
/-- LotBeliefs.Survey.digits -/
def ct729 : sxCt := (71, 0, (2, [(1, .ofNat 0, .ofNat 7)], [], [(0, .inl 58), (1, .inr (false, (1, .ofNat 0)))], [], [], [], []), [], [
  (3, [(2, .negSucc 9223372036854775807, .ofNat 9223372036854775807)], [], [], [.inr (true, (2, .ofNat 0))], [], [], [])], [], 0, 0)
def cu729 : List sxCu := [
  (5, (4, [(1, .ofNat 0, .ofNat 7), (2, .negSucc 9223372036854775807, .ofNat 9223372036854775807), (3, .ofNat 0, .ofNat 7)], [], [(0, .inl 58), (1, .inr (false, (1, .ofNat 0))), (2, .inr (true, (2, .ofNat 0))), (4, .inr (false, (3, .ofNat 0)))], [], [], [], []), ((0, 3, .ofNat 7), (0, 0, .ofNat 0), (0, 0, .ofNat 0)), 0, 0)]
set_option maxRecDepth 1000000 in
theorem cv729 {gh : sxGh} (hg : sxGd sxKw gh) : sxCtV sxKw gh ct729 := sxMeB_ok (cts := []) (cuts := cu729) (sp := []) 81 (by decide +kernel) hg (by decide) (by decide) (fun _ h => absurd h List.not_mem_nil)
/-- LotBeliefs.Survey.note -/
def ct730 : sxCt := (70, 1, (4, [(1, .ofNat 0, .ofNat 4095), (2, .negSucc 2147483647, .ofNat 2147483647), (3, .ofNat 0, .ofNat 7)], [], [(0, .inl 58), (1, .inr (false, (1, .ofNat 0))), (2, .inr (false, (2, .ofNat 0))), (3, .inr (false, (3, .ofNat 0)))], [], [], [], []), [(58, 6), (58, 7), (59, 0), (60, 0)], [
  (5, [(4, .negSucc 2147483647, .ofNat 2147483647)], [(2, 4, .ofNat 0)], [], [], [(58, (0, .ofNat 5), .inr (false, (4, .ofNat 0)))], [], [])], [], 0, 0)
def cu730 : List sxCu := []
set_option maxRecDepth 1000000 in
theorem cv730 {gh : sxGh} (hg : sxGd sxKw gh) : sxCtV sxKw gh ct730 := sxMeB_ok (cts := [ct729]) (cuts := cu730) (sp := []) 141 (by decide +kernel) hg (by decide) (by decide) (List.forall_mem_cons.mpr ⟨cv729 hg, (fun _ h => absurd h List.not_mem_nil)⟩)
/-- LotBeliefs.Survey.advance -/
def ct731 : sxCt := (72, 1, (2, [(1, .ofNat 0, .ofNat 7)], [], [(0, .inl 58), (1, .inr (false, (1, .ofNat 0)))], [], [], [], []), [(61, 0)], [
  (3, [(2, .negSucc 0, .ofNat 5)], [(2, 1, .negSucc 0)], [], [.inr (false, (2, .ofNat 0))], [], [], [])], [], 0, 0)
def cu731 : List sxCu := [
  (4, (3, [(1, .ofNat 0, .ofNat 7), (2, .negSucc 1, .ofNat 5)], [(2, 1, .negSucc 1)], [(0, .inl 58), (1, .inr (false, (1, .ofNat 0))), (2, .inr (false, (2, .ofNat 0)))], [], [], [], []), ((2, 0, .ofNat 15), (0, 0, .ofNat 0), (0, 0, .ofNat 0)), 0, 0), 
  (41, (4, [(1, .ofNat 2, .ofNat 7), (2, .ofNat 0, .ofNat 5), (3, .ofNat 0, .ofNat 6)], [(2, 1, .negSucc 1), (3, 1, .negSucc 0)], [(0, .inl 58), (1, .inr (false, (1, .ofNat 0))), (2, .inr (false, (2, .ofNat 0))), (3, .inr (false, (3, .ofNat 0)))], [], [(58, (0, .ofNat 7), .inl 61)], [], []), ((3, 0, .ofNat 6), (0, 0, .ofNat 0), (0, 0, .ofNat 0)), 0, 0), 
  (83, (6, [(1, .ofNat 2, .ofNat 7), (2, .ofNat 0, .ofNat 5), (3, .ofNat 0, .ofNat 6), (4, .ofNat 1, .ofNat 6), (5, .ofNat 1, .ofNat 6)], [(2, 1, .negSucc 1), (2, 4, .negSucc 0), (2, 5, .negSucc 0), (3, 1, .negSucc 0), (4, 1, .negSucc 0), (5, 1, .negSucc 0)], [(0, .inl 58), (1, .inr (false, (1, .ofNat 0))), (2, .inr (false, (2, .ofNat 0))), (3, .inr (false, (3, .ofNat 0))), (4, .inr (false, (4, .ofNat 0))), (5, .inr (false, (5, .ofNat 0)))], [], [(58, (0, .ofNat 7), .inl 61)], [], []), ((0, 4, .ofNat 6), (0, 0, .ofNat 0), (0, 0, .ofNat 0)), 0, 0)]
set_option maxRecDepth 1000000 in
theorem cv731 {gh : sxGh} (hg : sxGd sxKw gh) : sxCtV sxKw gh ct731 := sxMeB_ok (cts := []) (cuts := cu731) (sp := []) 196 (by decide +kernel) hg (by decide) (by decide) (fun _ h => absurd h List.not_mem_nil)
/-- LotBeliefs.Course.goBack -/
def ct732 : sxCt := (3, 1, (2, [(1, .ofNat 0, .ofNat 5)], [], [(0, .inl 32), (1, .inl 61), (2, .inr (false, (1, .ofNat 0)))], [], [], [], []), [(32, 11), (32, 12), (33000037, 0)], [
  (3, [(2, .ofNat 0, .ofNat 17)], [], [], [], [(32, (0, .ofNat 10), .inr (false, (2, .ofNat 0)))], [], [])], [], 0, 0)
def cu732 : List sxCu := [
  (12, (3, [(1, .ofNat 0, .ofNat 5), (2, .ofNat 0, .ofNat 17)], [], [(0, .inl 32), (1, .inl 61), (2, .inr (false, (1, .ofNat 0))), (3, .inr (false, (2, .ofNat 0)))], [], [(32, (0, .ofNat 10), .inr (false, (0, .ofNat 0))), (32, (0, .ofNat 11), .inr (false, (0, .ofNat 0)))], [], []), ((0, 2, .ofNat 23), (0, 0, .ofNat 0), (0, 0, .ofNat 0)), 0, 0), 
  (46, (4, [(1, .ofNat 0, .ofNat 5), (2, .ofNat 0, .ofNat 5), (3, .ofNat 0, .ofNat 17)], [], [(0, .inl 32), (1, .inl 61), (2, .inr (false, (1, .ofNat 0))), (3, .inr (false, (2, .ofNat 0)))], [], [(32, (0, .ofNat 4), .inl 33), (32, (0, .ofNat 10), .inr (false, (3, .ofNat 0)))], [], []), ((0, 2, .ofNat 5), (0, 0, .ofNat 0), (0, 0, .ofNat 0)), 0, 0)]
set_option maxRecDepth 1000000 in
theorem cv732 {gh : sxGh} (hg : sxGd sxKw gh) : sxCtV sxKw gh ct732 := sxMeB_ok (cts := [ct537]) (cuts := cu732) (sp := []) 123 (by decide +kernel) hg (by decide) (by decide) (List.forall_mem_cons.mpr ⟨cv537 hg, (fun _ h => absurd h List.not_mem_nil)⟩)
/-- LotBeliefs.Course.play -/
def ct733 : sxCt := (2, 4, (3, [(1, .ofNat 0, .ofNat 7), (2, .ofNat 0, .ofNat 5)], [], [(0, .inl 32), (1, .inl 61), (2, .inr (false, (1, .ofNat 0))), (3, .inr (false, (2, .ofNat 0)))], [], [], [], []), [(21, 0), (22, 0), (25, 0), (26, 0), (32, 9), (32, 11), (32, 12), (33000037, 0)], [
  (5, [(3, .ofNat 0, .ofNat 4095), (4, .negSucc 2147483647, .ofNat 2147483647)], [], [], [], [(32, (0, .ofNat 8), .inr (false, (3, .ofNat 0))), (32, (0, .ofNat 11), .inr (false, (4, .ofNat 0)))], [], [])], [], 0, 0)
def cu733 : List sxCu := [
  (9, (4, [(1, .ofNat 0, .ofNat 7), (2, .ofNat 0, .ofNat 5), (3, .ofNat 0, .ofNat 7)], [(2, 3, .ofNat 0), (3, 1, .ofNat 5)], [(0, .inl 32), (1, .inl 61), (2, .inr (false, (1, .ofNat 0))), (3, .inr (false, (2, .ofNat 0))), (4, .inr (false, (3, .ofNat 0)))], [], [], [], []), ((0, 3, .ofNat 7), (0, 0, .ofNat 0), (0, 0, .ofNat 0)), 0, 0)]
set_option maxRecDepth 1000000 in
theorem cv733 {gh : sxGh} (hg : sxGd sxKw gh) : sxCtV sxKw gh ct733 := sxMeB_ok (cts := [ct732, ct537, ct417, ct408, ct571, ct407]) (cuts := cu733) (sp := []) 132 (by decide +kernel) hg (by decide) (by decide) (List.forall_mem_cons.mpr ⟨cv732 hg, (List.forall_mem_cons.mpr ⟨cv537 hg, (List.forall_mem_cons.mpr ⟨cv417 hg, (List.forall_mem_cons.mpr ⟨cv408 hg, (List.forall_mem_cons.mpr ⟨cv571 hg, (List.forall_mem_cons.mpr ⟨cv407 hg, (fun _ h => absurd h List.not_mem_nil)⟩)⟩)⟩)⟩)⟩)⟩)
/-- LotBeliefs.Survey.take -/
def ct734 : sxCt := (69, 5, (2, [(1, .ofNat 0, .ofNat 63)], [], [(0, .inl 58), (1, .inl 11), (2, .inl 23), (3, .inr (false, (1, .ofNat 0))), (4, .inl 32)], [], [], [], []), [(21, 0), (22, 0), (25, 0), (26, 0), (32, 1), (32, 2), (32, 3), (32, 4), (32, 9), (32, 11), (32, 12), (58, 2), (58, 3), (58, 6), (58, 7), (33000037, 0), (59000061, 0)], [
  (3, [(2, .ofNat 0, .ofNat 63)], [(1, 2, .ofNat 0), (2, 1, .ofNat 0)], [], [], [(58, (0, .ofNat 1), .inr (false, (0, .ofNat 1))), (58, (0, .ofNat 2), .inr (false, (2, .ofNat 0)))], [], [])], [], 0, 0)
def cu734 : List sxCu := [
  (115, (7, [(1, .ofNat 0, .ofNat 63), (2, .ofNat 0, .ofNat 7), (3, .negSucc 0, .ofNat 5), (4, .ofNat 0, .ofNat 5040), (5, .ofNat 0, .ofNat 12), (6, .negSucc 2147483647, .ofNat 2147483647)], [(2, 5, .ofNat 0), (5, 2, .ofNat 5)], [(0, .inl 58), (1, .inl 11), (2, .inl 23), (3, .inr (false, (1, .ofNat 0))), (4, .inl 32), (5, .inr (false, (2, .ofNat 0))), (6, .inr (false, (3, .ofNat 0))), (7, .inr (false, (4, .ofNat 0)))], [], [(11, (0, .ofNat 2), .inr (false, (5, .ofNat 0))), (32, (0, .ofNat 0), .inl 11), (32, (0, .ofNat 1), .inl 23), (32, (0, .ofNat 2), .inr (false, (0, .ofNat 0))), (32, (0, .ofNat 3), .inr (false, (1, .ofNat 0))), (58, (0, .ofNat 0), .inr (false, (0, .ofNat 0))), (58, (0, .ofNat 1), .inr (false, (0, .ofNat 1))), (58, (0, .ofNat 2), .inr (false, (1, .ofNat 0))), (58, (0, .ofNat 3), .inl 59), (58, (0, .ofNat 5), .inr (false, (6, .ofNat 0))), (58, (0, .ofNat 7), .inl 61)], [], []), ((0, 4, .ofNat 5040), (0, 0, .ofNat 0), (0, 0, .ofNat 0)), 0, 0), 
  (34, (3, [(1, .ofNat 0, .ofNat 63), (2, .ofNat 0, .ofNat 128)], [], [(0, .inl 58), (1, .inl 11), (2, .inl 23), (3, .inr (false, (1, .ofNat 0))), (4, .inl 32), (5, .inr (false, (2, .ofNat 0)))], [], [(58, (0, .ofNat 1), .inr (false, (0, .ofNat 1))), (58, (0, .ofNat 2), .inr (false, (1, .ofNat 0))), (58, (0, .ofNat 5), .inr (false, (0, .negSucc 0)))], [], []), ((0, 2, .ofNat 5177), (0, 0, .ofNat 0), (0, 0, .ofNat 0)), 0, 0), 
  (75, (5, [(1, .ofNat 0, .ofNat 63), (2, .ofNat 0, .ofNat 7), (3, .ofNat 0, .ofNat 7), (4, .ofNat 0, .ofNat 12)], [(2, 4, .ofNat 0), (4, 2, .ofNat 5)], [(0, .inl 58), (1, .inl 11), (2, .inl 23), (3, .inr (false, (1, .ofNat 0))), (4, .inl 32), (5, .inr (false, (2, .ofNat 0))), (6, .inr (false, (3, .ofNat 0)))], [], [(11, (0, .ofNat 2), .inr (false, (4, .ofNat 0))), (58, (0, .ofNat 1), .inr (false, (0, .ofNat 1))), (58, (0, .ofNat 2), .inr (false, (1, .ofNat 0))), (58, (0, .ofNat 3), .inl 59), (58, (0, .ofNat 5), .inr (false, (0, .negSucc 0))), (58, (0, .ofNat 7), .inl 61)], [], []), ((0, 3, .ofNat 5048), (0, 0, .ofNat 0), (0, 0, .ofNat 0)), 0, 0)]
set_option maxRecDepth 1000000 in
theorem cv734 {gh : sxGh} (hg : sxGd sxKw gh) : sxCtV sxKw gh ct734 := sxMeB_ok (cts := [ct733, ct524, ct730, ct731]) (cuts := cu734) (sp := []) 179 (by decide +kernel) hg (by decide) (by decide) (List.forall_mem_cons.mpr ⟨cv733 hg, (List.forall_mem_cons.mpr ⟨cv524 hg, (List.forall_mem_cons.mpr ⟨cv730 hg, (List.forall_mem_cons.mpr ⟨cv731 hg, (fun _ h => absurd h List.not_mem_nil)⟩)⟩)⟩)⟩)
/-- LotBeliefs.Survey.never -/
def ct735 : sxCt := (76, 0, (2, [(1, .ofNat 0, .ofNat 7)], [], [(0, .inl 58), (1, .inr (false, (1, .ofNat 0)))], [], [], [], []), [], [
  (3, [(2, .ofNat 0, .ofNat 127)], [], [], [.inr (false, (2, .ofNat 0))], [], [], [])], [], 0, 0)
def cu735 : List sxCu := [
  (8, (4, [(1, .ofNat 0, .ofNat 7), (2, .ofNat 0, .ofNat 127), (3, .ofNat 0, .ofNat 128)], [], [(0, .inl 58), (1, .inr (false, (1, .ofNat 0))), (2, .inr (false, (2, .ofNat 0))), (3, .inr (false, (3, .ofNat 0)))], [], [], [], []), ((0, 3, .ofNat 128), (0, 0, .ofNat 0), (0, 0, .ofNat 0)), 0, 0)]
set_option maxRecDepth 1000000 in
theorem cv735 {gh : sxGh} (hg : sxGd sxKw gh) : sxCtV sxKw gh ct735 := sxMeB_ok (cts := []) (cuts := cu735) (sp := []) 90 (by decide +kernel) hg (by decide) (by decide) (fun _ h => absurd h List.not_mem_nil)
/-- LotBeliefs.Survey.always -/
def ct736 : sxCt := (75, 0, (2, [(1, .ofNat 0, .ofNat 7)], [], [(0, .inl 58), (1, .inr (false, (1, .ofNat 0)))], [], [], [], []), [], [
  (3, [(2, .ofNat 0, .ofNat 127)], [], [], [.inr (false, (2, .ofNat 0))], [], [], [])], [], 0, 0)
def cu736 : List sxCu := [
  (8, (4, [(1, .ofNat 0, .ofNat 7), (2, .ofNat 0, .ofNat 127), (3, .ofNat 0, .ofNat 128)], [], [(0, .inl 58), (1, .inr (false, (1, .ofNat 0))), (2, .inr (false, (2, .ofNat 0))), (3, .inr (false, (3, .ofNat 0)))], [], [], [], []), ((0, 3, .ofNat 128), (0, 0, .ofNat 0), (0, 0, .ofNat 0)), 0, 0)]
set_option maxRecDepth 1000000 in
theorem cv736 {gh : sxGh} (hg : sxGd sxKw gh) : sxCtV sxKw gh ct736 := sxMeB_ok (cts := []) (cuts := cu736) (sp := []) 88 (by decide +kernel) hg (by decide) (by decide) (fun _ h => absurd h List.not_mem_nil)
/-- LotBeliefs.Survey.unlike -/
def ct737 : sxCt := (74, 0, (1, [], [], [(0, .inl 58)], [], [], [], []), [], [
  (2, [(1, .ofNat 0, .ofNat 128)], [], [], [.inr (false, (1, .ofNat 0))], [], [], [])], [], 0, 0)
def cu737 : List sxCu := [
  (4, (3, [(1, .ofNat 0, .ofNat 128), (2, .ofNat 0, .ofNat 128)], [(1, 2, .ofNat 0)], [(0, .inl 58), (1, .inr (false, (1, .ofNat 0))), (2, .inr (false, (2, .ofNat 0)))], [], [], [], []), ((0, 2, .ofNat 128), (0, 0, .ofNat 0), (0, 0, .ofNat 0)), 0, 0)]
set_option maxRecDepth 1000000 in
theorem cv737 {gh : sxGh} (hg : sxGd sxKw gh) : sxCtV sxKw gh ct737 := sxMeB_ok (cts := []) (cuts := cu737) (sp := []) 81 (by decide +kernel) hg (by decide) (by decide) (fun _ h => absurd h List.not_mem_nil)
/-- LotBeliefs.Survey.take -/
def ct738 : sxCt := (69, 5, (2, [(1, .ofNat 0, .ofNat 63)], [], [(0, .inl 58), (1, .inl 11), (2, .inl 19), (3, .inr (false, (1, .ofNat 0))), (4, .inl 32)], [], [], [], []), [(21, 0), (22, 0), (25, 0), (26, 0), (32, 1), (32, 2), (32, 3), (32, 4), (32, 9), (32, 11), (32, 12), (58, 2), (58, 3), (58, 6), (58, 7), (33000037, 0), (59000061, 0)], [
  (3, [(2, .ofNat 0, .ofNat 63)], [(1, 2, .ofNat 0), (2, 1, .ofNat 0)], [], [], [(58, (0, .ofNat 1), .inr (false, (0, .ofNat 1))), (58, (0, .ofNat 2), .inr (false, (2, .ofNat 0)))], [], [])], [], 0, 0)
def cu738 : List sxCu := [
  (115, (7, [(1, .ofNat 0, .ofNat 63), (2, .ofNat 0, .ofNat 7), (3, .negSucc 0, .ofNat 5), (4, .ofNat 0, .ofNat 5040), (5, .ofNat 0, .ofNat 12), (6, .negSucc 2147483647, .ofNat 2147483647)], [(2, 5, .ofNat 0), (5, 2, .ofNat 5)], [(0, .inl 58), (1, .inl 11), (2, .inl 19), (3, .inr (false, (1, .ofNat 0))), (4, .inl 32), (5, .inr (false, (2, .ofNat 0))), (6, .inr (false, (3, .ofNat 0))), (7, .inr (false, (4, .ofNat 0)))], [], [(11, (0, .ofNat 2), .inr (false, (5, .ofNat 0))), (32, (0, .ofNat 0), .inl 11), (32, (0, .ofNat 1), .inl 19), (32, (0, .ofNat 2), .inr (false, (0, .ofNat 0))), (32, (0, .ofNat 3), .inr (false, (1, .ofNat 0))), (58, (0, .ofNat 0), .inr (false, (0, .ofNat 0))), (58, (0, .ofNat 1), .inr (false, (0, .ofNat 1))), (58, (0, .ofNat 2), .inr (false, (1, .ofNat 0))), (58, (0, .ofNat 3), .inl 59), (58, (0, .ofNat 5), .inr (false, (6, .ofNat 0))), (58, (0, .ofNat 7), .inl 61)], [], []), ((0, 4, .ofNat 5040), (0, 0, .ofNat 0), (0, 0, .ofNat 0)), 0, 0), 
  (34, (3, [(1, .ofNat 0, .ofNat 63), (2, .ofNat 0, .ofNat 128)], [], [(0, .inl 58), (1, .inl 11), (2, .inl 19), (3, .inr (false, (1, .ofNat 0))), (4, .inl 32), (5, .inr (false, (2, .ofNat 0)))], [], [(58, (0, .ofNat 1), .inr (false, (0, .ofNat 1))), (58, (0, .ofNat 2), .inr (false, (1, .ofNat 0))), (58, (0, .ofNat 5), .inr (false, (0, .negSucc 0)))], [], []), ((0, 2, .ofNat 5177), (0, 0, .ofNat 0), (0, 0, .ofNat 0)), 0, 0), 
  (75, (5, [(1, .ofNat 0, .ofNat 63), (2, .ofNat 0, .ofNat 7), (3, .ofNat 0, .ofNat 7), (4, .ofNat 0, .ofNat 12)], [(2, 4, .ofNat 0), (4, 2, .ofNat 5)], [(0, .inl 58), (1, .inl 11), (2, .inl 19), (3, .inr (false, (1, .ofNat 0))), (4, .inl 32), (5, .inr (false, (2, .ofNat 0))), (6, .inr (false, (3, .ofNat 0)))], [], [(11, (0, .ofNat 2), .inr (false, (4, .ofNat 0))), (58, (0, .ofNat 1), .inr (false, (0, .ofNat 1))), (58, (0, .ofNat 2), .inr (false, (1, .ofNat 0))), (58, (0, .ofNat 3), .inl 59), (58, (0, .ofNat 5), .inr (false, (0, .negSucc 0))), (58, (0, .ofNat 7), .inl 61)], [], []), ((0, 3, .ofNat 5048), (0, 0, .ofNat 0), (0, 0, .ofNat 0)), 0, 0)]
set_option maxRecDepth 1000000 in
theorem cv738 {gh : sxGh} (hg : sxGd sxKw gh) : sxCtV sxKw gh ct738 := sxMeB_ok (cts := [ct733, ct524, ct730, ct731]) (cuts := cu738) (sp := []) 179 (by decide +kernel) hg (by decide) (by decide) (List.forall_mem_cons.mpr ⟨cv733 hg, (List.forall_mem_cons.mpr ⟨cv524 hg, (List.forall_mem_cons.mpr ⟨cv730 hg, (List.forall_mem_cons.mpr ⟨cv731 hg, (fun _ h => absurd h List.not_mem_nil)⟩)⟩)⟩)⟩)
/-- LotBeliefs.Survey.take -/
def ct739 : sxCt := (69, 5, (2, [(1, .ofNat 0, .ofNat 63)], [], [(0, .inl 74), (1, .inl 3), (2, .inl 23), (3, .inr (false, (1, .ofNat 0))), (4, .inl 32)], [], [], [], []), [(21, 0), (22, 0), (25, 0), (26, 0), (32, 1), (32, 2), (32, 3), (32, 4), (32, 9), (32, 11), (32, 12), (74, 2), (74, 3), (74, 6), (74, 7), (33000037, 0), (75000077, 0)], [
  (3, [(2, .ofNat 0, .ofNat 63)], [(1, 2, .ofNat 0), (2, 1, .ofNat 0)], [], [], [(74, (0, .ofNat 1), .inr (false, (0, .ofNat 1))), (74, (0, .ofNat 2), .inr (false, (2, .ofNat 0)))], [], [])], [], 0, 0)
def cu739 : List sxCu := [
  (115, (7, [(1, .ofNat 0, .ofNat 63), (2, .ofNat 0, .ofNat 7), (3, .negSucc 0, .ofNat 5), (4, .ofNat 0, .ofNat 5040), (5, .ofNat 0, .ofNat 12), (6, .negSucc 2147483647, .ofNat 2147483647)], [(2, 5, .ofNat 0), (5, 2, .ofNat 5)], [(0, .inl 74), (1, .inl 3), (2, .inl 23), (3, .inr (false, (1, .ofNat 0))), (4, .inl 32), (5, .inr (false, (2, .ofNat 0))), (6, .inr (false, (3, .ofNat 0))), (7, .inr (false, (4, .ofNat 0)))], [], [(3, (0, .ofNat 2), .inr (false, (5, .ofNat 0))), (32, (0, .ofNat 0), .inl 3), (32, (0, .ofNat 1), .inl 23), (32, (0, .ofNat 2), .inr (false, (0, .ofNat 4))), (32, (0, .ofNat 3), .inr (false, (1, .ofNat 0))), (74, (0, .ofNat 0), .inr (false, (0, .ofNat 4))), (74, (0, .ofNat 1), .inr (false, (0, .ofNat 1))), (74, (0, .ofNat 2), .inr (false, (1, .ofNat 0))), (74, (0, .ofNat 3), .inl 75), (74, (0, .ofNat 5), .inr (false, (6, .ofNat 0))), (74, (0, .ofNat 7), .inl 77)], [], []), ((0, 4, .ofNat 5040), (0, 0, .ofNat 0), (0, 0, .ofNat 0)), 0, 0), 
  (34, (3, [(1, .ofNat 0, .ofNat 63), (2, .ofNat 0, .ofNat 128)], [], [(0, .inl 74), (1, .inl 3), (2, .inl 23), (3, .inr (false, (1, .ofNat 0))), (4, .inl 32), (5, .inr (false, (2, .ofNat 0)))], [], [(74, (0, .ofNat 1), .inr (false, (0, .ofNat 1))), (74, (0, .ofNat 2), .inr (false, (1, .ofNat 0))), (74, (0, .ofNat 5), .inr (false, (0, .negSucc 0)))], [], []), ((0, 2, .ofNat 5177), (0, 0, .ofNat 0), (0, 0, .ofNat 0)), 0, 0), 
  (75, (5, [(1, .ofNat 0, .ofNat 63), (2, .ofNat 0, .ofNat 7), (3, .ofNat 0, .ofNat 7), (4, .ofNat 0, .ofNat 12)], [(2, 4, .ofNat 0), (4, 2, .ofNat 5)], [(0, .inl 74), (1, .inl 3), (2, .inl 23), (3, .inr (false, (1, .ofNat 0))), (4, .inl 32), (5, .inr (false, (2, .ofNat 0))), (6, .inr (false, (3, .ofNat 0)))], [], [(3, (0, .ofNat 2), .inr (false, (4, .ofNat 0))), (74, (0, .ofNat 1), .inr (false, (0, .ofNat 1))), (74, (0, .ofNat 2), .inr (false, (1, .ofNat 0))), (74, (0, .ofNat 3), .inl 75), (74, (0, .ofNat 5), .inr (false, (0, .negSucc 0))), (74, (0, .ofNat 7), .inl 77)], [], []), ((0, 3, .ofNat 5048), (0, 0, .ofNat 0), (0, 0, .ofNat 0)), 0, 0)]
set_option maxRecDepth 1000000 in
theorem cv739 {gh : sxGh} (hg : sxGd sxKw gh) : sxCtV sxKw gh ct739 := sxMeB_ok (cts := [ct577, ct524, ct574, ct575]) (cuts := cu739) (sp := []) 179 (by decide +kernel) hg (by decide) (by decide) (List.forall_mem_cons.mpr ⟨cv577 hg, (List.forall_mem_cons.mpr ⟨cv524 hg, (List.forall_mem_cons.mpr ⟨cv574 hg, (List.forall_mem_cons.mpr ⟨cv575 hg, (fun _ h => absurd h List.not_mem_nil)⟩)⟩)⟩)⟩)
/-- LotBeliefs.Survey.take -/
def ct740 : sxCt := (69, 5, (2, [(1, .ofNat 0, .ofNat 63)], [], [(0, .inl 74), (1, .inl 3), (2, .inl 19), (3, .inr (false, (1, .ofNat 0))), (4, .inl 32)], [], [], [], []), [(21, 0), (22, 0), (25, 0), (26, 0), (32, 1), (32, 2), (32, 3), (32, 4), (32, 9), (32, 11), (32, 12), (74, 2), (74, 3), (74, 6), (74, 7), (33000037, 0), (75000077, 0)], [
  (3, [(2, .ofNat 0, .ofNat 63)], [(1, 2, .ofNat 0), (2, 1, .ofNat 0)], [], [], [(74, (0, .ofNat 1), .inr (false, (0, .ofNat 1))), (74, (0, .ofNat 2), .inr (false, (2, .ofNat 0)))], [], [])], [], 0, 0)
def cu740 : List sxCu := [
  (115, (7, [(1, .ofNat 0, .ofNat 63), (2, .ofNat 0, .ofNat 7), (3, .negSucc 0, .ofNat 5), (4, .ofNat 0, .ofNat 5040), (5, .ofNat 0, .ofNat 12), (6, .negSucc 2147483647, .ofNat 2147483647)], [(2, 5, .ofNat 0), (5, 2, .ofNat 5)], [(0, .inl 74), (1, .inl 3), (2, .inl 19), (3, .inr (false, (1, .ofNat 0))), (4, .inl 32), (5, .inr (false, (2, .ofNat 0))), (6, .inr (false, (3, .ofNat 0))), (7, .inr (false, (4, .ofNat 0)))], [], [(3, (0, .ofNat 2), .inr (false, (5, .ofNat 0))), (32, (0, .ofNat 0), .inl 3), (32, (0, .ofNat 1), .inl 19), (32, (0, .ofNat 2), .inr (false, (0, .ofNat 4))), (32, (0, .ofNat 3), .inr (false, (1, .ofNat 0))), (74, (0, .ofNat 0), .inr (false, (0, .ofNat 4))), (74, (0, .ofNat 1), .inr (false, (0, .ofNat 1))), (74, (0, .ofNat 2), .inr (false, (1, .ofNat 0))), (74, (0, .ofNat 3), .inl 75), (74, (0, .ofNat 5), .inr (false, (6, .ofNat 0))), (74, (0, .ofNat 7), .inl 77)], [], []), ((0, 4, .ofNat 5040), (0, 0, .ofNat 0), (0, 0, .ofNat 0)), 0, 0), 
  (34, (3, [(1, .ofNat 0, .ofNat 63), (2, .ofNat 0, .ofNat 128)], [], [(0, .inl 74), (1, .inl 3), (2, .inl 19), (3, .inr (false, (1, .ofNat 0))), (4, .inl 32), (5, .inr (false, (2, .ofNat 0)))], [], [(74, (0, .ofNat 1), .inr (false, (0, .ofNat 1))), (74, (0, .ofNat 2), .inr (false, (1, .ofNat 0))), (74, (0, .ofNat 5), .inr (false, (0, .negSucc 0)))], [], []), ((0, 2, .ofNat 5177), (0, 0, .ofNat 0), (0, 0, .ofNat 0)), 0, 0), 
  (75, (5, [(1, .ofNat 0, .ofNat 63), (2, .ofNat 0, .ofNat 7), (3, .ofNat 0, .ofNat 7), (4, .ofNat 0, .ofNat 12)], [(2, 4, .ofNat 0), (4, 2, .ofNat 5)], [(0, .inl 74), (1, .inl 3), (2, .inl 19), (3, .inr (false, (1, .ofNat 0))), (4, .inl 32), (5, .inr (false, (2, .ofNat 0))), (6, .inr (false, (3, .ofNat 0)))], [], [(3, (0, .ofNat 2), .inr (false, (4, .ofNat 0))), (74, (0, .ofNat 1), .inr (false, (0, .ofNat 1))), (74, (0, .ofNat 2), .inr (false, (1, .ofNat 0))), (74, (0, .ofNat 3), .inl 75), (74, (0, .ofNat 5), .inr (false, (0, .negSucc 0))), (74, (0, .ofNat 7), .inl 77)], [], []), ((0, 3, .ofNat 5048), (0, 0, .ofNat 0), (0, 0, .ofNat 0)), 0, 0)]
set_option maxRecDepth 1000000 in
theorem cv740 {gh : sxGh} (hg : sxGd sxKw gh) : sxCtV sxKw gh ct740 := sxMeB_ok (cts := [ct577, ct524, ct574, ct575]) (cuts := cu740) (sp := []) 179 (by decide +kernel) hg (by decide) (by decide) (List.forall_mem_cons.mpr ⟨cv577 hg, (List.forall_mem_cons.mpr ⟨cv524 hg, (List.forall_mem_cons.mpr ⟨cv574 hg, (List.forall_mem_cons.mpr ⟨cv575 hg, (fun _ h => absurd h List.not_mem_nil)⟩)⟩)⟩)⟩)
/-- LotBeliefs.Survey.take -/
def ct741 : sxCt := (69, 5, (2, [(1, .ofNat 0, .ofNat 63)], [], [(0, .inl 70), (1, .inl 3), (2, .inl 23), (3, .inr (false, (1, .ofNat 0))), (4, .inl 32)], [], [], [], []), [(21, 0), (22, 0), (25, 0), (26, 0), (32, 1), (32, 2), (32, 3), (32, 4), (32, 9), (32, 11), (32, 12), (70, 2), (70, 3), (70, 6), (70, 7), (33000037, 0), (71000073, 0)], [
  (3, [(2, .ofNat 0, .ofNat 63)], [(1, 2, .ofNat 0), (2, 1, .ofNat 0)], [], [], [(70, (0, .ofNat 1), .inr (false, (0, .ofNat 1))), (70, (0, .ofNat 2), .inr (false, (2, .ofNat 0)))], [], [])], [], 0, 0)
def cu741 : List sxCu := [
  (115, (7, [(1, .ofNat 0, .ofNat 63), (2, .ofNat 0, .ofNat 7), (3, .negSucc 0, .ofNat 5), (4, .ofNat 0, .ofNat 5040), (5, .ofNat 0, .ofNat 12), (6, .negSucc 2147483647, .ofNat 2147483647)], [(2, 5, .ofNat 0), (5, 2, .ofNat 5)], [(0, .inl 70), (1, .inl 3), (2, .inl 23), (3, .inr (false, (1, .ofNat 0))), (4, .inl 32), (5, .inr (false, (2, .ofNat 0))), (6, .inr (false, (3, .ofNat 0))), (7, .inr (false, (4, .ofNat 0)))], [], [(3, (0, .ofNat 2), .inr (false, (5, .ofNat 0))), (32, (0, .ofNat 0), .inl 3), (32, (0, .ofNat 1), .inl 23), (32, (0, .ofNat 2), .inr (false, (0, .ofNat 3))), (32, (0, .ofNat 3), .inr (false, (1, .ofNat 0))), (70, (0, .ofNat 0), .inr (false, (0, .ofNat 3))), (70, (0, .ofNat 1), .inr (false, (0, .ofNat 1))), (70, (0, .ofNat 2), .inr (false, (1, .ofNat 0))), (70, (0, .ofNat 3), .inl 71), (70, (0, .ofNat 5), .inr (false, (6, .ofNat 0))), (70, (0, .ofNat 7), .inl 73)], [], []), ((0, 4, .ofNat 5040), (0, 0, .ofNat 0), (0, 0, .ofNat 0)), 0, 0), 
  (34, (3, [(1, .ofNat 0, .ofNat 63), (2, .ofNat 0, .ofNat 128)], [], [(0, .inl 70), (1, .inl 3), (2, .inl 23), (3, .inr (false, (1, .ofNat 0))), (4, .inl 32), (5, .inr (false, (2, .ofNat 0)))], [], [(70, (0, .ofNat 1), .inr (false, (0, .ofNat 1))), (70, (0, .ofNat 2), .inr (false, (1, .ofNat 0))), (70, (0, .ofNat 5), .inr (false, (0, .negSucc 0)))], [], []), ((0, 2, .ofNat 5177), (0, 0, .ofNat 0), (0, 0, .ofNat 0)), 0, 0), 
  (75, (5, [(1, .ofNat 0, .ofNat 63), (2, .ofNat 0, .ofNat 7), (3, .ofNat 0, .ofNat 7), (4, .ofNat 0, .ofNat 12)], [(2, 4, .ofNat 0), (4, 2, .ofNat 5)], [(0, .inl 70), (1, .inl 3), (2, .inl 23), (3, .inr (false, (1, .ofNat 0))), (4, .inl 32), (5, .inr (false, (2, .ofNat 0))), (6, .inr (false, (3, .ofNat 0)))], [], [(3, (0, .ofNat 2), .inr (false, (4, .ofNat 0))), (70, (0, .ofNat 1), .inr (false, (0, .ofNat 1))), (70, (0, .ofNat 2), .inr (false, (1, .ofNat 0))), (70, (0, .ofNat 3), .inl 71), (70, (0, .ofNat 5), .inr (false, (0, .negSucc 0))), (70, (0, .ofNat 7), .inl 73)], [], []), ((0, 3, .ofNat 5048), (0, 0, .ofNat 0), (0, 0, .ofNat 0)), 0, 0)]
set_option maxRecDepth 1000000 in
theorem cv741 {gh : sxGh} (hg : sxGd sxKw gh) : sxCtV sxKw gh ct741 := sxMeB_ok (cts := [ct616, ct524, ct613, ct614]) (cuts := cu741) (sp := []) 179 (by decide +kernel) hg (by decide) (by decide) (List.forall_mem_cons.mpr ⟨cv616 hg, (List.forall_mem_cons.mpr ⟨cv524 hg, (List.forall_mem_cons.mpr ⟨cv613 hg, (List.forall_mem_cons.mpr ⟨cv614 hg, (fun _ h => absurd h List.not_mem_nil)⟩)⟩)⟩)⟩)
/-- LotBeliefs.Survey.take -/
def ct742 : sxCt := (69, 5, (2, [(1, .ofNat 0, .ofNat 63)], [], [(0, .inl 70), (1, .inl 3), (2, .inl 19), (3, .inr (false, (1, .ofNat 0))), (4, .inl 32)], [], [], [], []), [(21, 0), (22, 0), (25, 0), (26, 0), (32, 1), (32, 2), (32, 3), (32, 4), (32, 9), (32, 11), (32, 12), (70, 2), (70, 3), (70, 6), (70, 7), (33000037, 0), (71000073, 0)], [
  (3, [(2, .ofNat 0, .ofNat 63)], [(1, 2, .ofNat 0), (2, 1, .ofNat 0)], [], [], [(70, (0, .ofNat 1), .inr (false, (0, .ofNat 1))), (70, (0, .ofNat 2), .inr (false, (2, .ofNat 0)))], [], [])], [], 0, 0)
def cu742 : List sxCu := [
  (115, (7, [(1, .ofNat 0, .ofNat 63), (2, .ofNat 0, .ofNat 7), (3, .negSucc 0, .ofNat 5), (4, .ofNat 0, .ofNat 5040), (5, .ofNat 0, .ofNat 12), (6, .negSucc 2147483647, .ofNat 2147483647)], [(2, 5, .ofNat 0), (5, 2, .ofNat 5)], [(0, .inl 70), (1, .inl 3), (2, .inl 19), (3, .inr (false, (1, .ofNat 0))), (4, .inl 32), (5, .inr (false, (2, .ofNat 0))), (6, .inr (false, (3, .ofNat 0))), (7, .inr (false, (4, .ofNat 0)))], [], [(3, (0, .ofNat 2), .inr (false, (5, .ofNat 0))), (32, (0, .ofNat 0), .inl 3), (32, (0, .ofNat 1), .inl 19), (32, (0, .ofNat 2), .inr (false, (0, .ofNat 3))), (32, (0, .ofNat 3), .inr (false, (1, .ofNat 0))), (70, (0, .ofNat 0), .inr (false, (0, .ofNat 3))), (70, (0, .ofNat 1), .inr (false, (0, .ofNat 1))), (70, (0, .ofNat 2), .inr (false, (1, .ofNat 0))), (70, (0, .ofNat 3), .inl 71), (70, (0, .ofNat 5), .inr (false, (6, .ofNat 0))), (70, (0, .ofNat 7), .inl 73)], [], []), ((0, 4, .ofNat 5040), (0, 0, .ofNat 0), (0, 0, .ofNat 0)), 0, 0), 
  (34, (3, [(1, .ofNat 0, .ofNat 63), (2, .ofNat 0, .ofNat 128)], [], [(0, .inl 70), (1, .inl 3), (2, .inl 19), (3, .inr (false, (1, .ofNat 0))), (4, .inl 32), (5, .inr (false, (2, .ofNat 0)))], [], [(70, (0, .ofNat 1), .inr (false, (0, .ofNat 1))), (70, (0, .ofNat 2), .inr (false, (1, .ofNat 0))), (70, (0, .ofNat 5), .inr (false, (0, .negSucc 0)))], [], []), ((0, 2, .ofNat 5177), (0, 0, .ofNat 0), (0, 0, .ofNat 0)), 0, 0), 
  (75, (5, [(1, .ofNat 0, .ofNat 63), (2, .ofNat 0, .ofNat 7), (3, .ofNat 0, .ofNat 7), (4, .ofNat 0, .ofNat 12)], [(2, 4, .ofNat 0), (4, 2, .ofNat 5)], [(0, .inl 70), (1, .inl 3), (2, .inl 19), (3, .inr (false, (1, .ofNat 0))), (4, .inl 32), (5, .inr (false, (2, .ofNat 0))), (6, .inr (false, (3, .ofNat 0)))], [], [(3, (0, .ofNat 2), .inr (false, (4, .ofNat 0))), (70, (0, .ofNat 1), .inr (false, (0, .ofNat 1))), (70, (0, .ofNat 2), .inr (false, (1, .ofNat 0))), (70, (0, .ofNat 3), .inl 71), (70, (0, .ofNat 5), .inr (false, (0, .negSucc 0))), (70, (0, .ofNat 7), .inl 73)], [], []), ((0, 3, .ofNat 5048), (0, 0, .ofNat 0), (0, 0, .ofNat 0)), 0, 0)]
set_option maxRecDepth 1000000 in
theorem cv742 {gh : sxGh} (hg : sxGd sxKw gh) : sxCtV sxKw gh ct742 := sxMeB_ok (cts := [ct616, ct524, ct613, ct614]) (cuts := cu742) (sp := []) 179 (by decide +kernel) hg (by decide) (by decide) (List.forall_mem_cons.mpr ⟨cv616 hg, (List.forall_mem_cons.mpr ⟨cv524 hg, (List.forall_mem_cons.mpr ⟨cv613 hg, (List.forall_mem_cons.mpr ⟨cv614 hg, (fun _ h => absurd h List.not_mem_nil)⟩)⟩)⟩)⟩)
/-- LotBeliefs.Survey.take -/
def ct743 : sxCt := (69, 5, (2, [(1, .ofNat 0, .ofNat 63)], [], [(0, .inl 66), (1, .inl 3), (2, .inl 23), (3, .inr (false, (1, .ofNat 0))), (4, .inl 32)], [], [], [], []), [(21, 0), (22, 0), (25, 0), (26, 0), (32, 1), (32, 2), (32, 3), (32, 4), (32, 9), (32, 11), (32, 12), (66, 2), (66, 3), (66, 6), (66, 7), (33000037, 0), (67000069, 0)], [
  (3, [(2, .ofNat 0, .ofNat 63)], [(1, 2, .ofNat 0), (2, 1, .ofNat 0)], [], [], [(66, (0, .ofNat 1), .inr (false, (0, .ofNat 1))), (66, (0, .ofNat 2), .inr (false, (2, .ofNat 0)))], [], [])], [], 0, 0)
def cu743 : List sxCu := [
  (115, (7, [(1, .ofNat 0, .ofNat 63), (2, .ofNat 0, .ofNat 7), (3, .negSucc 0, .ofNat 5), (4, .ofNat 0, .ofNat 5040), (5, .ofNat 0, .ofNat 12), (6, .negSucc 2147483647, .ofNat 2147483647)], [(2, 5, .ofNat 0), (5, 2, .ofNat 5)], [(0, .inl 66), (1, .inl 3), (2, .inl 23), (3, .inr (false, (1, .ofNat 0))), (4, .inl 32), (5, .inr (false, (2, .ofNat 0))), (6, .inr (false, (3, .ofNat 0))), (7, .inr (false, (4, .ofNat 0)))], [], [(3, (0, .ofNat 2), .inr (false, (5, .ofNat 0))), (32, (0, .ofNat 0), .inl 3), (32, (0, .ofNat 1), .inl 23), (32, (0, .ofNat 2), .inr (false, (0, .ofNat 2))), (32, (0, .ofNat 3), .inr (false, (1, .ofNat 0))), (66, (0, .ofNat 0), .inr (false, (0, .ofNat 2))), (66, (0, .ofNat 1), .inr (false, (0, .ofNat 1))), (66, (0, .ofNat 2), .inr (false, (1, .ofNat 0))), (66, (0, .ofNat 3), .inl 67), (66, (0, .ofNat 5), .inr (false, (6, .ofNat 0))), (66, (0, .ofNat 7), .inl 69)], [], []), ((0, 4, .ofNat 5040), (0, 0, .ofNat 0), (0, 0, .ofNat 0)), 0, 0), 
  (34, (3, [(1, .ofNat 0, .ofNat 63), (2, .ofNat 0, .ofNat 128)], [], [(0, .inl 66), (1, .inl 3), (2, .inl 23), (3, .inr (false, (1, .ofNat 0))), (4, .inl 32), (5, .inr (false, (2, .ofNat 0)))], [], [(66, (0, .ofNat 1), .inr (false, (0, .ofNat 1))), (66, (0, .ofNat 2), .inr (false, (1, .ofNat 0))), (66, (0, .ofNat 5), .inr (false, (0, .negSucc 0)))], [], []), ((0, 2, .ofNat 5177), (0, 0, .ofNat 0), (0, 0, .ofNat 0)), 0, 0), 
  (75, (5, [(1, .ofNat 0, .ofNat 63), (2, .ofNat 0, .ofNat 7), (3, .ofNat 0, .ofNat 7), (4, .ofNat 0, .ofNat 12)], [(2, 4, .ofNat 0), (4, 2, .ofNat 5)], [(0, .inl 66), (1, .inl 3), (2, .inl 23), (3, .inr (false, (1, .ofNat 0))), (4, .inl 32), (5, .inr (false, (2, .ofNat 0))), (6, .inr (false, (3, .ofNat 0)))], [], [(3, (0, .ofNat 2), .inr (false, (4, .ofNat 0))), (66, (0, .ofNat 1), .inr (false, (0, .ofNat 1))), (66, (0, .ofNat 2), .inr (false, (1, .ofNat 0))), (66, (0, .ofNat 3), .inl 67), (66, (0, .ofNat 5), .inr (false, (0, .negSucc 0))), (66, (0, .ofNat 7), .inl 69)], [], []), ((0, 3, .ofNat 5048), (0, 0, .ofNat 0), (0, 0, .ofNat 0)), 0, 0)]
set_option maxRecDepth 1000000 in
theorem cv743 {gh : sxGh} (hg : sxGd sxKw gh) : sxCtV sxKw gh ct743 := sxMeB_ok (cts := [ct655, ct524, ct652, ct653]) (cuts := cu743) (sp := []) 179 (by decide +kernel) hg (by decide) (by decide) (List.forall_mem_cons.mpr ⟨cv655 hg, (List.forall_mem_cons.mpr ⟨cv524 hg, (List.forall_mem_cons.mpr ⟨cv652 hg, (List.forall_mem_cons.mpr ⟨cv653 hg, (fun _ h => absurd h List.not_mem_nil)⟩)⟩)⟩)⟩)
/-- LotBeliefs.Survey.take -/
def ct744 : sxCt := (69, 5, (2, [(1, .ofNat 0, .ofNat 63)], [], [(0, .inl 66), (1, .inl 3), (2, .inl 19), (3, .inr (false, (1, .ofNat 0))), (4, .inl 32)], [], [], [], []), [(21, 0), (22, 0), (25, 0), (26, 0), (32, 1), (32, 2), (32, 3), (32, 4), (32, 9), (32, 11), (32, 12), (66, 2), (66, 3), (66, 6), (66, 7), (33000037, 0), (67000069, 0)], [
  (3, [(2, .ofNat 0, .ofNat 63)], [(1, 2, .ofNat 0), (2, 1, .ofNat 0)], [], [], [(66, (0, .ofNat 1), .inr (false, (0, .ofNat 1))), (66, (0, .ofNat 2), .inr (false, (2, .ofNat 0)))], [], [])], [], 0, 0)
def cu744 : List sxCu := [
  (115, (7, [(1, .ofNat 0, .ofNat 63), (2, .ofNat 0, .ofNat 7), (3, .negSucc 0, .ofNat 5), (4, .ofNat 0, .ofNat 5040), (5, .ofNat 0, .ofNat 12), (6, .negSucc 2147483647, .ofNat 2147483647)], [(2, 5, .ofNat 0), (5, 2, .ofNat 5)], [(0, .inl 66), (1, .inl 3), (2, .inl 19), (3, .inr (false, (1, .ofNat 0))), (4, .inl 32), (5, .inr (false, (2, .ofNat 0))), (6, .inr (false, (3, .ofNat 0))), (7, .inr (false, (4, .ofNat 0)))], [], [(3, (0, .ofNat 2), .inr (false, (5, .ofNat 0))), (32, (0, .ofNat 0), .inl 3), (32, (0, .ofNat 1), .inl 19), (32, (0, .ofNat 2), .inr (false, (0, .ofNat 2))), (32, (0, .ofNat 3), .inr (false, (1, .ofNat 0))), (66, (0, .ofNat 0), .inr (false, (0, .ofNat 2))), (66, (0, .ofNat 1), .inr (false, (0, .ofNat 1))), (66, (0, .ofNat 2), .inr (false, (1, .ofNat 0))), (66, (0, .ofNat 3), .inl 67), (66, (0, .ofNat 5), .inr (false, (6, .ofNat 0))), (66, (0, .ofNat 7), .inl 69)], [], []), ((0, 4, .ofNat 5040), (0, 0, .ofNat 0), (0, 0, .ofNat 0)), 0, 0), 
  (34, (3, [(1, .ofNat 0, .ofNat 63), (2, .ofNat 0, .ofNat 128)], [], [(0, .inl 66), (1, .inl 3), (2, .inl 19), (3, .inr (false, (1, .ofNat 0))), (4, .inl 32), (5, .inr (false, (2, .ofNat 0)))], [], [(66, (0, .ofNat 1), .inr (false, (0, .ofNat 1))), (66, (0, .ofNat 2), .inr (false, (1, .ofNat 0))), (66, (0, .ofNat 5), .inr (false, (0, .negSucc 0)))], [], []), ((0, 2, .ofNat 5177), (0, 0, .ofNat 0), (0, 0, .ofNat 0)), 0, 0), 
  (75, (5, [(1, .ofNat 0, .ofNat 63), (2, .ofNat 0, .ofNat 7), (3, .ofNat 0, .ofNat 7), (4, .ofNat 0, .ofNat 12)], [(2, 4, .ofNat 0), (4, 2, .ofNat 5)], [(0, .inl 66), (1, .inl 3), (2, .inl 19), (3, .inr (false, (1, .ofNat 0))), (4, .inl 32), (5, .inr (false, (2, .ofNat 0))), (6, .inr (false, (3, .ofNat 0)))], [], [(3, (0, .ofNat 2), .inr (false, (4, .ofNat 0))), (66, (0, .ofNat 1), .inr (false, (0, .ofNat 1))), (66, (0, .ofNat 2), .inr (false, (1, .ofNat 0))), (66, (0, .ofNat 3), .inl 67), (66, (0, .ofNat 5), .inr (false, (0, .negSucc 0))), (66, (0, .ofNat 7), .inl 69)], [], []), ((0, 3, .ofNat 5048), (0, 0, .ofNat 0), (0, 0, .ofNat 0)), 0, 0)]
set_option maxRecDepth 1000000 in
theorem cv744 {gh : sxGh} (hg : sxGd sxKw gh) : sxCtV sxKw gh ct744 := sxMeB_ok (cts := [ct655, ct524, ct652, ct653]) (cuts := cu744) (sp := []) 179 (by decide +kernel) hg (by decide) (by decide) (List.forall_mem_cons.mpr ⟨cv655 hg, (List.forall_mem_cons.mpr ⟨cv524 hg, (List.forall_mem_cons.mpr ⟨cv652 hg, (List.forall_mem_cons.mpr ⟨cv653 hg, (fun _ h => absurd h List.not_mem_nil)⟩)⟩)⟩)⟩)
/-- LotBeliefs.Survey.take -/
def ct745 : sxCt := (69, 5, (2, [(1, .ofNat 0, .ofNat 63)], [], [(0, .inl 62), (1, .inl 3), (2, .inl 23), (3, .inr (false, (1, .ofNat 0))), (4, .inl 32)], [], [], [], []), [(21, 0), (22, 0), (25, 0), (26, 0), (32, 1), (32, 2), (32, 3), (32, 4), (32, 9), (32, 11), (32, 12), (62, 2), (62, 3), (62, 6), (62, 7), (33000037, 0), (63000065, 0)], [
  (3, [(2, .ofNat 0, .ofNat 63)], [(1, 2, .ofNat 0), (2, 1, .ofNat 0)], [], [], [(62, (0, .ofNat 1), .inr (false, (0, .ofNat 1))), (62, (0, .ofNat 2), .inr (false, (2, .ofNat 0)))], [], [])], [], 0, 0)
def cu745 : List sxCu := [
  (115, (7, [(1, .ofNat 0, .ofNat 63), (2, .ofNat 0, .ofNat 7), (3, .negSucc 0, .ofNat 5), (4, .ofNat 0, .ofNat 5040), (5, .ofNat 0, .ofNat 12), (6, .negSucc 2147483647, .ofNat 2147483647)], [(2, 5, .ofNat 0), (5, 2, .ofNat 5)], [(0, .inl 62), (1, .inl 3), (2, .inl 23), (3, .inr (false, (1, .ofNat 0))), (4, .inl 32), (5, .inr (false, (2, .ofNat 0))), (6, .inr (false, (3, .ofNat 0))), (7, .inr (false, (4, .ofNat 0)))], [], [(3, (0, .ofNat 2), .inr (false, (5, .ofNat 0))), (32, (0, .ofNat 0), .inl 3), (32, (0, .ofNat 1), .inl 23), (32, (0, .ofNat 2), .inr (false, (0, .ofNat 1))), (32, (0, .ofNat 3), .inr (false, (1, .ofNat 0))), (62, (0, .ofNat 0), .inr (false, (0, .ofNat 1))), (62, (0, .ofNat 1), .inr (false, (0, .ofNat 1))), (62, (0, .ofNat 2), .inr (false, (1, .ofNat 0))), (62, (0, .ofNat 3), .inl 63), (62, (0, .ofNat 5), .inr (false, (6, .ofNat 0))), (62, (0, .ofNat 7), .inl 65)], [], []), ((0, 4, .ofNat 5040), (0, 0, .ofNat 0), (0, 0, .ofNat 0)), 0, 0), 
  (34, (3, [(1, .ofNat 0, .ofNat 63), (2, .ofNat 0, .ofNat 128)], [], [(0, .inl 62), (1, .inl 3), (2, .inl 23), (3, .inr (false, (1, .ofNat 0))), (4, .inl 32), (5, .inr (false, (2, .ofNat 0)))], [], [(62, (0, .ofNat 1), .inr (false, (0, .ofNat 1))), (62, (0, .ofNat 2), .inr (false, (1, .ofNat 0))), (62, (0, .ofNat 5), .inr (false, (0, .negSucc 0)))], [], []), ((0, 2, .ofNat 5177), (0, 0, .ofNat 0), (0, 0, .ofNat 0)), 0, 0), 
  (75, (5, [(1, .ofNat 0, .ofNat 63), (2, .ofNat 0, .ofNat 7), (3, .ofNat 0, .ofNat 7), (4, .ofNat 0, .ofNat 12)], [(2, 4, .ofNat 0), (4, 2, .ofNat 5)], [(0, .inl 62), (1, .inl 3), (2, .inl 23), (3, .inr (false, (1, .ofNat 0))), (4, .inl 32), (5, .inr (false, (2, .ofNat 0))), (6, .inr (false, (3, .ofNat 0)))], [], [(3, (0, .ofNat 2), .inr (false, (4, .ofNat 0))), (62, (0, .ofNat 1), .inr (false, (0, .ofNat 1))), (62, (0, .ofNat 2), .inr (false, (1, .ofNat 0))), (62, (0, .ofNat 3), .inl 63), (62, (0, .ofNat 5), .inr (false, (0, .negSucc 0))), (62, (0, .ofNat 7), .inl 65)], [], []), ((0, 3, .ofNat 5048), (0, 0, .ofNat 0), (0, 0, .ofNat 0)), 0, 0)]
set_option maxRecDepth 1000000 in
theorem cv745 {gh : sxGh} (hg : sxGd sxKw gh) : sxCtV sxKw gh ct745 := sxMeB_ok (cts := [ct694, ct524, ct691, ct692]) (cuts := cu745) (sp := []) 179 (by decide +kernel) hg (by decide) (by decide) (List.forall_mem_cons.mpr ⟨cv694 hg, (List.forall_mem_cons.mpr ⟨cv524 hg, (List.forall_mem_cons.mpr ⟨cv691 hg, (List.forall_mem_cons.mpr ⟨cv692 hg, (fun _ h => absurd h List.not_mem_nil)⟩)⟩)⟩)⟩)
/-- LotBeliefs.Survey.take -/
def ct746 : sxCt := (69, 5, (2, [(1, .ofNat 0, .ofNat 63)], [], [(0, .inl 62), (1, .inl 3), (2, .inl 19), (3, .inr (false, (1, .ofNat 0))), (4, .inl 32)], [], [], [], []), [(21, 0), (22, 0), (25, 0), (26, 0), (32, 1), (32, 2), (32, 3), (32, 4), (32, 9), (32, 11), (32, 12), (62, 2), (62, 3), (62, 6), (62, 7), (33000037, 0), (63000065, 0)], [
  (3, [(2, .ofNat 0, .ofNat 63)], [(1, 2, .ofNat 0), (2, 1, .ofNat 0)], [], [], [(62, (0, .ofNat 1), .inr (false, (0, .ofNat 1))), (62, (0, .ofNat 2), .inr (false, (2, .ofNat 0)))], [], [])], [], 0, 0)
def cu746 : List sxCu := [
  (115, (7, [(1, .ofNat 0, .ofNat 63), (2, .ofNat 0, .ofNat 7), (3, .negSucc 0, .ofNat 5), (4, .ofNat 0, .ofNat 5040), (5, .ofNat 0, .ofNat 12), (6, .negSucc 2147483647, .ofNat 2147483647)], [(2, 5, .ofNat 0), (5, 2, .ofNat 5)], [(0, .inl 62), (1, .inl 3), (2, .inl 19), (3, .inr (false, (1, .ofNat 0))), (4, .inl 32), (5, .inr (false, (2, .ofNat 0))), (6, .inr (false, (3, .ofNat 0))), (7, .inr (false, (4, .ofNat 0)))], [], [(3, (0, .ofNat 2), .inr (false, (5, .ofNat 0))), (32, (0, .ofNat 0), .inl 3), (32, (0, .ofNat 1), .inl 19), (32, (0, .ofNat 2), .inr (false, (0, .ofNat 1))), (32, (0, .ofNat 3), .inr (false, (1, .ofNat 0))), (62, (0, .ofNat 0), .inr (false, (0, .ofNat 1))), (62, (0, .ofNat 1), .inr (false, (0, .ofNat 1))), (62, (0, .ofNat 2), .inr (false, (1, .ofNat 0))), (62, (0, .ofNat 3), .inl 63), (62, (0, .ofNat 5), .inr (false, (6, .ofNat 0))), (62, (0, .ofNat 7), .inl 65)], [], []), ((0, 4, .ofNat 5040), (0, 0, .ofNat 0), (0, 0, .ofNat 0)), 0, 0), 
  (34, (3, [(1, .ofNat 0, .ofNat 63), (2, .ofNat 0, .ofNat 128)], [], [(0, .inl 62), (1, .inl 3), (2, .inl 19), (3, .inr (false, (1, .ofNat 0))), (4, .inl 32), (5, .inr (false, (2, .ofNat 0)))], [], [(62, (0, .ofNat 1), .inr (false, (0, .ofNat 1))), (62, (0, .ofNat 2), .inr (false, (1, .ofNat 0))), (62, (0, .ofNat 5), .inr (false, (0, .negSucc 0)))], [], []), ((0, 2, .ofNat 5177), (0, 0, .ofNat 0), (0, 0, .ofNat 0)), 0, 0), 
  (75, (5, [(1, .ofNat 0, .ofNat 63), (2, .ofNat 0, .ofNat 7), (3, .ofNat 0, .ofNat 7), (4, .ofNat 0, .ofNat 12)], [(2, 4, .ofNat 0), (4, 2, .ofNat 5)], [(0, .inl 62), (1, .inl 3), (2, .inl 19), (3, .inr (false, (1, .ofNat 0))), (4, .inl 32), (5, .inr (false, (2, .ofNat 0))), (6, .inr (false, (3, .ofNat 0)))], [], [(3, (0, .ofNat 2), .inr (false, (4, .ofNat 0))), (62, (0, .ofNat 1), .inr (false, (0, .ofNat 1))), (62, (0, .ofNat 2), .inr (false, (1, .ofNat 0))), (62, (0, .ofNat 3), .inl 63), (62, (0, .ofNat 5), .inr (false, (0, .negSucc 0))), (62, (0, .ofNat 7), .inl 65)], [], []), ((0, 3, .ofNat 5048), (0, 0, .ofNat 0), (0, 0, .ofNat 0)), 0, 0)]
set_option maxRecDepth 1000000 in
theorem cv746 {gh : sxGh} (hg : sxGd sxKw gh) : sxCtV sxKw gh ct746 := sxMeB_ok (cts := [ct694, ct524, ct691, ct692]) (cuts := cu746) (sp := []) 179 (by decide +kernel) hg (by decide) (by decide) (List.forall_mem_cons.mpr ⟨cv694 hg, (List.forall_mem_cons.mpr ⟨cv524 hg, (List.forall_mem_cons.mpr ⟨cv691 hg, (List.forall_mem_cons.mpr ⟨cv692 hg, (fun _ h => absurd h List.not_mem_nil)⟩)⟩)⟩)⟩)
/-- LotBeliefs.Survey.take -/
def ct747 : sxCt := (69, 5, (2, [(1, .ofNat 0, .ofNat 63)], [], [(0, .inl 58), (1, .inl 3), (2, .inl 23), (3, .inr (false, (1, .ofNat 0))), (4, .inl 32)], [], [], [], []), [(21, 0), (22, 0), (25, 0), (26, 0), (32, 1), (32, 2), (32, 3), (32, 4), (32, 9), (32, 11), (32, 12), (58, 2), (58, 3), (58, 6), (58, 7), (33000037, 0), (59000061, 0)], [
  (3, [(2, .ofNat 0, .ofNat 63)], [(1, 2, .ofNat 0), (2, 1, .ofNat 0)], [], [], [(58, (0, .ofNat 1), .inr (false, (0, .ofNat 1))), (58, (0, .ofNat 2), .inr (false, (2, .ofNat 0)))], [], [])], [], 0, 0)
def cu747 : List sxCu := [
  (115, (7, [(1, .ofNat 0, .ofNat 63), (2, .ofNat 0, .ofNat 7), (3, .negSucc 0, .ofNat 5), (4, .ofNat 0, .ofNat 5040), (5, .ofNat 0, .ofNat 12), (6, .negSucc 2147483647, .ofNat 2147483647)], [(2, 5, .ofNat 0), (5, 2, .ofNat 5)], [(0, .inl 58), (1, .inl 3), (2, .inl 23), (3, .inr (false, (1, .ofNat 0))), (4, .inl 32), (5, .inr (false, (2, .ofNat 0))), (6, .inr (false, (3, .ofNat 0))), (7, .inr (false, (4, .ofNat 0)))], [], [(3, (0, .ofNat 2), .inr (false, (5, .ofNat 0))), (32, (0, .ofNat 0), .inl 3), (32, (0, .ofNat 1), .inl 23), (32, (0, .ofNat 2), .inr (false, (0, .ofNat 0))), (32, (0, .ofNat 3), .inr (false, (1, .ofNat 0))), (58, (0, .ofNat 0), .inr (false, (0, .ofNat 0))), (58, (0, .ofNat 1), .inr (false, (0, .ofNat 1))), (58, (0, .ofNat 2), .inr (false, (1, .ofNat 0))), (58, (0, .ofNat 3), .inl 59), (58, (0, .ofNat 5), .inr (false, (6, .ofNat 0))), (58, (0, .ofNat 7), .inl 61)], [], []), ((0, 4, .ofNat 5040), (0, 0, .ofNat 0), (0, 0, .ofNat 0)), 0, 0), 
  (34, (3, [(1, .ofNat 0, .ofNat 63), (2, .ofNat 0, .ofNat 128)], [], [(0, .inl 58), (1, .inl 3), (2, .inl 23), (3, .inr (false, (1, .ofNat 0))), (4, .inl 32), (5, .inr (false, (2, .ofNat 0)))], [], [(58, (0, .ofNat 1), .inr (false, (0, .ofNat 1))), (58, (0, .ofNat 2), .inr (false, (1, .ofNat 0))), (58, (0, .ofNat 5), .inr (false, (0, .negSucc 0)))], [], []), ((0, 2, .ofNat 5177), (0, 0, .ofNat 0), (0, 0, .ofNat 0)), 0, 0), 
  (75, (5, [(1, .ofNat 0, .ofNat 63), (2, .ofNat 0, .ofNat 7), (3, .ofNat 0, .ofNat 7), (4, .ofNat 0, .ofNat 12)], [(2, 4, .ofNat 0), (4, 2, .ofNat 5)], [(0, .inl 58), (1, .inl 3), (2, .inl 23), (3, .inr (false, (1, .ofNat 0))), (4, .inl 32), (5, .inr (false, (2, .ofNat 0))), (6, .inr (false, (3, .ofNat 0)))], [], [(3, (0, .ofNat 2), .inr (false, (4, .ofNat 0))), (58, (0, .ofNat 1), .inr (false, (0, .ofNat 1))), (58, (0, .ofNat 2), .inr (false, (1, .ofNat 0))), (58, (0, .ofNat 3), .inl 59), (58, (0, .ofNat 5), .inr (false, (0, .negSucc 0))), (58, (0, .ofNat 7), .inl 61)], [], []), ((0, 3, .ofNat 5048), (0, 0, .ofNat 0), (0, 0, .ofNat 0)), 0, 0)]
set_option maxRecDepth 1000000 in
theorem cv747 {gh : sxGh} (hg : sxGd sxKw gh) : sxCtV sxKw gh ct747 := sxMeB_ok (cts := [ct733, ct524, ct730, ct731]) (cuts := cu747) (sp := []) 179 (by decide +kernel) hg (by decide) (by decide) (List.forall_mem_cons.mpr ⟨cv733 hg, (List.forall_mem_cons.mpr ⟨cv524 hg, (List.forall_mem_cons.mpr ⟨cv730 hg, (List.forall_mem_cons.mpr ⟨cv731 hg, (fun _ h => absurd h List.not_mem_nil)⟩)⟩)⟩)⟩)
/-- LotBeliefs.Survey.take -/
def ct748 : sxCt := (69, 5, (2, [(1, .ofNat 0, .ofNat 63)], [], [(0, .inl 58), (1, .inl 3), (2, .inl 19), (3, .inr (false, (1, .ofNat 0))), (4, .inl 32)], [], [], [], []), [(21, 0), (22, 0), (25, 0), (26, 0), (32, 1), (32, 2), (32, 3), (32, 4), (32, 9), (32, 11), (32, 12), (58, 2), (58, 3), (58, 6), (58, 7), (33000037, 0), (59000061, 0)], [
  (3, [(2, .ofNat 0, .ofNat 63)], [(1, 2, .ofNat 0), (2, 1, .ofNat 0)], [], [], [(58, (0, .ofNat 1), .inr (false, (0, .ofNat 1))), (58, (0, .ofNat 2), .inr (false, (2, .ofNat 0)))], [], [])], [], 0, 0)
def cu748 : List sxCu := [
  (115, (7, [(1, .ofNat 0, .ofNat 63), (2, .ofNat 0, .ofNat 7), (3, .negSucc 0, .ofNat 5), (4, .ofNat 0, .ofNat 5040), (5, .ofNat 0, .ofNat 12), (6, .negSucc 2147483647, .ofNat 2147483647)], [(2, 5, .ofNat 0), (5, 2, .ofNat 5)], [(0, .inl 58), (1, .inl 3), (2, .inl 19), (3, .inr (false, (1, .ofNat 0))), (4, .inl 32), (5, .inr (false, (2, .ofNat 0))), (6, .inr (false, (3, .ofNat 0))), (7, .inr (false, (4, .ofNat 0)))], [], [(3, (0, .ofNat 2), .inr (false, (5, .ofNat 0))), (32, (0, .ofNat 0), .inl 3), (32, (0, .ofNat 1), .inl 19), (32, (0, .ofNat 2), .inr (false, (0, .ofNat 0))), (32, (0, .ofNat 3), .inr (false, (1, .ofNat 0))), (58, (0, .ofNat 0), .inr (false, (0, .ofNat 0))), (58, (0, .ofNat 1), .inr (false, (0, .ofNat 1))), (58, (0, .ofNat 2), .inr (false, (1, .ofNat 0))), (58, (0, .ofNat 3), .inl 59), (58, (0, .ofNat 5), .inr (false, (6, .ofNat 0))), (58, (0, .ofNat 7), .inl 61)], [], []), ((0, 4, .ofNat 5040), (0, 0, .ofNat 0), (0, 0, .ofNat 0)), 0, 0), 
  (34, (3, [(1, .ofNat 0, .ofNat 63), (2, .ofNat 0, .ofNat 128)], [], [(0, .inl 58), (1, .inl 3), (2, .inl 19), (3, .inr (false, (1, .ofNat 0))), (4, .inl 32), (5, .inr (false, (2, .ofNat 0)))], [], [(58, (0, .ofNat 1), .inr (false, (0, .ofNat 1))), (58, (0, .ofNat 2), .inr (false, (1, .ofNat 0))), (58, (0, .ofNat 5), .inr (false, (0, .negSucc 0)))], [], []), ((0, 2, .ofNat 5177), (0, 0, .ofNat 0), (0, 0, .ofNat 0)), 0, 0), 
  (75, (5, [(1, .ofNat 0, .ofNat 63), (2, .ofNat 0, .ofNat 7), (3, .ofNat 0, .ofNat 7), (4, .ofNat 0, .ofNat 12)], [(2, 4, .ofNat 0), (4, 2, .ofNat 5)], [(0, .inl 58), (1, .inl 3), (2, .inl 19), (3, .inr (false, (1, .ofNat 0))), (4, .inl 32), (5, .inr (false, (2, .ofNat 0))), (6, .inr (false, (3, .ofNat 0)))], [], [(3, (0, .ofNat 2), .inr (false, (4, .ofNat 0))), (58, (0, .ofNat 1), .inr (false, (0, .ofNat 1))), (58, (0, .ofNat 2), .inr (false, (1, .ofNat 0))), (58, (0, .ofNat 3), .inl 59), (58, (0, .ofNat 5), .inr (false, (0, .negSucc 0))), (58, (0, .ofNat 7), .inl 61)], [], []), ((0, 3, .ofNat 5048), (0, 0, .ofNat 0), (0, 0, .ofNat 0)), 0, 0)]
set_option maxRecDepth 1000000 in
theorem cv748 {gh : sxGh} (hg : sxGd sxKw gh) : sxCtV sxKw gh ct748 := sxMeB_ok (cts := [ct733, ct524, ct730, ct731]) (cuts := cu748) (sp := []) 179 (by decide +kernel) hg (by decide) (by decide) (List.forall_mem_cons.mpr ⟨cv733 hg, (List.forall_mem_cons.mpr ⟨cv524 hg, (List.forall_mem_cons.mpr ⟨cv730 hg, (List.forall_mem_cons.mpr ⟨cv731 hg, (fun _ h => absurd h List.not_mem_nil)⟩)⟩)⟩)⟩)
/-- LotBeliefs.ends -/
def ct749 : sxCt := (134, 6, (2, [(1, .negSucc 2147483647, .ofNat 2147483647)], [], [(0, .inl 0), (1, .inr (false, (1, .ofNat 0)))], [], [], [], []), [(21, 0), (22, 0), (25, 0), (26, 0), (30, 0), (32, 1), (32, 2), (32, 3), (32, 4), (32, 9), (32, 11), (32, 12), (58, 2), (58, 3), (58, 6), (58, 7), (62, 2), (62, 3), (62, 6), (62, 7), (66, 2), (66, 3), (66, 6), (66, 7), (70, 2), (70, 3), (70, 6), (70, 7), (74, 2), (74, 3), (74, 6), (74, 7), (33000037, 0), (59000061, 0), (63000065, 0), (67000069, 0), (71000073, 0), (75000077, 0)], [
  (3, [(1, .ofNat 0, .ofNat 2), (2, .ofNat 0, .ofNat 128)], [], [], [.inr (false, (2, .ofNat 0))], [], [], [])], [
  (1, (3, [(2, .negSucc 2147483647, .ofNat 2147483647)], [], [], [], [(30, (0, .ofNat 1), .inr (false, (2, .ofNat 0)))], [], [])), 
  (2, (3, [(1, .ofNat 0, .ofNat 2), (2, .negSucc 2147483647, .ofNat 2147483647)], [], [], [], [(30, (0, .ofNat 2), .inr (false, (2, .ofNat 0)))], [], []))], 1, 6)
def cu749 : List sxCu := []
set_option maxRecDepth 1000000 in
theorem cv749 {gh : sxGh} (hg : sxGd sxKw gh) : sxCtV sxKw gh ct749 := sxMeB_ok (cts := [ct656, ct660, ct695, ct699, ct578, ct582, ct734, ct738, ct739, ct740, ct741, ct742, ct743, ct744, ct617, ct621, ct745, ct746, ct747, ct748, ct659, ct698, ct581, ct737, ct620, ct658, ct697, ct580, ct736, ct619, ct657, ct696, ct579, ct735, ct618]) (cuts := cu749) (sp := []) 770 (by decide +kernel) hg (by decide) (by decide) (List.forall_mem_cons.mpr ⟨cv656 hg, (List.forall_mem_cons.mpr ⟨cv660 hg, (List.forall_mem_cons.mpr ⟨cv695 hg, (List.forall_mem_cons.mpr ⟨cv699 hg, (List.forall_mem_cons.mpr ⟨cv578 hg, (List.forall_mem_cons.mpr ⟨cv582 hg, (List.forall_mem_cons.mpr ⟨cv734 hg, (List.forall_mem_cons.mpr ⟨cv738 hg, (List.forall_mem_cons.mpr ⟨cv739 hg, (List.forall_mem_cons.mpr ⟨cv740 hg, (List.forall_mem_cons.mpr ⟨cv741 hg, (List.forall_mem_cons.mpr ⟨cv742 hg, (List.forall_mem_cons.mpr ⟨cv743 hg, (List.forall_mem_cons.mpr ⟨cv744 hg, (List.forall_mem_cons.mpr ⟨cv617 hg, (List.forall_mem_cons.mpr ⟨cv621 hg, (List.forall_mem_cons.mpr ⟨cv745 hg, (List.forall_mem_cons.mpr ⟨cv746 hg, (List.forall_mem_cons.mpr ⟨cv747 hg, (List.forall_mem_cons.mpr ⟨cv748 hg, (List.forall_mem_cons.mpr ⟨cv659 hg, (List.forall_mem_cons.mpr ⟨cv698 hg, (List.forall_mem_cons.mpr ⟨cv581 hg, (List.forall_mem_cons.mpr ⟨cv737 hg, (List.forall_mem_cons.mpr ⟨cv620 hg, (List.forall_mem_cons.mpr ⟨cv658 hg, (List.forall_mem_cons.mpr ⟨cv697 hg, (List.forall_mem_cons.mpr ⟨cv580 hg, (List.forall_mem_cons.mpr ⟨cv736 hg, (List.forall_mem_cons.mpr ⟨cv619 hg, (List.forall_mem_cons.mpr ⟨cv657 hg, (List.forall_mem_cons.mpr ⟨cv696 hg, (List.forall_mem_cons.mpr ⟨cv579 hg, (List.forall_mem_cons.mpr ⟨cv735 hg, (List.forall_mem_cons.mpr ⟨cv618 hg, (fun _ h => absurd h List.not_mem_nil)⟩)⟩)⟩)⟩)⟩)⟩)⟩)⟩)⟩)⟩)⟩)⟩)⟩)⟩)⟩)⟩)⟩)⟩)⟩)⟩)⟩)⟩)⟩)⟩)⟩)⟩)⟩)⟩)⟩)⟩)⟩)⟩)⟩)⟩)⟩)
/-- LotBeliefsModel.leaves -/
def ct803 : sxCt := (261, 0, (3, [(1, .ofNat 0, .ofNat 15), (2, .ofNat 1, .ofNat 17)], [], [(0, .inl 78), (1, .inr (false, (1, .ofNat 0)))], [], [(78, (0, .ofNat 44), .inr (false, (2, .ofNat 0)))], [(561, (2, .ofNat 0), .inr (false, .ofNat 0, .ofNat 6))], []), [(78, 45), (561, 0)], [
  (3, [], [], [], [], [(78, (0, .ofNat 44), .inr (false, (2, .negSucc 0)))], [(561, (2, .ofNat 0), .inr (false, .ofNat 0, .ofNat 6))], [])], [], 0, 0)
def cu803 : List sxCu := [
  (12, (4, [(1, .ofNat 0, .ofNat 15), (2, .ofNat 1, .ofNat 17), (3, .ofNat 0, .ofNat 16)], [(1, 3, .ofNat 0), (3, 2, .ofNat 14)], [(0, .inl 78), (1, .inr (false, (1, .ofNat 0))), (2, .inr (false, (3, .ofNat 0)))], [], [(78, (0, .ofNat 44), .inr (false, (2, .negSucc 0)))], [(561, (2, .ofNat 0), .inr (false, .ofNat 0, .ofNat 6))], []), ((0, 3, .ofNat 16), (0, 0, .ofNat 0), (0, 0, .ofNat 0)), 0, 0)]
set_option maxRecDepth 1000000 in
theorem cv803 {gh : sxGh} (hg : sxGd sxKw gh) : sxCtV sxKw gh ct803 := sxMeB_ok (cts := []) (cuts := cu803) (sp := []) 85 (by decide +kernel) hg (by decide) (by decide) (fun _ h => absurd h List.not_mem_nil)
/-- LotBeliefsModel.leaves -/
def ct812 : sxCt := (261, 0, (3, [(1, .ofNat 0, .ofNat 16), (2, .ofNat 1, .ofNat 17)], [], [(0, .inl 78), (1, .inr (false, (1, .ofNat 0)))], [], [(78, (0, .ofNat 44), .inr (false, (2, .ofNat 0)))], [(561, (2, .ofNat 0), .inr (false, .ofNat 0, .ofNat 6))], []), [(78, 45), (561, 0)], [
  (3, [], [], [], [], [(78, (0, .ofNat 44), .inr (false, (2, .negSucc 0)))], [(561, (2, .ofNat 0), .inr (false, .ofNat 0, .ofNat 6))], [])], [], 0, 0)
def cu812 : List sxCu := [
  (12, (4, [(1, .ofNat 0, .ofNat 16), (2, .ofNat 1, .ofNat 17), (3, .ofNat 0, .ofNat 16)], [(1, 3, .ofNat 0)], [(0, .inl 78), (1, .inr (false, (1, .ofNat 0))), (2, .inr (false, (3, .ofNat 0)))], [], [(78, (0, .ofNat 44), .inr (false, (2, .negSucc 0)))], [(561, (2, .ofNat 0), .inr (false, .ofNat 0, .ofNat 6))], []), ((0, 3, .ofNat 16), (0, 0, .ofNat 0), (0, 0, .ofNat 0)), 0, 0)]
set_option maxRecDepth 1000000 in
theorem cv812 {gh : sxGh} (hg : sxGd sxKw gh) : sxCtV sxKw gh ct812 := sxMeB_ok (cts := []) (cuts := cu812) (sp := []) 85 (by decide +kernel) hg (by decide) (by decide) (fun _ h => absurd h List.not_mem_nil)
/-- LotBeliefsModel.kills -/
def ct816 : sxCt := (262, 1, (3, [(1, .ofNat 0, .ofNat 51), (2, .ofNat 0, .ofNat 17)], [(2, 1, .ofNat 0)], [(0, .inl 78), (1, .inr (false, (1, .ofNat 0)))], [], [(78, (0, .ofNat 44), .inr (false, (2, .ofNat 0)))], [(561, (2, .ofNat 0), .inr (false, .ofNat 0, .ofNat 6))], []), [(78, 45), (78, 47), (561, 0), (563, 0)], [
  (4, [(3, .ofNat 0, .ofNat 17)], [(3, 1, .ofNat 0), (3, 2, .ofNat 0)], [], [], [(78, (0, .ofNat 44), .inr (false, (3, .ofNat 0)))], [(561, (3, .ofNat 0), .inr (false, .ofNat 0, .ofNat 6))], [])], [], 0, 0)
def cu816 : List sxCu := [
  (2, (5, [(1, .ofNat 0, .ofNat 51), (2, .ofNat 0, .ofNat 17), (3, .ofNat 0, .ofNat 17), (4, .ofNat 0, .ofNat 17)], [(4, 1, .ofNat 0), (4, 2, .ofNat 0), (2, 1, .ofNat 0)], [(0, .inl 78), (1, .inr (false, (1, .ofNat 0))), (2, .inr (false, (3, .ofNat 0)))], [], [(78, (0, .ofNat 44), .inr (false, (4, .ofNat 0)))], [(561, (4, .ofNat 0), .inr (false, .ofNat 0, .ofNat 6))], []), ((4, 3, .ofNat 17), (0, 0, .ofNat 0), (0, 0, .ofNat 0)), 0, 0)]
set_option maxRecDepth 1000000 in
theorem cv816 {gh : sxGh} (hg : sxGd sxKw gh) : sxCtV sxKw gh ct816 := sxMeB_ok (cts := [ct812]) (cuts := cu816) (sp := []) 121 (by decide +kernel) hg (by decide) (by decide) (List.forall_mem_cons.mpr ⟨cv812 hg, (fun _ h => absurd h List.not_mem_nil)⟩)
/-- LotBeliefsModel.ones -/
def ct818 : sxCt := (224, 0, (2, [(1, .ofNat 0, .ofNat 127)], [], [(0, .inr (true, (1, .ofNat 0)))], [], [], [], []), [], [
  (3, [(2, .negSucc 2147483647, .ofNat 2147483647)], [], [], [.inr (false, (2, .ofNat 0))], [], [], [])], [], 0, 0)
def cu818 : List sxCu := [
  (4, (4, [(1, .ofNat 0, .ofNat 127), (2, .negSucc 2147483647, .ofNat 2147483647), (3, .ofNat 0, .ofNat 64)], [], [(0, .inr (true, (1, .ofNat 0))), (2, .inr (false, (2, .ofNat 0))), (3, .inr (false, (3, .ofNat 0)))], [], [], [], []), ((0, 3, .ofNat 64), (0, 0, .ofNat 0), (0, 0, .ofNat 0)), 0, 0)]
set_option maxRecDepth 1000000 in
theorem cv818 {gh : sxGh} (hg : sxGd sxKw gh) : sxCtV sxKw gh ct818 := sxMeB_ok (cts := []) (cuts := cu818) (sp := []) 80 (by decide +kernel) hg (by decide) (by decide) (fun _ h => absurd h List.not_mem_nil)
/-- Integer.bitCount -/
def ct888 : sxCt := (327, 0, (2, [(1, .ofNat 0, .ofNat 39)], [], [(0, .inr (false, (1, .ofNat 0)))], [], [], [], []), [], [
  (3, [(2, .ofNat 0, .ofNat 63)], [], [], [.inr (false, (2, .ofNat 0))], [], [], [])], [], 0, 0)
def cu888 : List sxCu := []
set_option maxRecDepth 1000000 in
theorem cv888 {gh : sxGh} (hg : sxGd sxKw gh) : sxCtV sxKw gh ct888 := sxMeB_ok (cts := []) (cuts := cu888) (sp := []) 102 (by decide +kernel) hg (by decide) (by decide) (fun _ h => absurd h List.not_mem_nil)
/-- Integer.bitCount -/
def ct892 : sxCt := (327, 0, (2, [(1, .ofNat 0, .ofNat 63)], [], [(0, .inr (false, (1, .ofNat 0)))], [], [], [], []), [], [
  (3, [(2, .ofNat 0, .ofNat 63)], [], [], [.inr (false, (2, .ofNat 0))], [], [], [])], [], 0, 0)
def cu892 : List sxCu := []
set_option maxRecDepth 1000000 in
theorem cv892 {gh : sxGh} (hg : sxGd sxKw gh) : sxCtV sxKw gh ct892 := sxMeB_ok (cts := []) (cuts := cu892) (sp := []) 102 (by decide +kernel) hg (by decide) (by decide) (fun _ h => absurd h List.not_mem_nil)
/-- Integer.bitCount -/
def ct893 : sxCt := (327, 0, (2, [(1, .ofNat 0, .ofNat 64)], [], [(0, .inr (false, (1, .ofNat 0)))], [], [], [], []), [], [
  (3, [(2, .ofNat 0, .ofNat 63)], [], [], [.inr (false, (2, .ofNat 0))], [], [], [])], [], 0, 0)
def cu893 : List sxCu := []
set_option maxRecDepth 1000000 in
theorem cv893 {gh : sxGh} (hg : sxGd sxKw gh) : sxCtV sxKw gh ct893 := sxMeB_ok (cts := []) (cuts := cu893) (sp := []) 102 (by decide +kernel) hg (by decide) (by decide) (fun _ h => absurd h List.not_mem_nil)
/-- LotBeliefs.Survey.heldInAll -/
def ct894 : sxCt := (77, 1, (2, [(1, .ofNat 1, .ofNat 64)], [], [(0, .inl 74), (1, .inr (false, (1, .ofNat 0)))], [], [], [], []), [], [
  (3, [(2, .negSucc 2147483647, .ofNat 2147483647)], [], [], [.inr (false, (2, .ofNat 0))], [], [], [])], [], 0, 0)
def cu894 : List sxCu := [
  (4, (4, [(1, .ofNat 1, .ofNat 64), (2, .negSucc 2147483647, .ofNat 2147483647), (3, .ofNat 0, .ofNat 128)], [], [(0, .inl 74), (1, .inr (false, (1, .ofNat 0))), (2, .inr (false, (2, .ofNat 0))), (3, .inr (false, (3, .ofNat 0)))], [], [], [], []), ((0, 3, .ofNat 128), (0, 0, .ofNat 0), (0, 0, .ofNat 0)), 0, 0)]
set_option maxRecDepth 1000000 in
theorem cv894 {gh : sxGh} (hg : sxGd sxKw gh) : sxCtV sxKw gh ct894 := sxMeB_ok (cts := [ct893]) (cuts := cu894) (sp := []) 86 (by decide +kernel) hg (by decide) (by decide) (List.forall_mem_cons.mpr ⟨cv893 hg, (fun _ h => absurd h List.not_mem_nil)⟩)
/-- LotBeliefs.Survey.heldInAll -/
def ct896 : sxCt := (77, 1, (2, [(1, .ofNat 1, .ofNat 64)], [], [(0, .inl 70), (1, .inr (false, (1, .ofNat 0)))], [], [], [], []), [], [
  (3, [(2, .negSucc 2147483647, .ofNat 2147483647)], [], [], [.inr (false, (2, .ofNat 0))], [], [], [])], [], 0, 0)
def cu896 : List sxCu := [
  (4, (4, [(1, .ofNat 1, .ofNat 64), (2, .negSucc 2147483647, .ofNat 2147483647), (3, .ofNat 0, .ofNat 128)], [], [(0, .inl 70), (1, .inr (false, (1, .ofNat 0))), (2, .inr (false, (2, .ofNat 0))), (3, .inr (false, (3, .ofNat 0)))], [], [], [], []), ((0, 3, .ofNat 128), (0, 0, .ofNat 0), (0, 0, .ofNat 0)), 0, 0)]
set_option maxRecDepth 1000000 in
theorem cv896 {gh : sxGh} (hg : sxGd sxKw gh) : sxCtV sxKw gh ct896 := sxMeB_ok (cts := [ct893]) (cuts := cu896) (sp := []) 86 (by decide +kernel) hg (by decide) (by decide) (List.forall_mem_cons.mpr ⟨cv893 hg, (fun _ h => absurd h List.not_mem_nil)⟩)
/-- LotBeliefs.Survey.heldInAll -/
def ct897 : sxCt := (77, 1, (2, [(1, .ofNat 1, .ofNat 64)], [], [(0, .inl 66), (1, .inr (false, (1, .ofNat 0)))], [], [], [], []), [], [
  (3, [(2, .negSucc 2147483647, .ofNat 2147483647)], [], [], [.inr (false, (2, .ofNat 0))], [], [], [])], [], 0, 0)
def cu897 : List sxCu := [
  (4, (4, [(1, .ofNat 1, .ofNat 64), (2, .negSucc 2147483647, .ofNat 2147483647), (3, .ofNat 0, .ofNat 128)], [], [(0, .inl 66), (1, .inr (false, (1, .ofNat 0))), (2, .inr (false, (2, .ofNat 0))), (3, .inr (false, (3, .ofNat 0)))], [], [], [], []), ((0, 3, .ofNat 128), (0, 0, .ofNat 0), (0, 0, .ofNat 0)), 0, 0)]
set_option maxRecDepth 1000000 in
theorem cv897 {gh : sxGh} (hg : sxGd sxKw gh) : sxCtV sxKw gh ct897 := sxMeB_ok (cts := [ct893]) (cuts := cu897) (sp := []) 86 (by decide +kernel) hg (by decide) (by decide) (List.forall_mem_cons.mpr ⟨cv893 hg, (fun _ h => absurd h List.not_mem_nil)⟩)
/-- LotBeliefs.Survey.heldInAll -/
def ct898 : sxCt := (77, 1, (2, [(1, .ofNat 1, .ofNat 64)], [], [(0, .inl 62), (1, .inr (false, (1, .ofNat 0)))], [], [], [], []), [], [
  (3, [(2, .negSucc 2147483647, .ofNat 2147483647)], [], [], [.inr (false, (2, .ofNat 0))], [], [], [])], [], 0, 0)
def cu898 : List sxCu := [
  (4, (4, [(1, .ofNat 1, .ofNat 64), (2, .negSucc 2147483647, .ofNat 2147483647), (3, .ofNat 0, .ofNat 128)], [], [(0, .inl 62), (1, .inr (false, (1, .ofNat 0))), (2, .inr (false, (2, .ofNat 0))), (3, .inr (false, (3, .ofNat 0)))], [], [], [], []), ((0, 3, .ofNat 128), (0, 0, .ofNat 0), (0, 0, .ofNat 0)), 0, 0)]
set_option maxRecDepth 1000000 in
theorem cv898 {gh : sxGh} (hg : sxGd sxKw gh) : sxCtV sxKw gh ct898 := sxMeB_ok (cts := [ct893]) (cuts := cu898) (sp := []) 86 (by decide +kernel) hg (by decide) (by decide) (List.forall_mem_cons.mpr ⟨cv893 hg, (fun _ h => absurd h List.not_mem_nil)⟩)
/-- LotBeliefs.Survey.heldInAll -/
def ct899 : sxCt := (77, 1, (2, [(1, .ofNat 1, .ofNat 64)], [], [(0, .inl 58), (1, .inr (false, (1, .ofNat 0)))], [], [], [], []), [], [
  (3, [(2, .negSucc 2147483647, .ofNat 2147483647)], [], [], [.inr (false, (2, .ofNat 0))], [], [], [])], [], 0, 0)
def cu899 : List sxCu := [
  (4, (4, [(1, .ofNat 1, .ofNat 64), (2, .negSucc 2147483647, .ofNat 2147483647), (3, .ofNat 0, .ofNat 128)], [], [(0, .inl 58), (1, .inr (false, (1, .ofNat 0))), (2, .inr (false, (2, .ofNat 0))), (3, .inr (false, (3, .ofNat 0)))], [], [], [], []), ((0, 3, .ofNat 128), (0, 0, .ofNat 0), (0, 0, .ofNat 0)), 0, 0)]
set_option maxRecDepth 1000000 in
theorem cv899 {gh : sxGh} (hg : sxGd sxKw gh) : sxCtV sxKw gh ct899 := sxMeB_ok (cts := [ct893]) (cuts := cu899) (sp := []) 86 (by decide +kernel) hg (by decide) (by decide) (List.forall_mem_cons.mpr ⟨cv893 hg, (fun _ h => absurd h List.not_mem_nil)⟩)
/-- Integer.bitCount -/
def ct900 : sxCt := (327, 0, (2, [(1, .ofNat 0, .ofNat 127)], [], [(0, .inr (false, (1, .ofNat 0)))], [], [], [], []), [], [
  (3, [(2, .ofNat 0, .ofNat 63)], [], [], [.inr (false, (2, .ofNat 0))], [], [], [])], [], 0, 0)
def cu900 : List sxCu := []
set_option maxRecDepth 1000000 in
theorem cv900 {gh : sxGh} (hg : sxGd sxKw gh) : sxCtV sxKw gh ct900 := sxMeB_ok (cts := []) (cuts := cu900) (sp := []) 102 (by decide +kernel) hg (by decide) (by decide) (fun _ h => absurd h List.not_mem_nil)
/-- LotBeliefs.Survey.bestEnd -/
def ct901 : sxCt := (78, 1, (2, [(1, .ofNat 0, .ofNat 4095)], [], [(0, .inl 74), (1, .inr (false, (1, .ofNat 0)))], [], [], [], []), [], [
  (3, [(2, .ofNat 0, .ofNat 127)], [], [], [.inr (false, (2, .ofNat 0))], [], [], [])], [], 0, 0)
def cu901 : List sxCu := [
  (7, (5, [(1, .ofNat 0, .ofNat 4095), (2, .ofNat 0, .ofNat 127), (3, .negSucc 0, .ofNat 63), (4, .ofNat 0, .ofNat 128)], [(2, 4, .ofNat 0)], [(0, .inl 74), (1, .inr (false, (1, .ofNat 0))), (2, .inr (false, (2, .ofNat 0))), (3, .inr (false, (3, .ofNat 0))), (4, .inr (false, (4, .ofNat 0)))], [], [], [], []), ((0, 4, .ofNat 128), (0, 0, .ofNat 0), (0, 0, .ofNat 0)), 0, 0)]
set_option maxRecDepth 1000000 in
theorem cv901 {gh : sxGh} (hg : sxGd sxKw gh) : sxCtV sxKw gh ct901 := sxMeB_ok (cts := [ct900]) (cuts := cu901) (sp := []) 122 (by decide +kernel) hg (by decide) (by decide) (List.forall_mem_cons.mpr ⟨cv900 hg, (fun _ h => absurd h List.not_mem_nil)⟩)
/-- LotBeliefs.takeOrder -/
def ct902 : sxCt := (182, 1, (2, [(1, .negSucc 9223372036854775807, .ofNat 9223372036854775807)], [], [(0, .inl 0), (1, .inr (true, (1, .ofNat 0)))], [], [], [], []), [(28, 0)], [
  (2, [], [], [], [], [], [], [])], [], 0, 0)
def cu902 : List sxCu := [
  (2, (3, [(1, .negSucc 9223372036854775807, .ofNat 9223372036854775807), (2, .ofNat 0, .ofNat 12)], [], [(0, .inl 0), (1, .inr (true, (1, .ofNat 0))), (3, .inr (false, (2, .ofNat 0)))], [], [], [], []), ((0, 2, .ofNat 12), (0, 0, .ofNat 0), (0, 0, .ofNat 0)), 0, 0)]
set_option maxRecDepth 1000000 in
theorem cv902 {gh : sxGh} (hg : sxGd sxKw gh) : sxCtV sxKw gh ct902 := sxMeB_ok (cts := []) (cuts := cu902) (sp := []) 123 (by decide +kernel) hg (by decide) (by decide) (fun _ h => absurd h List.not_mem_nil)
/-- LotBeliefs.Survey.bestEnd -/
def ct903 : sxCt := (78, 1, (2, [(1, .ofNat 0, .ofNat 4095)], [], [(0, .inl 70), (1, .inr (false, (1, .ofNat 0)))], [], [], [], []), [], [
  (3, [(2, .ofNat 0, .ofNat 127)], [], [], [.inr (false, (2, .ofNat 0))], [], [], [])], [], 0, 0)
def cu903 : List sxCu := [
  (7, (5, [(1, .ofNat 0, .ofNat 4095), (2, .ofNat 0, .ofNat 127), (3, .negSucc 0, .ofNat 63), (4, .ofNat 0, .ofNat 128)], [(2, 4, .ofNat 0)], [(0, .inl 70), (1, .inr (false, (1, .ofNat 0))), (2, .inr (false, (2, .ofNat 0))), (3, .inr (false, (3, .ofNat 0))), (4, .inr (false, (4, .ofNat 0)))], [], [], [], []), ((0, 4, .ofNat 128), (0, 0, .ofNat 0), (0, 0, .ofNat 0)), 0, 0)]
set_option maxRecDepth 1000000 in
theorem cv903 {gh : sxGh} (hg : sxGd sxKw gh) : sxCtV sxKw gh ct903 := sxMeB_ok (cts := [ct900]) (cuts := cu903) (sp := []) 122 (by decide +kernel) hg (by decide) (by decide) (List.forall_mem_cons.mpr ⟨cv900 hg, (fun _ h => absurd h List.not_mem_nil)⟩)
/-- LotBeliefs.Survey.bestEnd -/
def ct904 : sxCt := (78, 1, (2, [(1, .ofNat 0, .ofNat 4095)], [], [(0, .inl 66), (1, .inr (false, (1, .ofNat 0)))], [], [], [], []), [], [
  (3, [(2, .ofNat 0, .ofNat 127)], [], [], [.inr (false, (2, .ofNat 0))], [], [], [])], [], 0, 0)
def cu904 : List sxCu := [
  (7, (5, [(1, .ofNat 0, .ofNat 4095), (2, .ofNat 0, .ofNat 127), (3, .negSucc 0, .ofNat 63), (4, .ofNat 0, .ofNat 128)], [(2, 4, .ofNat 0)], [(0, .inl 66), (1, .inr (false, (1, .ofNat 0))), (2, .inr (false, (2, .ofNat 0))), (3, .inr (false, (3, .ofNat 0))), (4, .inr (false, (4, .ofNat 0)))], [], [], [], []), ((0, 4, .ofNat 128), (0, 0, .ofNat 0), (0, 0, .ofNat 0)), 0, 0)]
set_option maxRecDepth 1000000 in
theorem cv904 {gh : sxGh} (hg : sxGd sxKw gh) : sxCtV sxKw gh ct904 := sxMeB_ok (cts := [ct900]) (cuts := cu904) (sp := []) 122 (by decide +kernel) hg (by decide) (by decide) (List.forall_mem_cons.mpr ⟨cv900 hg, (fun _ h => absurd h List.not_mem_nil)⟩)
/-- LotBeliefs.Survey.bestEnd -/
def ct905 : sxCt := (78, 1, (2, [(1, .ofNat 0, .ofNat 4095)], [], [(0, .inl 62), (1, .inr (false, (1, .ofNat 0)))], [], [], [], []), [], [
  (3, [(2, .ofNat 0, .ofNat 127)], [], [], [.inr (false, (2, .ofNat 0))], [], [], [])], [], 0, 0)
def cu905 : List sxCu := [
  (7, (5, [(1, .ofNat 0, .ofNat 4095), (2, .ofNat 0, .ofNat 127), (3, .negSucc 0, .ofNat 63), (4, .ofNat 0, .ofNat 128)], [(2, 4, .ofNat 0)], [(0, .inl 62), (1, .inr (false, (1, .ofNat 0))), (2, .inr (false, (2, .ofNat 0))), (3, .inr (false, (3, .ofNat 0))), (4, .inr (false, (4, .ofNat 0)))], [], [], [], []), ((0, 4, .ofNat 128), (0, 0, .ofNat 0), (0, 0, .ofNat 0)), 0, 0)]
set_option maxRecDepth 1000000 in
theorem cv905 {gh : sxGh} (hg : sxGd sxKw gh) : sxCtV sxKw gh ct905 := sxMeB_ok (cts := [ct900]) (cuts := cu905) (sp := []) 122 (by decide +kernel) hg (by decide) (by decide) (List.forall_mem_cons.mpr ⟨cv900 hg, (fun _ h => absurd h List.not_mem_nil)⟩)
/-- LotBeliefs.Survey.bestEnd -/
def ct906 : sxCt := (78, 1, (2, [(1, .ofNat 0, .ofNat 4095)], [], [(0, .inl 58), (1, .inr (false, (1, .ofNat 0)))], [], [], [], []), [], [
  (3, [(2, .ofNat 0, .ofNat 127)], [], [], [.inr (false, (2, .ofNat 0))], [], [], [])], [], 0, 0)
def cu906 : List sxCu := [
  (7, (5, [(1, .ofNat 0, .ofNat 4095), (2, .ofNat 0, .ofNat 127), (3, .negSucc 0, .ofNat 63), (4, .ofNat 0, .ofNat 128)], [(2, 4, .ofNat 0)], [(0, .inl 58), (1, .inr (false, (1, .ofNat 0))), (2, .inr (false, (2, .ofNat 0))), (3, .inr (false, (3, .ofNat 0))), (4, .inr (false, (4, .ofNat 0)))], [], [], [], []), ((0, 4, .ofNat 128), (0, 0, .ofNat 0), (0, 0, .ofNat 0)), 0, 0)]
set_option maxRecDepth 1000000 in
theorem cv906 {gh : sxGh} (hg : sxGd sxKw gh) : sxCtV sxKw gh ct906 := sxMeB_ok (cts := [ct900]) (cuts := cu906) (sp := []) 122 (by decide +kernel) hg (by decide) (by decide) (List.forall_mem_cons.mpr ⟨cv900 hg, (fun _ h => absurd h List.not_mem_nil)⟩)
/-- LotBeliefs.best -/
def ct907 : sxCt := (136, 6, (1, [], [], [(0, .inl 0)], [], [], [], []), [(21, 0), (22, 0), (25, 0), (26, 0), (28, 0), (30, 0), (32, 1), (32, 2), (32, 3), (32, 4), (32, 9), (32, 11), (32, 12), (58, 2), (58, 3), (58, 6), (58, 7), (62, 2), (62, 3), (62, 6), (62, 7), (66, 2), (66, 3), (66, 6), (66, 7), (70, 2), (70, 3), (70, 6), (70, 7), (74, 2), (74, 3), (74, 6), (74, 7), (33000037, 0), (59000061, 0), (63000065, 0), (67000069, 0), (71000073, 0), (75000077, 0)], [
  (2, [(1, .ofNat 0, .ofNat 63)], [], [], [.inr (false, (1, .ofNat 0))], [], [], [])], [
  (2, (2, [(1, .negSucc 2147483647, .ofNat 2147483647)], [], [], [], [(30, (0, .ofNat 2), .inr (false, (1, .ofNat 0)))], [], []))], 1, 6)
def cu907 : List sxCu := []
set_option maxRecDepth 1000000 in
theorem cv907 {gh : sxGh} (hg : sxGd sxKw gh) : sxCtV sxKw gh ct907 := sxMeB_ok (cts := [ct384, ct522, ct578, ct582, ct656, ct660, ct734, ct738, ct739, ct740, ct741, ct742, ct743, ct744, ct617, ct745, ct746, ct747, ct621, ct748, ct695, ct699, ct901, ct903, ct904, ct905, ct906, ct902, ct900]) (cuts := cu907) (sp := []) 1078 (by decide +kernel) hg (by decide) (by decide) (List.forall_mem_cons.mpr ⟨cv384 hg, (List.forall_mem_cons.mpr ⟨cv522 hg, (List.forall_mem_cons.mpr ⟨cv578 hg, (List.forall_mem_cons.mpr ⟨cv582 hg, (List.forall_mem_cons.mpr ⟨cv656 hg, (List.forall_mem_cons.mpr ⟨cv660 hg, (List.forall_mem_cons.mpr ⟨cv734 hg, (List.forall_mem_cons.mpr ⟨cv738 hg, (List.forall_mem_cons.mpr ⟨cv739 hg, (List.forall_mem_cons.mpr ⟨cv740 hg, (List.forall_mem_cons.mpr ⟨cv741 hg, (List.forall_mem_cons.mpr ⟨cv742 hg, (List.forall_mem_cons.mpr ⟨cv743 hg, (List.forall_mem_cons.mpr ⟨cv744 hg, (List.forall_mem_cons.mpr ⟨cv617 hg, (List.forall_mem_cons.mpr ⟨cv745 hg, (List.forall_mem_cons.mpr ⟨cv746 hg, (List.forall_mem_cons.mpr ⟨cv747 hg, (List.forall_mem_cons.mpr ⟨cv621 hg, (List.forall_mem_cons.mpr ⟨cv748 hg, (List.forall_mem_cons.mpr ⟨cv695 hg, (List.forall_mem_cons.mpr ⟨cv699 hg, (List.forall_mem_cons.mpr ⟨cv901 hg, (List.forall_mem_cons.mpr ⟨cv903 hg, (List.forall_mem_cons.mpr ⟨cv904 hg, (List.forall_mem_cons.mpr ⟨cv905 hg, (List.forall_mem_cons.mpr ⟨cv906 hg, (List.forall_mem_cons.mpr ⟨cv902 hg, (List.forall_mem_cons.mpr ⟨cv900 hg, (fun _ h => absurd h List.not_mem_nil)⟩)⟩)⟩)⟩)⟩)⟩)⟩)⟩)⟩)⟩)⟩)⟩)⟩)⟩)⟩)⟩)⟩)⟩)⟩)⟩)⟩)⟩)⟩)⟩)⟩)⟩)⟩)⟩)⟩)
/-- LotBeliefs.Subsets.fill -/
def ct909 : sxCt := (58, 0, (2, [(1, .ofNat 0, .ofNat 51)], [], [(0, .inl 45), (1, .inl 11), (2, .inr (false, (1, .ofNat 0)))], [], [], [], []), [(45, 2), (45, 3), (46, 0)], [
  (5, [(2, .ofNat 0, .ofNat 12), (3, .ofNat 1, .ofNat 4096), (4, .negSucc 9223372036854775807, .ofNat 9223372036854775807)], [], [], [], [(45, (0, .ofNat 1), .inr (false, (2, .ofNat 0))), (45, (0, .ofNat 2), .inr (false, (3, .ofNat 0))), (46, (0, .ofNat 0), .inr (true, (4, .ofNat 0)))], [], [])], [], 0, 0)
def cu909 : List sxCu := [
  (40, (6, [(1, .ofNat 0, .ofNat 51), (2, .ofNat 0, .ofNat 12), (3, .ofNat 0, .ofNat 12), (4, .ofNat 1, .ofNat 4096), (5, .negSucc 9223372036854775807, .ofNat 9223372036854775807)], [], [(0, .inl 45), (1, .inl 11), (2, .inr (false, (1, .ofNat 0))), (3, .inr (false, (2, .ofNat 0)))], [], [(11, (0, .ofNat 2), .inr (false, (3, .ofNat 0))), (11, (0, .ofNat 11), .inl 16), (45, (0, .ofNat 0), .inl 46), (45, (0, .ofNat 1), .inr (false, (3, .ofNat 0))), (45, (0, .ofNat 2), .inr (false, (4, .ofNat 0))), (46, (0, .ofNat 0), .inr (true, (5, .ofNat 0)))], [], []), ((0, 2, .ofNat 12), (0, 0, .ofNat 4096), (0, 0, .ofNat 0)), 0, 0), 
  (56, (8, [(1, .ofNat 0, .ofNat 51), (2, .ofNat 0, .ofNat 11), (3, .ofNat 1, .ofNat 4095), (4, .ofNat 0, .ofNat 4095), (5, .ofNat 1, .ofNat 12), (6, .ofNat 1, .ofNat 4096), (7, .negSucc 9223372036854775807, .ofNat 9223372036854775807)], [(2, 5, .negSucc 0)], [(0, .inl 45), (1, .inl 11), (2, .inr (false, (1, .ofNat 0))), (3, .inr (false, (2, .ofNat 0))), (4, .inr (false, (3, .ofNat 0))), (5, .inr (false, (4, .ofNat 0)))], [], [(11, (0, .ofNat 2), .inr (false, (5, .ofNat 0))), (11, (0, .ofNat 11), .inl 16), (45, (0, .ofNat 0), .inl 46), (45, (0, .ofNat 1), .inr (false, (5, .ofNat 0))), (45, (0, .ofNat 2), .inr (false, (6, .ofNat 0))), (46, (0, .ofNat 0), .inr (true, (7, .ofNat 0)))], [], []), ((0, 2, .ofNat 12), (0, 4, .ofNat 4095), (0, 0, .ofNat 0)), 0, 0)]
set_option maxRecDepth 1000000 in
theorem cv909 {gh : sxGh} (hg : sxGd sxKw gh) : sxCtV sxKw gh ct909 := sxMeB_ok (cts := []) (cuts := cu909) (sp := []) 126 (by decide +kernel) hg (by decide) (by decide) (fun _ h => absurd h List.not_mem_nil)
/-- LotBeliefs.Subsets.core -/
def ct914 : sxCt := (61, 1, (1, [], [], [(0, .inl 45)], [], [], [], []), [], [
  (2, [(1, .negSucc 0, .ofNat 4095)], [], [], [.inr (false, (1, .ofNat 0))], [], [], [])], [], 0, 0)
def cu914 : List sxCu := [
  (7, (4, [(1, .negSucc 0, .ofNat 4095), (2, .ofNat 0, .ofNat 63), (3, .ofNat 0, .ofNat 4096)], [(1, 3, .negSucc 0)], [(0, .inl 45), (1, .inr (false, (1, .ofNat 0))), (2, .inr (false, (2, .ofNat 0))), (3, .inr (false, (3, .ofNat 0)))], [], [], [], []), ((0, 3, .ofNat 4096), (0, 0, .ofNat 0), (0, 0, .ofNat 0)), 0, 0)]
set_option maxRecDepth 1000000 in
theorem cv914 {gh : sxGh} (hg : sxGd sxKw gh) : sxCtV sxKw gh ct914 := sxMeB_ok (cts := [ct523]) (cuts := cu914) (sp := []) 100 (by decide +kernel) hg (by decide) (by decide) (List.forall_mem_cons.mpr ⟨cv523 hg, (fun _ h => absurd h List.not_mem_nil)⟩)
/-- LotBeliefs.Subsets.isWhole -/
def ct940 : sxCt := (65, 0, (2, [(1, .ofNat 0, .ofNat 4095)], [], [(0, .inl 45), (1, .inr (false, (1, .ofNat 0)))], [], [], [], []), [], [
  (2, [], [], [], [.inr (false, (0, .ofNat 0))], [], [], []), 
  (2, [], [], [], [.inr (false, (0, .ofNat 1))], [], [], [])], [], 0, 0)
def cu940 : List sxCu := [
  (15, (3, [(1, .ofNat 0, .ofNat 4095), (2, .ofNat 0, .ofNat 12)], [], [(0, .inl 45), (1, .inr (false, (1, .ofNat 0))), (2, .inr (false, (2, .ofNat 0)))], [], [(45, (0, .ofNat 0), .inl 46)], [], []), ((0, 2, .ofNat 12), (0, 0, .ofNat 0), (0, 0, .ofNat 0)), 0, 0)]
set_option maxRecDepth 1000000 in
theorem cv940 {gh : sxGh} (hg : sxGd sxKw gh) : sxCtV sxKw gh ct940 := sxMeB_ok (cts := []) (cuts := cu940) (sp := []) 112 (by decide +kernel) hg (by decide) (by decide) (fun _ h => absurd h List.not_mem_nil)
/-- LotBeliefs.Subsets.wholes -/
def ct941 : sxCt := (63, 1, (1, [], [], [(0, .inl 45)], [], [], [], []), [], [
  (2, [(1, .ofNat 0, .ofNat 4096)], [], [], [.inr (false, (1, .ofNat 0))], [], [], [])], [], 0, 0)
def cu941 : List sxCu := [
  (4, (3, [(1, .ofNat 0, .ofNat 4096), (2, .ofNat 0, .ofNat 4096)], [(1, 2, .ofNat 0)], [(0, .inl 45), (1, .inr (false, (1, .ofNat 0))), (2, .inr (false, (2, .ofNat 0)))], [], [], [], []), ((0, 2, .ofNat 4096), (0, 0, .ofNat 0), (0, 0, .ofNat 0)), 0, 0)]
set_option maxRecDepth 1000000 in
theorem cv941 {gh : sxGh} (hg : sxGd sxKw gh) : sxCtV sxKw gh ct941 := sxMeB_ok (cts := [ct940]) (cuts := cu941) (sp := []) 81 (by decide +kernel) hg (by decide) (by decide) (List.forall_mem_cons.mpr ⟨cv940 hg, (fun _ h => absurd h List.not_mem_nil)⟩)
/-- LotBeliefs.Subsets.greatest -/
def ct942 : sxCt := (60, 1, (1, [], [], [(0, .inl 45)], [], [], [], []), [], [
  (2, [(1, .negSucc 0, .ofNat 4095)], [], [], [.inr (false, (1, .ofNat 0))], [], [], [])], [], 0, 0)
def cu942 : List sxCu := [
  (6, (4, [(1, .negSucc 0, .ofNat 4095), (2, .negSucc 0, .ofNat 63), (3, .ofNat 0, .ofNat 4096)], [(1, 3, .negSucc 0)], [(0, .inl 45), (1, .inr (false, (1, .ofNat 0))), (2, .inr (false, (2, .ofNat 0))), (3, .inr (false, (3, .ofNat 0)))], [], [], [], []), ((0, 3, .ofNat 4096), (0, 0, .ofNat 0), (0, 0, .ofNat 0)), 0, 0)]
set_option maxRecDepth 1000000 in
theorem cv942 {gh : sxGh} (hg : sxGd sxKw gh) : sxCtV sxKw gh ct942 := sxMeB_ok (cts := [ct523]) (cuts := cu942) (sp := []) 113 (by decide +kernel) hg (by decide) (by decide) (List.forall_mem_cons.mpr ⟨cv523 hg, (fun _ h => absurd h List.not_mem_nil)⟩)
/-- LotBeliefs.Subsets.fitting -/
def ct943 : sxCt := (59, 0, (1, [], [], [(0, .inl 45)], [], [], [], []), [], [
  (2, [(1, .ofNat 0, .ofNat 4096)], [], [], [.inr (false, (1, .ofNat 0))], [], [], [])], [], 0, 0)
def cu943 : List sxCu := [
  (4, (3, [(1, .ofNat 0, .ofNat 4096), (2, .ofNat 0, .ofNat 4096)], [(1, 2, .ofNat 0)], [(0, .inl 45), (1, .inr (false, (1, .ofNat 0))), (2, .inr (false, (2, .ofNat 0)))], [], [], [], []), ((0, 2, .ofNat 4096), (0, 0, .ofNat 0), (0, 0, .ofNat 0)), 0, 0)]
set_option maxRecDepth 1000000 in
theorem cv943 {gh : sxGh} (hg : sxGd sxKw gh) : sxCtV sxKw gh ct943 := sxMeB_ok (cts := []) (cuts := cu943) (sp := []) 87 (by decide +kernel) hg (by decide) (by decide) (fun _ h => absurd h List.not_mem_nil)
/-- LotBeliefs.Subsets.fill -/
def ct944 : sxCt := (58, 0, (2, [(1, .ofNat 0, .ofNat 51)], [], [(0, .inl 45), (1, .inl 3), (2, .inr (false, (1, .ofNat 0)))], [], [], [], []), [(45, 2), (45, 3), (46, 0)], [
  (5, [(2, .ofNat 0, .ofNat 12), (3, .ofNat 1, .ofNat 4096), (4, .negSucc 9223372036854775807, .ofNat 9223372036854775807)], [], [], [], [(45, (0, .ofNat 1), .inr (false, (2, .ofNat 0))), (45, (0, .ofNat 2), .inr (false, (3, .ofNat 0))), (46, (0, .ofNat 0), .inr (true, (4, .ofNat 0)))], [], [])], [], 0, 0)
def cu944 : List sxCu := [
  (40, (6, [(1, .ofNat 0, .ofNat 51), (2, .ofNat 0, .ofNat 12), (3, .ofNat 0, .ofNat 12), (4, .ofNat 1, .ofNat 4096), (5, .negSucc 9223372036854775807, .ofNat 9223372036854775807)], [], [(0, .inl 45), (1, .inl 3), (2, .inr (false, (1, .ofNat 0))), (3, .inr (false, (2, .ofNat 0)))], [], [(3, (0, .ofNat 2), .inr (false, (3, .ofNat 0))), (3, (0, .ofNat 11), .inl 8), (45, (0, .ofNat 0), .inl 46), (45, (0, .ofNat 1), .inr (false, (3, .ofNat 0))), (45, (0, .ofNat 2), .inr (false, (4, .ofNat 0))), (46, (0, .ofNat 0), .inr (true, (5, .ofNat 0)))], [], []), ((0, 2, .ofNat 12), (0, 0, .ofNat 4096), (0, 0, .ofNat 0)), 0, 0), 
  (56, (8, [(1, .ofNat 0, .ofNat 51), (2, .ofNat 0, .ofNat 11), (3, .ofNat 1, .ofNat 4095), (4, .ofNat 0, .ofNat 4095), (5, .ofNat 1, .ofNat 12), (6, .ofNat 1, .ofNat 4096), (7, .negSucc 9223372036854775807, .ofNat 9223372036854775807)], [(2, 5, .negSucc 0)], [(0, .inl 45), (1, .inl 3), (2, .inr (false, (1, .ofNat 0))), (3, .inr (false, (2, .ofNat 0))), (4, .inr (false, (3, .ofNat 0))), (5, .inr (false, (4, .ofNat 0)))], [], [(3, (0, .ofNat 2), .inr (false, (5, .ofNat 0))), (3, (0, .ofNat 11), .inl 8), (45, (0, .ofNat 0), .inl 46), (45, (0, .ofNat 1), .inr (false, (5, .ofNat 0))), (45, (0, .ofNat 2), .inr (false, (6, .ofNat 0))), (46, (0, .ofNat 0), .inr (true, (7, .ofNat 0)))], [], []), ((0, 2, .ofNat 12), (0, 4, .ofNat 4095), (0, 0, .ofNat 0)), 0, 0)]
set_option maxRecDepth 1000000 in
theorem cv944 {gh : sxGh} (hg : sxGd sxKw gh) : sxCtV sxKw gh ct944 := sxMeB_ok (cts := []) (cuts := cu944) (sp := []) 126 (by decide +kernel) hg (by decide) (by decide) (fun _ h => absurd h List.not_mem_nil)
/-- LotBeliefs.sets -/
def ct945 : sxCt := (138, 3, (3, [(1, .negSucc 2147483647, .ofNat 2147483647), (2, .negSucc 2147483647, .ofNat 2147483647)], [], [(0, .inl 0), (1, .inr (false, (1, .ofNat 0))), (2, .inr (false, (2, .ofNat 0)))], [], [], [], []), [(30, 0), (45, 2), (45, 3), (46, 0)], [
  (7, [(1, .ofNat 0, .ofNat 51), (2, .ofNat 0, .ofNat 3), (3, .negSucc 0, .ofNat 4096), (4, .ofNat 0, .ofNat 12), (5, .ofNat 1, .ofNat 4096), (6, .negSucc 9223372036854775807, .ofNat 9223372036854775807)], [], [], [.inr (false, (3, .ofNat 0))], [(45, (0, .ofNat 1), .inr (false, (4, .ofNat 0))), (45, (0, .ofNat 2), .inr (false, (5, .ofNat 0))), (46, (0, .ofNat 0), .inr (true, (6, .ofNat 0)))], [], [])], [
  (1, (4, [(3, .negSucc 2147483647, .ofNat 2147483647)], [], [], [], [(30, (0, .ofNat 1), .inr (false, (3, .ofNat 0)))], [], []))], 1, 6)
def cu945 : List sxCu := []
set_option maxRecDepth 1000000 in
theorem cv945 {gh : sxGh} (hg : sxGd sxKw gh) : sxCtV sxKw gh ct945 := sxMeB_ok (cts := [ct944, ct909, ct943, ct942, ct914, ct941]) (cuts := cu945) (sp := []) 182 (by decide +kernel) hg (by decide) (by decide) (List.forall_mem_cons.mpr ⟨cv944 hg, (List.forall_mem_cons.mpr ⟨cv909 hg, (List.forall_mem_cons.mpr ⟨cv943 hg, (List.forall_mem_cons.mpr ⟨cv942 hg, (List.forall_mem_cons.mpr ⟨cv914 hg, (List.forall_mem_cons.mpr ⟨cv941 hg, (fun _ h => absurd h List.not_mem_nil)⟩)⟩)⟩)⟩)⟩)⟩)
/-- LotBeliefsModel.ones -/
def ct993 : sxCt := (224, 0, (2, [(1, .ofNat 0, .ofNat 39)], [], [(0, .inr (true, (1, .ofNat 0)))], [], [], [], []), [], [
  (3, [(2, .negSucc 2147483647, .ofNat 2147483647)], [], [], [.inr (false, (2, .ofNat 0))], [], [], [])], [], 0, 0)
def cu993 : List sxCu := [
  (4, (4, [(1, .ofNat 0, .ofNat 39), (2, .negSucc 2147483647, .ofNat 2147483647), (3, .ofNat 0, .ofNat 64)], [], [(0, .inr (true, (1, .ofNat 0))), (2, .inr (false, (2, .ofNat 0))), (3, .inr (false, (3, .ofNat 0)))], [], [], [], []), ((0, 3, .ofNat 64), (0, 0, .ofNat 0), (0, 0, .ofNat 0)), 0, 0)]
set_option maxRecDepth 1000000 in
theorem cv993 {gh : sxGh} (hg : sxGd sxKw gh) : sxCtV sxKw gh ct993 := sxMeB_ok (cts := []) (cuts := cu993) (sp := []) 80 (by decide +kernel) hg (by decide) (by decide) (fun _ h => absurd h List.not_mem_nil)
/-- LotBeliefsModel.ones -/
def ct1009 : sxCt := (224, 0, (2, [(1, .ofNat 0, .ofNat 63)], [], [(0, .inr (true, (1, .ofNat 0)))], [], [], [], []), [], [
  (3, [(2, .negSucc 2147483647, .ofNat 2147483647)], [], [], [.inr (false, (2, .ofNat 0))], [], [], [])], [], 0, 0)
def cu1009 : List sxCu := [
  (4, (4, [(1, .ofNat 0, .ofNat 63), (2, .negSucc 2147483647, .ofNat 2147483647), (3, .ofNat 0, .ofNat 64)], [], [(0, .inr (true, (1, .ofNat 0))), (2, .inr (false, (2, .ofNat 0))), (3, .inr (false, (3, .ofNat 0)))], [], [], [], []), ((0, 3, .ofNat 64), (0, 0, .ofNat 0), (0, 0, .ofNat 0)), 0, 0)]
set_option maxRecDepth 1000000 in
theorem cv1009 {gh : sxGh} (hg : sxGd sxKw gh) : sxCtV sxKw gh ct1009 := sxMeB_ok (cts := []) (cuts := cu1009) (sp := []) 80 (by decide +kernel) hg (by decide) (by decide) (fun _ h => absurd h List.not_mem_nil)
/-- LotBeliefsModel.isWhole -/
def ct1023 : sxCt := (299, 1, (3, [(1, .ofNat 0, .ofNat 4095), (2, .ofNat 0, .ofNat 51)], [], [(0, .inl 78), (1, .inr (false, (1, .ofNat 0))), (2, .inr (false, (2, .ofNat 0)))], [], [], [], []), [], [
  (3, [], [], [], [.inr (false, (0, .ofNat 0))], [], [], []), 
  (3, [], [], [], [.inr (false, (0, .ofNat 1))], [], [], [])], [], 0, 0)
def cu1023 : List sxCu := [
  (15, (4, [(1, .ofNat 0, .ofNat 4095), (2, .ofNat 0, .ofNat 51), (3, .ofNat 0, .ofNat 12)], [], [(0, .inl 78), (1, .inr (false, (1, .ofNat 0))), (2, .inr (false, (2, .ofNat 0))), (3, .inr (false, (3, .ofNat 0)))], [], [], [], []), ((0, 3, .ofNat 12), (0, 0, .ofNat 0), (0, 0, .ofNat 0)), 0, 0)]
set_option maxRecDepth 1000000 in
theorem cv1023 {gh : sxGh} (hg : sxGd sxKw gh) : sxCtV sxKw gh ct1023 := sxMeB_ok (cts := [ct528]) (cuts := cu1023) (sp := []) 112 (by decide +kernel) hg (by decide) (by decide) (List.forall_mem_cons.mpr ⟨cv528 hg, (fun _ h => absurd h List.not_mem_nil)⟩)
/-- LotBeliefsModel.sets -/
def ct1024 : sxCt := (300, 2, (3, [(1, .negSucc 2147483647, .ofNat 2147483647), (2, .negSucc 2147483647, .ofNat 2147483647)], [], [(0, .inl 78), (1, .inr (false, (1, .ofNat 0))), (2, .inr (false, (2, .ofNat 0)))], [], [], [], []), [(78, 1), (80, 0)], [
  (5, [(3, .negSucc 0, .ofNat 4096), (4, .ofNat 0, .ofNat 1)], [(4, 3, .ofNat 1)], [], [.inr (false, (3, .ofNat 0))], [(78, (0, .ofNat 0), .inr (false, (4, .ofNat 0)))], [], [])], [], 0, 0)
def cu1024 : List sxCu := [
  (51, (8, [(1, .ofNat 0, .ofNat 51), (2, .ofNat 0, .ofNat 3), (3, .ofNat 0, .ofNat 4096), (4, .negSucc 0, .ofNat 4095), (5, .ofNat 0, .ofNat 4096), (6, .negSucc 0, .ofNat 4095), (7, .ofNat 0, .ofNat 4096)], [(3, 7, .ofNat 0), (4, 7, .negSucc 0), (5, 3, .ofNat 0), (5, 7, .ofNat 0), (6, 7, .negSucc 0)], [(0, .inl 78), (1, .inr (false, (1, .ofNat 0))), (2, .inr (false, (2, .ofNat 0))), (3, .inr (false, (3, .ofNat 0))), (4, .inr (false, (4, .ofNat 0))), (5, .inr (false, (5, .ofNat 0))), (6, .inr (false, (6, .ofNat 0))), (7, .inr (false, (7, .ofNat 0)))], [], [(78, (0, .ofNat 0), .inr (false, (0, .ofNat 0)))], [], []), ((0, 7, .ofNat 4096), (0, 0, .ofNat 0), (0, 0, .ofNat 0)), 0, 0)]
set_option maxRecDepth 1000000 in
theorem cv1024 {gh : sxGh} (hg : sxGd sxKw gh) : sxCtV sxKw gh ct1024 := sxMeB_ok (cts := [ct529, ct528, ct1023]) (cuts := cu1024) (sp := []) 560 (by decide +kernel) hg (by decide) (by decide) (List.forall_mem_cons.mpr ⟨cv529 hg, (List.forall_mem_cons.mpr ⟨cv528 hg, (List.forall_mem_cons.mpr ⟨cv1023 hg, (fun _ h => absurd h List.not_mem_nil)⟩)⟩)⟩)
/-- LotBeliefsModel.sets -/
def ct1025 : sxCt := (300, 2, (3, [(1, .ofNat 0, .ofNat 51), (2, .ofNat 0, .ofNat 3)], [], [(0, .inl 78), (1, .inr (false, (1, .ofNat 0))), (2, .inr (false, (2, .ofNat 0)))], [], [], [], []), [(78, 1)], [
  (4, [(3, .negSucc 0, .ofNat 4096)], [], [], [.inr (false, (3, .ofNat 0))], [(78, (0, .ofNat 0), .inr (false, (0, .ofNat 0)))], [], [])], [], 0, 0)
def cu1025 : List sxCu := [
  (51, (8, [(1, .ofNat 0, .ofNat 51), (2, .ofNat 0, .ofNat 3), (3, .ofNat 0, .ofNat 4096), (4, .negSucc 0, .ofNat 4095), (5, .ofNat 0, .ofNat 4096), (6, .negSucc 0, .ofNat 4095), (7, .ofNat 0, .ofNat 4096)], [(3, 7, .ofNat 0), (4, 7, .negSucc 0), (5, 3, .ofNat 0), (5, 7, .ofNat 0), (6, 7, .negSucc 0)], [(0, .inl 78), (1, .inr (false, (1, .ofNat 0))), (2, .inr (false, (2, .ofNat 0))), (3, .inr (false, (3, .ofNat 0))), (4, .inr (false, (4, .ofNat 0))), (5, .inr (false, (5, .ofNat 0))), (6, .inr (false, (6, .ofNat 0))), (7, .inr (false, (7, .ofNat 0)))], [], [(78, (0, .ofNat 0), .inr (false, (0, .ofNat 0)))], [], []), ((0, 7, .ofNat 4096), (0, 0, .ofNat 0), (0, 0, .ofNat 0)), 0, 0)]
set_option maxRecDepth 1000000 in
theorem cv1025 {gh : sxGh} (hg : sxGd sxKw gh) : sxCtV sxKw gh ct1025 := sxMeB_ok (cts := [ct529, ct528, ct1023]) (cuts := cu1025) (sp := []) 426 (by decide +kernel) hg (by decide) (by decide) (List.forall_mem_cons.mpr ⟨cv529 hg, (List.forall_mem_cons.mpr ⟨cv528 hg, (List.forall_mem_cons.mpr ⟨cv1023 hg, (fun _ h => absurd h List.not_mem_nil)⟩)⟩)⟩)
/-- LotBeliefsModel.whole -/
def ct1026 : sxCt := (301, 2, (3, [(1, .negSucc 2147483647, .ofNat 2147483647), (2, .negSucc 2147483647, .ofNat 2147483647)], [], [(0, .inl 78), (1, .inr (false, (1, .ofNat 0))), (2, .inr (false, (2, .ofNat 0)))], [], [], [], []), [(78, 1), (80, 0)], [
  (5, [(3, .negSucc 0, .ofNat 4095), (4, .ofNat 0, .ofNat 1)], [(4, 3, .ofNat 1)], [], [.inr (false, (3, .ofNat 0))], [(78, (0, .ofNat 0), .inr (false, (4, .ofNat 0)))], [], [])], [], 0, 0)
def cu1026 : List sxCu := [
  (33, (5, [(1, .ofNat 0, .ofNat 51), (2, .negSucc 2147483647, .ofNat 2147483647), (3, .ofNat 0, .ofNat 4096), (4, .ofNat 0, .ofNat 4096)], [(3, 4, .ofNat 0)], [(0, .inl 78), (1, .inr (false, (1, .ofNat 0))), (2, .inr (false, (2, .ofNat 0))), (3, .inr (false, (3, .ofNat 0))), (4, .inr (false, (4, .ofNat 0)))], [], [(78, (0, .ofNat 0), .inr (false, (0, .ofNat 0)))], [], []), ((0, 4, .ofNat 4096), (0, 0, .ofNat 0), (0, 0, .ofNat 0)), 0, 0)]
set_option maxRecDepth 1000000 in
theorem cv1026 {gh : sxGh} (hg : sxGd sxKw gh) : sxCtV sxKw gh ct1026 := sxMeB_ok (cts := [ct1023]) (cuts := cu1026) (sp := []) 193 (by decide +kernel) hg (by decide) (by decide) (List.forall_mem_cons.mpr ⟨cv1023 hg, (fun _ h => absurd h List.not_mem_nil)⟩)
/-- LotBeliefs.Subsets.wholeAt -/
def ct1027 : sxCt := (64, 1, (2, [(1, .negSucc 2147483647, .ofNat 2147483647)], [], [(0, .inl 45), (1, .inr (false, (1, .ofNat 0)))], [], [], [], []), [], [
  (3, [(2, .negSucc 0, .ofNat 4095)], [], [], [.inr (false, (2, .ofNat 0))], [], [], [])], [], 0, 0)
def cu1027 : List sxCu := [
  (4, (4, [(1, .negSucc 2147483647, .ofNat 2147483647), (2, .ofNat 0, .ofNat 4096), (3, .ofNat 0, .ofNat 4096)], [(2, 3, .ofNat 0)], [(0, .inl 45), (1, .inr (false, (1, .ofNat 0))), (2, .inr (false, (2, .ofNat 0))), (3, .inr (false, (3, .ofNat 0)))], [], [], [], []), ((0, 3, .ofNat 4096), (0, 0, .ofNat 0), (0, 0, .ofNat 0)), 0, 0)]
set_option maxRecDepth 1000000 in
theorem cv1027 {gh : sxGh} (hg : sxGd sxKw gh) : sxCtV sxKw gh ct1027 := sxMeB_ok (cts := [ct940]) (cuts := cu1027) (sp := []) 86 (by decide +kernel) hg (by decide) (by decide) (List.forall_mem_cons.mpr ⟨cv940 hg, (fun _ h => absurd h List.not_mem_nil)⟩)
/-- LotBeliefsModel.whole -/
def ct1028 : sxCt := (301, 2, (3, [(1, .ofNat 0, .ofNat 51), (2, .negSucc 2147483647, .ofNat 2147483647)], [], [(0, .inl 78), (1, .inr (false, (1, .ofNat 0))), (2, .inr (false, (2, .ofNat 0)))], [], [], [], []), [(78, 1)], [
  (4, [(3, .negSucc 0, .ofNat 4095)], [], [], [.inr (false, (3, .ofNat 0))], [(78, (0, .ofNat 0), .inr (false, (0, .ofNat 0)))], [], [])], [], 0, 0)
def cu1028 : List sxCu := [
  (33, (5, [(1, .ofNat 0, .ofNat 51), (2, .negSucc 2147483647, .ofNat 2147483647), (3, .ofNat 0, .ofNat 4096), (4, .ofNat 0, .ofNat 4096)], [(3, 4, .ofNat 0)], [(0, .inl 78), (1, .inr (false, (1, .ofNat 0))), (2, .inr (false, (2, .ofNat 0))), (3, .inr (false, (3, .ofNat 0))), (4, .inr (false, (4, .ofNat 0)))], [], [(78, (0, .ofNat 0), .inr (false, (0, .ofNat 0)))], [], []), ((0, 4, .ofNat 4096), (0, 0, .ofNat 0), (0, 0, .ofNat 0)), 0, 0)]
set_option maxRecDepth 1000000 in
theorem cv1028 {gh : sxGh} (hg : sxGd sxKw gh) : sxCtV sxKw gh ct1028 := sxMeB_ok (cts := [ct1023]) (cuts := cu1028) (sp := []) 125 (by decide +kernel) hg (by decide) (by decide) (List.forall_mem_cons.mpr ⟨cv1023 hg, (fun _ h => absurd h List.not_mem_nil)⟩)
/-- LotBeliefsModel.proof -/
def ct1029 : sxCt := (302, 2, (2, [(1, .negSucc 2147483647, .ofNat 2147483647)], [], [(0, .inl 78), (1, .inr (false, (1, .ofNat 0)))], [], [], [], []), [(78, 1), (80, 0)], [
  (4, [(2, .negSucc 0, .ofNat 4095), (3, .ofNat 0, .ofNat 1)], [(3, 2, .ofNat 1)], [], [.inr (false, (2, .ofNat 0))], [(78, (0, .ofNat 0), .inr (false, (3, .ofNat 0)))], [], [])], [], 0, 0)
def cu1029 : List sxCu := [
  (32, (4, [(1, .ofNat 0, .ofNat 51), (2, .negSucc 0, .ofNat 4095), (3, .ofNat 0, .ofNat 4096)], [(2, 3, .negSucc 0)], [(0, .inl 78), (1, .inr (false, (1, .ofNat 0))), (2, .inr (false, (2, .ofNat 0))), (3, .inr (false, (3, .ofNat 0)))], [], [(78, (0, .ofNat 0), .inr (false, (0, .ofNat 0)))], [], []), ((0, 3, .ofNat 4096), (0, 0, .ofNat 0), (0, 0, .ofNat 0)), 0, 0)]
set_option maxRecDepth 1000000 in
theorem cv1029 {gh : sxGh} (hg : sxGd sxKw gh) : sxCtV sxKw gh ct1029 := sxMeB_ok (cts := [ct529, ct528]) (cuts := cu1029) (sp := []) 262 (by decide +kernel) hg (by decide) (by decide) (List.forall_mem_cons.mpr ⟨cv529 hg, (List.forall_mem_cons.mpr ⟨cv528 hg, (fun _ h => absurd h List.not_mem_nil)⟩)⟩)
/-- LotBeliefs.Subsets.proving -/
def ct1030 : sxCt := (62, 1, (2, [(1, .negSucc 9223372036854775807, .ofNat 9223372036854775807)], [], [(0, .inl 45), (1, .inr (true, (1, .ofNat 0)))], [], [], [], []), [], [
  (3, [(2, .negSucc 0, .ofNat 4095)], [], [], [.inr (false, (2, .ofNat 0))], [], [], [])], [], 0, 0)
def cu1030 : List sxCu := [
  (9, (5, [(1, .negSucc 9223372036854775807, .ofNat 9223372036854775807), (2, .negSucc 0, .ofNat 4095), (3, .ofNat 0, .ofNat 63), (4, .ofNat 0, .ofNat 4096)], [(2, 4, .negSucc 0)], [(0, .inl 45), (1, .inr (true, (1, .ofNat 0))), (3, .inr (false, (2, .ofNat 0))), (4, .inr (false, (3, .ofNat 0))), (5, .inr (false, (4, .ofNat 0)))], [], [], [], []), ((0, 4, .ofNat 4096), (0, 0, .ofNat 0), (0, 0, .ofNat 0)), 0, 0)]
set_option maxRecDepth 1000000 in
theorem cv1030 {gh : sxGh} (hg : sxGd sxKw gh) : sxCtV sxKw gh ct1030 := sxMeB_ok (cts := [ct523]) (cuts := cu1030) (sp := []) 170 (by decide +kernel) hg (by decide) (by decide) (List.forall_mem_cons.mpr ⟨cv523 hg, (fun _ h => absurd h List.not_mem_nil)⟩)
/-- LotBeliefsModel.proof -/
def ct1031 : sxCt := (302, 2, (2, [(1, .ofNat 0, .ofNat 51)], [], [(0, .inl 78), (1, .inr (false, (1, .ofNat 0)))], [], [], [], []), [(78, 1)], [
  (3, [(2, .negSucc 0, .ofNat 4095)], [], [], [.inr (false, (2, .ofNat 0))], [(78, (0, .ofNat 0), .inr (false, (0, .ofNat 0)))], [], [])], [], 0, 0)
def cu1031 : List sxCu := [
  (32, (4, [(1, .ofNat 0, .ofNat 51), (2, .negSucc 0, .ofNat 4095), (3, .ofNat 0, .ofNat 4096)], [(2, 3, .negSucc 0)], [(0, .inl 78), (1, .inr (false, (1, .ofNat 0))), (2, .inr (false, (2, .ofNat 0))), (3, .inr (false, (3, .ofNat 0)))], [], [(78, (0, .ofNat 0), .inr (false, (0, .ofNat 0)))], [], []), ((0, 3, .ofNat 4096), (0, 0, .ofNat 0), (0, 0, .ofNat 0)), 0, 0)]
set_option maxRecDepth 1000000 in
theorem cv1031 {gh : sxGh} (hg : sxGd sxKw gh) : sxCtV sxKw gh ct1031 := sxMeB_ok (cts := [ct529, ct528]) (cuts := cu1031) (sp := []) 194 (by decide +kernel) hg (by decide) (by decide) (List.forall_mem_cons.mpr ⟨cv529 hg, (List.forall_mem_cons.mpr ⟨cv528 hg, (fun _ h => absurd h List.not_mem_nil)⟩)⟩)
/-- LotBeliefs.split -/
def ct1032 : sxCt := (141, 3, (3, [(1, .negSucc 2147483647, .ofNat 2147483647), (2, .negSucc 2147483647, .ofNat 2147483647)], [], [(0, .inl 0), (1, .inr (false, (1, .ofNat 0))), (2, .inr (false, (2, .ofNat 0)))], [], [], [], []), [(30, 0)], [
  (4, [(1, .ofNat 0, .ofNat 51), (2, .ofNat 0, .ofNat 1), (3, .ofNat 0, .ofNat 127)], [], [], [.inr (false, (3, .ofNat 0))], [], [], [])], [
  (1, (4, [(3, .negSucc 2147483647, .ofNat 2147483647)], [], [], [], [(30, (0, .ofNat 1), .inr (false, (3, .ofNat 0)))], [], []))], 1, 6)
def cu1032 : List sxCu := [
  (27, (6, [(1, .ofNat 0, .ofNat 51), (2, .ofNat 0, .ofNat 1), (3, .ofNat 0, .ofNat 5), (4, .ofNat 0, .ofNat 127), (5, .ofNat 1, .ofNat 6)], [(3, 5, .negSucc 0)], [(0, .inl 0), (1, .inr (false, (1, .ofNat 0))), (2, .inr (false, (2, .ofNat 0))), (3, .inr (false, (3, .ofNat 0))), (4, .inr (false, (4, .ofNat 0))), (5, .inr (false, (5, .ofNat 0)))], [], [], [], []), ((0, 5, .ofNat 6), (0, 0, .ofNat 0), (0, 0, .ofNat 0)), 0, 0)]
set_option maxRecDepth 1000000 in
theorem cv1032 {gh : sxGh} (hg : sxGd sxKw gh) : sxCtV sxKw gh ct1032 := sxMeB_ok (cts := [ct58]) (cuts := cu1032) (sp := []) 725 (by decide +kernel) hg (by decide) (by decide) (List.forall_mem_cons.mpr ⟨cv58 hg, (fun _ h => absurd h List.not_mem_nil)⟩)
/-- LotBeliefsModel.atomOf -/
def ct1038 : sxCt := (215, 0, (3, [(1, .ofNat 0, .ofNat 5), (2, .ofNat 0, .ofNat 6)], [], [(0, .inr (false, (1, .ofNat 0))), (1, .inr (false, (2, .ofNat 0)))], [], [], [], []), [], [
  (4, [(3, .negSucc 9223372036854775807, .ofNat 9223372036854775807)], [], [], [.inr (true, (3, .ofNat 0))], [], [], [])], [], 0, 0)
def cu1038 : List sxCu := []
set_option maxRecDepth 1000000 in
theorem cv1038 {gh : sxGh} (hg : sxGd sxKw gh) : sxCtV sxKw gh ct1038 := sxMeB_ok (cts := []) (cuts := cu1038) (sp := []) 1349 (by decide +kernel) hg (by decide) (by decide) (fun _ h => absurd h List.not_mem_nil)
/-- LotBeliefsModel.split -/
def ct1039 : sxCt := (303, 2, (3, [(1, .negSucc 2147483647, .ofNat 2147483647), (2, .negSucc 2147483647, .ofNat 2147483647)], [], [(0, .inl 78), (1, .inr (false, (1, .ofNat 0))), (2, .inr (false, (2, .ofNat 0)))], [], [], [], []), [(78, 1), (80, 0)], [
  (5, [(3, .negSucc 2147483647, .ofNat 2147483647), (4, .ofNat 0, .ofNat 1)], [], [], [.inr (false, (3, .ofNat 0))], [(78, (0, .ofNat 0), .inr (false, (4, .ofNat 0)))], [], [])], [], 0, 0)
def cu1039 : List sxCu := [
  (45, (6, [(1, .ofNat 0, .ofNat 51), (2, .ofNat 0, .ofNat 1), (3, .negSucc 0, .ofNat 5), (4, .negSucc 2147483647, .ofNat 2147483647), (5, .ofNat 0, .ofNat 6)], [(3, 5, .negSucc 0)], [(0, .inl 78), (1, .inr (false, (1, .ofNat 0))), (2, .inr (false, (2, .ofNat 0))), (3, .inr (false, (3, .ofNat 0))), (4, .inr (false, (4, .ofNat 0))), (5, .inr (false, (5, .ofNat 0)))], [], [(78, (0, .ofNat 0), .inr (false, (0, .ofNat 0)))], [], []), ((0, 5, .ofNat 6), (0, 0, .ofNat 0), (0, 0, .ofNat 0)), 0, 0)]
set_option maxRecDepth 1000000 in
theorem cv1039 {gh : sxGh} (hg : sxGd sxKw gh) : sxCtV sxKw gh ct1039 := sxMeB_ok (cts := [ct1038, ct0]) (cuts := cu1039) (sp := []) 334 (by decide +kernel) hg (by decide) (by decide) (List.forall_mem_cons.mpr ⟨cv1038 hg, (List.forall_mem_cons.mpr ⟨cv0 hg, (fun _ h => absurd h List.not_mem_nil)⟩)⟩)
/-- LotBeliefsModel.split -/
def ct1040 : sxCt := (303, 2, (3, [(1, .ofNat 0, .ofNat 51), (2, .ofNat 0, .ofNat 1)], [], [(0, .inl 78), (1, .inr (false, (1, .ofNat 0))), (2, .inr (false, (2, .ofNat 0)))], [], [], [], []), [(78, 1)], [
  (4, [(3, .negSucc 2147483647, .ofNat 2147483647)], [], [], [.inr (false, (3, .ofNat 0))], [(78, (0, .ofNat 0), .inr (false, (0, .ofNat 0)))], [], [])], [], 0, 0)
def cu1040 : List sxCu := [
  (45, (6, [(1, .ofNat 0, .ofNat 51), (2, .ofNat 0, .ofNat 1), (3, .negSucc 0, .ofNat 5), (4, .negSucc 2147483647, .ofNat 2147483647), (5, .ofNat 0, .ofNat 6)], [(3, 5, .negSucc 0)], [(0, .inl 78), (1, .inr (false, (1, .ofNat 0))), (2, .inr (false, (2, .ofNat 0))), (3, .inr (false, (3, .ofNat 0))), (4, .inr (false, (4, .ofNat 0))), (5, .inr (false, (5, .ofNat 0)))], [], [(78, (0, .ofNat 0), .inr (false, (0, .ofNat 0)))], [], []), ((0, 5, .ofNat 6), (0, 0, .ofNat 0), (0, 0, .ofNat 0)), 0, 0)]
set_option maxRecDepth 1000000 in
theorem cv1040 {gh : sxGh} (hg : sxGd sxKw gh) : sxCtV sxKw gh ct1040 := sxMeB_ok (cts := [ct1038, ct0]) (cuts := cu1040) (sp := []) 200 (by decide +kernel) hg (by decide) (by decide) (List.forall_mem_cons.mpr ⟨cv1038 hg, (List.forall_mem_cons.mpr ⟨cv0 hg, (fun _ h => absurd h List.not_mem_nil)⟩)⟩)
/-- LotBeliefs.likely -/
def ct1077 : sxCt := (142, 3, (2, [(1, .negSucc 2147483647, .ofNat 2147483647)], [], [(0, .inl 0), (1, .inr (false, (1, .ofNat 0)))], [], [], [], []), [(30, 0)], [
  (3, [(1, .ofNat 0, .ofNat 51), (2, .negSucc 0, .ofNat 63)], [], [], [.inr (false, (2, .ofNat 0))], [], [], [])], [
  (1, (3, [(2, .negSucc 2147483647, .ofNat 2147483647)], [], [], [], [(30, (0, .ofNat 1), .inr (false, (2, .ofNat 0)))], [], []))], 1, 6)
def cu1077 : List sxCu := [
  (12, (5, [(1, .ofNat 0, .ofNat 51), (2, .negSucc 0, .ofNat 63), (3, .negSucc 0, .ofNat 63), (4, .ofNat 0, .ofNat 64)], [(2, 4, .negSucc 0), (3, 2, .ofNat 63), (3, 4, .ofNat 62)], [(0, .inl 0), (1, .inr (false, (1, .ofNat 0))), (2, .inr (false, (2, .ofNat 0))), (3, .inr (false, (3, .ofNat 0))), (4, .inr (false, (4, .ofNat 0)))], [], [], [], []), ((0, 4, .ofNat 64), (0, 0, .ofNat 0), (0, 0, .ofNat 0)), 0, 0)]
set_option maxRecDepth 1000000 in
theorem cv1077 {gh : sxGh} (hg : sxGd sxKw gh) : sxCtV sxKw gh ct1077 := sxMeB_ok (cts := [ct384, ct522, ct523]) (cuts := cu1077) (sp := []) 184 (by decide +kernel) hg (by decide) (by decide) (List.forall_mem_cons.mpr ⟨cv384 hg, (List.forall_mem_cons.mpr ⟨cv522 hg, (List.forall_mem_cons.mpr ⟨cv523 hg, (fun _ h => absurd h List.not_mem_nil)⟩)⟩)⟩)
/-- LotBeliefsModel.likely -/
def ct1078 : sxCt := (304, 2, (2, [(1, .negSucc 2147483647, .ofNat 2147483647)], [], [(0, .inl 78), (1, .inr (false, (1, .ofNat 0)))], [], [], [], []), [(78, 1), (80, 0)], [
  (4, [(2, .negSucc 0, .ofNat 63), (3, .ofNat 0, .ofNat 1)], [(3, 2, .ofNat 1)], [], [.inr (false, (2, .ofNat 0))], [(78, (0, .ofNat 0), .inr (false, (3, .ofNat 0)))], [], [])], [], 0, 0)
def cu1078 : List sxCu := [
  (35, (5, [(1, .ofNat 0, .ofNat 51), (2, .negSucc 0, .ofNat 63), (3, .negSucc 0, .ofNat 2147483647), (4, .ofNat 0, .ofNat 64)], [(2, 4, .negSucc 0)], [(0, .inl 78), (1, .inr (false, (1, .ofNat 0))), (2, .inr (false, (2, .ofNat 0))), (3, .inr (false, (3, .ofNat 0))), (4, .inr (false, (4, .ofNat 0)))], [], [(78, (0, .ofNat 0), .inr (false, (0, .ofNat 0)))], [], []), ((0, 4, .ofNat 64), (0, 0, .ofNat 13), (0, 0, .ofNat 0)), 0, 0), 
  (73, (8, [(1, .ofNat 0, .ofNat 51), (2, .negSucc 0, .ofNat 62), (3, .negSucc 0, .ofNat 2147483647), (4, .ofNat 0, .ofNat 63), (5, .negSucc 2147483647, .ofNat 2147483647), (6, .ofNat 0, .ofNat 12), (7, .ofNat 0, .ofNat 6)], [(2, 4, .negSucc 0)], [(0, .inl 78), (1, .inr (false, (1, .ofNat 0))), (2, .inr (false, (2, .ofNat 0))), (3, .inr (false, (3, .ofNat 0))), (4, .inr (false, (4, .ofNat 0))), (5, .inr (false, (5, .ofNat 0))), (6, .inr (false, (6, .ofNat 0)))], [], [(78, (0, .ofNat 0), .inr (false, (0, .ofNat 0))), (78, (0, .ofNat 12), .inl 82), (78, (0, .ofNat 19), .inl 89), (82, (0, .ofNat 0), .inr (false, (7, .ofNat 0)))], [], []), ((0, 4, .ofNat 64), (0, 6, .ofNat 12), (0, 0, .ofNat 0)), 0, 0)]
set_option maxRecDepth 1000000 in
theorem cv1078 {gh : sxGh} (hg : sxGd sxKw gh) : sxCtV sxKw gh ct1078 := sxMeB_ok (cts := []) (cuts := cu1078) (sp := []) 228 (by decide +kernel) hg (by decide) (by decide) (fun _ h => absurd h List.not_mem_nil)
/-- LotBeliefsModel.likely -/
def ct1079 : sxCt := (304, 2, (2, [(1, .ofNat 0, .ofNat 51)], [], [(0, .inl 78), (1, .inr (false, (1, .ofNat 0)))], [], [], [], []), [(78, 1)], [
  (3, [(2, .negSucc 0, .ofNat 63)], [], [], [.inr (false, (2, .ofNat 0))], [(78, (0, .ofNat 0), .inr (false, (0, .ofNat 0)))], [], [])], [], 0, 0)
def cu1079 : List sxCu := [
  (35, (5, [(1, .ofNat 0, .ofNat 51), (2, .negSucc 0, .ofNat 63), (3, .negSucc 0, .ofNat 2147483647), (4, .ofNat 0, .ofNat 64)], [(2, 4, .negSucc 0)], [(0, .inl 78), (1, .inr (false, (1, .ofNat 0))), (2, .inr (false, (2, .ofNat 0))), (3, .inr (false, (3, .ofNat 0))), (4, .inr (false, (4, .ofNat 0)))], [], [(78, (0, .ofNat 0), .inr (false, (0, .ofNat 0)))], [], []), ((0, 4, .ofNat 64), (0, 0, .ofNat 13), (0, 0, .ofNat 0)), 0, 0), 
  (73, (8, [(1, .ofNat 0, .ofNat 51), (2, .negSucc 0, .ofNat 62), (3, .negSucc 0, .ofNat 2147483647), (4, .ofNat 0, .ofNat 63), (5, .negSucc 2147483647, .ofNat 2147483647), (6, .ofNat 0, .ofNat 12), (7, .ofNat 0, .ofNat 6)], [(2, 4, .negSucc 0)], [(0, .inl 78), (1, .inr (false, (1, .ofNat 0))), (2, .inr (false, (2, .ofNat 0))), (3, .inr (false, (3, .ofNat 0))), (4, .inr (false, (4, .ofNat 0))), (5, .inr (false, (5, .ofNat 0))), (6, .inr (false, (6, .ofNat 0)))], [], [(78, (0, .ofNat 0), .inr (false, (0, .ofNat 0))), (78, (0, .ofNat 12), .inl 82), (78, (0, .ofNat 19), .inl 89), (82, (0, .ofNat 0), .inr (false, (7, .ofNat 0)))], [], []), ((0, 4, .ofNat 64), (0, 6, .ofNat 12), (0, 0, .ofNat 0)), 0, 0)]
set_option maxRecDepth 1000000 in
theorem cv1079 {gh : sxGh} (hg : sxGd sxKw gh) : sxCtV sxKw gh ct1079 := sxMeB_ok (cts := []) (cuts := cu1079) (sp := []) 160 (by decide +kernel) hg (by decide) (by decide) (fun _ h => absurd h List.not_mem_nil)
/-- LotBeliefs.copyOrder -/
def ct1083 : sxCt := (183, 0, (2, [(1, .ofNat 0, .ofNat 5)], [], [(0, .inl 0), (1, .inr (false, (1, .ofNat 0)))], [], [], [], []), [(31, 0)], [
  (2, [], [], [], [], [], [], [])], [], 0, 0)
def cu1083 : List sxCu := [
  (2, (3, [(1, .ofNat 0, .ofNat 5), (2, .ofNat 0, .ofNat 12)], [], [(0, .inl 0), (1, .inr (false, (1, .ofNat 0))), (2, .inr (false, (2, .ofNat 0)))], [], [], [], []), ((0, 2, .ofNat 12), (0, 0, .ofNat 0), (0, 0, .ofNat 0)), 0, 0)]
set_option maxRecDepth 1000000 in
theorem cv1083 {gh : sxGh} (hg : sxGd sxKw gh) : sxCtV sxKw gh ct1083 := sxMeB_ok (cts := []) (cuts := cu1083) (sp := []) 111 (by decide +kernel) hg (by decide) (by decide) (fun _ h => absurd h List.not_mem_nil)
/-- LotBeliefs.Course.bury -/
def ct1089 : sxCt := (5, 1, (2, [(1, .ofNat 0, .ofNat 16)], [], [(0, .inl 32), (1, .inr (false, (1, .ofNat 0)))], [], [], [], []), [(32, 11), (32, 12), (34, 0), (36, 0), (37, 0)], [
  (3, [(2, .negSucc 2147483647, .ofNat 2147483647)], [], [], [], [(32, (0, .ofNat 11), .inr (false, (2, .ofNat 0)))], [], [])], [], 0, 0)
def cu1089 : List sxCu := [
  (22, (5, [(1, .ofNat 0, .ofNat 16), (2, .ofNat 0, .ofNat 17), (3, .ofNat 0, .ofNat 17), (4, .negSucc 2147483647, .ofNat 2147483647)], [(2, 3, .ofNat 0)], [(0, .inl 32), (1, .inr (false, (1, .ofNat 0))), (2, .inr (false, (2, .ofNat 0))), (3, .inr (false, (3, .ofNat 0)))], [], [(32, (0, .ofNat 11), .inr (false, (4, .ofNat 0)))], [], []), ((0, 3, .ofNat 17), (0, 0, .ofNat 0), (0, 0, .ofNat 0)), 0, 0)]
set_option maxRecDepth 1000000 in
theorem cv1089 {gh : sxGh} (hg : sxGd sxKw gh) : sxCtV sxKw gh ct1089 := sxMeB_ok (cts := [ct390, ct391]) (cuts := cu1089) (sp := []) 185 (by decide +kernel) hg (by decide) (by decide) (List.forall_mem_cons.mpr ⟨cv390 hg, (List.forall_mem_cons.mpr ⟨cv391 hg, (fun _ h => absurd h List.not_mem_nil)⟩)⟩)
/-- LotBeliefs.Course.lives -/
def ct1090 : sxCt := (6, 0, (3, [(1, .ofNat 0, .ofNat 16), (2, .ofNat 0, .ofNat 16)], [], [(0, .inl 32), (1, .inr (false, (1, .ofNat 0))), (2, .inr (false, (2, .ofNat 0)))], [], [], [], []), [(33000036, 0)], [
  (3, [], [], [], [.inr (false, (0, .ofNat 0))], [], [], []), 
  (3, [], [], [], [.inr (false, (0, .ofNat 1))], [], [], [])], [], 0, 0)
def cu1090 : List sxCu := []
set_option maxRecDepth 1000000 in
theorem cv1090 {gh : sxGh} (hg : sxGd sxKw gh) : sxCtV sxKw gh ct1090 := sxMeB_ok (cts := []) (cuts := cu1090) (sp := []) 196 (by decide +kernel) hg (by decide) (by decide) (fun _ h => absurd h List.not_mem_nil)
/-- LotBeliefs.Course.play -/
def ct1091 : sxCt := (2, 4, (3, [(1, .ofNat 0, .ofNat 17), (2, .ofNat 0, .ofNat 1)], [], [(0, .inl 32), (1, .inl 31), (2, .inr (false, (1, .ofNat 0))), (3, .inr (false, (2, .ofNat 0)))], [], [], [], []), [(21, 0), (22, 0), (25, 0), (26, 0), (32, 9), (32, 11), (32, 12), (33000037, 0)], [
  (5, [(3, .ofNat 0, .ofNat 4095), (4, .negSucc 2147483647, .ofNat 2147483647)], [], [], [], [(32, (0, .ofNat 8), .inr (false, (3, .ofNat 0))), (32, (0, .ofNat 11), .inr (false, (4, .ofNat 0)))], [], [])], [], 0, 0)
def cu1091 : List sxCu := [
  (9, (4, [(1, .ofNat 0, .ofNat 17), (2, .ofNat 0, .ofNat 1), (3, .ofNat 0, .ofNat 17)], [(2, 3, .ofNat 0), (3, 1, .ofNat 1)], [(0, .inl 32), (1, .inl 31), (2, .inr (false, (1, .ofNat 0))), (3, .inr (false, (2, .ofNat 0))), (4, .inr (false, (3, .ofNat 0)))], [], [], [], []), ((0, 3, .ofNat 17), (0, 0, .ofNat 0), (0, 0, .ofNat 0)), 0, 0)]
set_option maxRecDepth 1000000 in
theorem cv1091 {gh : sxGh} (hg : sxGd sxKw gh) : sxCtV sxKw gh ct1091 := sxMeB_ok (cts := [ct533, ct388, ct1089, ct408, ct1090, ct407]) (cuts := cu1091) (sp := []) 134 (by decide +kernel) hg (by decide) (by decide) (List.forall_mem_cons.mpr ⟨cv533 hg, (List.forall_mem_cons.mpr ⟨cv388 hg, (List.forall_mem_cons.mpr ⟨cv1089 hg, (List.forall_mem_cons.mpr ⟨cv408 hg, (List.forall_mem_cons.mpr ⟨cv1090 hg, (List.forall_mem_cons.mpr ⟨cv407 hg, (fun _ h => absurd h List.not_mem_nil)⟩)⟩)⟩)⟩)⟩)⟩)
/-- LotBeliefs.laySalts -/
def ct1105 : sxCt := (188, 1, (2, [(1, .ofNat 0, .ofNat 39)], [], [(0, .inl 0), (1, .inr (false, (1, .ofNat 0)))], [], [], [], []), [(31, 0)], [
  (3, [(2, .ofNat 0, .ofNat 17)], [], [], [.inr (false, (2, .ofNat 0))], [], [], [])], [], 0, 0)
def cu1105 : List sxCu := [
  (4, (4, [(1, .ofNat 0, .ofNat 39), (2, .ofNat 0, .ofNat 5), (3, .ofNat 0, .ofNat 5)], [(2, 3, .ofNat 0)], [(0, .inl 0), (1, .inr (false, (1, .ofNat 0))), (2, .inr (false, (2, .ofNat 0))), (3, .inr (false, (3, .ofNat 0)))], [], [], [], []), ((0, 3, .ofNat 5), (0, 0, .ofNat 0), (0, 0, .ofNat 0)), 0, 0)]
set_option maxRecDepth 1000000 in
theorem cv1105 {gh : sxGh} (hg : sxGd sxKw gh) : sxCtV sxKw gh ct1105 := sxMeB_ok (cts := [ct1083]) (cuts := cu1105) (sp := []) 127 (by decide +kernel) hg (by decide) (by decide) (List.forall_mem_cons.mpr ⟨cv1083 hg, (fun _ h => absurd h List.not_mem_nil)⟩)
/-- LotBeliefs.salted -/
def ct1106 : sxCt := (143, 6, (2, [(1, .negSucc 2147483647, .ofNat 2147483647)], [], [(0, .inl 0), (1, .inr (false, (1, .ofNat 0)))], [], [], [], []), [(21, 0), (22, 0), (25, 0), (26, 0), (30, 0), (31, 0), (32, 1), (32, 2), (32, 3), (32, 4), (32, 9), (32, 11), (32, 12), (33000037, 0)], [
  (3, [(1, .ofNat 0, .ofNat 4095), (2, .negSucc 0, .ofNat 37)], [], [], [.inr (false, (2, .ofNat 0))], [], [], [])], [
  (1, (3, [(2, .negSucc 2147483647, .ofNat 2147483647)], [], [], [], [(30, (0, .ofNat 1), .inr (false, (2, .ofNat 0)))], [], []))], 1, 6)
def cu1106 : List sxCu := [
  (20, (5, [(1, .ofNat 0, .ofNat 4095), (2, .negSucc 0, .ofNat 37), (3, .ofNat 0, .ofNat 6), (4, .ofNat 0, .ofNat 38)], [(2, 4, .negSucc 0)], [(0, .inl 0), (1, .inr (false, (1, .ofNat 0))), (2, .inr (false, (2, .ofNat 0))), (3, .inr (false, (3, .ofNat 0))), (4, .inr (false, (4, .ofNat 0)))], [], [], [], []), ((0, 4, .ofNat 38), (0, 0, .ofNat 0), (0, 0, .ofNat 0)), 0, 0)]
set_option maxRecDepth 1000000 in
theorem cv1106 {gh : sxGh} (hg : sxGd sxKw gh) : sxCtV sxKw gh ct1106 := sxMeB_ok (cts := [ct1091, ct1105, ct888]) (cuts := cu1106) (sp := []) 380 (by decide +kernel) hg (by decide) (by decide) (List.forall_mem_cons.mpr ⟨cv1091 hg, (List.forall_mem_cons.mpr ⟨cv1105 hg, (List.forall_mem_cons.mpr ⟨cv888 hg, (fun _ h => absurd h List.not_mem_nil)⟩)⟩)⟩)
/-- LotBeliefs.Survey.heldInAll -/
def ct1126 : sxCt := (77, 1, (2, [(1, .ofNat 0, .ofNat 4095)], [], [(0, .inl 74), (1, .inr (false, (1, .ofNat 0)))], [], [], [], []), [], [
  (3, [(2, .negSucc 2147483647, .ofNat 2147483647)], [], [], [.inr (false, (2, .ofNat 0))], [], [], [])], [], 0, 0)
def cu1126 : List sxCu := [
  (4, (4, [(1, .ofNat 0, .ofNat 4095), (2, .negSucc 2147483647, .ofNat 2147483647), (3, .ofNat 0, .ofNat 128)], [], [(0, .inl 74), (1, .inr (false, (1, .ofNat 0))), (2, .inr (false, (2, .ofNat 0))), (3, .inr (false, (3, .ofNat 0)))], [], [], [], []), ((0, 3, .ofNat 128), (0, 0, .ofNat 0), (0, 0, .ofNat 0)), 0, 0)]
set_option maxRecDepth 1000000 in
theorem cv1126 {gh : sxGh} (hg : sxGd sxKw gh) : sxCtV sxKw gh ct1126 := sxMeB_ok (cts := [ct900]) (cuts := cu1126) (sp := []) 86 (by decide +kernel) hg (by decide) (by decide) (List.forall_mem_cons.mpr ⟨cv900 hg, (fun _ h => absurd h List.not_mem_nil)⟩)
/-- LotBeliefs.Survey.heldInAll -/
def ct1127 : sxCt := (77, 1, (2, [(1, .ofNat 0, .ofNat 4095)], [], [(0, .inl 70), (1, .inr (false, (1, .ofNat 0)))], [], [], [], []), [], [
  (3, [(2, .negSucc 2147483647, .ofNat 2147483647)], [], [], [.inr (false, (2, .ofNat 0))], [], [], [])], [], 0, 0)
def cu1127 : List sxCu := [
  (4, (4, [(1, .ofNat 0, .ofNat 4095), (2, .negSucc 2147483647, .ofNat 2147483647), (3, .ofNat 0, .ofNat 128)], [], [(0, .inl 70), (1, .inr (false, (1, .ofNat 0))), (2, .inr (false, (2, .ofNat 0))), (3, .inr (false, (3, .ofNat 0)))], [], [], [], []), ((0, 3, .ofNat 128), (0, 0, .ofNat 0), (0, 0, .ofNat 0)), 0, 0)]
set_option maxRecDepth 1000000 in
theorem cv1127 {gh : sxGh} (hg : sxGd sxKw gh) : sxCtV sxKw gh ct1127 := sxMeB_ok (cts := [ct900]) (cuts := cu1127) (sp := []) 86 (by decide +kernel) hg (by decide) (by decide) (List.forall_mem_cons.mpr ⟨cv900 hg, (fun _ h => absurd h List.not_mem_nil)⟩)
/-- LotBeliefsModel.begins -/
def ct1128 : sxCt := (259, 0, (2, [(1, .ofNat 0, .ofNat 3)], [], [(0, .inl 78), (1, .inr (false, (1, .ofNat 0)))], [], [], [], []), [(78, 45), (78, 46), (78, 47), (78, 48), (78, 49), (562000566, 0)], [
  (2, [], [], [], [], [(78, (0, .ofNat 44), .inr (false, (0, .ofNat 0))), (78, (0, .ofNat 45), .inr (false, (0, .ofNat 0))), (78, (0, .ofNat 46), .inr (false, (0, .ofNat 0))), (78, (0, .ofNat 47), .inr (false, (0, .ofNat 0))), (78, (0, .ofNat 48), .inr (false, (1, .ofNat 0)))], [], [])], [], 0, 0)
def cu1128 : List sxCu := [
  (27, (3, [(1, .ofNat 0, .ofNat 3), (2, .ofNat 0, .ofNat 17)], [], [(0, .inl 78), (1, .inr (false, (1, .ofNat 0))), (2, .inr (false, (2, .ofNat 0)))], [], [(78, (0, .ofNat 44), .inr (false, (0, .ofNat 0))), (78, (0, .ofNat 45), .inr (false, (0, .ofNat 0))), (78, (0, .ofNat 46), .inr (false, (0, .ofNat 0))), (78, (0, .ofNat 47), .inr (false, (0, .ofNat 0))), (78, (0, .ofNat 48), .inr (false, (1, .ofNat 0)))], [], []), ((0, 2, .ofNat 17), (0, 0, .ofNat 0), (0, 0, .ofNat 0)), 0, 0)]
set_option maxRecDepth 1000000 in
theorem cv1128 {gh : sxGh} (hg : sxGd sxKw gh) : sxCtV sxKw gh ct1128 := sxMeB_ok (cts := []) (cuts := cu1128) (sp := []) 108 (by decide +kernel) hg (by decide) (by decide) (fun _ h => absurd h List.not_mem_nil)
/-- LotBeliefs.Survey.heldInAll -/
def ct1182 : sxCt := (77, 1, (2, [(1, .ofNat 0, .ofNat 4095)], [], [(0, .inl 66), (1, .inr (false, (1, .ofNat 0)))], [], [], [], []), [], [
  (3, [(2, .negSucc 2147483647, .ofNat 2147483647)], [], [], [.inr (false, (2, .ofNat 0))], [], [], [])], [], 0, 0)
def cu1182 : List sxCu := [
  (4, (4, [(1, .ofNat 0, .ofNat 4095), (2, .negSucc 2147483647, .ofNat 2147483647), (3, .ofNat 0, .ofNat 128)], [], [(0, .inl 66), (1, .inr (false, (1, .ofNat 0))), (2, .inr (false, (2, .ofNat 0))), (3, .inr (false, (3, .ofNat 0)))], [], [], [], []), ((0, 3, .ofNat 128), (0, 0, .ofNat 0), (0, 0, .ofNat 0)), 0, 0)]
set_option maxRecDepth 1000000 in
theorem cv1182 {gh : sxGh} (hg : sxGd sxKw gh) : sxCtV sxKw gh ct1182 := sxMeB_ok (cts := [ct900]) (cuts := cu1182) (sp := []) 86 (by decide +kernel) hg (by decide) (by decide) (List.forall_mem_cons.mpr ⟨cv900 hg, (fun _ h => absurd h List.not_mem_nil)⟩)
/-- LotBeliefsModel.begins -/
def ct1183 : sxCt := (259, 0, (2, [(1, .ofNat 0, .ofNat 2)], [], [(0, .inl 78), (1, .inr (false, (1, .ofNat 0)))], [], [], [], []), [(78, 45), (78, 46), (78, 47), (78, 48), (78, 49), (562000566, 0)], [
  (2, [], [], [], [], [(78, (0, .ofNat 44), .inr (false, (0, .ofNat 0))), (78, (0, .ofNat 45), .inr (false, (0, .ofNat 0))), (78, (0, .ofNat 46), .inr (false, (0, .ofNat 0))), (78, (0, .ofNat 47), .inr (false, (0, .ofNat 0))), (78, (0, .ofNat 48), .inr (false, (1, .ofNat 0)))], [], [])], [], 0, 0)
def cu1183 : List sxCu := [
  (27, (3, [(1, .ofNat 0, .ofNat 2), (2, .ofNat 0, .ofNat 17)], [], [(0, .inl 78), (1, .inr (false, (1, .ofNat 0))), (2, .inr (false, (2, .ofNat 0)))], [], [(78, (0, .ofNat 44), .inr (false, (0, .ofNat 0))), (78, (0, .ofNat 45), .inr (false, (0, .ofNat 0))), (78, (0, .ofNat 46), .inr (false, (0, .ofNat 0))), (78, (0, .ofNat 47), .inr (false, (0, .ofNat 0))), (78, (0, .ofNat 48), .inr (false, (1, .ofNat 0)))], [], []), ((0, 2, .ofNat 17), (0, 0, .ofNat 0), (0, 0, .ofNat 0)), 0, 0)]
set_option maxRecDepth 1000000 in
theorem cv1183 {gh : sxGh} (hg : sxGd sxKw gh) : sxCtV sxKw gh ct1183 := sxMeB_ok (cts := []) (cuts := cu1183) (sp := []) 108 (by decide +kernel) hg (by decide) (by decide) (fun _ h => absurd h List.not_mem_nil)
/-- LotBeliefs.Survey.heldInAll -/
def ct1237 : sxCt := (77, 1, (2, [(1, .ofNat 0, .ofNat 4095)], [], [(0, .inl 62), (1, .inr (false, (1, .ofNat 0)))], [], [], [], []), [], [
  (3, [(2, .negSucc 2147483647, .ofNat 2147483647)], [], [], [.inr (false, (2, .ofNat 0))], [], [], [])], [], 0, 0)
def cu1237 : List sxCu := [
  (4, (4, [(1, .ofNat 0, .ofNat 4095), (2, .negSucc 2147483647, .ofNat 2147483647), (3, .ofNat 0, .ofNat 128)], [], [(0, .inl 62), (1, .inr (false, (1, .ofNat 0))), (2, .inr (false, (2, .ofNat 0))), (3, .inr (false, (3, .ofNat 0)))], [], [], [], []), ((0, 3, .ofNat 128), (0, 0, .ofNat 0), (0, 0, .ofNat 0)), 0, 0)]
set_option maxRecDepth 1000000 in
theorem cv1237 {gh : sxGh} (hg : sxGd sxKw gh) : sxCtV sxKw gh ct1237 := sxMeB_ok (cts := [ct900]) (cuts := cu1237) (sp := []) 86 (by decide +kernel) hg (by decide) (by decide) (List.forall_mem_cons.mpr ⟨cv900 hg, (fun _ h => absurd h List.not_mem_nil)⟩)
/-- LotBeliefsModel.begins -/
def ct1238 : sxCt := (259, 0, (2, [(1, .ofNat 0, .ofNat 1)], [], [(0, .inl 78), (1, .inr (false, (1, .ofNat 0)))], [], [], [], []), [(78, 45), (78, 46), (78, 47), (78, 48), (78, 49), (562000566, 0)], [
  (2, [], [], [], [], [(78, (0, .ofNat 44), .inr (false, (0, .ofNat 0))), (78, (0, .ofNat 45), .inr (false, (0, .ofNat 0))), (78, (0, .ofNat 46), .inr (false, (0, .ofNat 0))), (78, (0, .ofNat 47), .inr (false, (0, .ofNat 0))), (78, (0, .ofNat 48), .inr (false, (1, .ofNat 0)))], [], [])], [], 0, 0)
def cu1238 : List sxCu := [
  (27, (3, [(1, .ofNat 0, .ofNat 1), (2, .ofNat 0, .ofNat 17)], [], [(0, .inl 78), (1, .inr (false, (1, .ofNat 0))), (2, .inr (false, (2, .ofNat 0)))], [], [(78, (0, .ofNat 44), .inr (false, (0, .ofNat 0))), (78, (0, .ofNat 45), .inr (false, (0, .ofNat 0))), (78, (0, .ofNat 46), .inr (false, (0, .ofNat 0))), (78, (0, .ofNat 47), .inr (false, (0, .ofNat 0))), (78, (0, .ofNat 48), .inr (false, (1, .ofNat 0)))], [], []), ((0, 2, .ofNat 17), (0, 0, .ofNat 0), (0, 0, .ofNat 0)), 0, 0)]
set_option maxRecDepth 1000000 in
theorem cv1238 {gh : sxGh} (hg : sxGd sxKw gh) : sxCtV sxKw gh ct1238 := sxMeB_ok (cts := []) (cuts := cu1238) (sp := []) 108 (by decide +kernel) hg (by decide) (by decide) (fun _ h => absurd h List.not_mem_nil)
/-- LotBeliefs.Survey.heldInAll -/
def ct1292 : sxCt := (77, 1, (2, [(1, .ofNat 0, .ofNat 4095)], [], [(0, .inl 58), (1, .inr (false, (1, .ofNat 0)))], [], [], [], []), [], [
  (3, [(2, .negSucc 2147483647, .ofNat 2147483647)], [], [], [.inr (false, (2, .ofNat 0))], [], [], [])], [], 0, 0)
def cu1292 : List sxCu := [
  (4, (4, [(1, .ofNat 0, .ofNat 4095), (2, .negSucc 2147483647, .ofNat 2147483647), (3, .ofNat 0, .ofNat 128)], [], [(0, .inl 58), (1, .inr (false, (1, .ofNat 0))), (2, .inr (false, (2, .ofNat 0))), (3, .inr (false, (3, .ofNat 0)))], [], [], [], []), ((0, 3, .ofNat 128), (0, 0, .ofNat 0), (0, 0, .ofNat 0)), 0, 0)]
set_option maxRecDepth 1000000 in
theorem cv1292 {gh : sxGh} (hg : sxGd sxKw gh) : sxCtV sxKw gh ct1292 := sxMeB_ok (cts := [ct900]) (cuts := cu1292) (sp := []) 86 (by decide +kernel) hg (by decide) (by decide) (List.forall_mem_cons.mpr ⟨cv900 hg, (fun _ h => absurd h List.not_mem_nil)⟩)
/-- LotBeliefs.drawRow -/
def ct1293 : sxCt := (185, 1, (2, [(1, .negSucc 2147483647, .ofNat 2147483647)], [], [(0, .inl 0), (1, .inr (false, (1, .ofNat 0)))], [], [], [], []), [(31, 0)], [
  (2, [], [], [], [], [], [], [])], [], 0, 0)
def cu1293 : List sxCu := [
  (2, (3, [(1, .negSucc 2147483647, .ofNat 2147483647), (2, .ofNat 0, .ofNat 12)], [], [(0, .inl 0), (1, .inr (false, (1, .ofNat 0))), (2, .inr (false, (2, .ofNat 0)))], [], [], [], []), ((0, 2, .ofNat 25), (0, 0, .ofNat 0), (0, 0, .ofNat 0)), 0, 0), 
  (38, (4, [(1, .negSucc 2147483647, .ofNat 2147483647), (2, .negSucc 2147483647, .ofNat 2147483647), (3, .negSucc 0, .ofNat 11)], [], [(0, .inl 0), (1, .inr (false, (1, .ofNat 0))), (2, .inr (false, (2, .ofNat 0))), (3, .inr (false, (3, .ofNat 0)))], [], [], [], []), ((3, 0, .ofNat 1), (0, 0, .ofNat 0), (0, 0, .ofNat 0)), 0, 0)]
set_option maxRecDepth 1000000 in
theorem cv1293 {gh : sxGh} (hg : sxGd sxKw gh) : sxCtV sxKw gh ct1293 := sxMeB_ok (cts := []) (cuts := cu1293) (sp := []) 142 (by decide +kernel) hg (by decide) (by decide) (fun _ h => absurd h List.not_mem_nil)
/-- LotBeliefs.drawn -/
def ct1294 : sxCt := (146, 6, (4, [(1, .negSucc 2147483647, .ofNat 2147483647), (2, .negSucc 2147483647, .ofNat 2147483647), (3, .negSucc 2147483647, .ofNat 2147483647)], [], [(0, .inl 0), (1, .inr (false, (1, .ofNat 0))), (2, .inr (false, (2, .ofNat 0))), (3, .inr (false, (3, .ofNat 0)))], [], [], [], []), [(21, 0), (22, 0), (25, 0), (26, 0), (30, 0), (31, 0), (32, 1), (32, 2), (32, 3), (32, 4), (32, 9), (32, 11), (32, 12), (33000037, 0)], [
  (5, [(1, .ofNat 0, .ofNat 4), (3, .ofNat 1, .ofNat 60), (4, .negSucc 2147483647, .ofNat 2147483647)], [], [], [.inr (false, (4, .ofNat 0))], [], [], [])], [
  (1, (5, [(4, .negSucc 2147483647, .ofNat 2147483647)], [], [], [], [(30, (0, .ofNat 1), .inr (false, (4, .ofNat 0)))], [], []))], 1, 6)
def cu1294 : List sxCu := [
  (33, (8, [(1, .ofNat 0, .ofNat 4), (2, .negSucc 2147483647, .ofNat 2147483647), (3, .ofNat 1, .ofNat 60), (4, .ofNat 0, .ofNat 4095), (5, .negSucc 2147483647, .ofNat 2147483647), (6, .ofNat 0, .ofNat 63), (7, .ofNat 0, .ofNat 63)], [], [(0, .inl 0), (1, .inr (false, (1, .ofNat 0))), (2, .inr (false, (2, .ofNat 0))), (3, .inr (false, (3, .ofNat 0))), (4, .inr (false, (4, .ofNat 0))), (5, .inr (false, (5, .ofNat 0))), (6, .inr (false, (6, .ofNat 0)))], [], [(0, (0, .ofNat 7), .inl 27), (27, (0, .ofNat 2), .inr (false, (7, .ofNat 0)))], [], []), ((0, 6, .ofNat 63), (0, 0, .ofNat 0), (0, 0, .ofNat 0)), 0, 0)]
set_option maxRecDepth 1000000 in
theorem cv1294 {gh : sxGh} (hg : sxGd sxKw gh) : sxCtV sxKw gh ct1294 := sxMeB_ok (cts := [ct534, ct384, ct522, ct1293, ct523]) (cuts := cu1294) (sp := []) 330 (by decide +kernel) hg (by decide) (by decide) (List.forall_mem_cons.mpr ⟨cv534 hg, (List.forall_mem_cons.mpr ⟨cv384 hg, (List.forall_mem_cons.mpr ⟨cv522 hg, (List.forall_mem_cons.mpr ⟨cv1293 hg, (List.forall_mem_cons.mpr ⟨cv523 hg, (fun _ h => absurd h List.not_mem_nil)⟩)⟩)⟩)⟩)⟩)
/-- LotBeliefsModel.rowBy -/
def ct1295 : sxCt := (290, 0, (2, [(1, .negSucc 2147483647, .ofNat 2147483647)], [], [(0, .inl 78), (1, .inr (false, (1, .ofNat 0)))], [], [], [], []), [(78, 44), (560, 0)], [
  (3, [(2, .ofNat 0, .ofNat 12)], [], [], [], [(78, (0, .ofNat 43), .inr (false, (2, .ofNat 0)))], [], [])], [], 0, 0)
def cu1295 : List sxCu := [
  (14, (4, [(1, .negSucc 2147483647, .ofNat 2147483647), (2, .ofNat 0, .ofNat 12), (3, .ofNat 0, .ofNat 12)], [], [(0, .inl 78), (1, .inr (false, (1, .ofNat 0))), (2, .inr (false, (1, .ofNat 0))), (3, .inr (false, (2, .ofNat 0)))], [], [(78, (0, .ofNat 12), .inl 82), (78, (0, .ofNat 43), .inr (false, (3, .ofNat 0))), (82, (0, .ofNat 1), .inr (false, (3, .ofNat 0)))], [], []), ((0, 2, .ofNat 25), (0, 0, .ofNat 0), (0, 0, .ofNat 0)), 0, 0), 
  (42, (5, [(1, .negSucc 2147483647, .ofNat 2147483647), (2, .negSucc 2147483647, .ofNat 2147483647), (3, .negSucc 0, .ofNat 11), (4, .ofNat 0, .ofNat 12)], [(3, 4, .negSucc 0)], [(0, .inl 78), (1, .inr (false, (1, .ofNat 0))), (2, .inr (false, (2, .ofNat 0))), (3, .inr (false, (3, .ofNat 0)))], [], [(78, (0, .ofNat 12), .inl 82), (78, (0, .ofNat 43), .inr (false, (4, .ofNat 0))), (82, (0, .ofNat 1), .inr (false, (4, .ofNat 0)))], [], []), ((3, 0, .ofNat 1), (0, 0, .ofNat 0), (0, 0, .ofNat 0)), 0, 0)]
set_option maxRecDepth 1000000 in
theorem cv1295 {gh : sxGh} (hg : sxGd sxKw gh) : sxCtV sxKw gh ct1295 := sxMeB_ok (cts := []) (cuts := cu1295) (sp := []) 125 (by decide +kernel) hg (by decide) (by decide) (fun _ h => absurd h List.not_mem_nil)
end SXC
