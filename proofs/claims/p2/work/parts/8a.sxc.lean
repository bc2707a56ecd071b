/-! SX: contracts, by program -/
section SXC
/-- LotBeliefs.Setting.copyFrom -/
def ct0 : sxCt := (50, 0, (1, [], [], [(0, .inl 27), (1, .inl 56)], [], [], []), [(27, 2), (27, 3), (28, 0)], [
  (3, [(1, .ofNat 0, .ofNat 4), (2, .ofNat 0, .ofNat 63)], [], [], [], [(27, (0, .ofNat 1), .inr (false, (1, .ofNat 0))), (27, (0, .ofNat 2), .inr (false, (2, .ofNat 0)))], [])], [], 0, 0)
def cu0 : List sxCu := [
  (2, (2, [(1, .ofNat 0, .ofNat 12)], [], [(0, .inl 27), (1, .inl 56), (2, .inr (false, (1, .ofNat 0)))], [], [], []), ((0, 1, .ofNat 12), (0, 0, .ofNat 0), (0, 0, .ofNat 0)), 0, 0)]
set_option maxRecDepth 1000000 in
theorem cv0 {gh : sxGh} (hg : sxGd sxKw gh) : sxCtV sxKw gh ct0 := sxMeB_ok (cts := []) (cuts := cu0) (sp := []) 86 (by decide +kernel) hg (by decide) (by decide) (fun _ h => absurd h List.not_mem_nil)
/-- LotBeliefsModel.movesAll -/
def ct1 : sxCt := (322, 1, (2, [(1, .ofNat 0, .ofNat 1)], [], [(0, .inl 78), (1, .inl 94), (2, .inr (false, (1, .ofNat 0)))], [], [], []), [(78, 24), (82, 0), (90, 0), (94, 0)], [
  (16, [(1, .ofNat 0, .ofNat 1), (2, .ofNat 0, .ofNat 63), (3, .ofNat 0, .ofNat 4), (4, .ofNat 0, .ofNat 16), (5, .ofNat 0, .ofNat 16), (6, .ofNat 0, .ofNat 16), (7, .ofNat 0, .ofNat 16), (8, .ofNat 0, .ofNat 16), (9, .ofNat 0, .ofNat 16), (10, .ofNat 0, .ofNat 16), (11, .ofNat 0, .ofNat 16), (12, .ofNat 0, .ofNat 16), (13, .ofNat 0, .ofNat 16), (14, .ofNat 0, .ofNat 16), (15, .ofNat 0, .ofNat 16)], [], [], [], [(78, (0, .ofNat 23), .inr (false, (0, .ofNat 14))), (82, (0, .ofNat 4), .inr (false, (2, .ofNat 0))), (82, (0, .ofNat 5), .inr (false, (3, .ofNat 0))), (90, (0, .ofNat 0), .inr (false, (4, .ofNat 0))), (90, (0, .ofNat 1), .inr (false, (5, .ofNat 0))), (90, (0, .ofNat 2), .inr (false, (6, .ofNat 0))), (90, (0, .ofNat 3), .inr (false, (7, .ofNat 0))), (90, (0, .ofNat 4), .inr (false, (8, .ofNat 0))), (90, (0, .ofNat 5), .inr (false, (9, .ofNat 0))), (90, (0, .ofNat 6), .inr (false, (10, .ofNat 0))), (90, (0, .ofNat 7), .inr (false, (11, .ofNat 0))), (90, (0, .ofNat 8), .inr (false, (12, .ofNat 0))), (90, (0, .ofNat 9), .inr (false, (13, .ofNat 0))), (90, (0, .ofNat 10), .inr (false, (14, .ofNat 0))), (90, (0, .ofNat 11), .inr (false, (15, .ofNat 0))), (94, (0, .ofNat 0), .inr (false, (2, .ofNat 0))), (94, (0, .ofNat 1), .inr (false, (3, .ofNat 0))), (94, (0, .ofNat 2), .inr (false, (4, .ofNat 0))), (94, (0, .ofNat 3), .inr (false, (5, .ofNat 0))), (94, (0, .ofNat 4), .inr (false, (6, .ofNat 0))), (94, (0, .ofNat 5), .inr (false, (7, .ofNat 0))), (94, (0, .ofNat 6), .inr (false, (8, .ofNat 0))), (94, (0, .ofNat 7), .inr (false, (9, .ofNat 0))), (94, (0, .ofNat 8), .inr (false, (10, .ofNat 0))), (94, (0, .ofNat 9), .inr (false, (11, .ofNat 0))), (94, (0, .ofNat 10), .inr (false, (12, .ofNat 0))), (94, (0, .ofNat 11), .inr (false, (13, .ofNat 0))), (94, (0, .ofNat 12), .inr (false, (14, .ofNat 0))), (94, (0, .ofNat 13), .inr (false, (15, .ofNat 0)))], [])], [], 0, 0)
def cu1 : List sxCu := []
set_option maxRecDepth 1000000 in
theorem cv1 {gh : sxGh} (hg : sxGd sxKw gh) : sxCtV sxKw gh ct1 := sxMeB_ok (cts := []) (cuts := cu1) (sp := []) 1008 (by decide +kernel) hg (by decide) (by decide) (fun _ h => absurd h List.not_mem_nil)
/-- LotBeliefsModel.movesAll -/
def ct2 : sxCt := (322, 1, (2, [(1, .ofNat 0, .ofNat 1)], [], [(0, .inl 78), (1, .inl 93), (2, .inr (false, (1, .ofNat 0)))], [], [], []), [(78, 24), (82, 0), (90, 0), (93, 0)], [
  (16, [(1, .ofNat 0, .ofNat 1), (2, .ofNat 0, .ofNat 63), (3, .ofNat 0, .ofNat 4), (4, .ofNat 0, .ofNat 16), (5, .ofNat 0, .ofNat 16), (6, .ofNat 0, .ofNat 16), (7, .ofNat 0, .ofNat 16), (8, .ofNat 0, .ofNat 16), (9, .ofNat 0, .ofNat 16), (10, .ofNat 0, .ofNat 16), (11, .ofNat 0, .ofNat 16), (12, .ofNat 0, .ofNat 16), (13, .ofNat 0, .ofNat 16), (14, .ofNat 0, .ofNat 16), (15, .ofNat 0, .ofNat 16)], [], [], [], [(78, (0, .ofNat 23), .inr (false, (0, .ofNat 14))), (82, (0, .ofNat 4), .inr (false, (2, .ofNat 0))), (82, (0, .ofNat 5), .inr (false, (3, .ofNat 0))), (90, (0, .ofNat 0), .inr (false, (4, .ofNat 0))), (90, (0, .ofNat 1), .inr (false, (5, .ofNat 0))), (90, (0, .ofNat 2), .inr (false, (6, .ofNat 0))), (90, (0, .ofNat 3), .inr (false, (7, .ofNat 0))), (90, (0, .ofNat 4), .inr (false, (8, .ofNat 0))), (90, (0, .ofNat 5), .inr (false, (9, .ofNat 0))), (90, (0, .ofNat 6), .inr (false, (10, .ofNat 0))), (90, (0, .ofNat 7), .inr (false, (11, .ofNat 0))), (90, (0, .ofNat 8), .inr (false, (12, .ofNat 0))), (90, (0, .ofNat 9), .inr (false, (13, .ofNat 0))), (90, (0, .ofNat 10), .inr (false, (14, .ofNat 0))), (90, (0, .ofNat 11), .inr (false, (15, .ofNat 0))), (93, (0, .ofNat 0), .inr (false, (2, .ofNat 0))), (93, (0, .ofNat 1), .inr (false, (3, .ofNat 0))), (93, (0, .ofNat 2), .inr (false, (4, .ofNat 0))), (93, (0, .ofNat 3), .inr (false, (5, .ofNat 0))), (93, (0, .ofNat 4), .inr (false, (6, .ofNat 0))), (93, (0, .ofNat 5), .inr (false, (7, .ofNat 0))), (93, (0, .ofNat 6), .inr (false, (8, .ofNat 0))), (93, (0, .ofNat 7), .inr (false, (9, .ofNat 0))), (93, (0, .ofNat 8), .inr (false, (10, .ofNat 0))), (93, (0, .ofNat 9), .inr (false, (11, .ofNat 0))), (93, (0, .ofNat 10), .inr (false, (12, .ofNat 0))), (93, (0, .ofNat 11), .inr (false, (13, .ofNat 0))), (93, (0, .ofNat 12), .inr (false, (14, .ofNat 0))), (93, (0, .ofNat 13), .inr (false, (15, .ofNat 0)))], [])], [], 0, 0)
def cu2 : List sxCu := []
set_option maxRecDepth 1000000 in
theorem cv2 {gh : sxGh} (hg : sxGd sxKw gh) : sxCtV sxKw gh ct2 := sxMeB_ok (cts := []) (cuts := cu2) (sp := []) 1008 (by decide +kernel) hg (by decide) (by decide) (fun _ h => absurd h List.not_mem_nil)
/-- LotBeliefsModel.movesAll -/
def ct3 : sxCt := (322, 1, (2, [(1, .ofNat 0, .ofNat 1)], [], [(0, .inl 78), (1, .inl 92), (2, .inr (false, (1, .ofNat 0)))], [], [], []), [(78, 24), (82, 0), (90, 0), (92, 0)], [
  (16, [(1, .ofNat 0, .ofNat 1), (2, .ofNat 0, .ofNat 63), (3, .ofNat 0, .ofNat 4), (4, .ofNat 0, .ofNat 16), (5, .ofNat 0, .ofNat 16), (6, .ofNat 0, .ofNat 16), (7, .ofNat 0, .ofNat 16), (8, .ofNat 0, .ofNat 16), (9, .ofNat 0, .ofNat 16), (10, .ofNat 0, .ofNat 16), (11, .ofNat 0, .ofNat 16), (12, .ofNat 0, .ofNat 16), (13, .ofNat 0, .ofNat 16), (14, .ofNat 0, .ofNat 16), (15, .ofNat 0, .ofNat 16)], [], [], [], [(78, (0, .ofNat 23), .inr (false, (0, .ofNat 14))), (82, (0, .ofNat 4), .inr (false, (2, .ofNat 0))), (82, (0, .ofNat 5), .inr (false, (3, .ofNat 0))), (90, (0, .ofNat 0), .inr (false, (4, .ofNat 0))), (90, (0, .ofNat 1), .inr (false, (5, .ofNat 0))), (90, (0, .ofNat 2), .inr (false, (6, .ofNat 0))), (90, (0, .ofNat 3), .inr (false, (7, .ofNat 0))), (90, (0, .ofNat 4), .inr (false, (8, .ofNat 0))), (90, (0, .ofNat 5), .inr (false, (9, .ofNat 0))), (90, (0, .ofNat 6), .inr (false, (10, .ofNat 0))), (90, (0, .ofNat 7), .inr (false, (11, .ofNat 0))), (90, (0, .ofNat 8), .inr (false, (12, .ofNat 0))), (90, (0, .ofNat 9), .inr (false, (13, .ofNat 0))), (90, (0, .ofNat 10), .inr (false, (14, .ofNat 0))), (90, (0, .ofNat 11), .inr (false, (15, .ofNat 0))), (92, (0, .ofNat 0), .inr (false, (2, .ofNat 0))), (92, (0, .ofNat 1), .inr (false, (3, .ofNat 0))), (92, (0, .ofNat 2), .inr (false, (4, .ofNat 0))), (92, (0, .ofNat 3), .inr (false, (5, .ofNat 0))), (92, (0, .ofNat 4), .inr (false, (6, .ofNat 0))), (92, (0, .ofNat 5), .inr (false, (7, .ofNat 0))), (92, (0, .ofNat 6), .inr (false, (8, .ofNat 0))), (92, (0, .ofNat 7), .inr (false, (9, .ofNat 0))), (92, (0, .ofNat 8), .inr (false, (10, .ofNat 0))), (92, (0, .ofNat 9), .inr (false, (11, .ofNat 0))), (92, (0, .ofNat 10), .inr (false, (12, .ofNat 0))), (92, (0, .ofNat 11), .inr (false, (13, .ofNat 0))), (92, (0, .ofNat 12), .inr (false, (14, .ofNat 0))), (92, (0, .ofNat 13), .inr (false, (15, .ofNat 0)))], [])], [], 0, 0)
def cu3 : List sxCu := []
set_option maxRecDepth 1000000 in
theorem cv3 {gh : sxGh} (hg : sxGd sxKw gh) : sxCtV sxKw gh ct3 := sxMeB_ok (cts := []) (cuts := cu3) (sp := []) 1008 (by decide +kernel) hg (by decide) (by decide) (fun _ h => absurd h List.not_mem_nil)
/-- LotBeliefs.Setting.copyFrom -/
def ct4 : sxCt := (50, 0, (1, [], [], [(0, .inl 27), (1, .inl 54)], [], [], []), [(27, 2), (27, 3), (28, 0)], [
  (3, [(1, .ofNat 0, .ofNat 4), (2, .ofNat 0, .ofNat 63)], [], [], [], [(27, (0, .ofNat 1), .inr (false, (1, .ofNat 0))), (27, (0, .ofNat 2), .inr (false, (2, .ofNat 0)))], [])], [], 0, 0)
def cu4 : List sxCu := [
  (2, (2, [(1, .ofNat 0, .ofNat 12)], [], [(0, .inl 27), (1, .inl 54), (2, .inr (false, (1, .ofNat 0)))], [], [], []), ((0, 1, .ofNat 12), (0, 0, .ofNat 0), (0, 0, .ofNat 0)), 0, 0)]
set_option maxRecDepth 1000000 in
theorem cv4 {gh : sxGh} (hg : sxGd sxKw gh) : sxCtV sxKw gh ct4 := sxMeB_ok (cts := []) (cuts := cu4) (sp := []) 86 (by decide +kernel) hg (by decide) (by decide) (fun _ h => absurd h List.not_mem_nil)
/-- LotBeliefs.Setting.copyFrom -/
def ct5 : sxCt := (50, 0, (1, [], [], [(0, .inl 27), (1, .inl 52)], [], [], []), [(27, 2), (27, 3), (28, 0)], [
  (3, [(1, .ofNat 0, .ofNat 4), (2, .ofNat 0, .ofNat 63)], [], [], [], [(27, (0, .ofNat 1), .inr (false, (1, .ofNat 0))), (27, (0, .ofNat 2), .inr (false, (2, .ofNat 0)))], [])], [], 0, 0)
def cu5 : List sxCu := [
  (2, (2, [(1, .ofNat 0, .ofNat 12)], [], [(0, .inl 27), (1, .inl 52), (2, .inr (false, (1, .ofNat 0)))], [], [], []), ((0, 1, .ofNat 12), (0, 0, .ofNat 0), (0, 0, .ofNat 0)), 0, 0)]
set_option maxRecDepth 1000000 in
theorem cv5 {gh : sxGh} (hg : sxGd sxKw gh) : sxCtV sxKw gh ct5 := sxMeB_ok (cts := []) (cuts := cu5) (sp := []) 86 (by decide +kernel) hg (by decide) (by decide) (fun _ h => absurd h List.not_mem_nil)
/-- LotBeliefs.Setting.copyFrom -/
def ct6 : sxCt := (50, 0, (1, [], [], [(0, .inl 56), (1, .inl 27)], [], [], []), [(56, 2), (56, 3), (57, 0)], [
  (3, [(1, .ofNat 0, .ofNat 4), (2, .ofNat 0, .ofNat 63)], [], [], [], [(56, (0, .ofNat 1), .inr (false, (1, .ofNat 0))), (56, (0, .ofNat 2), .inr (false, (2, .ofNat 0)))], [])], [], 0, 0)
def cu6 : List sxCu := [
  (2, (2, [(1, .ofNat 0, .ofNat 12)], [], [(0, .inl 56), (1, .inl 27), (2, .inr (false, (1, .ofNat 0)))], [], [], []), ((0, 1, .ofNat 12), (0, 0, .ofNat 0), (0, 0, .ofNat 0)), 0, 0)]
set_option maxRecDepth 1000000 in
theorem cv6 {gh : sxGh} (hg : sxGd sxKw gh) : sxCtV sxKw gh ct6 := sxMeB_ok (cts := []) (cuts := cu6) (sp := []) 86 (by decide +kernel) hg (by decide) (by decide) (fun _ h => absurd h List.not_mem_nil)
/-- LotBeliefs.Setting.copyFrom -/
def ct7 : sxCt := (50, 0, (1, [], [], [(0, .inl 54), (1, .inl 27)], [], [], []), [(54, 2), (54, 3), (55, 0)], [
  (3, [(1, .ofNat 0, .ofNat 4), (2, .ofNat 0, .ofNat 63)], [], [], [], [(54, (0, .ofNat 1), .inr (false, (1, .ofNat 0))), (54, (0, .ofNat 2), .inr (false, (2, .ofNat 0)))], [])], [], 0, 0)
def cu7 : List sxCu := [
  (2, (2, [(1, .ofNat 0, .ofNat 12)], [], [(0, .inl 54), (1, .inl 27), (2, .inr (false, (1, .ofNat 0)))], [], [], []), ((0, 1, .ofNat 12), (0, 0, .ofNat 0), (0, 0, .ofNat 0)), 0, 0)]
set_option maxRecDepth 1000000 in
theorem cv7 {gh : sxGh} (hg : sxGd sxKw gh) : sxCtV sxKw gh ct7 := sxMeB_ok (cts := []) (cuts := cu7) (sp := []) 86 (by decide +kernel) hg (by decide) (by decide) (fun _ h => absurd h List.not_mem_nil)
/-- LotBeliefs.Setting.copyFrom -/
def ct8 : sxCt := (50, 0, (1, [], [], [(0, .inl 52), (1, .inl 27)], [], [], []), [(52, 2), (52, 3), (53, 0)], [
  (3, [(1, .ofNat 0, .ofNat 4), (2, .ofNat 0, .ofNat 63)], [], [], [], [(52, (0, .ofNat 1), .inr (false, (1, .ofNat 0))), (52, (0, .ofNat 2), .inr (false, (2, .ofNat 0)))], [])], [], 0, 0)
def cu8 : List sxCu := [
  (2, (2, [(1, .ofNat 0, .ofNat 12)], [], [(0, .inl 52), (1, .inl 27), (2, .inr (false, (1, .ofNat 0)))], [], [], []), ((0, 1, .ofNat 12), (0, 0, .ofNat 0), (0, 0, .ofNat 0)), 0, 0)]
set_option maxRecDepth 1000000 in
theorem cv8 {gh : sxGh} (hg : sxGd sxKw gh) : sxCtV sxKw gh ct8 := sxMeB_ok (cts := []) (cuts := cu8) (sp := []) 86 (by decide +kernel) hg (by decide) (by decide) (fun _ h => absurd h List.not_mem_nil)
/-- Long.bitCount -/
def ct24 : sxCt := (328, 0, (2, [(1, .negSucc 9223372036854775807, .ofNat 9223372036854775807)], [], [(0, .inr (true, (1, .ofNat 0)))], [], [], []), [], [
  (3, [(1, .negSucc 9223372036854775807, .ofNat 9223372036854775807), (2, .ofNat 0, .ofNat 127)], [], [], [.inr (false, (2, .ofNat 0))], [], [])], [], 0, 0)
def cu24 : List sxCu := []
set_option maxRecDepth 1000000 in
theorem cv24 {gh : sxGh} (hg : sxGd sxKw gh) : sxCtV sxKw gh ct24 := sxMeB_ok (cts := []) (cuts := cu24) (sp := []) 109 (by decide +kernel) hg (by decide) (by decide) (fun _ h => absurd h List.not_mem_nil)
/-- LotBeliefs.Tongue.tell -/
def ct25 : sxCt := (98, 1, (7, [(1, .ofNat 0, .ofNat 11), (2, .ofNat 0, .ofNat 11), (3, .ofNat 0, .ofNat 52), (4, .ofNat 0, .ofNat 1), (5, .ofNat 0, .ofNat 51), (6, .ofNat 0, .ofNat 1)], [], [(0, .inl 23), (1, .inl 11), (2, .inr (false, (1, .ofNat 0))), (3, .inr (false, (2, .ofNat 0))), (4, .inr (false, (3, .ofNat 0))), (5, .inr (false, (4, .ofNat 0))), (6, .inr (false, (5, .ofNat 0))), (7, .inr (false, (6, .ofNat 0)))], [], [], []), [(25, 0)], [
  (11, [(1, .ofNat 0, .ofNat 11), (2, .ofNat 0, .ofNat 11), (3, .ofNat 0, .ofNat 52), (4, .ofNat 0, .ofNat 1), (5, .ofNat 0, .ofNat 51), (6, .ofNat 0, .ofNat 1), (7, .negSucc 2147483647, .ofNat 2147483647), (8, .negSucc 2147483647, .ofNat 2147483647), (9, .ofNat 0, .ofNat 127), (10, .ofNat 0, .ofNat 127)], [], [], [], [(25, (0, .ofNat 0), .inr (false, (3, .ofNat 0))), (25, (0, .ofNat 1), .inr (false, (4, .ofNat 0))), (25, (0, .ofNat 2), .inr (false, (7, .ofNat 0))), (25, (0, .ofNat 3), .inr (false, (8, .ofNat 0))), (25, (0, .ofNat 4), .inr (false, (1, .ofNat 0))), (25, (0, .ofNat 5), .inr (false, (2, .ofNat 0))), (25, (0, .ofNat 6), .inr (false, (5, .ofNat 0))), (25, (0, .ofNat 7), .inr (false, (6, .ofNat 0))), (25, (0, .ofNat 8), .inr (false, (9, .ofNat 0))), (25, (0, .ofNat 9), .inr (false, (10, .ofNat 0)))], [])], [], 0, 0)
def cu25 : List sxCu := []
set_option maxRecDepth 1000000 in
theorem cv25 {gh : sxGh} (hg : sxGd sxKw gh) : sxCtV sxKw gh ct25 := sxMeB_ok (cts := [ct24]) (cuts := cu25) (sp := []) 132 (by decide +kernel) hg (by decide) (by decide) (List.forall_mem_cons.mpr ⟨cv24 hg, (fun _ h => absurd h List.not_mem_nil)⟩)
/-- LotBeliefs.Tongue.reckon -/
def ct26 : sxCt := (101, 0, (4, [(1, .ofNat 0, .ofNat 4095), (2, .negSucc 2147483647, .ofNat 2147483647), (3, .negSucc 2147483647, .ofNat 2147483647)], [], [(0, .inr (false, (1, .ofNat 0))), (1, .inr (false, (2, .ofNat 0))), (2, .inr (false, (3, .ofNat 0)))], [], [], []), [], [
  (5, [(1, .ofNat 0, .ofNat 4095), (2, .negSucc 2147483647, .ofNat 2147483647), (3, .negSucc 2147483647, .ofNat 2147483647), (4, .negSucc 2147483647, .ofNat 2147483647)], [], [], [.inr (false, (4, .ofNat 0))], [], [])], [], 0, 0)
def cu26 : List sxCu := []
set_option maxRecDepth 1000000 in
theorem cv26 {gh : sxGh} (hg : sxGd sxKw gh) : sxCtV sxKw gh ct26 := sxMeB_ok (cts := []) (cuts := cu26) (sp := []) 110 (by decide +kernel) hg (by decide) (by decide) (fun _ h => absurd h List.not_mem_nil)
/-- LotBeliefs.Tongue.reckon -/
def ct27 : sxCt := (101, 0, (4, [(1, .negSucc 2147483647, .ofNat 2147483647), (2, .negSucc 2147483647, .ofNat 2147483647), (3, .negSucc 2147483647, .ofNat 2147483647)], [], [(0, .inr (false, (1, .ofNat 0))), (1, .inr (false, (2, .ofNat 0))), (2, .inr (false, (3, .ofNat 0)))], [], [], []), [], [
  (5, [(1, .negSucc 2147483647, .ofNat 2147483647), (2, .negSucc 2147483647, .ofNat 2147483647), (3, .negSucc 2147483647, .ofNat 2147483647), (4, .negSucc 2147483647, .ofNat 2147483647)], [], [], [.inr (false, (4, .ofNat 0))], [], [])], [], 0, 0)
def cu27 : List sxCu := []
set_option maxRecDepth 1000000 in
theorem cv27 {gh : sxGh} (hg : sxGd sxKw gh) : sxCtV sxKw gh ct27 := sxMeB_ok (cts := []) (cuts := cu27) (sp := []) 110 (by decide +kernel) hg (by decide) (by decide) (fun _ h => absurd h List.not_mem_nil)
/-- LotBeliefs.Tongue.whoFalls -/
def ct28 : sxCt := (99, 1, (1, [], [], [(0, .inl 23)], [], [], []), [(26, 0)], [
  (2, [(1, .ofNat 0, .ofNat 2147480647)], [], [], [.inr (false, (1, .ofNat 0))], [], [])], [], 0, 0)
def cu28 : List sxCu := [
  (4, (3, [(1, .ofNat 0, .ofNat 64), (2, .ofNat 0, .ofNat 201)], [(1, 2, .ofNat 0)], [(0, .inl 23), (1, .inr (false, (1, .ofNat 0))), (2, .inr (false, (2, .ofNat 0)))], [], [], []), ((0, 2, .ofNat 201), (0, 0, .ofNat 0), (0, 0, .ofNat 0)), 0, 0)]
set_option maxRecDepth 1000000 in
theorem cv28 {gh : sxGh} (hg : sxGd sxKw gh) : sxCtV sxKw gh ct28 := sxMeB_ok (cts := [ct26, ct27]) (cuts := cu28) (sp := []) 239 (by decide +kernel) hg (by decide) (by decide) (List.forall_mem_cons.mpr ⟨cv26 hg, (List.forall_mem_cons.mpr ⟨cv27 hg, (fun _ h => absurd h List.not_mem_nil)⟩)⟩)
/-- LotBeliefs.Tongue.tell -/
def ct30 : sxCt := (98, 1, (7, [(1, .ofNat 0, .ofNat 11), (2, .ofNat 0, .ofNat 11), (3, .ofNat 0, .ofNat 52), (4, .ofNat 0, .ofNat 1), (5, .ofNat 0, .ofNat 51), (6, .ofNat 0, .ofNat 1)], [], [(0, .inl 19), (1, .inl 11), (2, .inr (false, (1, .ofNat 0))), (3, .inr (false, (2, .ofNat 0))), (4, .inr (false, (3, .ofNat 0))), (5, .inr (false, (4, .ofNat 0))), (6, .inr (false, (5, .ofNat 0))), (7, .inr (false, (6, .ofNat 0)))], [], [], []), [(21, 0)], [
  (11, [(1, .ofNat 0, .ofNat 11), (2, .ofNat 0, .ofNat 11), (3, .ofNat 0, .ofNat 52), (4, .ofNat 0, .ofNat 1), (5, .ofNat 0, .ofNat 51), (6, .ofNat 0, .ofNat 1), (7, .negSucc 2147483647, .ofNat 2147483647), (8, .negSucc 2147483647, .ofNat 2147483647), (9, .ofNat 0, .ofNat 127), (10, .ofNat 0, .ofNat 127)], [], [], [], [(21, (0, .ofNat 0), .inr (false, (3, .ofNat 0))), (21, (0, .ofNat 1), .inr (false, (4, .ofNat 0))), (21, (0, .ofNat 2), .inr (false, (7, .ofNat 0))), (21, (0, .ofNat 3), .inr (false, (8, .ofNat 0))), (21, (0, .ofNat 4), .inr (false, (1, .ofNat 0))), (21, (0, .ofNat 5), .inr (false, (2, .ofNat 0))), (21, (0, .ofNat 6), .inr (false, (5, .ofNat 0))), (21, (0, .ofNat 7), .inr (false, (6, .ofNat 0))), (21, (0, .ofNat 8), .inr (false, (9, .ofNat 0))), (21, (0, .ofNat 9), .inr (false, (10, .ofNat 0)))], [])], [], 0, 0)
def cu30 : List sxCu := []
set_option maxRecDepth 1000000 in
theorem cv30 {gh : sxGh} (hg : sxGd sxKw gh) : sxCtV sxKw gh ct30 := sxMeB_ok (cts := [ct24]) (cuts := cu30) (sp := []) 132 (by decide +kernel) hg (by decide) (by decide) (List.forall_mem_cons.mpr ⟨cv24 hg, (fun _ h => absurd h List.not_mem_nil)⟩)
/-- LotBeliefs.Tongue.whoFalls -/
def ct31 : sxCt := (99, 1, (1, [], [], [(0, .inl 19)], [], [], []), [(22, 0)], [
  (2, [(1, .ofNat 0, .ofNat 2147480647)], [], [], [.inr (false, (1, .ofNat 0))], [], [])], [], 0, 0)
def cu31 : List sxCu := [
  (4, (3, [(1, .ofNat 0, .ofNat 64), (2, .ofNat 0, .ofNat 201)], [(1, 2, .ofNat 0)], [(0, .inl 19), (1, .inr (false, (1, .ofNat 0))), (2, .inr (false, (2, .ofNat 0)))], [], [], []), ((0, 2, .ofNat 201), (0, 0, .ofNat 0), (0, 0, .ofNat 0)), 0, 0)]
set_option maxRecDepth 1000000 in
theorem cv31 {gh : sxGh} (hg : sxGd sxKw gh) : sxCtV sxKw gh ct31 := sxMeB_ok (cts := [ct26, ct27]) (cuts := cu31) (sp := []) 239 (by decide +kernel) hg (by decide) (by decide) (List.forall_mem_cons.mpr ⟨cv26 hg, (List.forall_mem_cons.mpr ⟨cv27 hg, (fun _ h => absurd h List.not_mem_nil)⟩)⟩)
/-- LotBeliefs.Tongue.tell -/
def ct32 : sxCt := (98, 1, (7, [(1, .ofNat 0, .ofNat 11), (2, .ofNat 0, .ofNat 11), (3, .ofNat 0, .ofNat 52), (4, .ofNat 0, .ofNat 1), (5, .ofNat 0, .ofNat 51), (6, .ofNat 0, .ofNat 1)], [], [(0, .inl 23), (1, .inl 3), (2, .inr (false, (1, .ofNat 0))), (3, .inr (false, (2, .ofNat 0))), (4, .inr (false, (3, .ofNat 0))), (5, .inr (false, (4, .ofNat 0))), (6, .inr (false, (5, .ofNat 0))), (7, .inr (false, (6, .ofNat 0)))], [], [], []), [(25, 0)], [
  (11, [(1, .ofNat 0, .ofNat 11), (2, .ofNat 0, .ofNat 11), (3, .ofNat 0, .ofNat 52), (4, .ofNat 0, .ofNat 1), (5, .ofNat 0, .ofNat 51), (6, .ofNat 0, .ofNat 1), (7, .negSucc 2147483647, .ofNat 2147483647), (8, .negSucc 2147483647, .ofNat 2147483647), (9, .ofNat 0, .ofNat 127), (10, .ofNat 0, .ofNat 127)], [], [], [], [(25, (0, .ofNat 0), .inr (false, (3, .ofNat 0))), (25, (0, .ofNat 1), .inr (false, (4, .ofNat 0))), (25, (0, .ofNat 2), .inr (false, (7, .ofNat 0))), (25, (0, .ofNat 3), .inr (false, (8, .ofNat 0))), (25, (0, .ofNat 4), .inr (false, (1, .ofNat 0))), (25, (0, .ofNat 5), .inr (false, (2, .ofNat 0))), (25, (0, .ofNat 6), .inr (false, (5, .ofNat 0))), (25, (0, .ofNat 7), .inr (false, (6, .ofNat 0))), (25, (0, .ofNat 8), .inr (false, (9, .ofNat 0))), (25, (0, .ofNat 9), .inr (false, (10, .ofNat 0)))], [])], [], 0, 0)
def cu32 : List sxCu := []
set_option maxRecDepth 1000000 in
theorem cv32 {gh : sxGh} (hg : sxGd sxKw gh) : sxCtV sxKw gh ct32 := sxMeB_ok (cts := [ct24]) (cuts := cu32) (sp := []) 132 (by decide +kernel) hg (by decide) (by decide) (List.forall_mem_cons.mpr ⟨cv24 hg, (fun _ h => absurd h List.not_mem_nil)⟩)
/-- LotBeliefs.Tongue.tell -/
def ct33 : sxCt := (98, 1, (7, [(1, .ofNat 0, .ofNat 11), (2, .ofNat 0, .ofNat 11), (3, .ofNat 0, .ofNat 52), (4, .ofNat 0, .ofNat 1), (5, .ofNat 0, .ofNat 51), (6, .ofNat 0, .ofNat 1)], [], [(0, .inl 19), (1, .inl 3), (2, .inr (false, (1, .ofNat 0))), (3, .inr (false, (2, .ofNat 0))), (4, .inr (false, (3, .ofNat 0))), (5, .inr (false, (4, .ofNat 0))), (6, .inr (false, (5, .ofNat 0))), (7, .inr (false, (6, .ofNat 0)))], [], [], []), [(21, 0)], [
  (11, [(1, .ofNat 0, .ofNat 11), (2, .ofNat 0, .ofNat 11), (3, .ofNat 0, .ofNat 52), (4, .ofNat 0, .ofNat 1), (5, .ofNat 0, .ofNat 51), (6, .ofNat 0, .ofNat 1), (7, .negSucc 2147483647, .ofNat 2147483647), (8, .negSucc 2147483647, .ofNat 2147483647), (9, .ofNat 0, .ofNat 127), (10, .ofNat 0, .ofNat 127)], [], [], [], [(21, (0, .ofNat 0), .inr (false, (3, .ofNat 0))), (21, (0, .ofNat 1), .inr (false, (4, .ofNat 0))), (21, (0, .ofNat 2), .inr (false, (7, .ofNat 0))), (21, (0, .ofNat 3), .inr (false, (8, .ofNat 0))), (21, (0, .ofNat 4), .inr (false, (1, .ofNat 0))), (21, (0, .ofNat 5), .inr (false, (2, .ofNat 0))), (21, (0, .ofNat 6), .inr (false, (5, .ofNat 0))), (21, (0, .ofNat 7), .inr (false, (6, .ofNat 0))), (21, (0, .ofNat 8), .inr (false, (9, .ofNat 0))), (21, (0, .ofNat 9), .inr (false, (10, .ofNat 0)))], [])], [], 0, 0)
def cu33 : List sxCu := []
set_option maxRecDepth 1000000 in
theorem cv33 {gh : sxGh} (hg : sxGd sxKw gh) : sxCtV sxKw gh ct33 := sxMeB_ok (cts := [ct24]) (cuts := cu33) (sp := []) 132 (by decide +kernel) hg (by decide) (by decide) (List.forall_mem_cons.mpr ⟨cv24 hg, (fun _ h => absurd h List.not_mem_nil)⟩)
/-- Integer.bitCount -/
def ct62 : sxCt := (327, 0, (2, [(1, .ofNat 0, .ofNat 39)], [], [(0, .inr (false, (1, .ofNat 0)))], [], [], []), [], [
  (3, [(1, .ofNat 0, .ofNat 39), (2, .ofNat 0, .ofNat 63)], [], [], [.inr (false, (2, .ofNat 0))], [], [])], [], 0, 0)
def cu62 : List sxCu := []
set_option maxRecDepth 1000000 in
theorem cv62 {gh : sxGh} (hg : sxGd sxKw gh) : sxCtV sxKw gh ct62 := sxMeB_ok (cts := []) (cuts := cu62) (sp := []) 102 (by decide +kernel) hg (by decide) (by decide) (fun _ h => absurd h List.not_mem_nil)
/-- Integer.bitCount -/
def ct70 : sxCt := (327, 0, (2, [(1, .ofNat 0, .ofNat 63)], [], [(0, .inr (false, (1, .ofNat 0)))], [], [], []), [], [
  (3, [(1, .ofNat 0, .ofNat 63), (2, .ofNat 0, .ofNat 63)], [], [], [.inr (false, (2, .ofNat 0))], [], [])], [], 0, 0)
def cu70 : List sxCu := []
set_option maxRecDepth 1000000 in
theorem cv70 {gh : sxGh} (hg : sxGd sxKw gh) : sxCtV sxKw gh ct70 := sxMeB_ok (cts := []) (cuts := cu70) (sp := []) 102 (by decide +kernel) hg (by decide) (by decide) (fun _ h => absurd h List.not_mem_nil)
/-- Integer.bitCount -/
def ct72 : sxCt := (327, 0, (2, [(1, .ofNat 0, .ofNat 64)], [], [(0, .inr (false, (1, .ofNat 0)))], [], [], []), [], [
  (3, [(1, .ofNat 0, .ofNat 64), (2, .ofNat 0, .ofNat 63)], [], [], [.inr (false, (2, .ofNat 0))], [], [])], [], 0, 0)
def cu72 : List sxCu := []
set_option maxRecDepth 1000000 in
theorem cv72 {gh : sxGh} (hg : sxGd sxKw gh) : sxCtV sxKw gh ct72 := sxMeB_ok (cts := []) (cuts := cu72) (sp := []) 102 (by decide +kernel) hg (by decide) (by decide) (fun _ h => absurd h List.not_mem_nil)
/-- Integer.bitCount -/
def ct74 : sxCt := (327, 0, (2, [(1, .ofNat 0, .ofNat 127)], [], [(0, .inr (false, (1, .ofNat 0)))], [], [], []), [], [
  (3, [(1, .ofNat 0, .ofNat 127), (2, .ofNat 0, .ofNat 63)], [], [], [.inr (false, (2, .ofNat 0))], [], [])], [], 0, 0)
def cu74 : List sxCu := []
set_option maxRecDepth 1000000 in
theorem cv74 {gh : sxGh} (hg : sxGd sxKw gh) : sxCtV sxKw gh ct74 := sxMeB_ok (cts := []) (cuts := cu74) (sp := []) 102 (by decide +kernel) hg (by decide) (by decide) (fun _ h => absurd h List.not_mem_nil)
/-- Integer.bitCount -/
def ct84 : sxCt := (327, 0, (2, [(1, .ofNat 0, .ofNat 4095)], [], [(0, .inr (false, (1, .ofNat 0)))], [], [], []), [], [
  (3, [(1, .ofNat 0, .ofNat 4095), (2, .ofNat 0, .ofNat 63)], [], [], [.inr (false, (2, .ofNat 0))], [], [])], [], 0, 0)
def cu84 : List sxCu := []
set_option maxRecDepth 1000000 in
theorem cv84 {gh : sxGh} (hg : sxGd sxKw gh) : sxCtV sxKw gh ct84 := sxMeB_ok (cts := []) (cuts := cu84) (sp := []) 102 (by decide +kernel) hg (by decide) (by decide) (fun _ h => absurd h List.not_mem_nil)
/-- LotBeliefs.allStayWithout -/
def ct85 : sxCt := (193, 1, (2, [(1, .ofNat 0, .ofNat 4095)], [], [(0, .inl 0), (1, .inr (false, (1, .ofNat 0)))], [], [], []), [], [
  (2, [(1, .ofNat 0, .ofNat 4095)], [], [], [.inr (false, (0, .ofNat 0))], [], []), 
  (2, [(1, .ofNat 0, .ofNat 4095)], [], [], [.inr (false, (0, .ofNat 1))], [], [])], [], 0, 0)
def cu85 : List sxCu := [
  (7, (5, [(1, .ofNat 0, .ofNat 4095), (2, .ofNat 0, .ofNat 12), (3, .ofNat 0, .ofNat 131071), (4, .ofNat 0, .ofNat 12)], [(2, 4, .ofNat 0)], [(0, .inl 0), (1, .inr (false, (1, .ofNat 0))), (2, .inr (false, (2, .ofNat 0))), (3, .inr (false, (3, .ofNat 0))), (4, .inr (false, (4, .ofNat 0)))], [], [], []), ((0, 4, .ofNat 12), (0, 0, .ofNat 0), (0, 0, .ofNat 0)), 0, 0)]
set_option maxRecDepth 1000000 in
theorem cv85 {gh : sxGh} (hg : sxGd sxKw gh) : sxCtV sxKw gh ct85 := sxMeB_ok (cts := []) (cuts := cu85) (sp := []) 201 (by decide +kernel) hg (by decide) (by decide) (fun _ h => absurd h List.not_mem_nil)
/-- LotBeliefs.humble -/
def ct86 : sxCt := (165, 2, (1, [], [], [(0, .inl 0)], [], [], []), [], [
  (2, [(1, .ofNat 0, .ofNat 4095)], [], [], [.inr (false, (1, .ofNat 0))], [], [])], [], 0, 0)
def cu86 : List sxCu := [
  (22, (4, [(1, .ofNat 0, .ofNat 4095), (2, .ofNat 0, .ofNat 12), (3, .ofNat 0, .ofNat 4096)], [], [(0, .inl 0), (1, .inr (false, (1, .ofNat 0))), (2, .inr (false, (2, .ofNat 0))), (3, .inr (false, (3, .ofNat 0)))], [], [], []), ((0, 3, .ofNat 4096), (0, 0, .ofNat 0), (0, 0, .ofNat 0)), 0, 0)]
set_option maxRecDepth 1000000 in
theorem cv86 {gh : sxGh} (hg : sxGd sxKw gh) : sxCtV sxKw gh ct86 := sxMeB_ok (cts := [ct85, ct84]) (cuts := cu86) (sp := []) 145 (by decide +kernel) hg (by decide) (by decide) (List.forall_mem_cons.mpr ⟨cv85 hg, (List.forall_mem_cons.mpr ⟨cv84 hg, (fun _ h => absurd h List.not_mem_nil)⟩)⟩)
/-- LotBeliefsModel.ones -/
def ct88 : sxCt := (224, 0, (2, [(1, .ofNat 0, .ofNat 4095)], [], [(0, .inr (true, (1, .ofNat 0)))], [], [], []), [], [
  (3, [(1, .ofNat 0, .ofNat 4095), (2, .negSucc 2147483647, .ofNat 2147483647)], [], [], [.inr (false, (2, .ofNat 0))], [], [])], [], 0, 0)
def cu88 : List sxCu := [
  (4, (4, [(1, .ofNat 0, .ofNat 4095), (2, .negSucc 2147483647, .ofNat 2147483647), (3, .ofNat 0, .ofNat 64)], [], [(0, .inr (true, (1, .ofNat 0))), (2, .inr (false, (2, .ofNat 0))), (3, .inr (false, (3, .ofNat 0)))], [], [], []), ((0, 3, .ofNat 64), (0, 0, .ofNat 0), (0, 0, .ofNat 0)), 0, 0)]
set_option maxRecDepth 1000000 in
theorem cv88 {gh : sxGh} (hg : sxGd sxKw gh) : sxCtV sxKw gh ct88 := sxMeB_ok (cts := []) (cuts := cu88) (sp := []) 80 (by decide +kernel) hg (by decide) (by decide) (fun _ h => absurd h List.not_mem_nil)
/-- LotBeliefsModel.begins -/
def ct89 : sxCt := (259, 0, (2, [(1, .ofNat 0, .ofNat 4)], [], [(0, .inl 78), (1, .inr (false, (1, .ofNat 0)))], [], [], []), [(78, 45), (78, 46), (78, 47), (78, 48), (78, 49), (562000566, 0)], [
  (2, [(1, .ofNat 0, .ofNat 4)], [], [], [], [(78, (0, .ofNat 44), .inr (false, (0, .ofNat 0))), (78, (0, .ofNat 45), .inr (false, (0, .ofNat 0))), (78, (0, .ofNat 46), .inr (false, (0, .ofNat 0))), (78, (0, .ofNat 47), .inr (false, (0, .ofNat 0))), (78, (0, .ofNat 48), .inr (false, (1, .ofNat 0)))], [])], [], 0, 0)
def cu89 : List sxCu := [
  (27, (3, [(1, .ofNat 0, .ofNat 4), (2, .ofNat 0, .ofNat 17)], [], [(0, .inl 78), (1, .inr (false, (1, .ofNat 0))), (2, .inr (false, (2, .ofNat 0)))], [], [(78, (0, .ofNat 44), .inr (false, (0, .ofNat 0))), (78, (0, .ofNat 45), .inr (false, (0, .ofNat 0))), (78, (0, .ofNat 46), .inr (false, (0, .ofNat 0))), (78, (0, .ofNat 47), .inr (false, (0, .ofNat 0))), (78, (0, .ofNat 48), .inr (false, (1, .ofNat 0)))], []), ((0, 2, .ofNat 17), (0, 0, .ofNat 0), (0, 0, .ofNat 0)), 0, 0)]
set_option maxRecDepth 1000000 in
theorem cv89 {gh : sxGh} (hg : sxGd sxKw gh) : sxCtV sxKw gh ct89 := sxMeB_ok (cts := []) (cuts := cu89) (sp := []) 108 (by decide +kernel) hg (by decide) (by decide) (fun _ h => absurd h List.not_mem_nil)
/-- LotBeliefsModel.ones -/
def ct93 : sxCt := (224, 0, (2, [(1, .negSucc 9223372036854775807, .ofNat 9223372036854775807)], [], [(0, .inr (true, (1, .ofNat 0)))], [], [], []), [], [
  (3, [(1, .negSucc 9223372036854775807, .ofNat 9223372036854775807), (2, .negSucc 2147483647, .ofNat 2147483647)], [], [], [.inr (false, (2, .ofNat 0))], [], [])], [], 0, 0)
def cu93 : List sxCu := [
  (4, (4, [(1, .negSucc 9223372036854775807, .ofNat 9223372036854775807), (2, .negSucc 2147483647, .ofNat 2147483647), (3, .ofNat 0, .ofNat 64)], [], [(0, .inr (true, (1, .ofNat 0))), (2, .inr (false, (2, .ofNat 0))), (3, .inr (false, (3, .ofNat 0)))], [], [], []), ((0, 3, .ofNat 64), (0, 0, .ofNat 0), (0, 0, .ofNat 0)), 0, 0)]
set_option maxRecDepth 1000000 in
theorem cv93 {gh : sxGh} (hg : sxGd sxKw gh) : sxCtV sxKw gh ct93 := sxMeB_ok (cts := []) (cuts := cu93) (sp := []) 80 (by decide +kernel) hg (by decide) (by decide) (fun _ h => absurd h List.not_mem_nil)
/-- LotBeliefsModel.ages -/
def ct96 : sxCt := (266, 1, (2, [(1, .ofNat 0, .ofNat 17)], [], [(0, .inl 78)], [], [(78, (0, .ofNat 44), .inr (false, (1, .ofNat 0)))], [(561, (1, .ofNat 0), .inr (false, .ofNat 0, .ofNat 6))]), [(78, 48), (565, 0), (566, 0)], [
  (2, [(1, .ofNat 0, .ofNat 17)], [], [], [], [(78, (0, .ofNat 44), .inr (false, (1, .ofNat 0)))], [(561, (1, .ofNat 0), .inr (false, .ofNat 0, .ofNat 6))])], [], 0, 0)
def cu96 : List sxCu := [
  (2, (3, [(1, .ofNat 0, .ofNat 17), (2, .ofNat 0, .ofNat 17)], [], [(0, .inl 78), (1, .inr (false, (2, .ofNat 0)))], [], [(78, (0, .ofNat 44), .inr (false, (1, .ofNat 0)))], [(561, (1, .ofNat 0), .inr (false, .ofNat 0, .ofNat 6))]), ((0, 2, .ofNat 17), (0, 0, .ofNat 0), (0, 0, .ofNat 0)), 0, 0)]
set_option maxRecDepth 1000000 in
theorem cv96 {gh : sxGh} (hg : sxGd sxKw gh) : sxCtV sxKw gh ct96 := sxMeB_ok (cts := []) (cuts := cu96) (sp := []) 124 (by decide +kernel) hg (by decide) (by decide) (fun _ h => absurd h List.not_mem_nil)
/-- LotBeliefsModel.heldNow -/
def ct97 : sxCt := (267, 0, (2, [(1, .ofNat 0, .ofNat 17)], [], [(0, .inl 78)], [], [(78, (0, .ofNat 44), .inr (false, (1, .ofNat 0)))], [(561, (1, .ofNat 0), .inr (false, .ofNat 0, .ofNat 6))]), [], [
  (3, [(1, .ofNat 0, .ofNat 17), (2, .ofNat 0, .ofNat 127)], [], [], [.inr (false, (2, .ofNat 0))], [(78, (0, .ofNat 44), .inr (false, (1, .ofNat 0)))], [(561, (1, .ofNat 0), .inr (false, .ofNat 0, .ofNat 6))])], [], 0, 0)
def cu97 : List sxCu := [
  (4, (4, [(1, .ofNat 0, .ofNat 17), (2, .ofNat 0, .ofNat 127), (3, .ofNat 0, .ofNat 17)], [(2, 3, .ofNat 126)], [(0, .inl 78), (1, .inr (false, (2, .ofNat 0))), (2, .inr (false, (3, .ofNat 0)))], [], [(78, (0, .ofNat 44), .inr (false, (1, .ofNat 0)))], [(561, (1, .ofNat 0), .inr (false, .ofNat 0, .ofNat 6))]), ((0, 3, .ofNat 17), (0, 0, .ofNat 0), (0, 0, .ofNat 0)), 0, 0)]
set_option maxRecDepth 1000000 in
theorem cv97 {gh : sxGh} (hg : sxGd sxKw gh) : sxCtV sxKw gh ct97 := sxMeB_ok (cts := []) (cuts := cu97) (sp := []) 81 (by decide +kernel) hg (by decide) (by decide) (fun _ h => absurd h List.not_mem_nil)
/-- LotBeliefsModel.leaves -/
def ct148 : sxCt := (261, 0, (3, [(1, .ofNat 0, .ofNat 15), (2, .ofNat 1, .ofNat 17)], [], [(0, .inl 78), (1, .inr (false, (1, .ofNat 0)))], [], [(78, (0, .ofNat 44), .inr (false, (2, .ofNat 0)))], [(561, (2, .ofNat 0), .inr (false, .ofNat 0, .ofNat 6))]), [(78, 45), (561, 0)], [
  (3, [(1, .ofNat 0, .ofNat 15), (2, .ofNat 1, .ofNat 17)], [], [], [], [(78, (0, .ofNat 44), .inr (false, (2, .negSucc 0)))], [(561, (2, .ofNat 0), .inr (false, .ofNat 0, .ofNat 6))])], [], 0, 0)
def cu148 : List sxCu := [
  (12, (4, [(1, .ofNat 0, .ofNat 15), (2, .ofNat 1, .ofNat 17), (3, .ofNat 0, .ofNat 16)], [(1, 3, .ofNat 0), (3, 2, .ofNat 14)], [(0, .inl 78), (1, .inr (false, (1, .ofNat 0))), (2, .inr (false, (3, .ofNat 0)))], [], [(78, (0, .ofNat 44), .inr (false, (2, .negSucc 0)))], [(561, (2, .ofNat 0), .inr (false, .ofNat 0, .ofNat 6))]), ((0, 3, .ofNat 16), (0, 0, .ofNat 0), (0, 0, .ofNat 0)), 0, 0)]
set_option maxRecDepth 1000000 in
theorem cv148 {gh : sxGh} (hg : sxGd sxKw gh) : sxCtV sxKw gh ct148 := sxMeB_ok (cts := []) (cuts := cu148) (sp := []) 85 (by decide +kernel) hg (by decide) (by decide) (fun _ h => absurd h List.not_mem_nil)
/-- LotBeliefsModel.leaves -/
def ct157 : sxCt := (261, 0, (3, [(1, .ofNat 0, .ofNat 16), (2, .ofNat 1, .ofNat 17)], [], [(0, .inl 78), (1, .inr (false, (1, .ofNat 0)))], [], [(78, (0, .ofNat 44), .inr (false, (2, .ofNat 0)))], [(561, (2, .ofNat 0), .inr (false, .ofNat 0, .ofNat 6))]), [(78, 45), (561, 0)], [
  (3, [(1, .ofNat 0, .ofNat 16), (2, .ofNat 1, .ofNat 17)], [], [], [], [(78, (0, .ofNat 44), .inr (false, (2, .negSucc 0)))], [(561, (2, .ofNat 0), .inr (false, .ofNat 0, .ofNat 6))])], [], 0, 0)
def cu157 : List sxCu := [
  (12, (4, [(1, .ofNat 0, .ofNat 16), (2, .ofNat 1, .ofNat 17), (3, .ofNat 0, .ofNat 16)], [(1, 3, .ofNat 0)], [(0, .inl 78), (1, .inr (false, (1, .ofNat 0))), (2, .inr (false, (3, .ofNat 0)))], [], [(78, (0, .ofNat 44), .inr (false, (2, .negSucc 0)))], [(561, (2, .ofNat 0), .inr (false, .ofNat 0, .ofNat 6))]), ((0, 3, .ofNat 16), (0, 0, .ofNat 0), (0, 0, .ofNat 0)), 0, 0)]
set_option maxRecDepth 1000000 in
theorem cv157 {gh : sxGh} (hg : sxGd sxKw gh) : sxCtV sxKw gh ct157 := sxMeB_ok (cts := []) (cuts := cu157) (sp := []) 85 (by decide +kernel) hg (by decide) (by decide) (fun _ h => absurd h List.not_mem_nil)
/-- LotBeliefsModel.kills -/
def ct161 : sxCt := (262, 1, (3, [(1, .ofNat 0, .ofNat 51), (2, .ofNat 0, .ofNat 17)], [(2, 1, .ofNat 0)], [(0, .inl 78), (1, .inr (false, (1, .ofNat 0)))], [], [(78, (0, .ofNat 44), .inr (false, (2, .ofNat 0)))], [(561, (2, .ofNat 0), .inr (false, .ofNat 0, .ofNat 6))]), [(78, 45), (78, 47), (561, 0), (563, 0)], [
  (4, [(1, .ofNat 0, .ofNat 51), (2, .ofNat 0, .ofNat 17), (3, .ofNat 0, .ofNat 17)], [(3, 1, .ofNat 0), (3, 2, .ofNat 0), (2, 1, .ofNat 0)], [], [], [(78, (0, .ofNat 44), .inr (false, (3, .ofNat 0)))], [(561, (3, .ofNat 0), .inr (false, .ofNat 0, .ofNat 6))])], [], 0, 0)
def cu161 : List sxCu := [
  (2, (5, [(1, .ofNat 0, .ofNat 51), (2, .ofNat 0, .ofNat 17), (3, .ofNat 0, .ofNat 17), (4, .ofNat 0, .ofNat 17)], [(4, 1, .ofNat 0), (4, 2, .ofNat 0), (2, 1, .ofNat 0)], [(0, .inl 78), (1, .inr (false, (1, .ofNat 0))), (2, .inr (false, (3, .ofNat 0)))], [], [(78, (0, .ofNat 44), .inr (false, (4, .ofNat 0)))], [(561, (4, .ofNat 0), .inr (false, .ofNat 0, .ofNat 6))]), ((4, 3, .ofNat 17), (0, 0, .ofNat 0), (0, 0, .ofNat 0)), 0, 0)]
set_option maxRecDepth 1000000 in
theorem cv161 {gh : sxGh} (hg : sxGd sxKw gh) : sxCtV sxKw gh ct161 := sxMeB_ok (cts := [ct157]) (cuts := cu161) (sp := []) 121 (by decide +kernel) hg (by decide) (by decide) (List.forall_mem_cons.mpr ⟨cv157 hg, (fun _ h => absurd h List.not_mem_nil)⟩)
/-- LotBeliefsModel.ages -/
def ct168 : sxCt := (266, 1, (2, [(1, .ofNat 0, .ofNat 17)], [], [(0, .inl 78)], [], [(78, (0, .ofNat 44), .inr (false, (1, .ofNat 0)))], []), [(78, 48), (565, 0), (566, 0)], [
  (2, [(1, .ofNat 0, .ofNat 17)], [], [], [], [(78, (0, .ofNat 44), .inr (false, (1, .ofNat 0)))], [])], [], 0, 0)
def cu168 : List sxCu := [
  (2, (3, [(1, .ofNat 0, .ofNat 17), (2, .ofNat 0, .ofNat 17)], [], [(0, .inl 78), (1, .inr (false, (2, .ofNat 0)))], [], [(78, (0, .ofNat 44), .inr (false, (1, .ofNat 0)))], []), ((0, 2, .ofNat 17), (0, 0, .ofNat 0), (0, 0, .ofNat 0)), 0, 0)]
set_option maxRecDepth 1000000 in
theorem cv168 {gh : sxGh} (hg : sxGd sxKw gh) : sxCtV sxKw gh ct168 := sxMeB_ok (cts := []) (cuts := cu168) (sp := []) 124 (by decide +kernel) hg (by decide) (by decide) (fun _ h => absurd h List.not_mem_nil)
/-- LotBeliefsModel.heldNow -/
def ct169 : sxCt := (267, 0, (2, [(1, .ofNat 0, .ofNat 17)], [], [(0, .inl 78)], [], [(78, (0, .ofNat 44), .inr (false, (1, .ofNat 0)))], []), [], [
  (3, [(1, .ofNat 0, .ofNat 17), (2, .ofNat 0, .ofNat 131071)], [], [], [.inr (false, (2, .ofNat 0))], [(78, (0, .ofNat 44), .inr (false, (1, .ofNat 0)))], [])], [], 0, 0)
def cu169 : List sxCu := [
  (4, (4, [(1, .ofNat 0, .ofNat 17), (2, .ofNat 0, .ofNat 131071), (3, .ofNat 0, .ofNat 17)], [], [(0, .inl 78), (1, .inr (false, (2, .ofNat 0))), (2, .inr (false, (3, .ofNat 0)))], [], [(78, (0, .ofNat 44), .inr (false, (1, .ofNat 0)))], []), ((0, 3, .ofNat 17), (0, 0, .ofNat 0), (0, 0, .ofNat 0)), 0, 0)]
set_option maxRecDepth 1000000 in
theorem cv169 {gh : sxGh} (hg : sxGd sxKw gh) : sxCtV sxKw gh ct169 := sxMeB_ok (cts := []) (cuts := cu169) (sp := []) 81 (by decide +kernel) hg (by decide) (by decide) (fun _ h => absurd h List.not_mem_nil)
/-- LotBeliefsModel.leaves -/
def ct210 : sxCt := (261, 0, (3, [(1, .ofNat 0, .ofNat 10), (2, .ofNat 1, .ofNat 17)], [], [(0, .inl 78), (1, .inr (false, (1, .ofNat 0)))], [], [(78, (0, .ofNat 44), .inr (false, (2, .ofNat 0)))], []), [(78, 45), (561, 0)], [
  (3, [(1, .ofNat 0, .ofNat 10), (2, .ofNat 1, .ofNat 17)], [], [], [], [(78, (0, .ofNat 44), .inr (false, (2, .negSucc 0)))], [])], [], 0, 0)
def cu210 : List sxCu := [
  (12, (4, [(1, .ofNat 0, .ofNat 10), (2, .ofNat 1, .ofNat 17), (3, .ofNat 0, .ofNat 16)], [(1, 3, .ofNat 0), (3, 2, .ofNat 9)], [(0, .inl 78), (1, .inr (false, (1, .ofNat 0))), (2, .inr (false, (3, .ofNat 0)))], [], [(78, (0, .ofNat 44), .inr (false, (2, .negSucc 0)))], []), ((0, 3, .ofNat 16), (0, 0, .ofNat 0), (0, 0, .ofNat 0)), 0, 0)]
set_option maxRecDepth 1000000 in
theorem cv210 {gh : sxGh} (hg : sxGd sxKw gh) : sxCtV sxKw gh ct210 := sxMeB_ok (cts := []) (cuts := cu210) (sp := []) 85 (by decide +kernel) hg (by decide) (by decide) (fun _ h => absurd h List.not_mem_nil)
/-- LotBeliefsModel.leaves -/
def ct221 : sxCt := (261, 0, (3, [(1, .ofNat 0, .ofNat 15), (2, .ofNat 1, .ofNat 17)], [], [(0, .inl 78), (1, .inr (false, (1, .ofNat 0)))], [], [(78, (0, .ofNat 44), .inr (false, (2, .ofNat 0)))], []), [(78, 45), (561, 0)], [
  (3, [(1, .ofNat 0, .ofNat 15), (2, .ofNat 1, .ofNat 17)], [], [], [], [(78, (0, .ofNat 44), .inr (false, (2, .negSucc 0)))], [])], [], 0, 0)
def cu221 : List sxCu := [
  (12, (4, [(1, .ofNat 0, .ofNat 15), (2, .ofNat 1, .ofNat 17), (3, .ofNat 0, .ofNat 16)], [(1, 3, .ofNat 0), (3, 2, .ofNat 14)], [(0, .inl 78), (1, .inr (false, (1, .ofNat 0))), (2, .inr (false, (3, .ofNat 0)))], [], [(78, (0, .ofNat 44), .inr (false, (2, .negSucc 0)))], []), ((0, 3, .ofNat 16), (0, 0, .ofNat 0), (0, 0, .ofNat 0)), 0, 0)]
set_option maxRecDepth 1000000 in
theorem cv221 {gh : sxGh} (hg : sxGd sxKw gh) : sxCtV sxKw gh ct221 := sxMeB_ok (cts := []) (cuts := cu221) (sp := []) 85 (by decide +kernel) hg (by decide) (by decide) (fun _ h => absurd h List.not_mem_nil)
/-- LotBeliefsModel.leaves -/
def ct230 : sxCt := (261, 0, (3, [(1, .ofNat 0, .ofNat 16), (2, .ofNat 1, .ofNat 17)], [], [(0, .inl 78), (1, .inr (false, (1, .ofNat 0)))], [], [(78, (0, .ofNat 44), .inr (false, (2, .ofNat 0)))], []), [(78, 45), (561, 0)], [
  (3, [(1, .ofNat 0, .ofNat 16), (2, .ofNat 1, .ofNat 17)], [], [], [], [(78, (0, .ofNat 44), .inr (false, (2, .negSucc 0)))], [])], [], 0, 0)
def cu230 : List sxCu := [
  (12, (4, [(1, .ofNat 0, .ofNat 16), (2, .ofNat 1, .ofNat 17), (3, .ofNat 0, .ofNat 16)], [(1, 3, .ofNat 0)], [(0, .inl 78), (1, .inr (false, (1, .ofNat 0))), (2, .inr (false, (3, .ofNat 0)))], [], [(78, (0, .ofNat 44), .inr (false, (2, .negSucc 0)))], []), ((0, 3, .ofNat 16), (0, 0, .ofNat 0), (0, 0, .ofNat 0)), 0, 0)]
set_option maxRecDepth 1000000 in
theorem cv230 {gh : sxGh} (hg : sxGd sxKw gh) : sxCtV sxKw gh ct230 := sxMeB_ok (cts := []) (cuts := cu230) (sp := []) 85 (by decide +kernel) hg (by decide) (by decide) (fun _ h => absurd h List.not_mem_nil)
/-- LotBeliefsModel.kills -/
def ct234 : sxCt := (262, 1, (3, [(1, .ofNat 0, .ofNat 51), (2, .ofNat 0, .ofNat 17)], [(2, 1, .ofNat 0)], [(0, .inl 78), (1, .inr (false, (1, .ofNat 0)))], [], [(78, (0, .ofNat 44), .inr (false, (2, .ofNat 0)))], []), [(78, 45), (78, 47), (561, 0), (563, 0)], [
  (4, [(1, .ofNat 0, .ofNat 51), (2, .ofNat 0, .ofNat 17), (3, .ofNat 0, .ofNat 17)], [(3, 1, .ofNat 0), (3, 2, .ofNat 0), (2, 1, .ofNat 0)], [], [], [(78, (0, .ofNat 44), .inr (false, (3, .ofNat 0)))], [])], [], 0, 0)
def cu234 : List sxCu := [
  (2, (5, [(1, .ofNat 0, .ofNat 51), (2, .ofNat 0, .ofNat 17), (3, .ofNat 0, .ofNat 17), (4, .ofNat 0, .ofNat 17)], [(4, 1, .ofNat 0), (4, 2, .ofNat 0), (2, 1, .ofNat 0)], [(0, .inl 78), (1, .inr (false, (1, .ofNat 0))), (2, .inr (false, (3, .ofNat 0)))], [], [(78, (0, .ofNat 44), .inr (false, (4, .ofNat 0)))], []), ((4, 3, .ofNat 17), (0, 0, .ofNat 0), (0, 0, .ofNat 0)), 0, 0)]
set_option maxRecDepth 1000000 in
theorem cv234 {gh : sxGh} (hg : sxGd sxKw gh) : sxCtV sxKw gh ct234 := sxMeB_ok (cts := [ct230]) (cuts := cu234) (sp := []) 121 (by decide +kernel) hg (by decide) (by decide) (List.forall_mem_cons.mpr ⟨cv230 hg, (fun _ h => absurd h List.not_mem_nil)⟩)
/-- LotBeliefsModel.ones -/
def ct248 : sxCt := (224, 0, (2, [(1, .ofNat 0, .ofNat 39)], [], [(0, .inr (true, (1, .ofNat 0)))], [], [], []), [], [
  (3, [(1, .ofNat 0, .ofNat 39), (2, .negSucc 2147483647, .ofNat 2147483647)], [], [], [.inr (false, (2, .ofNat 0))], [], [])], [], 0, 0)
def cu248 : List sxCu := [
  (4, (4, [(1, .ofNat 0, .ofNat 39), (2, .negSucc 2147483647, .ofNat 2147483647), (3, .ofNat 0, .ofNat 64)], [], [(0, .inr (true, (1, .ofNat 0))), (2, .inr (false, (2, .ofNat 0))), (3, .inr (false, (3, .ofNat 0)))], [], [], []), ((0, 3, .ofNat 64), (0, 0, .ofNat 0), (0, 0, .ofNat 0)), 0, 0)]
set_option maxRecDepth 1000000 in
theorem cv248 {gh : sxGh} (hg : sxGd sxKw gh) : sxCtV sxKw gh ct248 := sxMeB_ok (cts := []) (cuts := cu248) (sp := []) 80 (by decide +kernel) hg (by decide) (by decide) (fun _ h => absurd h List.not_mem_nil)
/-- LotBeliefsModel.ones -/
def ct252 : sxCt := (224, 0, (2, [(1, .ofNat 0, .ofNat 63)], [], [(0, .inr (true, (1, .ofNat 0)))], [], [], []), [], [
  (3, [(1, .ofNat 0, .ofNat 63), (2, .negSucc 2147483647, .ofNat 2147483647)], [], [], [.inr (false, (2, .ofNat 0))], [], [])], [], 0, 0)
def cu252 : List sxCu := [
  (4, (4, [(1, .ofNat 0, .ofNat 63), (2, .negSucc 2147483647, .ofNat 2147483647), (3, .ofNat 0, .ofNat 64)], [], [(0, .inr (true, (1, .ofNat 0))), (2, .inr (false, (2, .ofNat 0))), (3, .inr (false, (3, .ofNat 0)))], [], [], []), ((0, 3, .ofNat 64), (0, 0, .ofNat 0), (0, 0, .ofNat 0)), 0, 0)]
set_option maxRecDepth 1000000 in
theorem cv252 {gh : sxGh} (hg : sxGd sxKw gh) : sxCtV sxKw gh ct252 := sxMeB_ok (cts := []) (cuts := cu252) (sp := []) 80 (by decide +kernel) hg (by decide) (by decide) (fun _ h => absurd h List.not_mem_nil)
/-- LotBeliefsModel.ones -/
def ct254 : sxCt := (224, 0, (2, [(1, .ofNat 0, .ofNat 127)], [], [(0, .inr (true, (1, .ofNat 0)))], [], [], []), [], [
  (3, [(1, .ofNat 0, .ofNat 127), (2, .negSucc 2147483647, .ofNat 2147483647)], [], [], [.inr (false, (2, .ofNat 0))], [], [])], [], 0, 0)
def cu254 : List sxCu := [
  (4, (4, [(1, .ofNat 0, .ofNat 127), (2, .negSucc 2147483647, .ofNat 2147483647), (3, .ofNat 0, .ofNat 64)], [], [(0, .inr (true, (1, .ofNat 0))), (2, .inr (false, (2, .ofNat 0))), (3, .inr (false, (3, .ofNat 0)))], [], [], []), ((0, 3, .ofNat 64), (0, 0, .ofNat 0), (0, 0, .ofNat 0)), 0, 0)]
set_option maxRecDepth 1000000 in
theorem cv254 {gh : sxGh} (hg : sxGd sxKw gh) : sxCtV sxKw gh ct254 := sxMeB_ok (cts := []) (cuts := cu254) (sp := []) 80 (by decide +kernel) hg (by decide) (by decide) (fun _ h => absurd h List.not_mem_nil)
/-- LotBeliefs.Jar.slipsSoIn -/
def ct260 : sxCt := (26, 1, (2, [(1, .ofNat 0, .ofNat 63)], [], [(0, .inl 11), (1, .inr (false, (1, .ofNat 0)))], [], [], []), [], [
  (3, [(1, .ofNat 0, .ofNat 63), (2, .ofNat 0, .ofNat 4095)], [], [], [.inr (false, (2, .ofNat 0))], [], [])], [], 0, 0)
def cu260 : List sxCu := [
  (4, (4, [(1, .ofNat 0, .ofNat 63), (2, .ofNat 0, .ofNat 4095), (3, .ofNat 0, .ofNat 12)], [], [(0, .inl 11), (1, .inr (false, (1, .ofNat 0))), (2, .inr (false, (2, .ofNat 0))), (3, .inr (false, (3, .ofNat 0)))], [], [], []), ((0, 3, .ofNat 12), (0, 0, .ofNat 0), (0, 0, .ofNat 0)), 0, 0)]
set_option maxRecDepth 1000000 in
theorem cv260 {gh : sxGh} (hg : sxGd sxKw gh) : sxCtV sxKw gh ct260 := sxMeB_ok (cts := []) (cuts := cu260) (sp := []) 103 (by decide +kernel) hg (by decide) (by decide) (fun _ h => absurd h List.not_mem_nil)
/-- LotBeliefs.Course.seat -/
def ct261 : sxCt := (4, 0, (2, [(1, .ofNat 0, .ofNat 16)], [], [(0, .inl 32), (1, .inr (false, (1, .ofNat 0)))], [], [], []), [(32, 11), (32, 12), (34000037, 0)], [
  (3, [(1, .ofNat 0, .ofNat 16), (2, .ofNat 1, .ofNat 17)], [], [], [], [(32, (0, .ofNat 10), .inr (false, (2, .ofNat 0)))], [])], [], 0, 0)
def cu261 : List sxCu := []
set_option maxRecDepth 1000000 in
theorem cv261 {gh : sxGh} (hg : sxGd sxKw gh) : sxCtV sxKw gh ct261 := sxMeB_ok (cts := []) (cuts := cu261) (sp := []) 103 (by decide +kernel) hg (by decide) (by decide) (fun _ h => absurd h List.not_mem_nil)
/-- LotBeliefs.Course.goBack -/
def ct262 : sxCt := (3, 1, (2, [(1, .ofNat 0, .ofNat 1)], [], [(0, .inl 32), (1, .inl 28), (2, .inr (false, (1, .ofNat 0)))], [], [], []), [(32, 11), (32, 12), (33000037, 0)], [
  (3, [(1, .ofNat 0, .ofNat 1), (2, .ofNat 0, .ofNat 17)], [], [], [], [(32, (0, .ofNat 10), .inr (false, (2, .ofNat 0)))], [])], [], 0, 0)
def cu262 : List sxCu := [
  (12, (3, [(1, .ofNat 0, .ofNat 1), (2, .ofNat 0, .ofNat 17)], [], [(0, .inl 32), (1, .inl 28), (2, .inr (false, (1, .ofNat 0))), (3, .inr (false, (2, .ofNat 0)))], [], [(32, (0, .ofNat 10), .inr (false, (0, .ofNat 0))), (32, (0, .ofNat 11), .inr (false, (0, .ofNat 0)))], []), ((0, 2, .ofNat 19), (0, 0, .ofNat 0), (0, 0, .ofNat 0)), 0, 0), 
  (46, (4, [(1, .ofNat 0, .ofNat 1), (2, .ofNat 0, .ofNat 1), (3, .ofNat 0, .ofNat 17)], [], [(0, .inl 32), (1, .inl 28), (2, .inr (false, (1, .ofNat 0))), (3, .inr (false, (2, .ofNat 0)))], [], [(32, (0, .ofNat 4), .inl 33), (32, (0, .ofNat 10), .inr (false, (3, .ofNat 0)))], []), ((0, 2, .ofNat 1), (0, 0, .ofNat 0), (0, 0, .ofNat 0)), 0, 0)]
set_option maxRecDepth 1000000 in
theorem cv262 {gh : sxGh} (hg : sxGd sxKw gh) : sxCtV sxKw gh ct262 := sxMeB_ok (cts := [ct261]) (cuts := cu262) (sp := []) 123 (by decide +kernel) hg (by decide) (by decide) (List.forall_mem_cons.mpr ⟨cv261 hg, (fun _ h => absurd h List.not_mem_nil)⟩)
/-- LotBeliefs.Jar.deathWeek -/
def ct263 : sxCt := (22, 0, (2, [(1, .ofNat 0, .ofNat 16)], [], [(0, .inl 11), (1, .inr (false, (1, .ofNat 0)))], [], [], []), [], [
  (3, [(1, .ofNat 0, .ofNat 16), (2, .ofNat 0, .ofNat 52)], [], [], [.inr (false, (2, .ofNat 0))], [], [])], [], 0, 0)
def cu263 : List sxCu := [
  (2, (3, [(1, .ofNat 0, .ofNat 16), (2, .ofNat 0, .ofNat 52)], [], [(0, .inl 11), (1, .inr (false, (1, .ofNat 0))), (2, .inr (false, (2, .ofNat 0)))], [], [], []), ((0, 2, .ofNat 52), (0, 0, .ofNat 0), (0, 0, .ofNat 0)), 0, 0)]
set_option maxRecDepth 1000000 in
theorem cv263 {gh : sxGh} (hg : sxGd sxKw gh) : sxCtV sxKw gh ct263 := sxMeB_ok (cts := []) (cuts := cu263) (sp := []) 80 (by decide +kernel) hg (by decide) (by decide) (fun _ h => absurd h List.not_mem_nil)
/-- LotBeliefs.Jar.deathWeek -/
def ct264 : sxCt := (22, 0, (2, [(1, .ofNat 0, .ofNat 16)], [], [(0, .inl 3), (1, .inr (false, (1, .ofNat 0)))], [], [], []), [], [
  (3, [(1, .ofNat 0, .ofNat 16), (2, .ofNat 0, .ofNat 52)], [], [], [.inr (false, (2, .ofNat 0))], [], [])], [], 0, 0)
def cu264 : List sxCu := [
  (2, (3, [(1, .ofNat 0, .ofNat 16), (2, .ofNat 0, .ofNat 52)], [], [(0, .inl 3), (1, .inr (false, (1, .ofNat 0))), (2, .inr (false, (2, .ofNat 0)))], [], [], []), ((0, 2, .ofNat 52), (0, 0, .ofNat 0), (0, 0, .ofNat 0)), 0, 0)]
set_option maxRecDepth 1000000 in
theorem cv264 {gh : sxGh} (hg : sxGd sxKw gh) : sxCtV sxKw gh ct264 := sxMeB_ok (cts := []) (cuts := cu264) (sp := []) 80 (by decide +kernel) hg (by decide) (by decide) (fun _ h => absurd h List.not_mem_nil)
/-- LotBeliefs.Course.bury -/
def ct277 : sxCt := (5, 1, (2, [(1, .ofNat 0, .ofNat 51)], [], [(0, .inl 32), (1, .inr (false, (1, .ofNat 0)))], [], [], []), [(32, 11), (32, 12), (34, 0), (36, 0), (37, 0)], [
  (3, [(1, .ofNat 0, .ofNat 51), (2, .negSucc 2147483647, .ofNat 2147483647)], [], [], [], [(32, (0, .ofNat 11), .inr (false, (2, .ofNat 0)))], [])], [], 0, 0)
def cu277 : List sxCu := [
  (22, (5, [(1, .ofNat 0, .ofNat 51), (2, .ofNat 0, .ofNat 17), (3, .ofNat 0, .ofNat 17), (4, .negSucc 2147483647, .ofNat 2147483647)], [(2, 3, .ofNat 0)], [(0, .inl 32), (1, .inr (false, (1, .ofNat 0))), (2, .inr (false, (2, .ofNat 0))), (3, .inr (false, (3, .ofNat 0)))], [], [(32, (0, .ofNat 11), .inr (false, (4, .ofNat 0)))], []), ((0, 3, .ofNat 17), (0, 0, .ofNat 0), (0, 0, .ofNat 0)), 0, 0)]
set_option maxRecDepth 1000000 in
theorem cv277 {gh : sxGh} (hg : sxGd sxKw gh) : sxCtV sxKw gh ct277 := sxMeB_ok (cts := [ct264, ct263]) (cuts := cu277) (sp := []) 185 (by decide +kernel) hg (by decide) (by decide) (List.forall_mem_cons.mpr ⟨cv264 hg, (List.forall_mem_cons.mpr ⟨cv263 hg, (fun _ h => absurd h List.not_mem_nil)⟩)⟩)
/-- LotBeliefs.Course.bury -/
def ct326 : sxCt := (5, 1, (2, [(1, .ofNat 0, .ofNat 6)], [], [(0, .inl 32), (1, .inr (false, (1, .ofNat 0)))], [], [], []), [(32, 11), (32, 12), (34, 0), (36, 0), (37, 0)], [
  (3, [(1, .ofNat 0, .ofNat 6), (2, .negSucc 2147483647, .ofNat 2147483647)], [], [], [], [(32, (0, .ofNat 11), .inr (false, (2, .ofNat 0)))], [])], [], 0, 0)
def cu326 : List sxCu := [
  (22, (5, [(1, .ofNat 0, .ofNat 6), (2, .ofNat 0, .ofNat 17), (3, .ofNat 0, .ofNat 17), (4, .negSucc 2147483647, .ofNat 2147483647)], [(2, 3, .ofNat 0)], [(0, .inl 32), (1, .inr (false, (1, .ofNat 0))), (2, .inr (false, (2, .ofNat 0))), (3, .inr (false, (3, .ofNat 0)))], [], [(32, (0, .ofNat 11), .inr (false, (4, .ofNat 0)))], []), ((0, 3, .ofNat 17), (0, 0, .ofNat 0), (0, 0, .ofNat 0)), 0, 0)]
set_option maxRecDepth 1000000 in
theorem cv326 {gh : sxGh} (hg : sxGd sxKw gh) : sxCtV sxKw gh ct326 := sxMeB_ok (cts := [ct264, ct263]) (cuts := cu326) (sp := []) 185 (by decide +kernel) hg (by decide) (by decide) (List.forall_mem_cons.mpr ⟨cv264 hg, (List.forall_mem_cons.mpr ⟨cv263 hg, (fun _ h => absurd h List.not_mem_nil)⟩)⟩)
/-- LotBeliefs.Course.bury -/
def ct374 : sxCt := (5, 1, (2, [(1, .ofNat 0, .ofNat 11)], [], [(0, .inl 32), (1, .inr (false, (1, .ofNat 0)))], [], [], []), [(32, 11), (32, 12), (34, 0), (36, 0), (37, 0)], [
  (3, [(1, .ofNat 0, .ofNat 11), (2, .negSucc 2147483647, .ofNat 2147483647)], [], [], [], [(32, (0, .ofNat 11), .inr (false, (2, .ofNat 0)))], [])], [], 0, 0)
def cu374 : List sxCu := [
  (22, (5, [(1, .ofNat 0, .ofNat 11), (2, .ofNat 0, .ofNat 17), (3, .ofNat 0, .ofNat 17), (4, .negSucc 2147483647, .ofNat 2147483647)], [(2, 3, .ofNat 0)], [(0, .inl 32), (1, .inr (false, (1, .ofNat 0))), (2, .inr (false, (2, .ofNat 0))), (3, .inr (false, (3, .ofNat 0)))], [], [(32, (0, .ofNat 11), .inr (false, (4, .ofNat 0)))], []), ((0, 3, .ofNat 17), (0, 0, .ofNat 0), (0, 0, .ofNat 0)), 0, 0)]
set_option maxRecDepth 1000000 in
theorem cv374 {gh : sxGh} (hg : sxGd sxKw gh) : sxCtV sxKw gh ct374 := sxMeB_ok (cts := [ct264, ct263]) (cuts := cu374) (sp := []) 185 (by decide +kernel) hg (by decide) (by decide) (List.forall_mem_cons.mpr ⟨cv264 hg, (List.forall_mem_cons.mpr ⟨cv263 hg, (fun _ h => absurd h List.not_mem_nil)⟩)⟩)
/-- LotBeliefs.Course.lives -/
def ct375 : sxCt := (6, 0, (3, [(1, .ofNat 0, .ofNat 16), (2, .ofNat 0, .ofNat 11)], [], [(0, .inl 32), (1, .inr (false, (1, .ofNat 0))), (2, .inr (false, (2, .ofNat 0)))], [], [], []), [(33000036, 0)], [
  (3, [(1, .ofNat 0, .ofNat 16), (2, .ofNat 0, .ofNat 11)], [], [], [.inr (false, (0, .ofNat 0))], [], []), 
  (3, [(1, .ofNat 0, .ofNat 16), (2, .ofNat 0, .ofNat 11)], [], [], [.inr (false, (0, .ofNat 1))], [], [])], [], 0, 0)
def cu375 : List sxCu := []
set_option maxRecDepth 1000000 in
theorem cv375 {gh : sxGh} (hg : sxGd sxKw gh) : sxCtV sxKw gh ct375 := sxMeB_ok (cts := []) (cuts := cu375) (sp := []) 196 (by decide +kernel) hg (by decide) (by decide) (fun _ h => absurd h List.not_mem_nil)
/-- LotBeliefs.Tongue.tell -/
def ct376 : sxCt := (98, 1, (7, [(1, .ofNat 0, .ofNat 16), (2, .ofNat 0, .ofNat 16), (3, .negSucc 2147483647, .ofNat 2147483647), (4, .ofNat 0, .ofNat 1), (5, .ofNat 0, .ofNat 11), (6, .ofNat 0, .ofNat 17)], [], [(0, .inl 23), (1, .inl 11), (2, .inr (false, (1, .ofNat 0))), (3, .inr (false, (2, .ofNat 0))), (4, .inr (false, (3, .ofNat 0))), (5, .inr (false, (4, .ofNat 0))), (6, .inr (false, (5, .ofNat 0))), (7, .inr (false, (6, .ofNat 0)))], [], [], []), [(25, 0)], [
  (11, [(1, .ofNat 0, .ofNat 16), (2, .ofNat 0, .ofNat 16), (3, .negSucc 2147483647, .ofNat 2147483647), (4, .ofNat 0, .ofNat 1), (5, .ofNat 0, .ofNat 11), (6, .ofNat 0, .ofNat 17), (7, .negSucc 2147483647, .ofNat 2147483647), (8, .negSucc 2147483647, .ofNat 2147483647), (9, .ofNat 0, .ofNat 127), (10, .ofNat 0, .ofNat 127)], [], [], [], [(25, (0, .ofNat 0), .inr (false, (3, .ofNat 0))), (25, (0, .ofNat 1), .inr (false, (4, .ofNat 0))), (25, (0, .ofNat 2), .inr (false, (7, .ofNat 0))), (25, (0, .ofNat 3), .inr (false, (8, .ofNat 0))), (25, (0, .ofNat 4), .inr (false, (1, .ofNat 0))), (25, (0, .ofNat 5), .inr (false, (2, .ofNat 0))), (25, (0, .ofNat 6), .inr (false, (5, .ofNat 0))), (25, (0, .ofNat 7), .inr (false, (6, .ofNat 0))), (25, (0, .ofNat 8), .inr (false, (9, .ofNat 0))), (25, (0, .ofNat 9), .inr (false, (10, .ofNat 0)))], [])], [], 0, 0)
def cu376 : List sxCu := []
set_option maxRecDepth 1000000 in
theorem cv376 {gh : sxGh} (hg : sxGd sxKw gh) : sxCtV sxKw gh ct376 := sxMeB_ok (cts := [ct24]) (cuts := cu376) (sp := []) 132 (by decide +kernel) hg (by decide) (by decide) (List.forall_mem_cons.mpr ⟨cv24 hg, (fun _ h => absurd h List.not_mem_nil)⟩)
/-- LotBeliefs.Tongue.tell -/
def ct377 : sxCt := (98, 1, (7, [(1, .ofNat 0, .ofNat 16), (2, .ofNat 0, .ofNat 16), (3, .negSucc 2147483647, .ofNat 2147483647), (4, .ofNat 0, .ofNat 1), (5, .ofNat 0, .ofNat 11), (6, .ofNat 0, .ofNat 17)], [], [(0, .inl 19), (1, .inl 11), (2, .inr (false, (1, .ofNat 0))), (3, .inr (false, (2, .ofNat 0))), (4, .inr (false, (3, .ofNat 0))), (5, .inr (false, (4, .ofNat 0))), (6, .inr (false, (5, .ofNat 0))), (7, .inr (false, (6, .ofNat 0)))], [], [], []), [(21, 0)], [
  (11, [(1, .ofNat 0, .ofNat 16), (2, .ofNat 0, .ofNat 16), (3, .negSucc 2147483647, .ofNat 2147483647), (4, .ofNat 0, .ofNat 1), (5, .ofNat 0, .ofNat 11), (6, .ofNat 0, .ofNat 17), (7, .negSucc 2147483647, .ofNat 2147483647), (8, .negSucc 2147483647, .ofNat 2147483647), (9, .ofNat 0, .ofNat 127), (10, .ofNat 0, .ofNat 127)], [], [], [], [(21, (0, .ofNat 0), .inr (false, (3, .ofNat 0))), (21, (0, .ofNat 1), .inr (false, (4, .ofNat 0))), (21, (0, .ofNat 2), .inr (false, (7, .ofNat 0))), (21, (0, .ofNat 3), .inr (false, (8, .ofNat 0))), (21, (0, .ofNat 4), .inr (false, (1, .ofNat 0))), (21, (0, .ofNat 5), .inr (false, (2, .ofNat 0))), (21, (0, .ofNat 6), .inr (false, (5, .ofNat 0))), (21, (0, .ofNat 7), .inr (false, (6, .ofNat 0))), (21, (0, .ofNat 8), .inr (false, (9, .ofNat 0))), (21, (0, .ofNat 9), .inr (false, (10, .ofNat 0)))], [])], [], 0, 0)
def cu377 : List sxCu := []
set_option maxRecDepth 1000000 in
theorem cv377 {gh : sxGh} (hg : sxGd sxKw gh) : sxCtV sxKw gh ct377 := sxMeB_ok (cts := [ct24]) (cuts := cu377) (sp := []) 132 (by decide +kernel) hg (by decide) (by decide) (List.forall_mem_cons.mpr ⟨cv24 hg, (fun _ h => absurd h List.not_mem_nil)⟩)
/-- LotBeliefs.Tongue.tell -/
def ct378 : sxCt := (98, 1, (7, [(1, .ofNat 0, .ofNat 16), (2, .ofNat 0, .ofNat 16), (3, .negSucc 2147483647, .ofNat 2147483647), (4, .negSucc 2147483647, .ofNat 2147483647), (5, .ofNat 0, .ofNat 11), (6, .ofNat 0, .ofNat 17)], [], [(0, .inl 23), (1, .inl 11), (2, .inr (false, (1, .ofNat 0))), (3, .inr (false, (2, .ofNat 0))), (4, .inr (false, (3, .ofNat 0))), (5, .inr (false, (4, .ofNat 0))), (6, .inr (false, (5, .ofNat 0))), (7, .inr (false, (6, .ofNat 0)))], [], [], []), [(25, 0)], [
  (11, [(1, .ofNat 0, .ofNat 16), (2, .ofNat 0, .ofNat 16), (3, .negSucc 2147483647, .ofNat 2147483647), (4, .negSucc 2147483647, .ofNat 2147483647), (5, .ofNat 0, .ofNat 11), (6, .ofNat 0, .ofNat 17), (7, .negSucc 2147483647, .ofNat 2147483647), (8, .negSucc 2147483647, .ofNat 2147483647), (9, .ofNat 0, .ofNat 127), (10, .ofNat 0, .ofNat 127)], [], [], [], [(25, (0, .ofNat 0), .inr (false, (3, .ofNat 0))), (25, (0, .ofNat 1), .inr (false, (4, .ofNat 0))), (25, (0, .ofNat 2), .inr (false, (7, .ofNat 0))), (25, (0, .ofNat 3), .inr (false, (8, .ofNat 0))), (25, (0, .ofNat 4), .inr (false, (1, .ofNat 0))), (25, (0, .ofNat 5), .inr (false, (2, .ofNat 0))), (25, (0, .ofNat 6), .inr (false, (5, .ofNat 0))), (25, (0, .ofNat 7), .inr (false, (6, .ofNat 0))), (25, (0, .ofNat 8), .inr (false, (9, .ofNat 0))), (25, (0, .ofNat 9), .inr (false, (10, .ofNat 0)))], [])], [], 0, 0)
def cu378 : List sxCu := []
set_option maxRecDepth 1000000 in
theorem cv378 {gh : sxGh} (hg : sxGd sxKw gh) : sxCtV sxKw gh ct378 := sxMeB_ok (cts := [ct24]) (cuts := cu378) (sp := []) 132 (by decide +kernel) hg (by decide) (by decide) (List.forall_mem_cons.mpr ⟨cv24 hg, (fun _ h => absurd h List.not_mem_nil)⟩)
/-- LotBeliefs.Tongue.tell -/
def ct379 : sxCt := (98, 1, (7, [(1, .ofNat 0, .ofNat 16), (2, .ofNat 0, .ofNat 16), (3, .negSucc 2147483647, .ofNat 2147483647), (4, .negSucc 2147483647, .ofNat 2147483647), (5, .ofNat 0, .ofNat 11), (6, .ofNat 0, .ofNat 17)], [], [(0, .inl 19), (1, .inl 11), (2, .inr (false, (1, .ofNat 0))), (3, .inr (false, (2, .ofNat 0))), (4, .inr (false, (3, .ofNat 0))), (5, .inr (false, (4, .ofNat 0))), (6, .inr (false, (5, .ofNat 0))), (7, .inr (false, (6, .ofNat 0)))], [], [], []), [(21, 0)], [
  (11, [(1, .ofNat 0, .ofNat 16), (2, .ofNat 0, .ofNat 16), (3, .negSucc 2147483647, .ofNat 2147483647), (4, .negSucc 2147483647, .ofNat 2147483647), (5, .ofNat 0, .ofNat 11), (6, .ofNat 0, .ofNat 17), (7, .negSucc 2147483647, .ofNat 2147483647), (8, .negSucc 2147483647, .ofNat 2147483647), (9, .ofNat 0, .ofNat 127), (10, .ofNat 0, .ofNat 127)], [], [], [], [(21, (0, .ofNat 0), .inr (false, (3, .ofNat 0))), (21, (0, .ofNat 1), .inr (false, (4, .ofNat 0))), (21, (0, .ofNat 2), .inr (false, (7, .ofNat 0))), (21, (0, .ofNat 3), .inr (false, (8, .ofNat 0))), (21, (0, .ofNat 4), .inr (false, (1, .ofNat 0))), (21, (0, .ofNat 5), .inr (false, (2, .ofNat 0))), (21, (0, .ofNat 6), .inr (false, (5, .ofNat 0))), (21, (0, .ofNat 7), .inr (false, (6, .ofNat 0))), (21, (0, .ofNat 8), .inr (false, (9, .ofNat 0))), (21, (0, .ofNat 9), .inr (false, (10, .ofNat 0)))], [])], [], 0, 0)
def cu379 : List sxCu := []
set_option maxRecDepth 1000000 in
theorem cv379 {gh : sxGh} (hg : sxGd sxKw gh) : sxCtV sxKw gh ct379 := sxMeB_ok (cts := [ct24]) (cuts := cu379) (sp := []) 132 (by decide +kernel) hg (by decide) (by decide) (List.forall_mem_cons.mpr ⟨cv24 hg, (fun _ h => absurd h List.not_mem_nil)⟩)
/-- LotBeliefs.Tongue.tell -/
def ct380 : sxCt := (98, 1, (7, [(1, .ofNat 0, .ofNat 16), (2, .ofNat 0, .ofNat 16), (3, .negSucc 2147483647, .ofNat 2147483647), (4, .ofNat 0, .ofNat 1), (5, .ofNat 0, .ofNat 11), (6, .ofNat 0, .ofNat 17)], [], [(0, .inl 23), (1, .inl 3), (2, .inr (false, (1, .ofNat 0))), (3, .inr (false, (2, .ofNat 0))), (4, .inr (false, (3, .ofNat 0))), (5, .inr (false, (4, .ofNat 0))), (6, .inr (false, (5, .ofNat 0))), (7, .inr (false, (6, .ofNat 0)))], [], [], []), [(25, 0)], [
  (11, [(1, .ofNat 0, .ofNat 16), (2, .ofNat 0, .ofNat 16), (3, .negSucc 2147483647, .ofNat 2147483647), (4, .ofNat 0, .ofNat 1), (5, .ofNat 0, .ofNat 11), (6, .ofNat 0, .ofNat 17), (7, .negSucc 2147483647, .ofNat 2147483647), (8, .negSucc 2147483647, .ofNat 2147483647), (9, .ofNat 0, .ofNat 127), (10, .ofNat 0, .ofNat 127)], [], [], [], [(25, (0, .ofNat 0), .inr (false, (3, .ofNat 0))), (25, (0, .ofNat 1), .inr (false, (4, .ofNat 0))), (25, (0, .ofNat 2), .inr (false, (7, .ofNat 0))), (25, (0, .ofNat 3), .inr (false, (8, .ofNat 0))), (25, (0, .ofNat 4), .inr (false, (1, .ofNat 0))), (25, (0, .ofNat 5), .inr (false, (2, .ofNat 0))), (25, (0, .ofNat 6), .inr (false, (5, .ofNat 0))), (25, (0, .ofNat 7), .inr (false, (6, .ofNat 0))), (25, (0, .ofNat 8), .inr (false, (9, .ofNat 0))), (25, (0, .ofNat 9), .inr (false, (10, .ofNat 0)))], [])], [], 0, 0)
def cu380 : List sxCu := []
set_option maxRecDepth 1000000 in
theorem cv380 {gh : sxGh} (hg : sxGd sxKw gh) : sxCtV sxKw gh ct380 := sxMeB_ok (cts := [ct24]) (cuts := cu380) (sp := []) 132 (by decide +kernel) hg (by decide) (by decide) (List.forall_mem_cons.mpr ⟨cv24 hg, (fun _ h => absurd h List.not_mem_nil)⟩)
/-- LotBeliefs.Tongue.tell -/
def ct381 : sxCt := (98, 1, (7, [(1, .ofNat 0, .ofNat 16), (2, .ofNat 0, .ofNat 16), (3, .negSucc 2147483647, .ofNat 2147483647), (4, .ofNat 0, .ofNat 1), (5, .ofNat 0, .ofNat 11), (6, .ofNat 0, .ofNat 17)], [], [(0, .inl 19), (1, .inl 3), (2, .inr (false, (1, .ofNat 0))), (3, .inr (false, (2, .ofNat 0))), (4, .inr (false, (3, .ofNat 0))), (5, .inr (false, (4, .ofNat 0))), (6, .inr (false, (5, .ofNat 0))), (7, .inr (false, (6, .ofNat 0)))], [], [], []), [(21, 0)], [
  (11, [(1, .ofNat 0, .ofNat 16), (2, .ofNat 0, .ofNat 16), (3, .negSucc 2147483647, .ofNat 2147483647), (4, .ofNat 0, .ofNat 1), (5, .ofNat 0, .ofNat 11), (6, .ofNat 0, .ofNat 17), (7, .negSucc 2147483647, .ofNat 2147483647), (8, .negSucc 2147483647, .ofNat 2147483647), (9, .ofNat 0, .ofNat 127), (10, .ofNat 0, .ofNat 127)], [], [], [], [(21, (0, .ofNat 0), .inr (false, (3, .ofNat 0))), (21, (0, .ofNat 1), .inr (false, (4, .ofNat 0))), (21, (0, .ofNat 2), .inr (false, (7, .ofNat 0))), (21, (0, .ofNat 3), .inr (false, (8, .ofNat 0))), (21, (0, .ofNat 4), .inr (false, (1, .ofNat 0))), (21, (0, .ofNat 5), .inr (false, (2, .ofNat 0))), (21, (0, .ofNat 6), .inr (false, (5, .ofNat 0))), (21, (0, .ofNat 7), .inr (false, (6, .ofNat 0))), (21, (0, .ofNat 8), .inr (false, (9, .ofNat 0))), (21, (0, .ofNat 9), .inr (false, (10, .ofNat 0)))], [])], [], 0, 0)
def cu381 : List sxCu := []
set_option maxRecDepth 1000000 in
theorem cv381 {gh : sxGh} (hg : sxGd sxKw gh) : sxCtV sxKw gh ct381 := sxMeB_ok (cts := [ct24]) (cuts := cu381) (sp := []) 132 (by decide +kernel) hg (by decide) (by decide) (List.forall_mem_cons.mpr ⟨cv24 hg, (fun _ h => absurd h List.not_mem_nil)⟩)
/-- LotBeliefs.Tongue.tell -/
def ct382 : sxCt := (98, 1, (7, [(1, .ofNat 0, .ofNat 16), (2, .ofNat 0, .ofNat 16), (3, .negSucc 2147483647, .ofNat 2147483647), (4, .negSucc 2147483647, .ofNat 2147483647), (5, .ofNat 0, .ofNat 11), (6, .ofNat 0, .ofNat 17)], [], [(0, .inl 23), (1, .inl 3), (2, .inr (false, (1, .ofNat 0))), (3, .inr (false, (2, .ofNat 0))), (4, .inr (false, (3, .ofNat 0))), (5, .inr (false, (4, .ofNat 0))), (6, .inr (false, (5, .ofNat 0))), (7, .inr (false, (6, .ofNat 0)))], [], [], []), [(25, 0)], [
  (11, [(1, .ofNat 0, .ofNat 16), (2, .ofNat 0, .ofNat 16), (3, .negSucc 2147483647, .ofNat 2147483647), (4, .negSucc 2147483647, .ofNat 2147483647), (5, .ofNat 0, .ofNat 11), (6, .ofNat 0, .ofNat 17), (7, .negSucc 2147483647, .ofNat 2147483647), (8, .negSucc 2147483647, .ofNat 2147483647), (9, .ofNat 0, .ofNat 127), (10, .ofNat 0, .ofNat 127)], [], [], [], [(25, (0, .ofNat 0), .inr (false, (3, .ofNat 0))), (25, (0, .ofNat 1), .inr (false, (4, .ofNat 0))), (25, (0, .ofNat 2), .inr (false, (7, .ofNat 0))), (25, (0, .ofNat 3), .inr (false, (8, .ofNat 0))), (25, (0, .ofNat 4), .inr (false, (1, .ofNat 0))), (25, (0, .ofNat 5), .inr (false, (2, .ofNat 0))), (25, (0, .ofNat 6), .inr (false, (5, .ofNat 0))), (25, (0, .ofNat 7), .inr (false, (6, .ofNat 0))), (25, (0, .ofNat 8), .inr (false, (9, .ofNat 0))), (25, (0, .ofNat 9), .inr (false, (10, .ofNat 0)))], [])], [], 0, 0)
def cu382 : List sxCu := []
set_option maxRecDepth 1000000 in
theorem cv382 {gh : sxGh} (hg : sxGd sxKw gh) : sxCtV sxKw gh ct382 := sxMeB_ok (cts := [ct24]) (cuts := cu382) (sp := []) 132 (by decide +kernel) hg (by decide) (by decide) (List.forall_mem_cons.mpr ⟨cv24 hg, (fun _ h => absurd h List.not_mem_nil)⟩)
/-- LotBeliefs.Tongue.tell -/
def ct383 : sxCt := (98, 1, (7, [(1, .ofNat 0, .ofNat 16), (2, .ofNat 0, .ofNat 16), (3, .negSucc 2147483647, .ofNat 2147483647), (4, .negSucc 2147483647, .ofNat 2147483647), (5, .ofNat 0, .ofNat 11), (6, .ofNat 0, .ofNat 17)], [], [(0, .inl 19), (1, .inl 3), (2, .inr (false, (1, .ofNat 0))), (3, .inr (false, (2, .ofNat 0))), (4, .inr (false, (3, .ofNat 0))), (5, .inr (false, (4, .ofNat 0))), (6, .inr (false, (5, .ofNat 0))), (7, .inr (false, (6, .ofNat 0)))], [], [], []), [(21, 0)], [
  (11, [(1, .ofNat 0, .ofNat 16), (2, .ofNat 0, .ofNat 16), (3, .negSucc 2147483647, .ofNat 2147483647), (4, .negSucc 2147483647, .ofNat 2147483647), (5, .ofNat 0, .ofNat 11), (6, .ofNat 0, .ofNat 17), (7, .negSucc 2147483647, .ofNat 2147483647), (8, .negSucc 2147483647, .ofNat 2147483647), (9, .ofNat 0, .ofNat 127), (10, .ofNat 0, .ofNat 127)], [], [], [], [(21, (0, .ofNat 0), .inr (false, (3, .ofNat 0))), (21, (0, .ofNat 1), .inr (false, (4, .ofNat 0))), (21, (0, .ofNat 2), .inr (false, (7, .ofNat 0))), (21, (0, .ofNat 3), .inr (false, (8, .ofNat 0))), (21, (0, .ofNat 4), .inr (false, (1, .ofNat 0))), (21, (0, .ofNat 5), .inr (false, (2, .ofNat 0))), (21, (0, .ofNat 6), .inr (false, (5, .ofNat 0))), (21, (0, .ofNat 7), .inr (false, (6, .ofNat 0))), (21, (0, .ofNat 8), .inr (false, (9, .ofNat 0))), (21, (0, .ofNat 9), .inr (false, (10, .ofNat 0)))], [])], [], 0, 0)
def cu383 : List sxCu := []
set_option maxRecDepth 1000000 in
theorem cv383 {gh : sxGh} (hg : sxGd sxKw gh) : sxCtV sxKw gh ct383 := sxMeB_ok (cts := [ct24]) (cuts := cu383) (sp := []) 132 (by decide +kernel) hg (by decide) (by decide) (List.forall_mem_cons.mpr ⟨cv24 hg, (fun _ h => absurd h List.not_mem_nil)⟩)
/-- LotBeliefs.Course.whoFalls -/
def ct384 : sxCt := (9, 2, (4, [(1, .ofNat 0, .ofNat 16), (2, .ofNat 0, .ofNat 16), (3, .ofNat 0, .ofNat 11)], [], [(0, .inl 32), (1, .inr (false, (1, .ofNat 0))), (2, .inr (false, (2, .ofNat 0))), (3, .inr (false, (3, .ofNat 0)))], [], [], []), [(21, 0), (22, 0), (25, 0), (26, 0)], [
  (5, [(1, .ofNat 0, .ofNat 16), (2, .ofNat 0, .ofNat 16), (3, .ofNat 0, .ofNat 11), (4, .ofNat 0, .ofNat 2147480647)], [], [], [.inr (false, (4, .ofNat 0))], [], [])], [], 0, 0)
def cu384 : List sxCu := []
set_option maxRecDepth 1000000 in
theorem cv384 {gh : sxGh} (hg : sxGd sxKw gh) : sxCtV sxKw gh ct384 := sxMeB_ok (cts := [ct376, ct377, ct381, ct380, ct382, ct383, ct378, ct379, ct28, ct31]) (cuts := cu384) (sp := []) 300 (by decide +kernel) hg (by decide) (by decide) (List.forall_mem_cons.mpr ⟨cv376 hg, (List.forall_mem_cons.mpr ⟨cv377 hg, (List.forall_mem_cons.mpr ⟨cv381 hg, (List.forall_mem_cons.mpr ⟨cv380 hg, (List.forall_mem_cons.mpr ⟨cv382 hg, (List.forall_mem_cons.mpr ⟨cv383 hg, (List.forall_mem_cons.mpr ⟨cv378 hg, (List.forall_mem_cons.mpr ⟨cv379 hg, (List.forall_mem_cons.mpr ⟨cv28 hg, (List.forall_mem_cons.mpr ⟨cv31 hg, (fun _ h => absurd h List.not_mem_nil)⟩)⟩)⟩)⟩)⟩)⟩)⟩)⟩)⟩)⟩)
/-- LotBeliefs.Course.stands -/
def ct385 : sxCt := (7, 3, (4, [(1, .ofNat 0, .ofNat 16), (2, .ofNat 0, .ofNat 11), (3, .ofNat 0, .ofNat 17)], [], [(0, .inl 32), (1, .inr (false, (1, .ofNat 0))), (2, .inr (false, (2, .ofNat 0)))], [], [(32, (0, .ofNat 10), .inr (false, (3, .ofNat 0)))], []), [(21, 0), (22, 0), (25, 0), (26, 0), (32, 11), (32, 12), (34000037, 0)], [
  (5, [(1, .ofNat 0, .ofNat 16), (2, .ofNat 0, .ofNat 11), (3, .ofNat 0, .ofNat 17), (4, .negSucc 2147483647, .ofNat 2147483647)], [], [], [.inr (false, (0, .ofNat 1))], [(32, (0, .ofNat 10), .inr (false, (3, .ofNat 0))), (32, (0, .ofNat 11), .inr (false, (4, .ofNat 0)))], []), 
  (7, [(1, .ofNat 0, .ofNat 16), (2, .ofNat 0, .ofNat 11), (3, .ofNat 1, .ofNat 17), (4, .ofNat 0, .ofNat 1), (5, .ofNat 0, .ofNat 17), (6, .negSucc 2147483647, .ofNat 2147483647)], [(5, 3, .ofNat 0)], [], [.inr (false, (4, .ofNat 0))], [(32, (0, .ofNat 10), .inr (false, (5, .ofNat 0))), (32, (0, .ofNat 11), .inr (false, (6, .ofNat 0)))], [])], [], 0, 0)
def cu385 : List sxCu := [
  (38, (6, [(1, .ofNat 0, .ofNat 16), (2, .ofNat 0, .ofNat 11), (3, .ofNat 0, .ofNat 17), (4, .negSucc 2147483647, .ofNat 2147483647), (5, .negSucc 2147483647, .ofNat 2147483647)], [], [(0, .inl 32), (1, .inr (false, (1, .ofNat 0))), (2, .inr (false, (2, .ofNat 0))), (3, .inr (false, (4, .ofNat 0))), (4, .inr (false, (3, .ofNat 0))), (5, .inr (false, (0, .ofNat 0))), (6, .inr (false, (0, .ofNat 1))), (7, .inr (false, (0, .ofNat 0)))], [], [(32, (0, .ofNat 10), .inr (false, (3, .ofNat 0))), (32, (0, .ofNat 11), .inr (false, (5, .ofNat 0)))], []), ((0, 0, .ofNat 17), (0, 0, .ofNat 0), (0, 0, .ofNat 0)), 0, 0), 
  (38, (5, [(1, .ofNat 0, .ofNat 16), (2, .ofNat 0, .ofNat 11), (3, .ofNat 0, .ofNat 17), (4, .negSucc 2147483647, .ofNat 2147483647)], [], [(0, .inl 32), (1, .inr (false, (1, .ofNat 0))), (2, .inr (false, (2, .ofNat 0))), (3, .inr (false, (0, .ofNat 0))), (4, .inr (false, (0, .ofNat 0))), (5, .inr (false, (0, .ofNat 0))), (6, .inr (false, (0, .ofNat 1))), (7, .inr (false, (0, .ofNat 0)))], [], [(32, (0, .ofNat 10), .inr (false, (3, .ofNat 0))), (32, (0, .ofNat 11), .inr (false, (4, .ofNat 0)))], []), ((0, 0, .ofNat 17), (0, 0, .ofNat 0), (0, 0, .ofNat 0)), 0, 0), 
  (38, (11, [(1, .ofNat 0, .ofNat 16), (2, .ofNat 0, .ofNat 11), (3, .ofNat 1, .ofNat 17), (4, .negSucc 2147483647, .ofNat 2147483647), (5, .ofNat 0, .ofNat 1), (6, .ofNat 0, .ofNat 1), (7, .ofNat 0, .ofNat 16), (8, .negSucc 0, .ofNat 2147480647), (9, .ofNat 0, .ofNat 17), (10, .negSucc 2147483647, .ofNat 2147483647)], [(3, 9, .ofNat 1), (9, 3, .ofNat 0)], [(0, .inl 32), (1, .inr (false, (1, .ofNat 0))), (2, .inr (false, (2, .ofNat 0))), (3, .inr (false, (4, .ofNat 0))), (4, .inr (false, (3, .ofNat 0))), (5, .inr (false, (5, .ofNat 0))), (6, .inr (false, (6, .ofNat 0))), (7, .inr (false, (0, .ofNat 1))), (8, .inr (false, (7, .ofNat 0))), (9, .inr (false, (8, .ofNat 0)))], [], [(32, (0, .ofNat 9), .inl 37), (32, (0, .ofNat 10), .inr (false, (9, .ofNat 0))), (32, (0, .ofNat 11), .inr (false, (10, .ofNat 0))), (37, (0, .ofNat 0), .inr (false, (7, .ofNat 0)))], []), ((0, 0, .ofNat 16), (0, 0, .ofNat 0), (0, 0, .ofNat 0)), 0, 0), 
  (38, (11, [(1, .ofNat 0, .ofNat 16), (2, .ofNat 0, .ofNat 11), (3, .ofNat 10, .ofNat 17), (4, .negSucc 2147483647, .ofNat 2147483647), (5, .ofNat 0, .ofNat 10), (6, .ofNat 0, .ofNat 1), (7, .ofNat 0, .ofNat 16), (8, .negSucc 0, .ofNat 2147480647), (9, .ofNat 0, .ofNat 17), (10, .negSucc 2147483647, .ofNat 2147483647)], [(3, 9, .ofNat 10), (9, 3, .ofNat 0)], [(0, .inl 32), (1, .inr (false, (1, .ofNat 0))), (2, .inr (false, (2, .ofNat 0))), (3, .inr (false, (4, .ofNat 0))), (4, .inr (false, (3, .ofNat 0))), (5, .inr (false, (5, .ofNat 0))), (6, .inr (false, (6, .ofNat 0))), (7, .inr (false, (0, .ofNat 10))), (8, .inr (false, (7, .ofNat 0))), (9, .inr (false, (8, .ofNat 0)))], [], [(32, (0, .ofNat 9), .inl 37), (32, (0, .ofNat 10), .inr (false, (9, .ofNat 0))), (32, (0, .ofNat 11), .inr (false, (10, .ofNat 0)))], []), ((0, 0, .ofNat 7), (0, 0, .ofNat 0), (0, 0, .ofNat 0)), 0, 0), 
  (38, (11, [(1, .ofNat 0, .ofNat 16), (2, .ofNat 0, .ofNat 11), (3, .ofNat 11, .ofNat 17), (4, .negSucc 2147483647, .ofNat 2147483647), (5, .ofNat 0, .ofNat 11), (6, .ofNat 0, .ofNat 1), (7, .ofNat 0, .ofNat 16), (8, .negSucc 0, .ofNat 2147480647), (9, .ofNat 0, .ofNat 17), (10, .negSucc 2147483647, .ofNat 2147483647)], [(3, 9, .ofNat 11), (9, 3, .ofNat 0)], [(0, .inl 32), (1, .inr (false, (1, .ofNat 0))), (2, .inr (false, (2, .ofNat 0))), (3, .inr (false, (4, .ofNat 0))), (4, .inr (false, (3, .ofNat 0))), (5, .inr (false, (5, .ofNat 0))), (6, .inr (false, (6, .ofNat 0))), (7, .inr (false, (0, .ofNat 11))), (8, .inr (false, (7, .ofNat 0))), (9, .inr (false, (8, .ofNat 0)))], [], [(32, (0, .ofNat 9), .inl 37), (32, (0, .ofNat 10), .inr (false, (9, .ofNat 0))), (32, (0, .ofNat 11), .inr (false, (10, .ofNat 0)))], []), ((0, 0, .ofNat 6), (0, 0, .ofNat 0), (0, 0, .ofNat 0)), 0, 0), 
  (38, (11, [(1, .ofNat 0, .ofNat 16), (2, .ofNat 0, .ofNat 11), (3, .ofNat 12, .ofNat 17), (4, .negSucc 2147483647, .ofNat 2147483647), (5, .ofNat 0, .ofNat 12), (6, .ofNat 0, .ofNat 1), (7, .ofNat 0, .ofNat 16), (8, .negSucc 0, .ofNat 2147480647), (9, .ofNat 0, .ofNat 17), (10, .negSucc 2147483647, .ofNat 2147483647)], [(3, 9, .ofNat 12), (9, 3, .ofNat 0)], [(0, .inl 32), (1, .inr (false, (1, .ofNat 0))), (2, .inr (false, (2, .ofNat 0))), (3, .inr (false, (4, .ofNat 0))), (4, .inr (false, (3, .ofNat 0))), (5, .inr (false, (5, .ofNat 0))), (6, .inr (false, (6, .ofNat 0))), (7, .inr (false, (0, .ofNat 12))), (8, .inr (false, (7, .ofNat 0))), (9, .inr (false, (8, .ofNat 0)))], [], [(32, (0, .ofNat 9), .inl 37), (32, (0, .ofNat 10), .inr (false, (9, .ofNat 0))), (32, (0, .ofNat 11), .inr (false, (10, .ofNat 0)))], []), ((0, 0, .ofNat 5), (0, 0, .ofNat 0), (0, 0, .ofNat 0)), 0, 0), 
  (38, (11, [(1, .ofNat 0, .ofNat 16), (2, .ofNat 0, .ofNat 11), (3, .ofNat 13, .ofNat 17), (4, .negSucc 2147483647, .ofNat 2147483647), (5, .ofNat 0, .ofNat 13), (6, .ofNat 0, .ofNat 1), (7, .ofNat 0, .ofNat 16), (8, .negSucc 0, .ofNat 2147480647), (9, .ofNat 0, .ofNat 17), (10, .negSucc 2147483647, .ofNat 2147483647)], [(3, 9, .ofNat 13), (9, 3, .ofNat 0)], [(0, .inl 32), (1, .inr (false, (1, .ofNat 0))), (2, .inr (false, (2, .ofNat 0))), (3, .inr (false, (4, .ofNat 0))), (4, .inr (false, (3, .ofNat 0))), (5, .inr (false, (5, .ofNat 0))), (6, .inr (false, (6, .ofNat 0))), (7, .inr (false, (0, .ofNat 13))), (8, .inr (false, (7, .ofNat 0))), (9, .inr (false, (8, .ofNat 0)))], [], [(32, (0, .ofNat 9), .inl 37), (32, (0, .ofNat 10), .inr (false, (9, .ofNat 0))), (32, (0, .ofNat 11), .inr (false, (10, .ofNat 0)))], []), ((0, 0, .ofNat 4), (0, 0, .ofNat 0), (0, 0, .ofNat 0)), 0, 0), 
  (38, (11, [(1, .ofNat 0, .ofNat 16), (2, .ofNat 0, .ofNat 11), (3, .ofNat 14, .ofNat 17), (4, .negSucc 2147483647, .ofNat 2147483647), (5, .ofNat 0, .ofNat 14), (6, .ofNat 0, .ofNat 1), (7, .ofNat 0, .ofNat 16), (8, .negSucc 0, .ofNat 2147480647), (9, .ofNat 0, .ofNat 17), (10, .negSucc 2147483647, .ofNat 2147483647)], [(3, 9, .ofNat 14), (9, 3, .ofNat 0)], [(0, .inl 32), (1, .inr (false, (1, .ofNat 0))), (2, .inr (false, (2, .ofNat 0))), (3, .inr (false, (4, .ofNat 0))), (4, .inr (false, (3, .ofNat 0))), (5, .inr (false, (5, .ofNat 0))), (6, .inr (false, (6, .ofNat 0))), (7, .inr (false, (0, .ofNat 14))), (8, .inr (false, (7, .ofNat 0))), (9, .inr (false, (8, .ofNat 0)))], [], [(32, (0, .ofNat 9), .inl 37), (32, (0, .ofNat 10), .inr (false, (9, .ofNat 0))), (32, (0, .ofNat 11), .inr (false, (10, .ofNat 0)))], []), ((0, 0, .ofNat 3), (0, 0, .ofNat 0), (0, 0, .ofNat 0)), 0, 0), 
  (38, (11, [(1, .ofNat 0, .ofNat 16), (2, .ofNat 0, .ofNat 11), (3, .ofNat 15, .ofNat 17), (4, .negSucc 2147483647, .ofNat 2147483647), (5, .ofNat 0, .ofNat 15), (6, .ofNat 0, .ofNat 1), (7, .ofNat 0, .ofNat 16), (8, .negSucc 0, .ofNat 2147480647), (9, .ofNat 0, .ofNat 17), (10, .negSucc 2147483647, .ofNat 2147483647)], [(3, 9, .ofNat 15), (9, 3, .ofNat 0)], [(0, .inl 32), (1, .inr (false, (1, .ofNat 0))), (2, .inr (false, (2, .ofNat 0))), (3, .inr (false, (4, .ofNat 0))), (4, .inr (false, (3, .ofNat 0))), (5, .inr (false, (5, .ofNat 0))), (6, .inr (false, (6, .ofNat 0))), (7, .inr (false, (0, .ofNat 15))), (8, .inr (false, (7, .ofNat 0))), (9, .inr (false, (8, .ofNat 0)))], [], [(32, (0, .ofNat 9), .inl 37), (32, (0, .ofNat 10), .inr (false, (9, .ofNat 0))), (32, (0, .ofNat 11), .inr (false, (10, .ofNat 0)))], []), ((0, 0, .ofNat 2), (0, 0, .ofNat 0), (0, 0, .ofNat 0)), 0, 0), 
  (38, (11, [(1, .ofNat 0, .ofNat 16), (2, .ofNat 0, .ofNat 11), (3, .ofNat 16, .ofNat 17), (4, .negSucc 2147483647, .ofNat 2147483647), (5, .ofNat 0, .ofNat 16), (6, .ofNat 0, .ofNat 1), (7, .ofNat 0, .ofNat 16), (8, .negSucc 0, .ofNat 2147480647), (9, .ofNat 0, .ofNat 17), (10, .negSucc 2147483647, .ofNat 2147483647)], [(3, 9, .ofNat 16), (9, 3, .ofNat 0)], [(0, .inl 32), (1, .inr (false, (1, .ofNat 0))), (2, .inr (false, (2, .ofNat 0))), (3, .inr (false, (4, .ofNat 0))), (4, .inr (false, (3, .ofNat 0))), (5, .inr (false, (5, .ofNat 0))), (6, .inr (false, (6, .ofNat 0))), (7, .inr (false, (0, .ofNat 16))), (8, .inr (false, (7, .ofNat 0))), (9, .inr (false, (8, .ofNat 0)))], [], [(32, (0, .ofNat 9), .inl 37), (32, (0, .ofNat 10), .inr (false, (9, .ofNat 0))), (32, (0, .ofNat 11), .inr (false, (10, .ofNat 0)))], []), ((0, 0, .ofNat 1), (0, 0, .ofNat 0), (0, 0, .ofNat 0)), 0, 0), 
  (38, (11, [(1, .ofNat 0, .ofNat 16), (2, .ofNat 0, .ofNat 11), (3, .ofNat 17, .ofNat 17), (4, .negSucc 2147483647, .ofNat 2147483647), (5, .ofNat 0, .ofNat 17), (6, .ofNat 0, .ofNat 1), (7, .ofNat 0, .ofNat 16), (8, .negSucc 0, .ofNat 2147480647), (9, .ofNat 0, .ofNat 17), (10, .negSucc 2147483647, .ofNat 2147483647)], [], [(0, .inl 32), (1, .inr (false, (1, .ofNat 0))), (2, .inr (false, (2, .ofNat 0))), (3, .inr (false, (4, .ofNat 0))), (4, .inr (false, (3, .ofNat 0))), (5, .inr (false, (5, .ofNat 0))), (6, .inr (false, (6, .ofNat 0))), (7, .inr (false, (0, .ofNat 17))), (8, .inr (false, (7, .ofNat 0))), (9, .inr (false, (8, .ofNat 0)))], [], [(32, (0, .ofNat 9), .inl 37), (32, (0, .ofNat 10), .inr (false, (9, .ofNat 0))), (32, (0, .ofNat 11), .inr (false, (10, .ofNat 0)))], []), ((0, 0, .ofNat 0), (0, 0, .ofNat 0), (0, 0, .ofNat 0)), 0, 0), 
  (38, (11, [(1, .ofNat 0, .ofNat 16), (2, .ofNat 0, .ofNat 11), (3, .ofNat 2, .ofNat 17), (4, .negSucc 2147483647, .ofNat 2147483647), (5, .ofNat 0, .ofNat 2), (6, .ofNat 0, .ofNat 1), (7, .ofNat 0, .ofNat 16), (8, .negSucc 0, .ofNat 2147480647), (9, .ofNat 0, .ofNat 17), (10, .negSucc 2147483647, .ofNat 2147483647)], [(3, 9, .ofNat 2), (9, 3, .ofNat 0)], [(0, .inl 32), (1, .inr (false, (1, .ofNat 0))), (2, .inr (false, (2, .ofNat 0))), (3, .inr (false, (4, .ofNat 0))), (4, .inr (false, (3, .ofNat 0))), (5, .inr (false, (5, .ofNat 0))), (6, .inr (false, (6, .ofNat 0))), (7, .inr (false, (0, .ofNat 2))), (8, .inr (false, (7, .ofNat 0))), (9, .inr (false, (8, .ofNat 0)))], [], [(32, (0, .ofNat 9), .inl 37), (32, (0, .ofNat 10), .inr (false, (9, .ofNat 0))), (32, (0, .ofNat 11), .inr (false, (10, .ofNat 0)))], []), ((0, 0, .ofNat 15), (0, 0, .ofNat 0), (0, 0, .ofNat 0)), 0, 0), 
  (38, (11, [(1, .ofNat 0, .ofNat 16), (2, .ofNat 0, .ofNat 11), (3, .ofNat 3, .ofNat 17), (4, .negSucc 2147483647, .ofNat 2147483647), (5, .ofNat 0, .ofNat 3), (6, .ofNat 0, .ofNat 1), (7, .ofNat 0, .ofNat 16), (8, .negSucc 0, .ofNat 2147480647), (9, .ofNat 0, .ofNat 17), (10, .negSucc 2147483647, .ofNat 2147483647)], [(3, 9, .ofNat 3), (9, 3, .ofNat 0)], [(0, .inl 32), (1, .inr (false, (1, .ofNat 0))), (2, .inr (false, (2, .ofNat 0))), (3, .inr (false, (4, .ofNat 0))), (4, .inr (false, (3, .ofNat 0))), (5, .inr (false, (5, .ofNat 0))), (6, .inr (false, (6, .ofNat 0))), (7, .inr (false, (0, .ofNat 3))), (8, .inr (false, (7, .ofNat 0))), (9, .inr (false, (8, .ofNat 0)))], [], [(32, (0, .ofNat 9), .inl 37), (32, (0, .ofNat 10), .inr (false, (9, .ofNat 0))), (32, (0, .ofNat 11), .inr (false, (10, .ofNat 0)))], []), ((0, 0, .ofNat 14), (0, 0, .ofNat 0), (0, 0, .ofNat 0)), 0, 0), 
  (38, (11, [(1, .ofNat 0, .ofNat 16), (2, .ofNat 0, .ofNat 11), (3, .ofNat 4, .ofNat 17), (4, .negSucc 2147483647, .ofNat 2147483647), (5, .ofNat 0, .ofNat 4), (6, .ofNat 0, .ofNat 1), (7, .ofNat 0, .ofNat 16), (8, .negSucc 0, .ofNat 2147480647), (9, .ofNat 0, .ofNat 17), (10, .negSucc 2147483647, .ofNat 2147483647)], [(3, 9, .ofNat 4), (9, 3, .ofNat 0)], [(0, .inl 32), (1, .inr (false, (1, .ofNat 0))), (2, .inr (false, (2, .ofNat 0))), (3, .inr (false, (4, .ofNat 0))), (4, .inr (false, (3, .ofNat 0))), (5, .inr (false, (5, .ofNat 0))), (6, .inr (false, (6, .ofNat 0))), (7, .inr (false, (0, .ofNat 4))), (8, .inr (false, (7, .ofNat 0))), (9, .inr (false, (8, .ofNat 0)))], [], [(32, (0, .ofNat 9), .inl 37), (32, (0, .ofNat 10), .inr (false, (9, .ofNat 0))), (32, (0, .ofNat 11), .inr (false, (10, .ofNat 0)))], []), ((0, 0, .ofNat 13), (0, 0, .ofNat 0), (0, 0, .ofNat 0)), 0, 0), 
  (38, (11, [(1, .ofNat 0, .ofNat 16), (2, .ofNat 0, .ofNat 11), (3, .ofNat 5, .ofNat 17), (4, .negSucc 2147483647, .ofNat 2147483647), (5, .ofNat 0, .ofNat 5), (6, .ofNat 0, .ofNat 1), (7, .ofNat 0, .ofNat 16), (8, .negSucc 0, .ofNat 2147480647), (9, .ofNat 0, .ofNat 17), (10, .negSucc 2147483647, .ofNat 2147483647)], [(3, 9, .ofNat 5), (9, 3, .ofNat 0)], [(0, .inl 32), (1, .inr (false, (1, .ofNat 0))), (2, .inr (false, (2, .ofNat 0))), (3, .inr (false, (4, .ofNat 0))), (4, .inr (false, (3, .ofNat 0))), (5, .inr (false, (5, .ofNat 0))), (6, .inr (false, (6, .ofNat 0))), (7, .inr (false, (0, .ofNat 5))), (8, .inr (false, (7, .ofNat 0))), (9, .inr (false, (8, .ofNat 0)))], [], [(32, (0, .ofNat 9), .inl 37), (32, (0, .ofNat 10), .inr (false, (9, .ofNat 0))), (32, (0, .ofNat 11), .inr (false, (10, .ofNat 0)))], []), ((0, 0, .ofNat 12), (0, 0, .ofNat 0), (0, 0, .ofNat 0)), 0, 0), 
  (38, (11, [(1, .ofNat 0, .ofNat 16), (2, .ofNat 0, .ofNat 11), (3, .ofNat 6, .ofNat 17), (4, .negSucc 2147483647, .ofNat 2147483647), (5, .ofNat 0, .ofNat 6), (6, .ofNat 0, .ofNat 1), (7, .ofNat 0, .ofNat 16), (8, .negSucc 0, .ofNat 2147480647), (9, .ofNat 0, .ofNat 17), (10, .negSucc 2147483647, .ofNat 2147483647)], [(3, 9, .ofNat 6), (9, 3, .ofNat 0)], [(0, .inl 32), (1, .inr (false, (1, .ofNat 0))), (2, .inr (false, (2, .ofNat 0))), (3, .inr (false, (4, .ofNat 0))), (4, .inr (false, (3, .ofNat 0))), (5, .inr (false, (5, .ofNat 0))), (6, .inr (false, (6, .ofNat 0))), (7, .inr (false, (0, .ofNat 6))), (8, .inr (false, (7, .ofNat 0))), (9, .inr (false, (8, .ofNat 0)))], [], [(32, (0, .ofNat 9), .inl 37), (32, (0, .ofNat 10), .inr (false, (9, .ofNat 0))), (32, (0, .ofNat 11), .inr (false, (10, .ofNat 0)))], []), ((0, 0, .ofNat 11), (0, 0, .ofNat 0), (0, 0, .ofNat 0)), 0, 0), 
  (38, (11, [(1, .ofNat 0, .ofNat 16), (2, .ofNat 0, .ofNat 11), (3, .ofNat 7, .ofNat 17), (4, .negSucc 2147483647, .ofNat 2147483647), (5, .ofNat 0, .ofNat 7), (6, .ofNat 0, .ofNat 1), (7, .ofNat 0, .ofNat 16), (8, .negSucc 0, .ofNat 2147480647), (9, .ofNat 0, .ofNat 17), (10, .negSucc 2147483647, .ofNat 2147483647)], [(3, 9, .ofNat 7), (9, 3, .ofNat 0)], [(0, .inl 32), (1, .inr (false, (1, .ofNat 0))), (2, .inr (false, (2, .ofNat 0))), (3, .inr (false, (4, .ofNat 0))), (4, .inr (false, (3, .ofNat 0))), (5, .inr (false, (5, .ofNat 0))), (6, .inr (false, (6, .ofNat 0))), (7, .inr (false, (0, .ofNat 7))), (8, .inr (false, (7, .ofNat 0))), (9, .inr (false, (8, .ofNat 0)))], [], [(32, (0, .ofNat 9), .inl 37), (32, (0, .ofNat 10), .inr (false, (9, .ofNat 0))), (32, (0, .ofNat 11), .inr (false, (10, .ofNat 0)))], []), ((0, 0, .ofNat 10), (0, 0, .ofNat 0), (0, 0, .ofNat 0)), 0, 0), 
  (38, (11, [(1, .ofNat 0, .ofNat 16), (2, .ofNat 0, .ofNat 11), (3, .ofNat 8, .ofNat 17), (4, .negSucc 2147483647, .ofNat 2147483647), (5, .ofNat 0, .ofNat 8), (6, .ofNat 0, .ofNat 1), (7, .ofNat 0, .ofNat 16), (8, .negSucc 0, .ofNat 2147480647), (9, .ofNat 0, .ofNat 17), (10, .negSucc 2147483647, .ofNat 2147483647)], [(3, 9, .ofNat 8), (9, 3, .ofNat 0)], [(0, .inl 32), (1, .inr (false, (1, .ofNat 0))), (2, .inr (false, (2, .ofNat 0))), (3, .inr (false, (4, .ofNat 0))), (4, .inr (false, (3, .ofNat 0))), (5, .inr (false, (5, .ofNat 0))), (6, .inr (false, (6, .ofNat 0))), (7, .inr (false, (0, .ofNat 8))), (8, .inr (false, (7, .ofNat 0))), (9, .inr (false, (8, .ofNat 0)))], [], [(32, (0, .ofNat 9), .inl 37), (32, (0, .ofNat 10), .inr (false, (9, .ofNat 0))), (32, (0, .ofNat 11), .inr (false, (10, .ofNat 0)))], []), ((0, 0, .ofNat 9), (0, 0, .ofNat 0), (0, 0, .ofNat 0)), 0, 0), 
  (38, (11, [(1, .ofNat 0, .ofNat 16), (2, .ofNat 0, .ofNat 11), (3, .ofNat 9, .ofNat 17), (4, .negSucc 2147483647, .ofNat 2147483647), (5, .ofNat 0, .ofNat 9), (6, .ofNat 0, .ofNat 1), (7, .ofNat 0, .ofNat 16), (8, .negSucc 0, .ofNat 2147480647), (9, .ofNat 0, .ofNat 17), (10, .negSucc 2147483647, .ofNat 2147483647)], [(3, 9, .ofNat 9), (9, 3, .ofNat 0)], [(0, .inl 32), (1, .inr (false, (1, .ofNat 0))), (2, .inr (false, (2, .ofNat 0))), (3, .inr (false, (4, .ofNat 0))), (4, .inr (false, (3, .ofNat 0))), (5, .inr (false, (5, .ofNat 0))), (6, .inr (false, (6, .ofNat 0))), (7, .inr (false, (0, .ofNat 9))), (8, .inr (false, (7, .ofNat 0))), (9, .inr (false, (8, .ofNat 0)))], [], [(32, (0, .ofNat 9), .inl 37), (32, (0, .ofNat 10), .inr (false, (9, .ofNat 0))), (32, (0, .ofNat 11), .inr (false, (10, .ofNat 0)))], []), ((0, 0, .ofNat 8), (0, 0, .ofNat 0), (0, 0, .ofNat 0)), 0, 0)]
set_option maxRecDepth 1000000 in
theorem cv385 {gh : sxGh} (hg : sxGd sxKw gh) : sxCtV sxKw gh ct385 := sxMeB_ok (cts := [ct384]) (cuts := cu385) (sp := []) 3965 (by decide +kernel) hg (by decide) (by decide) (List.forall_mem_cons.mpr ⟨cv384 hg, (fun _ h => absurd h List.not_mem_nil)⟩)
/-- LotBeliefs.Course.play -/
def ct386 : sxCt := (2, 4, (3, [(1, .ofNat 0, .ofNat 12), (2, .ofNat 0, .ofNat 1)], [], [(0, .inl 32), (1, .inl 28), (2, .inr (false, (1, .ofNat 0))), (3, .inr (false, (2, .ofNat 0)))], [], [], []), [(21, 0), (22, 0), (25, 0), (26, 0), (32, 9), (32, 11), (32, 12), (33000037, 0)], [
  (5, [(1, .ofNat 0, .ofNat 12), (2, .ofNat 0, .ofNat 1), (3, .ofNat 0, .ofNat 4095), (4, .negSucc 2147483647, .ofNat 2147483647)], [], [], [], [(32, (0, .ofNat 8), .inr (false, (3, .ofNat 0))), (32, (0, .ofNat 11), .inr (false, (4, .ofNat 0)))], [])], [], 0, 0)
def cu386 : List sxCu := [
  (9, (4, [(1, .ofNat 0, .ofNat 12), (2, .ofNat 0, .ofNat 1), (3, .ofNat 0, .ofNat 12)], [(2, 3, .ofNat 0), (3, 1, .ofNat 1)], [(0, .inl 32), (1, .inl 28), (2, .inr (false, (1, .ofNat 0))), (3, .inr (false, (2, .ofNat 0))), (4, .inr (false, (3, .ofNat 0)))], [], [], []), ((0, 3, .ofNat 12), (0, 0, .ofNat 0), (0, 0, .ofNat 0)), 0, 0)]
set_option maxRecDepth 1000000 in
theorem cv386 {gh : sxGh} (hg : sxGd sxKw gh) : sxCtV sxKw gh ct386 := sxMeB_ok (cts := [ct262, ct261, ct374, ct277, ct375, ct385]) (cuts := cu386) (sp := []) 132 (by decide +kernel) hg (by decide) (by decide) (List.forall_mem_cons.mpr ⟨cv262 hg, (List.forall_mem_cons.mpr ⟨cv261 hg, (List.forall_mem_cons.mpr ⟨cv374 hg, (List.forall_mem_cons.mpr ⟨cv277 hg, (List.forall_mem_cons.mpr ⟨cv375 hg, (List.forall_mem_cons.mpr ⟨cv385 hg, (fun _ h => absurd h List.not_mem_nil)⟩)⟩)⟩)⟩)⟩)⟩)
/-- LotBeliefs.copyOrder -/
def ct387 : sxCt := (183, 0, (2, [(1, .ofNat 0, .ofNat 1)], [], [(0, .inl 0), (1, .inr (false, (1, .ofNat 0)))], [], [], []), [(31, 0)], [
  (2, [(1, .ofNat 0, .ofNat 1)], [], [], [], [], [])], [], 0, 0)
def cu387 : List sxCu := [
  (2, (3, [(1, .ofNat 0, .ofNat 1), (2, .ofNat 0, .ofNat 12)], [], [(0, .inl 0), (1, .inr (false, (1, .ofNat 0))), (2, .inr (false, (2, .ofNat 0)))], [], [], []), ((0, 2, .ofNat 12), (0, 0, .ofNat 0), (0, 0, .ofNat 0)), 0, 0)]
set_option maxRecDepth 1000000 in
theorem cv387 {gh : sxGh} (hg : sxGd sxKw gh) : sxCtV sxKw gh ct387 := sxMeB_ok (cts := []) (cuts := cu387) (sp := []) 111 (by decide +kernel) hg (by decide) (by decide) (fun _ h => absurd h List.not_mem_nil)
/-- LotBeliefs.Jar.slipsSoIn -/
def ct388 : sxCt := (26, 1, (2, [(1, .ofNat 0, .ofNat 63)], [], [(0, .inl 3), (1, .inr (false, (1, .ofNat 0)))], [], [], []), [], [
  (3, [(1, .ofNat 0, .ofNat 63), (2, .ofNat 0, .ofNat 4095)], [], [], [.inr (false, (2, .ofNat 0))], [], [])], [], 0, 0)
def cu388 : List sxCu := [
  (4, (4, [(1, .ofNat 0, .ofNat 63), (2, .ofNat 0, .ofNat 4095), (3, .ofNat 0, .ofNat 12)], [], [(0, .inl 3), (1, .inr (false, (1, .ofNat 0))), (2, .inr (false, (2, .ofNat 0))), (3, .inr (false, (3, .ofNat 0)))], [], [], []), ((0, 3, .ofNat 12), (0, 0, .ofNat 0), (0, 0, .ofNat 0)), 0, 0)]
set_option maxRecDepth 1000000 in
theorem cv388 {gh : sxGh} (hg : sxGd sxKw gh) : sxCtV sxKw gh ct388 := sxMeB_ok (cts := []) (cuts := cu388) (sp := []) 103 (by decide +kernel) hg (by decide) (by decide) (fun _ h => absurd h List.not_mem_nil)
/-- LotBeliefs.Course.goBack -/
def ct389 : sxCt := (3, 1, (2, [(1, .ofNat 0, .ofNat 1)], [], [(0, .inl 32), (1, .inl 31), (2, .inr (false, (1, .ofNat 0)))], [], [], []), [(32, 11), (32, 12), (33000037, 0)], [
  (3, [(1, .ofNat 0, .ofNat 1), (2, .ofNat 0, .ofNat 17)], [], [], [], [(32, (0, .ofNat 10), .inr (false, (2, .ofNat 0)))], [])], [], 0, 0)
def cu389 : List sxCu := [
  (12, (3, [(1, .ofNat 0, .ofNat 1), (2, .ofNat 0, .ofNat 17)], [], [(0, .inl 32), (1, .inl 31), (2, .inr (false, (1, .ofNat 0))), (3, .inr (false, (2, .ofNat 0)))], [], [(32, (0, .ofNat 10), .inr (false, (0, .ofNat 0))), (32, (0, .ofNat 11), .inr (false, (0, .ofNat 0)))], []), ((0, 2, .ofNat 19), (0, 0, .ofNat 0), (0, 0, .ofNat 0)), 0, 0), 
  (46, (4, [(1, .ofNat 0, .ofNat 1), (2, .ofNat 0, .ofNat 1), (3, .ofNat 0, .ofNat 17)], [], [(0, .inl 32), (1, .inl 31), (2, .inr (false, (1, .ofNat 0))), (3, .inr (false, (2, .ofNat 0)))], [], [(32, (0, .ofNat 4), .inl 33), (32, (0, .ofNat 10), .inr (false, (3, .ofNat 0)))], []), ((0, 2, .ofNat 1), (0, 0, .ofNat 0), (0, 0, .ofNat 0)), 0, 0)]
set_option maxRecDepth 1000000 in
theorem cv389 {gh : sxGh} (hg : sxGd sxKw gh) : sxCtV sxKw gh ct389 := sxMeB_ok (cts := [ct261]) (cuts := cu389) (sp := []) 125 (by decide +kernel) hg (by decide) (by decide) (List.forall_mem_cons.mpr ⟨cv261 hg, (fun _ h => absurd h List.not_mem_nil)⟩)
/-- LotBeliefs.Course.play -/
def ct390 : sxCt := (2, 4, (3, [(1, .ofNat 0, .ofNat 12), (2, .ofNat 0, .ofNat 1)], [], [(0, .inl 32), (1, .inl 31), (2, .inr (false, (1, .ofNat 0))), (3, .inr (false, (2, .ofNat 0)))], [], [], []), [(21, 0), (22, 0), (25, 0), (26, 0), (32, 9), (32, 11), (32, 12), (33000037, 0)], [
  (5, [(1, .ofNat 0, .ofNat 12), (2, .ofNat 0, .ofNat 1), (3, .ofNat 0, .ofNat 4095), (4, .negSucc 2147483647, .ofNat 2147483647)], [], [], [], [(32, (0, .ofNat 8), .inr (false, (3, .ofNat 0))), (32, (0, .ofNat 11), .inr (false, (4, .ofNat 0)))], [])], [], 0, 0)
def cu390 : List sxCu := [
  (9, (4, [(1, .ofNat 0, .ofNat 12), (2, .ofNat 0, .ofNat 1), (3, .ofNat 0, .ofNat 12)], [(2, 3, .ofNat 0), (3, 1, .ofNat 1)], [(0, .inl 32), (1, .inl 31), (2, .inr (false, (1, .ofNat 0))), (3, .inr (false, (2, .ofNat 0))), (4, .inr (false, (3, .ofNat 0)))], [], [], []), ((0, 3, .ofNat 12), (0, 0, .ofNat 0), (0, 0, .ofNat 0)), 0, 0)]
set_option maxRecDepth 1000000 in
theorem cv390 {gh : sxGh} (hg : sxGd sxKw gh) : sxCtV sxKw gh ct390 := sxMeB_ok (cts := [ct389, ct261, ct374, ct277, ct375, ct385]) (cuts := cu390) (sp := []) 134 (by decide +kernel) hg (by decide) (by decide) (List.forall_mem_cons.mpr ⟨cv389 hg, (List.forall_mem_cons.mpr ⟨cv261 hg, (List.forall_mem_cons.mpr ⟨cv374 hg, (List.forall_mem_cons.mpr ⟨cv277 hg, (List.forall_mem_cons.mpr ⟨cv375 hg, (List.forall_mem_cons.mpr ⟨cv385 hg, (fun _ h => absurd h List.not_mem_nil)⟩)⟩)⟩)⟩)⟩)⟩)
/-- LotBeliefs.swap -/
def ct391 : sxCt := (164, 6, (1, [], [], [(0, .inl 0)], [], [], []), [(21, 0), (22, 0), (25, 0), (26, 0), (31, 0), (32, 1), (32, 2), (32, 3), (32, 4), (32, 9), (32, 11), (32, 12), (33000037, 0)], [
  (6, [(1, .negSucc 0, .ofNat 200), (2, .ofNat 0, .ofNat 4), (3, .ofNat 0, .ofNat 63), (4, .ofNat 0, .ofNat 4095), (5, .negSucc 2147483647, .ofNat 2147483647)], [], [], [.inr (false, (1, .ofNat 0))], [(32, (0, .ofNat 2), .inr (false, (2, .ofNat 0))), (32, (0, .ofNat 3), .inr (false, (3, .ofNat 0))), (32, (0, .ofNat 8), .inr (false, (4, .ofNat 0))), (32, (0, .ofNat 11), .inr (false, (5, .ofNat 0)))], [])], [], 0, 0)
def cu391 : List sxCu := [
  (42, (9, [(1, .ofNat 0, .ofNat 4095), (2, .ofNat 0, .ofNat 63), (3, .negSucc 0, .ofNat 200), (4, .ofNat 0, .ofNat 12), (5, .ofNat 0, .ofNat 4), (6, .ofNat 0, .ofNat 63), (7, .ofNat 0, .ofNat 4095), (8, .negSucc 2147483647, .ofNat 2147483647)], [], [(0, .inl 0), (1, .inr (false, (1, .ofNat 0))), (2, .inr (false, (2, .ofNat 0))), (3, .inr (false, (3, .ofNat 0))), (4, .inr (false, (4, .ofNat 0)))], [], [(0, (0, .ofNat 7), .inl 27), (0, (0, .ofNat 12), .inl 32), (27, (0, .ofNat 0), .inl 28), (27, (0, .ofNat 1), .inr (false, (5, .ofNat 0))), (27, (0, .ofNat 2), .inr (false, (6, .ofNat 0))), (32, (0, .ofNat 2), .inr (false, (5, .ofNat 0))), (32, (0, .ofNat 3), .inr (false, (6, .ofNat 0))), (32, (0, .ofNat 8), .inr (false, (7, .ofNat 0))), (32, (0, .ofNat 11), .inr (false, (8, .ofNat 0)))], []), ((0, 4, .ofNat 12), (0, 0, .ofNat 12), (0, 0, .ofNat 0)), 0, 0), 
  (60, (10, [(1, .ofNat 0, .ofNat 4095), (2, .ofNat 0, .ofNat 63), (3, .negSucc 0, .ofNat 200), (4, .ofNat 0, .ofNat 11), (5, .ofNat 1, .ofNat 12), (6, .ofNat 0, .ofNat 4), (7, .ofNat 0, .ofNat 63), (8, .ofNat 0, .ofNat 4095), (9, .negSucc 2147483647, .ofNat 2147483647)], [(4, 5, .negSucc 0)], [(0, .inl 0), (1, .inr (false, (1, .ofNat 0))), (2, .inr (false, (2, .ofNat 0))), (3, .inr (false, (3, .ofNat 0))), (4, .inr (false, (4, .ofNat 0))), (5, .inr (false, (5, .ofNat 0)))], [], [(0, (0, .ofNat 7), .inl 27), (0, (0, .ofNat 12), .inl 32), (27, (0, .ofNat 0), .inl 28), (27, (0, .ofNat 1), .inr (false, (6, .ofNat 0))), (27, (0, .ofNat 2), .inr (false, (7, .ofNat 0))), (32, (0, .ofNat 2), .inr (false, (6, .ofNat 0))), (32, (0, .ofNat 3), .inr (false, (7, .ofNat 0))), (32, (0, .ofNat 8), .inr (false, (8, .ofNat 0))), (32, (0, .ofNat 11), .inr (false, (9, .ofNat 0)))], []), ((0, 4, .ofNat 12), (0, 5, .ofNat 12), (0, 0, .ofNat 0)), 0, 0)]
set_option maxRecDepth 1000000 in
theorem cv391 {gh : sxGh} (hg : sxGd sxKw gh) : sxCtV sxKw gh ct391 := sxMeB_ok (cts := [ct386, ct390, ct388, ct260, ct387, ct84]) (cuts := cu391) (sp := []) 678 (by decide +kernel) hg (by decide) (by decide) (List.forall_mem_cons.mpr ⟨cv386 hg, (List.forall_mem_cons.mpr ⟨cv390 hg, (List.forall_mem_cons.mpr ⟨cv388 hg, (List.forall_mem_cons.mpr ⟨cv260 hg, (List.forall_mem_cons.mpr ⟨cv387 hg, (List.forall_mem_cons.mpr ⟨cv84 hg, (fun _ h => absurd h List.not_mem_nil)⟩)⟩)⟩)⟩)⟩)⟩)
/-- LotBeliefsModel.rowAsOrder -/
def ct392 : sxCt := (269, 0, (1, [], [], [(0, .inl 78)], [], [], []), [(78, 44), (560, 0)], [
  (2, [(1, .ofNat 0, .ofNat 12)], [], [], [], [(78, (0, .ofNat 43), .inr (false, (1, .ofNat 0)))], [])], [], 0, 0)
def cu392 : List sxCu := [
  (12, (3, [(1, .ofNat 0, .ofNat 12), (2, .ofNat 0, .ofNat 12)], [], [(0, .inl 78), (1, .inr (false, (1, .ofNat 0)))], [], [(78, (0, .ofNat 12), .inl 82), (78, (0, .ofNat 43), .inr (false, (2, .ofNat 0))), (82, (0, .ofNat 1), .inr (false, (2, .ofNat 0)))], []), ((0, 1, .ofNat 12), (0, 0, .ofNat 0), (0, 0, .ofNat 0)), 0, 0)]
set_option maxRecDepth 1000000 in
theorem cv392 {gh : sxGh} (hg : sxGd sxKw gh) : sxCtV sxKw gh ct392 := sxMeB_ok (cts := []) (cuts := cu392) (sp := []) 83 (by decide +kernel) hg (by decide) (by decide) (fun _ h => absurd h List.not_mem_nil)
/-- LotBeliefsModel.truthsNow -/
def ct393 : sxCt := (252, 1, (1, [], [], [(0, .inl 78)], [], [], []), [], [
  (2, [(1, .ofNat 0, .ofNat 4095)], [], [], [.inr (false, (1, .ofNat 0))], [], [])], [], 0, 0)
def cu393 : List sxCu := [
  (4, (3, [(1, .ofNat 0, .ofNat 4095), (2, .ofNat 0, .ofNat 12)], [], [(0, .inl 78), (1, .inr (false, (1, .ofNat 0))), (2, .inr (false, (2, .ofNat 0)))], [], [], []), ((0, 2, .ofNat 12), (0, 0, .ofNat 0), (0, 0, .ofNat 0)), 0, 0)]
set_option maxRecDepth 1000000 in
theorem cv393 {gh : sxGh} (hg : sxGd sxKw gh) : sxCtV sxKw gh ct393 := sxMeB_ok (cts := []) (cuts := cu393) (sp := []) 111 (by decide +kernel) hg (by decide) (by decide) (fun _ h => absurd h List.not_mem_nil)
/-- LotBeliefs.canon -/
def ct395 : sxCt := (163, 6, (2, [(1, .negSucc 2147483647, .ofNat 2147483647)], [], [(0, .inl 0), (1, .inr (false, (1, .ofNat 0)))], [], [], []), [(21, 0), (22, 0), (25, 0), (26, 0), (30, 0), (32, 1), (32, 2), (32, 3), (32, 4), (32, 9), (32, 11), (32, 12), (33000037, 0)], [
  (7, [(1, .ofNat 0, .ofNat 52), (2, .ofNat 0, .ofNat 4095), (3, .ofNat 0, .ofNat 4), (4, .ofNat 0, .ofNat 63), (5, .ofNat 0, .ofNat 4095), (6, .negSucc 2147483647, .ofNat 2147483647)], [], [], [.inr (false, (2, .ofNat 0))], [(32, (0, .ofNat 2), .inr (false, (3, .ofNat 0))), (32, (0, .ofNat 3), .inr (false, (4, .ofNat 0))), (32, (0, .ofNat 8), .inr (false, (5, .ofNat 0))), (32, (0, .ofNat 11), .inr (false, (6, .ofNat 0)))], [])], [
  (1, (3, [(1, .negSucc 2147483647, .ofNat 2147483647), (2, .negSucc 2147483647, .ofNat 2147483647)], [], [], [], [(30, (0, .ofNat 1), .inr (false, (2, .ofNat 0)))], []))], 1, 6)
def cu395 : List sxCu := [
  (15, (8, [(1, .ofNat 0, .ofNat 52), (2, .ofNat 0, .ofNat 4095), (3, .ofNat 0, .ofNat 12), (4, .ofNat 0, .ofNat 4), (5, .ofNat 0, .ofNat 63), (6, .ofNat 0, .ofNat 4095), (7, .negSucc 2147483647, .ofNat 2147483647)], [], [(0, .inl 0), (1, .inr (false, (1, .ofNat 0))), (2, .inr (false, (2, .ofNat 0))), (3, .inr (false, (3, .ofNat 0)))], [], [(0, (0, .ofNat 7), .inl 27), (0, (0, .ofNat 12), .inl 32), (27, (0, .ofNat 0), .inl 28), (27, (0, .ofNat 1), .inr (false, (4, .ofNat 0))), (27, (0, .ofNat 2), .inr (false, (5, .ofNat 0))), (32, (0, .ofNat 2), .inr (false, (4, .ofNat 0))), (32, (0, .ofNat 3), .inr (false, (5, .ofNat 0))), (32, (0, .ofNat 8), .inr (false, (6, .ofNat 0))), (32, (0, .ofNat 11), .inr (false, (7, .ofNat 0)))], []), ((0, 3, .ofNat 12), (0, 0, .ofNat 0), (0, 0, .ofNat 0)), 0, 0)]
set_option maxRecDepth 1000000 in
theorem cv395 {gh : sxGh} (hg : sxGd sxKw gh) : sxCtV sxKw gh ct395 := sxMeB_ok (cts := [ct386]) (cuts := cu395) (sp := []) 873 (by decide +kernel) hg (by decide) (by decide) (List.forall_mem_cons.mpr ⟨cv386 hg, (fun _ h => absurd h List.not_mem_nil)⟩)
/-- LotBeliefs.gravesAhead -/
def ct407 : sxCt := (192, 1, (2, [(1, .ofNat 0, .ofNat 11)], [], [(0, .inl 0), (1, .inr (false, (1, .ofNat 0)))], [], [], []), [], [
  (3, [(1, .ofNat 0, .ofNat 11), (2, .ofNat 0, .ofNat 12)], [], [], [.inr (false, (2, .ofNat 0))], [], [])], [], 0, 0)
def cu407 : List sxCu := [
  (14, (5, [(1, .ofNat 0, .ofNat 11), (2, .ofNat 0, .ofNat 12), (3, .negSucc 50, .ofNat 52), (4, .ofNat 0, .ofNat 12)], [(2, 4, .ofNat 0)], [(0, .inl 0), (1, .inr (false, (1, .ofNat 0))), (2, .inr (false, (2, .ofNat 0))), (3, .inr (false, (3, .ofNat 0))), (4, .inr (false, (4, .ofNat 0)))], [], [(0, (0, .ofNat 12), .inl 32), (32, (0, .ofNat 4), .inl 33)], []), ((0, 4, .ofNat 12), (0, 0, .ofNat 0), (0, 0, .ofNat 0)), 0, 0)]
set_option maxRecDepth 1000000 in
theorem cv407 {gh : sxGh} (hg : sxGd sxKw gh) : sxCtV sxKw gh ct407 := sxMeB_ok (cts := []) (cuts := cu407) (sp := []) 246 (by decide +kernel) hg (by decide) (by decide) (fun _ h => absurd h List.not_mem_nil)
/-- LotBeliefs.grave -/
def ct408 : sxCt := (162, 6, (2, [(1, .negSucc 2147483647, .ofNat 2147483647)], [], [(0, .inl 0), (1, .inr (false, (1, .ofNat 0)))], [], [], []), [(21, 0), (22, 0), (25, 0), (26, 0), (32, 1), (32, 2), (32, 3), (32, 4), (32, 9), (32, 11), (32, 12), (33000037, 0)], [
  (7, [(1, .negSucc 2147483647, .ofNat 2147483647), (2, .negSucc 0, .ofNat 11), (3, .ofNat 0, .ofNat 4), (4, .ofNat 0, .ofNat 63), (5, .ofNat 0, .ofNat 4095), (6, .negSucc 2147483647, .ofNat 2147483647)], [], [], [.inr (false, (2, .ofNat 0))], [(32, (0, .ofNat 2), .inr (false, (3, .ofNat 0))), (32, (0, .ofNat 3), .inr (false, (4, .ofNat 0))), (32, (0, .ofNat 8), .inr (false, (5, .ofNat 0))), (32, (0, .ofNat 11), .inr (false, (6, .ofNat 0)))], [])], [], 0, 0)
def cu408 : List sxCu := [
  (6, (7, [(1, .negSucc 2147483647, .ofNat 2147483647), (2, .ofNat 0, .ofNat 12), (3, .ofNat 0, .ofNat 4), (4, .ofNat 0, .ofNat 63), (5, .ofNat 0, .ofNat 4095), (6, .negSucc 2147483647, .ofNat 2147483647)], [], [(0, .inl 0), (1, .inr (false, (1, .ofNat 0))), (2, .inr (false, (2, .ofNat 0)))], [], [(0, (0, .ofNat 7), .inl 27), (0, (0, .ofNat 12), .inl 32), (27, (0, .ofNat 0), .inl 28), (27, (0, .ofNat 1), .inr (false, (3, .ofNat 0))), (27, (0, .ofNat 2), .inr (false, (4, .ofNat 0))), (32, (0, .ofNat 2), .inr (false, (3, .ofNat 0))), (32, (0, .ofNat 3), .inr (false, (4, .ofNat 0))), (32, (0, .ofNat 8), .inr (false, (5, .ofNat 0))), (32, (0, .ofNat 11), .inr (false, (6, .ofNat 0)))], []), ((0, 2, .ofNat 12), (0, 0, .ofNat 0), (0, 0, .ofNat 0)), 0, 0)]
set_option maxRecDepth 1000000 in
theorem cv408 {gh : sxGh} (hg : sxGd sxKw gh) : sxCtV sxKw gh ct408 := sxMeB_ok (cts := [ct386, ct407]) (cuts := cu408) (sp := []) 255 (by decide +kernel) hg (by decide) (by decide) (List.forall_mem_cons.mpr ⟨cv386 hg, (List.forall_mem_cons.mpr ⟨cv407 hg, (fun _ h => absurd h List.not_mem_nil)⟩)⟩)
/-- LotBeliefs.runSchool -/
def ct420 : sxCt := (189, 5, (2, [(1, .ofNat 0, .ofNat 1)], [], [(0, .inl 0), (1, .inl 32), (2, .inr (false, (1, .ofNat 0)))], [], [], []), [(21, 0), (22, 0), (25, 0), (26, 0), (31, 0), (32, 1), (32, 2), (32, 3), (32, 4), (32, 9), (32, 11), (32, 12), (33000037, 0)], [
  (6, [(1, .ofNat 0, .ofNat 1), (2, .ofNat 0, .ofNat 4), (3, .ofNat 0, .ofNat 63), (4, .ofNat 0, .ofNat 4095), (5, .negSucc 2147483647, .ofNat 2147483647)], [], [], [], [(32, (0, .ofNat 2), .inr (false, (2, .ofNat 0))), (32, (0, .ofNat 3), .inr (false, (3, .ofNat 0))), (32, (0, .ofNat 8), .inr (false, (4, .ofNat 0))), (32, (0, .ofNat 11), .inr (false, (5, .ofNat 0)))], [])], [], 0, 0)
def cu420 : List sxCu := [
  (2, (3, [(1, .ofNat 0, .ofNat 1), (2, .ofNat 0, .ofNat 12)], [], [(0, .inl 0), (1, .inl 32), (2, .inr (false, (1, .ofNat 0))), (3, .inr (false, (2, .ofNat 0)))], [], [], []), ((0, 2, .ofNat 12), (0, 0, .ofNat 0), (0, 0, .ofNat 0)), 0, 0)]
set_option maxRecDepth 1000000 in
theorem cv420 {gh : sxGh} (hg : sxGd sxKw gh) : sxCtV sxKw gh ct420 := sxMeB_ok (cts := [ct390]) (cuts := cu420) (sp := []) 241 (by decide +kernel) hg (by decide) (by decide) (List.forall_mem_cons.mpr ⟨cv390 hg, (fun _ h => absurd h List.not_mem_nil)⟩)
/-- LotBeliefs.Course.seat -/
def ct421 : sxCt := (4, 0, (2, [(1, .ofNat 0, .ofNat 16)], [], [(0, .inl 38), (1, .inr (false, (1, .ofNat 0)))], [], [], []), [(38, 11), (38, 12), (40000043, 0)], [
  (3, [(1, .ofNat 0, .ofNat 16), (2, .ofNat 1, .ofNat 17)], [], [], [], [(38, (0, .ofNat 10), .inr (false, (2, .ofNat 0)))], [])], [], 0, 0)
def cu421 : List sxCu := []
set_option maxRecDepth 1000000 in
theorem cv421 {gh : sxGh} (hg : sxGd sxKw gh) : sxCtV sxKw gh ct421 := sxMeB_ok (cts := []) (cuts := cu421) (sp := []) 103 (by decide +kernel) hg (by decide) (by decide) (fun _ h => absurd h List.not_mem_nil)
/-- LotBeliefs.Course.goBack -/
def ct422 : sxCt := (3, 1, (2, [(1, .ofNat 0, .ofNat 1)], [], [(0, .inl 38), (1, .inl 31), (2, .inr (false, (1, .ofNat 0)))], [], [], []), [(38, 11), (38, 12), (39000043, 0)], [
  (3, [(1, .ofNat 0, .ofNat 1), (2, .ofNat 0, .ofNat 17)], [], [], [], [(38, (0, .ofNat 10), .inr (false, (2, .ofNat 0)))], [])], [], 0, 0)
def cu422 : List sxCu := [
  (12, (3, [(1, .ofNat 0, .ofNat 1), (2, .ofNat 0, .ofNat 17)], [], [(0, .inl 38), (1, .inl 31), (2, .inr (false, (1, .ofNat 0))), (3, .inr (false, (2, .ofNat 0)))], [], [(38, (0, .ofNat 10), .inr (false, (0, .ofNat 0))), (38, (0, .ofNat 11), .inr (false, (0, .ofNat 0)))], []), ((0, 2, .ofNat 19), (0, 0, .ofNat 0), (0, 0, .ofNat 0)), 0, 0), 
  (46, (4, [(1, .ofNat 0, .ofNat 1), (2, .ofNat 0, .ofNat 1), (3, .ofNat 0, .ofNat 17)], [], [(0, .inl 38), (1, .inl 31), (2, .inr (false, (1, .ofNat 0))), (3, .inr (false, (2, .ofNat 0)))], [], [(38, (0, .ofNat 4), .inl 39), (38, (0, .ofNat 10), .inr (false, (3, .ofNat 0)))], []), ((0, 2, .ofNat 1), (0, 0, .ofNat 0), (0, 0, .ofNat 0)), 0, 0)]
set_option maxRecDepth 1000000 in
theorem cv422 {gh : sxGh} (hg : sxGd sxKw gh) : sxCtV sxKw gh ct422 := sxMeB_ok (cts := [ct421]) (cuts := cu422) (sp := []) 125 (by decide +kernel) hg (by decide) (by decide) (List.forall_mem_cons.mpr ⟨cv421 hg, (fun _ h => absurd h List.not_mem_nil)⟩)
/-- LotBeliefs.Course.bury -/
def ct427 : sxCt := (5, 1, (2, [(1, .ofNat 0, .ofNat 51)], [], [(0, .inl 38), (1, .inr (false, (1, .ofNat 0)))], [], [], []), [(38, 11), (38, 12), (40, 0), (42, 0), (43, 0)], [
  (3, [(1, .ofNat 0, .ofNat 51), (2, .negSucc 2147483647, .ofNat 2147483647)], [], [], [], [(38, (0, .ofNat 11), .inr (false, (2, .ofNat 0)))], [])], [], 0, 0)
def cu427 : List sxCu := [
  (22, (5, [(1, .ofNat 0, .ofNat 51), (2, .ofNat 0, .ofNat 17), (3, .ofNat 0, .ofNat 17), (4, .negSucc 2147483647, .ofNat 2147483647)], [(2, 3, .ofNat 0)], [(0, .inl 38), (1, .inr (false, (1, .ofNat 0))), (2, .inr (false, (2, .ofNat 0))), (3, .inr (false, (3, .ofNat 0)))], [], [(38, (0, .ofNat 11), .inr (false, (4, .ofNat 0)))], []), ((0, 3, .ofNat 17), (0, 0, .ofNat 0), (0, 0, .ofNat 0)), 0, 0)]
set_option maxRecDepth 1000000 in
theorem cv427 {gh : sxGh} (hg : sxGd sxKw gh) : sxCtV sxKw gh ct427 := sxMeB_ok (cts := [ct264, ct263]) (cuts := cu427) (sp := []) 185 (by decide +kernel) hg (by decide) (by decide) (List.forall_mem_cons.mpr ⟨cv264 hg, (List.forall_mem_cons.mpr ⟨cv263 hg, (fun _ h => absurd h List.not_mem_nil)⟩)⟩)
/-- LotBeliefs.Course.bury -/
def ct470 : sxCt := (5, 1, (2, [(1, .ofNat 0, .ofNat 11)], [], [(0, .inl 38), (1, .inr (false, (1, .ofNat 0)))], [], [], []), [(38, 11), (38, 12), (40, 0), (42, 0), (43, 0)], [
  (3, [(1, .ofNat 0, .ofNat 11), (2, .negSucc 2147483647, .ofNat 2147483647)], [], [], [], [(38, (0, .ofNat 11), .inr (false, (2, .ofNat 0)))], [])], [], 0, 0)
def cu470 : List sxCu := [
  (22, (5, [(1, .ofNat 0, .ofNat 11), (2, .ofNat 0, .ofNat 17), (3, .ofNat 0, .ofNat 17), (4, .negSucc 2147483647, .ofNat 2147483647)], [(2, 3, .ofNat 0)], [(0, .inl 38), (1, .inr (false, (1, .ofNat 0))), (2, .inr (false, (2, .ofNat 0))), (3, .inr (false, (3, .ofNat 0)))], [], [(38, (0, .ofNat 11), .inr (false, (4, .ofNat 0)))], []), ((0, 3, .ofNat 17), (0, 0, .ofNat 0), (0, 0, .ofNat 0)), 0, 0)]
set_option maxRecDepth 1000000 in
theorem cv470 {gh : sxGh} (hg : sxGd sxKw gh) : sxCtV sxKw gh ct470 := sxMeB_ok (cts := [ct264, ct263]) (cuts := cu470) (sp := []) 185 (by decide +kernel) hg (by decide) (by decide) (List.forall_mem_cons.mpr ⟨cv264 hg, (List.forall_mem_cons.mpr ⟨cv263 hg, (fun _ h => absurd h List.not_mem_nil)⟩)⟩)
/-- LotBeliefs.Course.lives -/
def ct471 : sxCt := (6, 0, (3, [(1, .ofNat 0, .ofNat 16), (2, .ofNat 0, .ofNat 11)], [], [(0, .inl 38), (1, .inr (false, (1, .ofNat 0))), (2, .inr (false, (2, .ofNat 0)))], [], [], []), [(39000042, 0)], [
  (3, [(1, .ofNat 0, .ofNat 16), (2, .ofNat 0, .ofNat 11)], [], [], [.inr (false, (0, .ofNat 0))], [], []), 
  (3, [(1, .ofNat 0, .ofNat 16), (2, .ofNat 0, .ofNat 11)], [], [], [.inr (false, (0, .ofNat 1))], [], [])], [], 0, 0)
def cu471 : List sxCu := []
set_option maxRecDepth 1000000 in
theorem cv471 {gh : sxGh} (hg : sxGd sxKw gh) : sxCtV sxKw gh ct471 := sxMeB_ok (cts := []) (cuts := cu471) (sp := []) 196 (by decide +kernel) hg (by decide) (by decide) (fun _ h => absurd h List.not_mem_nil)
/-- LotBeliefs.Course.whoFalls -/
def ct472 : sxCt := (9, 2, (4, [(1, .ofNat 0, .ofNat 16), (2, .ofNat 0, .ofNat 16), (3, .ofNat 0, .ofNat 11)], [], [(0, .inl 38), (1, .inr (false, (1, .ofNat 0))), (2, .inr (false, (2, .ofNat 0))), (3, .inr (false, (3, .ofNat 0)))], [], [], []), [(21, 0), (22, 0), (25, 0), (26, 0)], [
  (5, [(1, .ofNat 0, .ofNat 16), (2, .ofNat 0, .ofNat 16), (3, .ofNat 0, .ofNat 11), (4, .ofNat 0, .ofNat 2147480647)], [], [], [.inr (false, (4, .ofNat 0))], [], [])], [], 0, 0)
def cu472 : List sxCu := []
set_option maxRecDepth 1000000 in
theorem cv472 {gh : sxGh} (hg : sxGd sxKw gh) : sxCtV sxKw gh ct472 := sxMeB_ok (cts := [ct376, ct377, ct381, ct380, ct382, ct383, ct378, ct379, ct28, ct31]) (cuts := cu472) (sp := []) 300 (by decide +kernel) hg (by decide) (by decide) (List.forall_mem_cons.mpr ⟨cv376 hg, (List.forall_mem_cons.mpr ⟨cv377 hg, (List.forall_mem_cons.mpr ⟨cv381 hg, (List.forall_mem_cons.mpr ⟨cv380 hg, (List.forall_mem_cons.mpr ⟨cv382 hg, (List.forall_mem_cons.mpr ⟨cv383 hg, (List.forall_mem_cons.mpr ⟨cv378 hg, (List.forall_mem_cons.mpr ⟨cv379 hg, (List.forall_mem_cons.mpr ⟨cv28 hg, (List.forall_mem_cons.mpr ⟨cv31 hg, (fun _ h => absurd h List.not_mem_nil)⟩)⟩)⟩)⟩)⟩)⟩)⟩)⟩)⟩)⟩)
end SXC
