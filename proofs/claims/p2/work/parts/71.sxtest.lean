/-! SX: contracts, by program -/
section SXC
/-- LotBeliefsModel.blanks -/
def ct0 : sxCt := (200, 1, (1, [], [], [(0, .inl 78)], [], [], []), [(78, 5)], [
  (2, [(1, .ofNat 0, .ofNat 600)], [], [], [], [(78, (0, .ofNat 4), .inr (false, (1, .ofNat 0)))], [])], [], 0, 0)
def cu0 : List sxCu := [
  (0, (3, [(1, .ofNat 1, .ofNat 600), (2, .ofNat 1, .ofNat 600)], [(2, 1, .ofNat 0)], [(0, .inl 78)], [], [(78, (0, .ofNat 2), .inr (false, (1, .ofNat 0))), (78, (0, .ofNat 4), .inr (false, (2, .ofNat 0))), (78, (0, .ofNat 9), .inl 79)], []), ((0, 2, .ofNat 600), (0, 0, .ofNat 0), (0, 0, .ofNat 0)), 0, 0)]
set_option maxRecDepth 1000000 in
theorem cv0 {gh : sxGh} (hg : sxGd sxKw gh) : sxCtV sxKw gh ct0 := sxMeB_ok (cts := []) (cuts := cu0) (sp := []) 147 (by decide +kernel) hg (by decide) (by decide) (fun _ h => absurd h List.not_mem_nil)
/-- LotBeliefs.Tape.put -/
def ct1 : sxCt := (81, 0, (2, [(1, .negSucc 2147483647, .ofNat 2147483647)], [], [(0, .inl 1), (1, .inr (false, (1, .ofNat 0)))], [], [], []), [(1, 2), (2, 0)], [
  (2, [(1, .negSucc 2147483647, .ofNat 2147483647)], [], [], [], [], [])], [], 0, 0)
def cu1 : List sxCu := [
  (3, (3, [(1, .negSucc 2147483647, .ofNat 2147483647), (2, .negSucc 127, .ofNat 24)], [], [(0, .inl 1), (1, .inr (false, (1, .ofNat 0))), (2, .inr (false, (2, .ofNat 0)))], [], [], []), ((2, 0, .ofNat 128), (0, 0, .ofNat 0), (0, 0, .ofNat 0)), 0, 0)]
set_option maxRecDepth 1000000 in
theorem cv1 {gh : sxGh} (hg : sxGd sxKw gh) : sxCtV sxKw gh ct1 := sxMeB_ok (cts := []) (cuts := cu1) (sp := []) 203 (by decide +kernel) hg (by decide) (by decide) (fun _ h => absurd h List.not_mem_nil)
/-- LotBeliefs.Tape.put -/
def ct2 : sxCt := (81, 0, (2, [(1, .negSucc 2147483647, .ofNat 2147483647)], [], [(0, .inl 1), (1, .inr (false, (1, .ofNat 0)))], [], [], []), [(1, 2), (2, 0)], [
  (2, [(1, .negSucc 2147483647, .ofNat 2147483647)], [], [], [], [], [])], [], 0, 0)
def cu2 : List sxCu := [
  (3, (3, [(1, .negSucc 2147483647, .ofNat 2147483647), (2, .negSucc 127, .ofNat 24)], [], [(0, .inl 1), (1, .inr (false, (1, .ofNat 0))), (2, .inr (false, (2, .ofNat 0)))], [], [], []), ((2, 0, .ofNat 128), (0, 0, .ofNat 0), (0, 0, .ofNat 0)), 0, 0)]
set_option maxRecDepth 1000000 in
theorem cv2 {gh : sxGh} (hg : sxGd sxKw gh) : sxCtV sxKw gh ct2 := sxMeB_ok (cts := []) (cuts := cu2) (sp := []) 203 (by decide +kernel) hg (by decide) (by decide) (fun _ h => absurd h List.not_mem_nil)
/-- LotBeliefs.feed -/
def ct3 : sxCt := (113, 1, (6, [(1, .negSucc 2147483647, .ofNat 2147483647), (2, .negSucc 2147483647, .ofNat 2147483647), (3, .negSucc 2147483647, .ofNat 2147483647), (4, .negSucc 2147483647, .ofNat 2147483647), (5, .negSucc 2147483647, .ofNat 2147483647)], [], [(0, .inl 0), (1, .inr (false, (1, .ofNat 0))), (2, .inr (false, (2, .ofNat 0))), (3, .inr (false, (3, .ofNat 0))), (4, .inr (false, (4, .ofNat 0))), (5, .inr (false, (5, .ofNat 0)))], [], [], []), [(1, 2), (2, 0)], [
  (8, [(1, .negSucc 2147483647, .ofNat 2147483647), (2, .negSucc 2147483647, .ofNat 2147483647), (3, .negSucc 2147483647, .ofNat 2147483647), (4, .negSucc 2147483647, .ofNat 2147483647), (5, .negSucc 2147483647, .ofNat 2147483647), (6, .negSucc 0, .ofNat 600), (7, .ofNat 0, .ofNat 600)], [(6, 7, .ofNat 0)], [], [.inr (false, (6, .ofNat 0))], [(1, (0, .ofNat 1), .inr (false, (7, .ofNat 0)))], [])], [], 0, 0)
def cu3 : List sxCu := []
set_option maxRecDepth 1000000 in
theorem cv3 {gh : sxGh} (hg : sxGd sxKw gh) : sxCtV sxKw gh ct3 := sxMeB_ok (cts := [ct2]) (cuts := cu3) (sp := []) 98 (by decide +kernel) hg (by decide) (by decide) (List.forall_mem_cons.mpr ⟨cv2 hg, (fun _ h => absurd h List.not_mem_nil)⟩)
/-- LotBeliefsModel.skipWord -/
def ct4 : sxCt := (208, 1, (1, [], [], [(0, .inl 78)], [], [], []), [(78, 5)], [
  (2, [(1, .ofNat 0, .ofNat 600)], [], [], [], [(78, (0, .ofNat 4), .inr (false, (1, .ofNat 0)))], [])], [], 0, 0)
def cu4 : List sxCu := [
  (0, (3, [(1, .ofNat 1, .ofNat 600), (2, .ofNat 1, .ofNat 600)], [(2, 1, .ofNat 0)], [(0, .inl 78)], [], [(78, (0, .ofNat 2), .inr (false, (1, .ofNat 0))), (78, (0, .ofNat 4), .inr (false, (2, .ofNat 0))), (78, (0, .ofNat 9), .inl 79)], []), ((0, 2, .ofNat 600), (0, 0, .ofNat 0), (0, 0, .ofNat 0)), 0, 0)]
set_option maxRecDepth 1000000 in
theorem cv4 {gh : sxGh} (hg : sxGd sxKw gh) : sxCtV sxKw gh ct4 := sxMeB_ok (cts := []) (cuts := cu4) (sp := []) 210 (by decide +kernel) hg (by decide) (by decide) (fun _ h => absurd h List.not_mem_nil)
/-- LotBeliefsModel.blanks -/
def ct5 : sxCt := (200, 1, (1, [], [], [(0, .inl 78)], [], [], []), [(78, 5)], [
  (2, [(1, .ofNat 0, .ofNat 600)], [], [], [], [(78, (0, .ofNat 4), .inr (false, (1, .ofNat 0)))], [])], [], 0, 0)
def cu5 : List sxCu := [
  (0, (3, [(1, .ofNat 1, .ofNat 600), (2, .ofNat 1, .ofNat 600)], [(2, 1, .ofNat 0)], [(0, .inl 78)], [], [(78, (0, .ofNat 2), .inr (false, (1, .ofNat 0))), (78, (0, .ofNat 4), .inr (false, (2, .ofNat 0))), (78, (0, .ofNat 9), .inl 79)], []), ((0, 2, .ofNat 600), (0, 0, .ofNat 0), (0, 0, .ofNat 0)), 0, 0)]
set_option maxRecDepth 1000000 in
theorem cv5 {gh : sxGh} (hg : sxGd sxKw gh) : sxCtV sxKw gh ct5 := sxMeB_ok (cts := []) (cuts := cu5) (sp := []) 147 (by decide +kernel) hg (by decide) (by decide) (fun _ h => absurd h List.not_mem_nil)
/-- LotBeliefsModel.wordHere -/
def ct6 : sxCt := (205, 2, (1, [], [], [(0, .inl 78)], [], [], []), [(78, 5)], [
  (3, [(1, .negSucc 2147483647, .ofNat 2147483647), (2, .ofNat 0, .ofNat 600)], [], [], [.inr (false, (1, .ofNat 0))], [(78, (0, .ofNat 4), .inr (false, (2, .ofNat 0)))], [])], [], 0, 0)
def cu6 : List sxCu := [
  (8, (4, [(1, .negSucc 2147483647, .ofNat 2147483647), (2, .ofNat 0, .ofNat 600), (3, .ofNat 0, .ofNat 600)], [], [(0, .inl 78), (1, .inr (false, (1, .ofNat 0))), (2, .inr (false, (2, .ofNat 0)))], [], [(78, (0, .ofNat 4), .inr (false, (3, .ofNat 0)))], []), ((0, 2, .ofNat 600), (0, 0, .ofNat 0), (0, 0, .ofNat 0)), 0, 0)]
set_option maxRecDepth 1000000 in
theorem cv6 {gh : sxGh} (hg : sxGd sxKw gh) : sxCtV sxKw gh ct6 := sxMeB_ok (cts := [ct5]) (cuts := cu6) (sp := []) 5799 (by decide +kernel) hg (by decide) (by decide) (List.forall_mem_cons.mpr ⟨cv5 hg, (fun _ h => absurd h List.not_mem_nil)⟩)
end SXC
