/-! SX: contracts, by program -/
section SXC
/-- LotBeliefsModel.feed -/
def ct0 : sxCt := (198, 0, (6, [(1, .negSucc 2147483647, .ofNat 2147483647), (2, .negSucc 2147483647, .ofNat 2147483647), (3, .negSucc 2147483647, .ofNat 2147483647), (4, .negSucc 2147483647, .ofNat 2147483647), (5, .negSucc 2147483647, .ofNat 2147483647)], [], [(0, .inl 78), (1, .inr (false, (1, .ofNat 0))), (2, .inr (false, (2, .ofNat 0))), (3, .inr (false, (3, .ofNat 0))), (4, .inr (false, (4, .ofNat 0))), (5, .inr (false, (5, .ofNat 0)))], [], [], []), [(78, 1), (78, 2), (79, 0)], [
  (8, [(1, .negSucc 2147483647, .ofNat 2147483647), (2, .negSucc 2147483647, .ofNat 2147483647), (3, .negSucc 2147483647, .ofNat 2147483647), (4, .negSucc 2147483647, .ofNat 2147483647), (5, .negSucc 2147483647, .ofNat 2147483647), (6, .negSucc 0, .ofNat 600), (7, .ofNat 20, .ofNat 600)], [(6, 7, .ofNat 0)], [], [.inr (false, (6, .ofNat 0))], [(78, (0, .ofNat 0), .inr (false, (0, .ofNat 0))), (78, (0, .ofNat 1), .inr (false, (7, .ofNat 0)))], [])], [], 0, 0)
def cu0 : List sxCu := []
set_option maxRecDepth 1000000 in
theorem cv0 {gh : sxGh} (hg : sxGd sxKw gh) : sxCtV sxKw gh ct0 := sxMeB_ok (cts := []) (cuts := cu0) (sp := []) 843 (by decide +kernel) hg (by decide) (by decide) (fun _ h => absurd h List.not_mem_nil)
/-- LotBeliefsModel.blanks -/
def ct1 : sxCt := (200, 1, (3, [(1, .ofNat 0, .ofNat 600), (2, .ofNat 0, .ofNat 600)], [], [(0, .inl 78)], [], [(78, (0, .ofNat 2), .inr (false, (1, .ofNat 0))), (78, (0, .ofNat 4), .inr (false, (2, .ofNat 0)))], []), [(78, 5)], [
  (4, [(1, .ofNat 0, .ofNat 600), (2, .ofNat 0, .ofNat 600), (3, .ofNat 0, .ofNat 600)], [(2, 3, .ofNat 0)], [], [], [(78, (0, .ofNat 2), .inr (false, (1, .ofNat 0))), (78, (0, .ofNat 4), .inr (false, (3, .ofNat 0)))], [])], [], 0, 0)
def cu1 : List sxCu := [
  (0, (4, [(1, .ofNat 1, .ofNat 600), (2, .ofNat 0, .ofNat 599), (3, .ofNat 1, .ofNat 600)], [(2, 3, .negSucc 0)], [(0, .inl 78)], [], [(78, (0, .ofNat 2), .inr (false, (1, .ofNat 0))), (78, (0, .ofNat 4), .inr (false, (3, .ofNat 0))), (78, (0, .ofNat 9), .inl 79)], []), ((0, 3, .ofNat 600), (0, 0, .ofNat 0), (0, 0, .ofNat 0)), 0, 0)]
set_option maxRecDepth 1000000 in
theorem cv1 {gh : sxGh} (hg : sxGd sxKw gh) : sxCtV sxKw gh ct1 := sxMeB_ok (cts := []) (cuts := cu1) (sp := []) 263 (by decide +kernel) hg (by decide) (by decide) (fun _ h => absurd h List.not_mem_nil)
/-- LotBeliefsModel.tellsNothing -/
def ct2 : sxCt := (195, 0, (1, [], [], [(0, .inl 78)], [], [], []), [(81, 0)], [
  (1, [], [], [], [], [(81, (0, .ofNat 0), .inr (false, (0, .ofNat 4))), (81, (0, .ofNat 1), .inr (false, (0, .ofNat 0))), (81, (0, .ofNat 2), .inr (false, (0, .ofNat 0))), (81, (0, .ofNat 3), .inr (false, (0, .ofNat 0))), (81, (0, .ofNat 4), .inr (false, (0, .ofNat 0))), (81, (0, .ofNat 5), .inr (false, (0, .ofNat 0)))], [])], [], 0, 0)
def cu2 : List sxCu := []
set_option maxRecDepth 1000000 in
theorem cv2 {gh : sxGh} (hg : sxGd sxKw gh) : sxCtV sxKw gh ct2 := sxMeB_ok (cts := []) (cuts := cu2) (sp := []) 131 (by decide +kernel) hg (by decide) (by decide) (fun _ h => absurd h List.not_mem_nil)
/-- LotBeliefsModel.skipWord -/
def ct11 : sxCt := (208, 1, (4, [(1, .ofNat 0, .ofNat 600), (2, .ofNat 0, .ofNat 599), (3, .ofNat 97, .ofNat 122)], [(2, 1, .negSucc 0)], [(0, .inl 78)], [], [(78, (0, .ofNat 2), .inr (false, (1, .ofNat 0))), (78, (0, .ofNat 4), .inr (false, (2, .ofNat 0))), (79, (2, .ofNat 0), .inr (false, (3, .ofNat 0)))], []), [(78, 5)], [
  (5, [(1, .ofNat 1, .ofNat 600), (2, .ofNat 0, .ofNat 599), (3, .ofNat 97, .ofNat 122), (4, .ofNat 1, .ofNat 600)], [(2, 4, .negSucc 0), (4, 1, .ofNat 0), (2, 1, .negSucc 0)], [], [], [(78, (0, .ofNat 2), .inr (false, (1, .ofNat 0))), (78, (0, .ofNat 4), .inr (false, (4, .ofNat 0)))], [])], [], 0, 0)
def cu11 : List sxCu := [
  (24, (5, [(1, .ofNat 1, .ofNat 600), (2, .ofNat 0, .ofNat 599), (3, .ofNat 97, .ofNat 122), (4, .ofNat 1, .ofNat 600)], [(2, 4, .negSucc 0), (4, 1, .ofNat 0), (2, 1, .negSucc 0)], [(0, .inl 78)], [], [(78, (0, .ofNat 2), .inr (false, (1, .ofNat 0))), (78, (0, .ofNat 4), .inr (false, (4, .ofNat 0))), (78, (0, .ofNat 9), .inl 79)], []), ((0, 4, .ofNat 600), (0, 0, .ofNat 0), (0, 0, .ofNat 0)), 0, 0)]
set_option maxRecDepth 1000000 in
theorem cv11 {gh : sxGh} (hg : sxGd sxKw gh) : sxCtV sxKw gh ct11 := sxMeB_ok (cts := []) (cuts := cu11) (sp := []) 810 (by decide +kernel) hg (by decide) (by decide) (fun _ h => absurd h List.not_mem_nil)
/-- LotBeliefsModel.atomOf -/
def ct16 : sxCt := (215, 0, (2, [(1, .ofNat 0, .ofNat 5)], [], [(0, .inr (false, (1, .ofNat 0))), (1, .inr (false, (0, .ofNat 6)))], [], [], []), [], [
  (3, [(1, .ofNat 0, .ofNat 5), (2, .negSucc 9223372036854775807, .ofNat 9223372036854775807)], [], [], [.inr (true, (2, .ofNat 0))], [], [])], [], 0, 0)
def cu16 : List sxCu := []
set_option maxRecDepth 1000000 in
theorem cv16 {gh : sxGh} (hg : sxGd sxKw gh) : sxCtV sxKw gh ct16 := sxMeB_ok (cts := []) (cuts := cu16) (sp := []) 1223 (by decide +kernel) hg (by decide) (by decide) (fun _ h => absurd h List.not_mem_nil)
/-- LotBeliefsModel.atomOf -/
def ct17 : sxCt := (215, 0, (3, [(1, .ofNat 0, .ofNat 4), (2, .ofNat 0, .ofNat 5)], [], [(0, .inr (false, (1, .ofNat 0))), (1, .inr (false, (2, .ofNat 0)))], [], [], []), [], [
  (4, [(1, .ofNat 0, .ofNat 4), (2, .ofNat 0, .ofNat 5), (3, .ofNat 0, .ofNat 4294967295)], [], [], [.inr (true, (3, .ofNat 0))], [], [])], [], 0, 0)
def cu17 : List sxCu := []
set_option maxRecDepth 1000000 in
theorem cv17 {gh : sxGh} (hg : sxGd sxKw gh) : sxCtV sxKw gh ct17 := sxMeB_ok (cts := []) (cuts := cu17) (sp := []) 709 (by decide +kernel) hg (by decide) (by decide) (fun _ h => absurd h List.not_mem_nil)

end SXC
