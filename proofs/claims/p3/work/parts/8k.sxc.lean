/-! SX: contracts, by program -/
section SXC
/-- LotBeliefsModel.movesAll -/
def ct1962 : sxCt := (323, 1, (2, [(1, .ofNat 0, .ofNat 1)], [], [(0, .inl 78), (1, .inl 94), (2, .inr (false, (1, .ofNat 0)))], [], [], [], []), [(78, 24), (82, 0), (90, 0), (94, 0)], [
  (16, [(1, .ofNat 0, .ofNat 1), (2, .ofNat 0, .ofNat 63), (3, .ofNat 0, .ofNat 4), (4, .ofNat 0, .ofNat 16), (5, .ofNat 0, .ofNat 16), (6, .ofNat 0, .ofNat 16), (7, .ofNat 0, .ofNat 16), (8, .ofNat 0, .ofNat 16), (9, .ofNat 0, .ofNat 16), (10, .ofNat 0, .ofNat 16), (11, .ofNat 0, .ofNat 16), (12, .ofNat 0, .ofNat 16), (13, .ofNat 0, .ofNat 16), (14, .ofNat 0, .ofNat 16), (15, .ofNat 0, .ofNat 16)], [], [], [], [(78, (0, .ofNat 23), .inr (false, (0, .ofNat 14))), (82, (0, .ofNat 4), .inr (false, (2, .ofNat 0))), (82, (0, .ofNat 5), .inr (false, (3, .ofNat 0))), (90, (0, .ofNat 0), .inr (false, (4, .ofNat 0))), (90, (0, .ofNat 1), .inr (false, (5, .ofNat 0))), (90, (0, .ofNat 2), .inr (false, (6, .ofNat 0))), (90, (0, .ofNat 3), .inr (false, (7, .ofNat 0))), (90, (0, .ofNat 4), .inr (false, (8, .ofNat 0))), (90, (0, .ofNat 5), .inr (false, (9, .ofNat 0))), (90, (0, .ofNat 6), .inr (false, (10, .ofNat 0))), (90, (0, .ofNat 7), .inr (false, (11, .ofNat 0))), (90, (0, .ofNat 8), .inr (false, (12, .ofNat 0))), (90, (0, .ofNat 9), .inr (false, (13, .ofNat 0))), (90, (0, .ofNat 10), .inr (false, (14, .ofNat 0))), (90, (0, .ofNat 11), .inr (false, (15, .ofNat 0))), (94, (0, .ofNat 0), .inr (false, (2, .ofNat 0))), (94, (0, .ofNat 1), .inr (false, (3, .ofNat 0))), (94, (0, .ofNat 2), .inr (false, (4, .ofNat 0))), (94, (0, .ofNat 3), .inr (false, (5, .ofNat 0))), (94, (0, .ofNat 4), .inr (false, (6, .ofNat 0))), (94, (0, .ofNat 5), .inr (false, (7, .ofNat 0))), (94, (0, .ofNat 6), .inr (false, (8, .ofNat 0))), (94, (0, .ofNat 7), .inr (false, (9, .ofNat 0))), (94, (0, .ofNat 8), .inr (false, (10, .ofNat 0))), (94, (0, .ofNat 9), .inr (false, (11, .ofNat 0))), (94, (0, .ofNat 10), .inr (false, (12, .ofNat 0))), (94, (0, .ofNat 11), .inr (false, (13, .ofNat 0))), (94, (0, .ofNat 12), .inr (false, (14, .ofNat 0))), (94, (0, .ofNat 13), .inr (false, (15, .ofNat 0)))], [], [])], [], 0, 0)
def cu1962 : List sxCu := []
set_option maxRecDepth 1000000 in
theorem cv1962 {gh : sxGh} (hg : sxGd sxKw gh) : sxCtV sxKw gh ct1962 := sxMeB_ok (cts := []) (cuts := cu1962) (sp := []) 1008 (by decide +kernel) hg (by decide) (by decide) (fun _ h => absurd h List.not_mem_nil)
/-- LotBeliefsModel.movesAll -/
def ct1963 : sxCt := (323, 1, (2, [(1, .ofNat 0, .ofNat 1)], [], [(0, .inl 78), (1, .inl 93), (2, .inr (false, (1, .ofNat 0)))], [], [], [], []), [(78, 24), (82, 0), (90, 0), (93, 0)], [
  (16, [(1, .ofNat 0, .ofNat 1), (2, .ofNat 0, .ofNat 63), (3, .ofNat 0, .ofNat 4), (4, .ofNat 0, .ofNat 16), (5, .ofNat 0, .ofNat 16), (6, .ofNat 0, .ofNat 16), (7, .ofNat 0, .ofNat 16), (8, .ofNat 0, .ofNat 16), (9, .ofNat 0, .ofNat 16), (10, .ofNat 0, .ofNat 16), (11, .ofNat 0, .ofNat 16), (12, .ofNat 0, .ofNat 16), (13, .ofNat 0, .ofNat 16), (14, .ofNat 0, .ofNat 16), (15, .ofNat 0, .ofNat 16)], [], [], [], [(78, (0, .ofNat 23), .inr (false, (0, .ofNat 14))), (82, (0, .ofNat 4), .inr (false, (2, .ofNat 0))), (82, (0, .ofNat 5), .inr (false, (3, .ofNat 0))), (90, (0, .ofNat 0), .inr (false, (4, .ofNat 0))), (90, (0, .ofNat 1), .inr (false, (5, .ofNat 0))), (90, (0, .ofNat 2), .inr (false, (6, .ofNat 0))), (90, (0, .ofNat 3), .inr (false, (7, .ofNat 0))), (90, (0, .ofNat 4), .inr (false, (8, .ofNat 0))), (90, (0, .ofNat 5), .inr (false, (9, .ofNat 0))), (90, (0, .ofNat 6), .inr (false, (10, .ofNat 0))), (90, (0, .ofNat 7), .inr (false, (11, .ofNat 0))), (90, (0, .ofNat 8), .inr (false, (12, .ofNat 0))), (90, (0, .ofNat 9), .inr (false, (13, .ofNat 0))), (90, (0, .ofNat 10), .inr (false, (14, .ofNat 0))), (90, (0, .ofNat 11), .inr (false, (15, .ofNat 0))), (93, (0, .ofNat 0), .inr (false, (2, .ofNat 0))), (93, (0, .ofNat 1), .inr (false, (3, .ofNat 0))), (93, (0, .ofNat 2), .inr (false, (4, .ofNat 0))), (93, (0, .ofNat 3), .inr (false, (5, .ofNat 0))), (93, (0, .ofNat 4), .inr (false, (6, .ofNat 0))), (93, (0, .ofNat 5), .inr (false, (7, .ofNat 0))), (93, (0, .ofNat 6), .inr (false, (8, .ofNat 0))), (93, (0, .ofNat 7), .inr (false, (9, .ofNat 0))), (93, (0, .ofNat 8), .inr (false, (10, .ofNat 0))), (93, (0, .ofNat 9), .inr (false, (11, .ofNat 0))), (93, (0, .ofNat 10), .inr (false, (12, .ofNat 0))), (93, (0, .ofNat 11), .inr (false, (13, .ofNat 0))), (93, (0, .ofNat 12), .inr (false, (14, .ofNat 0))), (93, (0, .ofNat 13), .inr (false, (15, .ofNat 0)))], [], [])], [], 0, 0)
def cu1963 : List sxCu := []
set_option maxRecDepth 1000000 in
theorem cv1963 {gh : sxGh} (hg : sxGd sxKw gh) : sxCtV sxKw gh ct1963 := sxMeB_ok (cts := []) (cuts := cu1963) (sp := []) 1008 (by decide +kernel) hg (by decide) (by decide) (fun _ h => absurd h List.not_mem_nil)
/-- LotBeliefsModel.movesAll -/
def ct1964 : sxCt := (323, 1, (2, [(1, .ofNat 0, .ofNat 1)], [], [(0, .inl 78), (1, .inl 92), (2, .inr (false, (1, .ofNat 0)))], [], [], [], []), [(78, 24), (82, 0), (90, 0), (92, 0)], [
  (16, [(1, .ofNat 0, .ofNat 1), (2, .ofNat 0, .ofNat 63), (3, .ofNat 0, .ofNat 4), (4, .ofNat 0, .ofNat 16), (5, .ofNat 0, .ofNat 16), (6, .ofNat 0, .ofNat 16), (7, .ofNat 0, .ofNat 16), (8, .ofNat 0, .ofNat 16), (9, .ofNat 0, .ofNat 16), (10, .ofNat 0, .ofNat 16), (11, .ofNat 0, .ofNat 16), (12, .ofNat 0, .ofNat 16), (13, .ofNat 0, .ofNat 16), (14, .ofNat 0, .ofNat 16), (15, .ofNat 0, .ofNat 16)], [], [], [], [(78, (0, .ofNat 23), .inr (false, (0, .ofNat 14))), (82, (0, .ofNat 4), .inr (false, (2, .ofNat 0))), (82, (0, .ofNat 5), .inr (false, (3, .ofNat 0))), (90, (0, .ofNat 0), .inr (false, (4, .ofNat 0))), (90, (0, .ofNat 1), .inr (false, (5, .ofNat 0))), (90, (0, .ofNat 2), .inr (false, (6, .ofNat 0))), (90, (0, .ofNat 3), .inr (false, (7, .ofNat 0))), (90, (0, .ofNat 4), .inr (false, (8, .ofNat 0))), (90, (0, .ofNat 5), .inr (false, (9, .ofNat 0))), (90, (0, .ofNat 6), .inr (false, (10, .ofNat 0))), (90, (0, .ofNat 7), .inr (false, (11, .ofNat 0))), (90, (0, .ofNat 8), .inr (false, (12, .ofNat 0))), (90, (0, .ofNat 9), .inr (false, (13, .ofNat 0))), (90, (0, .ofNat 10), .inr (false, (14, .ofNat 0))), (90, (0, .ofNat 11), .inr (false, (15, .ofNat 0))), (92, (0, .ofNat 0), .inr (false, (2, .ofNat 0))), (92, (0, .ofNat 1), .inr (false, (3, .ofNat 0))), (92, (0, .ofNat 2), .inr (false, (4, .ofNat 0))), (92, (0, .ofNat 3), .inr (false, (5, .ofNat 0))), (92, (0, .ofNat 4), .inr (false, (6, .ofNat 0))), (92, (0, .ofNat 5), .inr (false, (7, .ofNat 0))), (92, (0, .ofNat 6), .inr (false, (8, .ofNat 0))), (92, (0, .ofNat 7), .inr (false, (9, .ofNat 0))), (92, (0, .ofNat 8), .inr (false, (10, .ofNat 0))), (92, (0, .ofNat 9), .inr (false, (11, .ofNat 0))), (92, (0, .ofNat 10), .inr (false, (12, .ofNat 0))), (92, (0, .ofNat 11), .inr (false, (13, .ofNat 0))), (92, (0, .ofNat 12), .inr (false, (14, .ofNat 0))), (92, (0, .ofNat 13), .inr (false, (15, .ofNat 0)))], [], [])], [], 0, 0)
def cu1964 : List sxCu := []
set_option maxRecDepth 1000000 in
theorem cv1964 {gh : sxGh} (hg : sxGd sxKw gh) : sxCtV sxKw gh ct1964 := sxMeB_ok (cts := []) (cuts := cu1964) (sp := []) 1008 (by decide +kernel) hg (by decide) (by decide) (fun _ h => absurd h List.not_mem_nil)
/-- LotBeliefs.Setting.copyFrom -/
def ct1965 : sxCt := (50, 0, (1, [], [], [(0, .inl 56), (1, .inl 27)], [], [], [], []), [(56, 2), (56, 3), (57, 0)], [
  (3, [(1, .ofNat 0, .ofNat 4), (2, .ofNat 0, .ofNat 63)], [], [], [], [(56, (0, .ofNat 1), .inr (false, (1, .ofNat 0))), (56, (0, .ofNat 2), .inr (false, (2, .ofNat 0)))], [], [])], [], 0, 0)
def cu1965 : List sxCu := [
  (2, (2, [(1, .ofNat 0, .ofNat 12)], [], [(0, .inl 56), (1, .inl 27), (2, .inr (false, (1, .ofNat 0)))], [], [], [], []), ((0, 1, .ofNat 12), (0, 0, .ofNat 0), (0, 0, .ofNat 0)), 0, 0)]
set_option maxRecDepth 1000000 in
theorem cv1965 {gh : sxGh} (hg : sxGd sxKw gh) : sxCtV sxKw gh ct1965 := sxMeB_ok (cts := []) (cuts := cu1965) (sp := []) 86 (by decide +kernel) hg (by decide) (by decide) (fun _ h => absurd h List.not_mem_nil)
/-- LotBeliefs.Setting.copyFrom -/
def ct1966 : sxCt := (50, 0, (1, [], [], [(0, .inl 54), (1, .inl 27)], [], [], [], []), [(54, 2), (54, 3), (55, 0)], [
  (3, [(1, .ofNat 0, .ofNat 4), (2, .ofNat 0, .ofNat 63)], [], [], [], [(54, (0, .ofNat 1), .inr (false, (1, .ofNat 0))), (54, (0, .ofNat 2), .inr (false, (2, .ofNat 0)))], [], [])], [], 0, 0)
def cu1966 : List sxCu := [
  (2, (2, [(1, .ofNat 0, .ofNat 12)], [], [(0, .inl 54), (1, .inl 27), (2, .inr (false, (1, .ofNat 0)))], [], [], [], []), ((0, 1, .ofNat 12), (0, 0, .ofNat 0), (0, 0, .ofNat 0)), 0, 0)]
set_option maxRecDepth 1000000 in
theorem cv1966 {gh : sxGh} (hg : sxGd sxKw gh) : sxCtV sxKw gh ct1966 := sxMeB_ok (cts := []) (cuts := cu1966) (sp := []) 86 (by decide +kernel) hg (by decide) (by decide) (fun _ h => absurd h List.not_mem_nil)
/-- LotBeliefs.Setting.copyFrom -/
def ct1967 : sxCt := (50, 0, (1, [], [], [(0, .inl 52), (1, .inl 27)], [], [], [], []), [(52, 2), (52, 3), (53, 0)], [
  (3, [(1, .ofNat 0, .ofNat 4), (2, .ofNat 0, .ofNat 63)], [], [], [], [(52, (0, .ofNat 1), .inr (false, (1, .ofNat 0))), (52, (0, .ofNat 2), .inr (false, (2, .ofNat 0)))], [], [])], [], 0, 0)
def cu1967 : List sxCu := [
  (2, (2, [(1, .ofNat 0, .ofNat 12)], [], [(0, .inl 52), (1, .inl 27), (2, .inr (false, (1, .ofNat 0)))], [], [], [], []), ((0, 1, .ofNat 12), (0, 0, .ofNat 0), (0, 0, .ofNat 0)), 0, 0)]
set_option maxRecDepth 1000000 in
theorem cv1967 {gh : sxGh} (hg : sxGd sxKw gh) : sxCtV sxKw gh ct1967 := sxMeB_ok (cts := []) (cuts := cu1967) (sp := []) 86 (by decide +kernel) hg (by decide) (by decide) (fun _ h => absurd h List.not_mem_nil)
/-- LotBeliefs.Setting.copyFrom -/
def ct1968 : sxCt := (50, 0, (1, [], [], [(0, .inl 27), (1, .inl 56)], [], [], [], []), [(27, 2), (27, 3), (28, 0)], [
  (3, [(1, .ofNat 0, .ofNat 4), (2, .ofNat 0, .ofNat 63)], [], [], [], [(27, (0, .ofNat 1), .inr (false, (1, .ofNat 0))), (27, (0, .ofNat 2), .inr (false, (2, .ofNat 0)))], [], [])], [], 0, 0)
def cu1968 : List sxCu := [
  (2, (2, [(1, .ofNat 0, .ofNat 12)], [], [(0, .inl 27), (1, .inl 56), (2, .inr (false, (1, .ofNat 0)))], [], [], [], []), ((0, 1, .ofNat 12), (0, 0, .ofNat 0), (0, 0, .ofNat 0)), 0, 0)]
set_option maxRecDepth 1000000 in
theorem cv1968 {gh : sxGh} (hg : sxGd sxKw gh) : sxCtV sxKw gh ct1968 := sxMeB_ok (cts := []) (cuts := cu1968) (sp := []) 86 (by decide +kernel) hg (by decide) (by decide) (fun _ h => absurd h List.not_mem_nil)
/-- LotBeliefs.Setting.copyFrom -/
def ct1969 : sxCt := (50, 0, (1, [], [], [(0, .inl 27), (1, .inl 54)], [], [], [], []), [(27, 2), (27, 3), (28, 0)], [
  (3, [(1, .ofNat 0, .ofNat 4), (2, .ofNat 0, .ofNat 63)], [], [], [], [(27, (0, .ofNat 1), .inr (false, (1, .ofNat 0))), (27, (0, .ofNat 2), .inr (false, (2, .ofNat 0)))], [], [])], [], 0, 0)
def cu1969 : List sxCu := [
  (2, (2, [(1, .ofNat 0, .ofNat 12)], [], [(0, .inl 27), (1, .inl 54), (2, .inr (false, (1, .ofNat 0)))], [], [], [], []), ((0, 1, .ofNat 12), (0, 0, .ofNat 0), (0, 0, .ofNat 0)), 0, 0)]
set_option maxRecDepth 1000000 in
theorem cv1969 {gh : sxGh} (hg : sxGd sxKw gh) : sxCtV sxKw gh ct1969 := sxMeB_ok (cts := []) (cuts := cu1969) (sp := []) 86 (by decide +kernel) hg (by decide) (by decide) (fun _ h => absurd h List.not_mem_nil)
/-- LotBeliefs.Setting.copyFrom -/
def ct1970 : sxCt := (50, 0, (1, [], [], [(0, .inl 27), (1, .inl 52)], [], [], [], []), [(27, 2), (27, 3), (28, 0)], [
  (3, [(1, .ofNat 0, .ofNat 4), (2, .ofNat 0, .ofNat 63)], [], [], [], [(27, (0, .ofNat 1), .inr (false, (1, .ofNat 0))), (27, (0, .ofNat 2), .inr (false, (2, .ofNat 0)))], [], [])], [], 0, 0)
def cu1970 : List sxCu := [
  (2, (2, [(1, .ofNat 0, .ofNat 12)], [], [(0, .inl 27), (1, .inl 52), (2, .inr (false, (1, .ofNat 0)))], [], [], [], []), ((0, 1, .ofNat 12), (0, 0, .ofNat 0), (0, 0, .ofNat 0)), 0, 0)]
set_option maxRecDepth 1000000 in
theorem cv1970 {gh : sxGh} (hg : sxGd sxKw gh) : sxCtV sxKw gh ct1970 := sxMeB_ok (cts := []) (cuts := cu1970) (sp := []) 86 (by decide +kernel) hg (by decide) (by decide) (fun _ h => absurd h List.not_mem_nil)
end SXC
